/-! THE CLASS: in thought, second; the image -/
/-- the flawed marks below k mended -/
def md (s : Int → Int) : Nat → Int → Int
  | 0 => s
  | k + 1 => if flawed s k = true then p_mend (md s k) k else md s k
theorem md_all {s : Int → Int} (hT : TI s) : ∀ k : Nat, k ≤ 8 → LoEq s (md s k) ∧ TI (md s k) ∧ ∀ m : Int, 0 ≤ m → m < 8 → (m < k ∧ flawed s m = true → md s k (3 + m) = p_mend s m (3 + m) ∧ md s k (11 + m) = p_mend s m (11 + m) ∧ md s k (19 + m) = p_mend s m (19 + m) ∧ md s k (27 + m) = p_mend s m (27 + m) ∧ md s k (35 + m) = p_mend s m (35 + m)) ∧ (¬ (m < k ∧ flawed s m = true) → md s k (3 + m) = s (3 + m) ∧ md s k (11 + m) = s (11 + m) ∧ md s k (19 + m) = s (19 + m) ∧ md s k (27 + m) = s (27 + m) ∧ md s k (35 + m) = s (35 + m))
  | 0, _ => ⟨LoEq.rf s, hT, fun m h0 h8 => ⟨fun h => by omega, fun _ => ⟨rfl, rfl, rfl, rfl, rfl⟩⟩⟩
  | k + 1, hk => by
    obtain ⟨i1, i2, i3⟩ := md_all hT k (by omega)
    by_cases hf : flawed s (k : Int) = true
    · have e : md s (k + 1) = p_mend (md s k) k := if_pos hf
      rw [e]
      have hk8 : 0 ≤ (k : Int) ∧ (k : Int) < 8 := by omega
      refine ⟨i1.tr (p_mend_lo hk8), by unfold TI; rw [p_mend_at hk8, if_pos rfl]; have h9 : 0 ≤ md s k 2 ∧ md s k 2 ≤ 99 := i2; exact clamp_rng _ (by omega), fun m h0 h8 => ?_⟩
      obtain ⟨j1, j2⟩ := i3 m h0 h8
      by_cases em : m = k
      · subst em
        obtain ⟨q1, q2, q3, q4, q5⟩ := j2 (by omega)
        have hh : ∀ q : Int, (q = 3 + (k : Int) ∨ q = 11 + (k : Int) ∨ q = 19 + (k : Int) ∨ q = 27 + (k : Int) ∨ q = 35 + (k : Int)) → p_mend (md s k) k q = p_mend s k q := fun q hq => by
          rw [p_mend_at hk8, p_mend_at hk8, q5]
          rcases hq with rfl | rfl | rfl | rfl | rfl <;> (repeat' split) <;> first | rfl | assumption | (exfalso; omega)
        exact ⟨fun _ => ⟨hh _ (by omega), hh _ (by omega), hh _ (by omega), hh _ (by omega), hh _ (by omega)⟩, fun hn => absurd ⟨by omega, hf⟩ hn⟩
      · have hh : ∀ q : Int, (q = 3 + m ∨ q = 11 + m ∨ q = 19 + m ∨ q = 27 + m ∨ q = 35 + m) → p_mend (md s k) k q = md s k q := fun q hq => by
          rw [p_mend_at hk8]
          (repeat' split) <;> first | rfl | (exfalso; omega)
        rw [hh (3 + m) (by omega), hh (11 + m) (by omega), hh (19 + m) (by omega), hh (27 + m) (by omega), hh (35 + m) (by omega)]
        exact ⟨fun hq => j1 ⟨by omega, hq.2⟩, fun hq => j2 (fun hx => hq ⟨by omega, hx.2⟩)⟩
    · have e : md s (k + 1) = md s k := if_neg hf
      rw [e]
      refine ⟨i1, i2, fun m h0 h8 => ?_⟩
      obtain ⟨j1, j2⟩ := i3 m h0 h8
      refine ⟨fun hq => j1 ⟨?_, hq.2⟩, fun hq => j2 (fun hx => hq ⟨by omega, hx.2⟩)⟩
      by_cases em : m = k
      · subst em; exact absurd hq.2 hf
      · omega
theorem dk_of {s t : Int → Int} {m n : Int} (hl : LoEq s t) (hP : PL s) (hm : 0 ≤ m ∧ m < 8) (h3 : t (3 + m) = s (3 + m)) (h11 : t (11 + m) = s (11 + m)) (h19 : t (19 + m) = s (19 + m)) (h27 : t (27 + m) = s (27 + m)) (h35 : t (35 + m) = s (35 + m)) : q_dk t m n = q_dk s m n := by
  unfold q_dk q_dark
  rw [lo_wear hl hP, h27, h11, h3, h19, h35, hl (50 + m) (by omega), hl _ (show ¬ (0 ≤ 74 + 4 * m + (s (27 + m) + n) % 4 ∧ 74 + 4 * m + (s (27 + m) + n) % 4 < 43) by omega)]
theorem bset_and (f g : Nat → Bool) {n : Nat} (hn : n ≤ 8) : iand (bset f n) (bset g n) = bset (fun m => f m && g m) n := by
  have h3 := bset_8 (fun m => f m && g m) hn
  have e2 : (bset f n).toNat &&& (bset g n).toNat = (bset (fun m => f m && g m) n).toNat := by
    apply Nat.eq_of_testBit_eq
    intro i
    rw [Nat.testBit_and, bset_tb f hn, bset_tb g hn, bset_tb _ hn]
    by_cases hi : i < n <;> simp [hi]
  rw [bset_nat f hn, bset_nat g hn, iand_nat (by rw [e2]; omega), e2, Int.toNat_of_nonneg h3.1]
theorem md_men {s : Int → Int} (hN : NM s) (hP : PL s) (hT : TI s) : iand (q_flawed s) (bset (prt (md s (s 43).toNat) 0) (s 43).toNat) = bset (menF s) (s 43).toNat := by
  have hN9 : 0 ≤ s 43 ∧ s 43 ≤ 8 := hN
  unfold q_flawed
  rw [bset_and _ _ (by omega)]
  refine bset_cg (fun m hm => ?_)
  obtain ⟨i1, -, i3⟩ := md_all hT (s 43).toNat (by omega)
  unfold menF
  cases hf : flawed s (m : Int)
  · rfl
  · obtain ⟨q1, q2, q3, q4, q5⟩ := (i3 m (by omega) (by omega)).1 ⟨by omega, hf⟩
    have hm8 : 0 ≤ (m : Int) ∧ (m : Int) < 8 := by omega
    have hl : LoEq (p_mend s m) (md s (s 43).toNat) := fun q hq => by rw [i1 q hq, p_mend_lo hm8 q hq]
    show (true && decide (0 < q_dk (md s (s 43).toNat) m 0)) = (true && decide (0 < q_dk (p_mend s m) m 0))
    rw [dk_of hl (lo_PL (p_mend_lo hm8) hP) hm8 q1 q2 q3 q4 q5]
theorem md_MK {s : Int → Int} (hM : GM s) (hT : TI s) {k : Nat} (hk : k < 8) (hk3 : (k : Int) < s 43) : MK (md s k) k := by
  obtain ⟨i1, -, i3⟩ := md_all hT k (by omega)
  obtain ⟨q1, q2, q3, q4, q5⟩ := (i3 k (by omega) (by omega)).2 (by omega)
  have hm := hM k (by omega) hk3
  obtain ⟨a1, a2, a3, a4, a5, a6, a7, a8, a9⟩ := id hm
  exact MK_lo (by omega) i1 hm (by rw [q1]; exact a4) (by rw [q2]; exact a5) (by rw [q3]; exact a6) (by rw [q4]; exact a7) (by rw [q5]; exact a8)
theorem md_GM {s : Int → Int} (hN : NM s) (hM : GM s) (hT : TI s) {k : Nat} (hk : k ≤ 8) : GM (md s k) := by
  have hN9 : 0 ≤ s 43 ∧ s 43 ≤ 8 := hN
  obtain ⟨i1, -, i3⟩ := md_all hT k hk
  refine GM_lo i1 (fun m h0 h1 => ?_)
  have hm := hM m h0 h1
  by_cases hq : m < k ∧ flawed s m = true
  · obtain ⟨q1, q2, q3, q4, q5⟩ := (i3 m h0 (by omega)).1 hq
    have hm8 : 0 ≤ m ∧ m < 8 := by omega
    obtain ⟨a1, a2, a3, a4, a5, a6, a7, a8, a9⟩ := MK_mend hm8 hm8 hm
    exact MK_lo h0 i1 hm (by rw [q1]; exact a4) (by rw [q2]; exact a5) (by rw [q3]; exact a6) (by rw [q4]; exact a7) (by rw [q5]; exact a8)
  · obtain ⟨q1, q2, q3, q4, q5⟩ := (i3 m h0 (by omega)).2 hq
    obtain ⟨a1, a2, a3, a4, a5, a6, a7, a8, a9⟩ := id hm
    exact MK_lo h0 i1 hm (by rw [q1]; exact a4) (by rw [q2]; exact a5) (by rw [q3]; exact a6) (by rw [q4]; exact a7) (by rw [q5]; exact a8)
theorem md_y {s : Int → Int} {k : Nat} (hN : NM s) (hk : (k : Int) < s 43) (h : iand (q_flawed s / 2 ^ (k : Int).toNat) 1 = 1) : md s (k + 1) = p_mend (md s k) k := by
  have hN9 : 0 ≤ s 43 ∧ s 43 ≤ 8 := hN
  unfold q_flawed at h
  rw [bset_digit _ k _ (by omega)] at h
  refine if_pos ?_
  by_cases hf : flawed s (k : Int) = true
  · exact hf
  · rw [if_neg (fun q => hf q.2)] at h; omega
theorem md_n {s : Int → Int} {k : Nat} (hN : NM s) (hk : (k : Int) < s 43) (h : ¬ iand (q_flawed s / 2 ^ (k : Int).toNat) 1 = 1) : md s (k + 1) = md s k := by
  have hN9 : 0 ≤ s 43 ∧ s 43 ≤ 8 := hN
  unfold q_flawed at h
  rw [bset_digit _ k _ (by omega)] at h
  refine if_neg (fun hf => h (if_pos ⟨by omega, hf⟩))
theorem does_ZU {s : Int → Int} {SL : List Int} {w m : Int} (hN : NM s) (hZ : ZU s) (hw : 0 ≤ w ∧ w ≤ 4) (hm : w < 3 → 0 ≤ m ∧ m < s 43) : ZU (p_does s SL w m) := by
  have h8 := hN.2
  unfold p_does
  by_cases h3 : w < 3
  · have hm3 := hm h3
    have h88 : 0 ≤ m ∧ m < 8 := by omega
    split
    · split
      · exact hZ
      · intro k h0 h1 h2
        have hl : LoEq s (p_cut s (flawF (s (50 + m)) (q_risk s SL m (s 2)) 99) m) := p_cut_lo h88
        rw [hl 43 (by omega)] at h1
        have hz := hZ k h0 h1
        rw [p_cut_at h88] at h2 ⊢
        rw [p_cut_at h88, p_cut_at h88]
        by_cases e : k = m
        · subst e; exfalso; apply h2; (repeat' split) <;> first | rfl | (exfalso; omega)
        · have hc : s (11 + k) ≠ 1 := fun q => h2 (by (repeat' split) <;> first | exact q | (exfalso; omega))
          obtain ⟨z1, z2, z3⟩ := hz hc
          refine ⟨?_, ?_, ?_⟩ <;> (repeat' split) <;> first | assumption | rfl | (exfalso; omega)
    · split
      · split
        · rename_i hc1
          intro k h0 h1 h2
          rw [p_mend_lo h88 43 (by omega)] at h1
          have hz := hZ k h0 h1
          rw [p_mend_at h88] at h2 ⊢
          rw [p_mend_at h88, p_mend_at h88]
          have hc : s (11 + k) ≠ 1 := fun q => h2 (by (repeat' split) <;> first | exact q | (exfalso; omega))
          obtain ⟨z1, z2, z3⟩ := hz hc
          have hne : k ≠ m := fun q => hc (by rw [q]; exact hc1)
          refine ⟨?_, ?_, ?_⟩ <;> (repeat' split) <;> first | assumption | rfl | (exfalso; omega)
        · exact hZ
      · split
        · split
          · rename_i hc1
            intro k h0 h1 h2
            rw [p_over_lo h88 43 (by omega)] at h1
            have hz := hZ k h0 h1
            rw [p_over_at h88] at h2 ⊢
            rw [p_over_at h88, p_over_at h88]
            have hc : s (11 + k) ≠ 1 := fun q => h2 (by (repeat' split) <;> first | exact q | (exfalso; omega))
            obtain ⟨z1, z2, z3⟩ := hz hc
            have hne : k ≠ m := fun q => hc (by rw [q]; exact hc1)
            refine ⟨?_, ?_, ?_⟩ <;> (repeat' split) <;> first | assumption | rfl | (exfalso; omega)
          · exact hZ
        · exfalso; omega
  · rw [if_neg (by omega), if_neg (by omega), if_neg (by omega)]
    split
    · intro k h0 h1 h2
      rw [p_rest_lo s 10 43 (by omega)] at h1
      have hz := hZ k h0 h1
      rw [p_rest_at] at h2 ⊢
      rw [p_rest_at, p_rest_at]
      rw [if_neg (by omega), if_neg (by omega)] at h2
      obtain ⟨z1, z2, z3⟩ := hz h2
      refine ⟨?_, ?_, ?_⟩ <;> (repeat' split) <;> first | assumption | rfl | (exfalso; omega)
    · intro k h0 h1 h2
      rw [p_prints_lo h8 43 (by omega)] at h1
      have hz := hZ k h0 h1
      rw [p_prints_at] at h2 ⊢
      rw [p_prints_at, p_prints_at]
      rw [if_neg (by omega), sU_ne (by omega)] at h2
      obtain ⟨z1, z2, z3⟩ := hz h2
      refine ⟨?_, ?_, ?_⟩
      · rw [if_neg (by omega), sU_ne (by omega)]; exact z1
      · rw [if_pos (by omega), sU_ne (by omega), sU_ne (by omega), show 27 + k - 16 = 11 + k by omega, if_neg h2, z2]; rfl
      · rw [if_neg (by omega), sU_ne (by omega)]; exact z3
theorem does_1 {s : Int → Int} {SL : List Int} {w m : Int} (hN : NM s) (hw : 0 ≤ w ∧ w ≤ 4) (hm : w < 3 → 0 ≤ m ∧ m < s 43) : s 1 ≤ p_does s SL w m 1 ∧ p_does s SL w m 1 ≤ s 1 + 50 := by
  have h8 := hN.2
  unfold p_does
  by_cases h3 : w < 3
  · have hm3 := hm h3
    have h88 : 0 ≤ m ∧ m < 8 := by omega
    (repeat' split) <;> first
      | omega
      | (rw [p_cut_at h88]; (repeat' split) <;> omega)
      | (rw [p_mend_at h88]; (repeat' split) <;> omega)
      | (rw [p_over_at h88]; (repeat' split) <;> omega)
  · rw [if_neg (by omega), if_neg (by omega), if_neg (by omega)]
    split
    · rw [p_rest_at]; (repeat' split) <;> omega
    · rw [p_prints_at, if_neg (by omega), sU_eq]; omega
theorem pd_more {s : Int → Int} {SL : List Int} (hN : NM s) (hM : GM s) (hT : TI s) (hW : WW s) (hP : PN s) (hZ : ZU s) (h1 : 0 ≤ s 1 ∧ s 1 ≤ 9999) : ∀ k : Nat, (k : Int) ≤ s 46 → ZU (pd s SL k) ∧ 0 ≤ pd s SL k 1 ∧ pd s SL k 1 ≤ 9999 + 50 * k
  | 0, _ => ⟨hZ, h1.1, by show s 1 ≤ _; omega⟩
  | k + 1, hk => by
    obtain ⟨i1, i2, i3⟩ := pd_more hN hM hT hW hP hZ h1 k (by omega)
    obtain ⟨l1, -, -, -⟩ := pd_all (SL := SL) hN hM hT hW hP k (by omega)
    have hp := hP.2 k (by omega) (by omega)
    have e43 := l1 43 (by omega)
    have j1 := does_ZU (SL := SL) (w := s (118 + k)) (m := s (126 + k)) (lo_NM l1 hN) i1 hp.1 (by rw [e43]; exact hp.2)
    have j2 := does_1 (SL := SL) (w := s (118 + k)) (m := s (126 + k)) (lo_NM l1 hN) hp.1 (by rw [e43]; exact hp.2)
    have e : pd s SL (k + 1) = p_does (pd s SL k) SL (s (118 + k)) (s (126 + k)) := rfl
    rw [e]
    exact ⟨j1, by omega, by omega⟩
theorem hy_ZU {s t : Int → Int} (hN : NM s) (hZ : ZU s) : ZU (wkC s t) := by
  have hN9 : 0 ≤ s 43 ∧ s 43 ≤ 8 := hN
  intro m h0 h1
  rw [hy_43] at h1
  rw [wkC_in (q := 11 + m) (by omega), wkC_in (q := 19 + m) (by omega), wkC_in (q := 27 + m) (by omega), wkC_in (q := 35 + m) (by omega)]
  exact hZ m h0 h1
set_option maxHeartbeats 4000000 in
set_option maxRecDepth 100000 in
theorem kc11_mends (l : Launch) (D : Dx) (A : Nat → Prop) (ad : Nat → Nat) (K : Int → Int) (S Q qa : Nat → Int → Int) (tp : Nat → Nat) (s t bo e uc lr nx : Int → Int) (SL : List Int) (hTt : TB t) (hTB : TB s) (hN : NM s) (hM : GM s) (hP : PL s) (hCH : CHP Q qa s SL) (hT : TI s) (hZ : ZU s) : CT l D A yX11_mends cX11_mends 3 (some .int) { frames := 6, cells := 0, slots := 0, locals := 135 } [.ref (ad 0)] (CW D A ad K (uS (uS S 2 t) 0 s) Q qa tp bo e uc lr nx) (fun u : (Int → Int) => some (vI (bset (menF s) (s 43).toNat))) (fun u => TB u) (fun u => CW D A ad K (uS (uS S 2 u) 0 s) Q qa tp bo e uc lr nx) := by
  refine ct_of (lo0 := [(0, .ref (ad 0))]) (by decide) (Nat.le_of_ble_eq_true rfl) rfl ?_
  intro G hG hR
  have hN9 : 0 ≤ s 43 ∧ s 43 ≤ 8 := hN
  have hC8 : 0 ≤ s 43 ∧ s 43 ≤ 8 := hN
  have hC6 : hc s < 6 := hCH.1
  have hC1 := cut01 hM
  refine v_aload_n hG dX11_mends_0 rfl 0 rfl ?_
  refine cg11 hG dX11_mends_1 zf_X11_17 (k := 0) (by decide) (v := .ref (kB ad 0)) rfl ?_
  refine v_callV (k1' := 0) (k2' := 0) hG dX11_mends_4 zc_X0_flawed ⟨zl_X11_229, zi_X0_flawed, zs_X0_flawed⟩ (fun l => kc0_flawed l D A ad K (uS S 2 t) Q qa tp s bo e uc lr nx 0 (by decide) (by assumption) (by assumption) (by assumption)) rfl (cR0 (by decide)) (fun _ h => h) ⟨by decide, by decide⟩ rfl rfl ⟨by decide, by decide⟩ (rest := []) rfl (Nat.le_of_ble_eq_true rfl) (fun u1 => [vI (q_flawed s)]) (fun _ => rfl) (fun u1 hu1 => ?_)
  have fu1 : 0 ≤ q_flawed s ∧ q_flawed s < 256 := hu1
  refine v_istore_n (lo' := [(1, vI (q_flawed s)), (0, .ref (ad 0))]) hG dX11_mends_7 rfl (by decide) rfl ?_
  refine v_aload_n hG dX11_mends_8 rfl 1 rfl ?_
  refine cg11 hG dX11_mends_9 zf_X11_26 (k := 2) (by decide) (v := .ref (kB ad 2)) rfl ?_
  refine v_aload_n hG dX11_mends_12 rfl 1 rfl ?_
  refine cg11 hG dX11_mends_13 zf_X11_17 (k := 0) (by decide) (v := .ref (kB ad 0)) rfl ?_
  refine v_callV (k1' := 0) (k2' := 0) hG dX11_mends_16 zc_X0_copyWork ⟨zl_X11_232, zi_X0_copyWork, zs_X0_copyWork⟩ (fun l => kw_20 l D A ad K S Q qa tp s t bo e uc lr nx (by assumption) (by omega) (by assumption) (by assumption)) rfl (cR0 (by decide)) (fun _ h => h) ⟨by decide, by decide⟩ rfl rfl ⟨by decide, by decide⟩ (rest := []) rfl (Nat.le_of_ble_eq_true rfl) (fun u2 => []) (fun _ => rfl) (fun u2 hu2 => ?_)
  refine v_iconst hG dX11_mends_19 ?_
  refine v_istore_n (lo' := [(2, vI 0), (1, vI (q_flawed s)), (0, .ref (ad 0))]) hG dX11_mends_20 rfl (by decide) rfl ?_
  refine v_lo [2, 1, 0] (lo' := [(0, .ref (ad 0)), (1, vI (q_flawed s)), (2, vI 0)]) rfl ?_
  have L5 : ∀ mz : Nat, ∀ (k : Nat), ((k : Int) ≤ s 43) → (s 43 - (k : Int)).toNat = mz → ∀ x3 : Int, x3 = ((k : Int)) → ∀ x4 : Int → Int, x4 = (wkC (md s k) t) → V G 0 0 (CW D A ad K (uS (uS S 2 x4) 0 s) Q qa tp bo e uc lr nx) 21 [(0, .ref (ad 0)), (1, vI (q_flawed s)), (2, vI x3)] [] := by
    intro dL5
    induction dL5 using Nat.strongRecOn with
    | ind dL5 ihL5 =>
      intro k hq6 hq7
      intro x3 hx3
      subst hx3
      intro x4 hx4
      subst hx4
      obtain ⟨hml, hmt, -⟩ := md_all hT k (by omega)
      have m43 : wkC (md s k) t 43 = s 43 := by rw [hy_43]; exact hml 43 (by omega)
      refine v_iload_n hG dX11_mends_21 rfl 2 rfl ?_
      refine v_aload_n hG dX11_mends_22 rfl 0 rfl ?_
      refine cg11 hG dX11_mends_23 zf_X11_26 (k := 2) (by decide) (v := .ref (kB ad 2)) rfl ?_
      refine v_P (fun _ h => by rw [uS_sw (by decide)] at h; exact h) ?_
      refine cg0 (by decide) hG dX11_mends_26 zf_X11_90 (k := 3) (by decide) (v := vI ((wkC (md s k) t) 43)) rfl ?_
      refine v_P (fun _ h => by rw [uS_sw (by decide)] at h; exact h) ?_
      refine v_icmp_ge (tgt := 63) hG dX11_mends_29 (by decide) (by omega) (by omega) (fun c8 => ?_) (fun c8 => ?_)
      · skip
        refine v_iload_n hG dX11_mends_63 rfl 1 rfl ?_
        refine v_aload_n hG dX11_mends_64 rfl 0 rfl ?_
        refine cg11 hG dX11_mends_65 zf_X11_26 (k := 2) (by decide) (v := .ref (kB ad 2)) rfl ?_
        refine v_iconst hG dX11_mends_68 ?_
        refine v_callV (k1' := 0) (k2' := 0) hG dX11_mends_69 zc_X0_printing ⟨zl_X11_181, zi_X0_printing, zs_X0_printing⟩ (fun l => kc0_printing l D A ad K (uS S 0 s) Q qa tp (wkC (md s k) t) bo e uc lr nx 2 (by decide) 0 SL (by exact hy_NM (lo_NM hml hN)) (by exact hy_GM (lo_NM hml hN) (md_GM hN hM hT (by omega))) (by exact hy_PL (lo_PL hml hP)) (by exact hy_CHP (lo_PL hml hP) (CHP_lo hml hP hCH)) (by omega)) rfl (cR0 (by decide)) (fun _ h => by rw [uS_sw (by decide)] at h; exact h) ⟨by decide, by decide⟩ rfl rfl ⟨by decide, by decide⟩ (rest := [vI (q_flawed s)]) rfl (Nat.le_of_ble_eq_true rfl) (fun u9 => [vI (bset (prt (wkC (md s k) t) 0) ((wkC (md s k) t) 43).toNat), vI (q_flawed s)]) (fun _ => rfl) (fun u9 hu9 => ?_)
        refine v_P (fun _ h => by rw [uS_sw (by decide)] at h; exact h) ?_
        have fu9 : 0 ≤ bset (prt (wkC (md s k) t) 0) ((wkC (md s k) t) 43).toNat ∧ bset (prt (wkC (md s k) t) 0) ((wkC (md s k) t) 43).toNat < 256 := hu9
        rw [show bset (prt (wkC (md s k) t) 0) (wkC (md s k) t 43).toNat = bset (prt (md s k) 0) (md s k 43).toNat from hy_pset (lo_NM hml hN) (lo_PL hml hP)]
        refine v_iand hG dX11_mends_72 ?_
        have e10 : @Eq Int (bset (menF s) (s 43).toNat) (iand (q_flawed s) (bset (prt (md s k) 0) (md s k 43).toNat)) := by rw [hml 43 (by omega), show k = (s 43).toNat by omega]; exact (md_men hN hP hT).symm
        exact v_ireturn hG hR dX11_mends_73 (wkC (md s k) t) (congrArg (fun z => some (vI z)) e10) (by first | assumption | exact TB_wk (by assumption) | exact TB_wk (TB_wk (by assumption))) (fun _ hM => hM)
      · skip
        refine v_iload_n hG dX11_mends_32 rfl 1 rfl ?_
        refine v_iload_n hG dX11_mends_33 rfl 2 rfl ?_
        refine v_ishr hG dX11_mends_34 (by omega) (by omega) ?_
        refine v_iconst hG dX11_mends_35 ?_
        refine v_iand hG dX11_mends_36 ?_
        refine v_iconst hG dX11_mends_37 ?_
        have hsr9 := sh_rng (x := q_flawed s) (k := k) (by omega)
        have hir9 := iand1_rng hsr9
        refine v_icmp_ne (tgt := 57) hG dX11_mends_38 (by decide) (by omega) (by omega) (fun c11 => ?_) (fun c11 => ?_)
        · skip
          refine v_iinc (lo' := [(2, vI ((k : Int) + 1)), (0, .ref (ad 0)), (1, vI (q_flawed s))]) hG dX11_mends_57 2 rfl (by decide) rfl ?_
          refine v_goto (tgt := 21) hG dX11_mends_60 (by decide) ?_
          refine v_lo [1, 2, 0] (lo' := [(0, .ref (ad 0)), (1, vI (q_flawed s)), (2, vI ((k : Int) + 1))]) rfl ?_
          exact ihL5 _ (by omega) (k + 1) (by omega) rfl _ (by first | omega | rfl | (simp [c8, c11]; done)) _ (by first | (rw [md_n hN (by omega) (by assumption)]; done) | (rw [md_y hN (by omega) (by assumption)]; done))
        · skip
          have hmk9 := md_MK hM hT (k := k) (by omega) (by omega)
          refine v_aload_n hG dX11_mends_41 rfl 0 rfl ?_
          refine cg11 hG dX11_mends_42 zf_X11_26 (k := 2) (by decide) (v := .ref (kB ad 2)) rfl ?_
          refine v_aload_n hG dX11_mends_45 rfl 0 rfl ?_
          refine cg11 hG dX11_mends_46 zf_X11_26 (k := 2) (by decide) (v := .ref (kB ad 2)) rfl ?_
          refine v_P (fun _ h => by rw [uS_sw (by decide)] at h; exact h) ?_
          refine cg0 (by decide) hG dX11_mends_49 zf_X11_91 (k := 6) (by decide) (v := .ref (kA ad 2)) rfl ?_
          refine v_P (fun _ h => by rw [uS_sw (by decide)] at h; exact h) ?_
          refine v_iload_n hG dX11_mends_52 rfl 2 rfl ?_
          refine ca_M (x := (k : Int)) (by decide) (by omega) hG dX11_mends_53 ?_
          refine v_callV (k1' := 0) (k2' := 0) hG dX11_mends_54 zc_X0_mendMark ⟨zl_X11_170, zi_X0_mendMark, zs_X0_mendMark⟩ (fun l => kc0_mendMark l D A ad K (uS S 0 s) Q qa tp (wkC (md s k) t) bo e uc lr nx 2 (by decide) (k : Int) SL (by exact TB_wk hTt) (by omega) (by omega) (by exact hy_MK (by omega) hmk9) (by exact hy_PL (lo_PL hml hP)) (by exact hy_CHP (lo_PL hml hP) (CHP_lo hml hP hCH)) (by exact hy_TI hmt)) rfl (cR0 (by decide)) (fun _ h => by rw [uS_sw (by decide)] at h; exact h) ⟨by decide, by decide⟩ rfl rfl ⟨by decide, by decide⟩ (rest := []) rfl (Nat.le_of_ble_eq_true rfl) (fun u12 => []) (fun _ => rfl) (fun u12 hu12 => ?_)
          refine v_P (fun _ h => by rw [uS_sw (by decide)] at h; exact h) ?_
          rw [hy_mend (lo_PL hml hP) (by omega)]
          refine v_iinc (lo' := [(2, vI ((k : Int) + 1)), (0, .ref (ad 0)), (1, vI (q_flawed s))]) hG dX11_mends_57 2 rfl (by decide) rfl ?_
          refine v_goto (tgt := 21) hG dX11_mends_60 (by decide) ?_
          refine v_lo [1, 2, 0] (lo' := [(0, .ref (ad 0)), (1, vI (q_flawed s)), (2, vI ((k : Int) + 1))]) rfl ?_
          exact ihL5 _ (by omega) (k + 1) (by omega) rfl _ (by first | omega | rfl | (simp [c8, c11]; done)) _ (by first | (rw [md_n hN (by omega) (by assumption)]; done) | (rw [md_y hN (by omega) (by assumption)]; done))
  exact L5 _ 0 (by omega) rfl _ (by first | omega | rfl | (simp []; done)) _ (by rfl)
set_option maxHeartbeats 4000000 in
set_option maxRecDepth 100000 in
theorem kc11_planInThought (l : Launch) (D : Dx) (A : Nat → Prop) (ad : Nat → Nat) (K : Int → Int) (S Q qa : Nat → Int → Int) (tp : Nat → Nat) (s bo e uc lr nx : Int → Int) (w : Int) (m : Int) (SL : List Int) (hw : 0 ≤ w ∧ w ≤ 4) (hmw : w < 3 → 0 ≤ m ∧ m < s 43) (hTB : TB s) (hN : NM s) (hM : GM s) (hP : PL s) (hCH : CHP Q qa s SL) (hT : TI s) (hZ : ZU s) (h1p : 0 ≤ s 1 ∧ s 1 ≤ 100000) : CT l D A yX11_planInThought cX11_planInThought 4 none { frames := 5, cells := 0, slots := 0, locals := 121 } [.ref (ad 0), vI w, vI m] (CW D A ad K (uS S 2 s) Q qa tp bo e uc lr nx) (fun _ : Unit => none) (fun _ => True) (fun _ => CW D A ad K (uS S 2 (p_does s SL w m)) Q qa tp bo e uc lr nx) := by
  refine ct_of (lo0 := [(0, .ref (ad 0)), (1, vI w), (2, vI m)]) (by decide) (Nat.le_of_ble_eq_true rfl) rfl ?_
  intro G hG hR
  have hN9 : 0 ≤ s 43 ∧ s 43 ≤ 8 := hN
  refine v_iload_n hG dX11_planInThought_0 rfl 1 rfl ?_
  refine v_iconst hG dX11_planInThought_1 ?_
  refine v_icmp_ne (tgt := 15) hG dX11_planInThought_2 (by decide) (by omega) (by omega) (fun c1 => ?_) (fun c1 => ?_)
  · skip
    refine v_iload_n hG dX11_planInThought_15 rfl 1 rfl ?_
    refine v_iconst hG dX11_planInThought_16 ?_
    refine v_icmp_ne (tgt := 33) hG dX11_planInThought_17 (by decide) (by omega) (by omega) (fun c2 => ?_) (fun c2 => ?_)
    · skip
      refine v_aload_n hG dX11_planInThought_33 rfl 0 rfl ?_
      refine cg11 hG dX11_planInThought_34 zf_X11_26 (k := 2) (by decide) (v := .ref (kB ad 2)) rfl ?_
      refine v_iload_n hG dX11_planInThought_37 rfl 2 rfl ?_
      refine v_callV (k1' := 0) (k2' := 0) hG dX11_planInThought_38 zc_X0_markAt ⟨zl_X11_99, zi_X0_markAt, zs_X0_markAt⟩ (fun l => kc0_markAt_in l D A ad K S Q qa tp s bo e uc lr nx 2 (by decide) m (by assumption) (by omega)) rfl (cR0 (by decide)) (fun _ h => h) ⟨by decide, by decide⟩ rfl rfl ⟨by decide, by decide⟩ (rest := []) rfl (Nat.le_of_ble_eq_true rfl) (fun u3 => [.ref (kM ad 2 m)]) (fun _ => rfl) (fun u3 hu3 => ?_)
      refine v_astore_n (lo' := [(3, .ref (kM ad 2 m)), (0, .ref (ad 0)), (1, vI w), (2, vI m)]) hG dX11_planInThought_41 rfl (by decide) rfl ?_
      refine v_aload_n hG dX11_planInThought_42 rfl 0 rfl ?_
      refine v_ifnull hG dX11_planInThought_43 ?_
      have hm5 := (hM m (by omega) (by omega)).2.2.2.2.1
      refine v_aload_n hG dX11_planInThought_46 rfl 0 rfl ?_
      refine cgM (by decide) (by omega) (by omega) hG dX11_planInThought_47 zf_X11_117 (k := 5) (by decide) (v := vI (s (11 + m))) rfl ?_
      refine v_iload_n hG dX11_planInThought_50 rfl 2 rfl ?_
      refine v_if_ne (tgt := 58) hG dX11_planInThought_51 (by decide) (by omega) (fun c4 => ?_) (fun c4 => ?_)
      · skip
        refine v_iconst hG dX11_planInThought_58 ?_
        refine v_icmp_ne (tgt := 63) hG dX11_planInThought_59 (by decide) (by omega) (by omega) (fun c5 => ?_) (fun c5 => ?_)
        · skip
          refine v_iload_n hG dX11_planInThought_63 rfl 2 rfl ?_
          refine v_if_ne (tgt := 80) hG dX11_planInThought_64 (by decide) (by omega) (fun c6 => ?_) (fun c6 => ?_)
          · skip
            refine v_iload_n hG dX11_planInThought_80 rfl 2 rfl ?_
            refine v_iconst hG dX11_planInThought_81 ?_
            refine v_icmp_ne (tgt := 96) hG dX11_planInThought_82 (by decide) (by omega) (by omega) (fun c7 => ?_) (fun c7 => ?_)
            · skip
              refine v_aload_n hG dX11_planInThought_96 rfl 1 rfl ?_
              refine cg11 hG dX11_planInThought_97 zf_X11_26 (k := 2) (by decide) (v := .ref (kB ad 2)) rfl ?_
              refine v_aload_n hG dX11_planInThought_100 rfl 0 rfl ?_
              refine v_callV (k1' := 0) (k2' := 0) hG dX11_planInThought_101 zc_X0_goOver ⟨zl_X11_174, zi_X0_goOver, zs_X0_goOver⟩ (fun l => kc0_goOver l D A ad K S Q qa tp s bo e uc lr nx 2 (by decide) m (by assumption) (by omega) (by first | assumption | omega) (by first | assumption | exact hM _ (by omega) (by omega)) (by assumption)) rfl (cR0 (by decide)) (fun _ h => h) ⟨by decide, by decide⟩ rfl rfl ⟨by decide, by decide⟩ (rest := []) rfl (Nat.le_of_ble_eq_true rfl) (fun u8 => []) (fun _ => rfl) (fun u8 hu8 => ?_)
              have e9 : p_over s m = p_does s SL w m := by unfold p_does; (repeat' split) <;> first | rfl | (exfalso; omega)
              exact v_return hG hR dX11_planInThought_104 () rfl (by trivial) (fun _ hM => by rw [← e9]; exact hM)
            · skip
              refine v_aload_n hG dX11_planInThought_85 rfl 1 rfl ?_
              refine cg11 hG dX11_planInThought_86 zf_X11_26 (k := 2) (by decide) (v := .ref (kB ad 2)) rfl ?_
              refine v_aload_n hG dX11_planInThought_89 rfl 0 rfl ?_
              refine v_callV (k1' := 0) (k2' := 0) hG dX11_planInThought_90 zc_X0_mendMark ⟨zl_X11_170, zi_X0_mendMark, zs_X0_mendMark⟩ (fun l => kc0_mendMark l D A ad K S Q qa tp s bo e uc lr nx 2 (by decide) m SL (by assumption) (by omega) (by first | assumption | omega) (by first | assumption | exact hM _ (by omega) (by omega)) (by assumption) (by assumption) (by assumption)) rfl (cR0 (by decide)) (fun _ h => h) ⟨by decide, by decide⟩ rfl rfl ⟨by decide, by decide⟩ (rest := []) rfl (Nat.le_of_ble_eq_true rfl) (fun u10 => []) (fun _ => rfl) (fun u10 hu10 => ?_)
              refine v_goto (tgt := 104) hG dX11_planInThought_93 (by decide) ?_
              have e11 : p_mend s m = p_does s SL w m := by unfold p_does; (repeat' split) <;> first | rfl | (exfalso; omega)
              exact v_return hG hR dX11_planInThought_104 () rfl (by trivial) (fun _ hM => by rw [← e11]; exact hM)
          · skip
            refine v_aload_n hG dX11_planInThought_67 rfl 1 rfl ?_
            refine cg11 hG dX11_planInThought_68 zf_X11_26 (k := 2) (by decide) (v := .ref (kB ad 2)) rfl ?_
            refine v_aload_n hG dX11_planInThought_71 rfl 0 rfl ?_
            refine v_bipush hG dX11_planInThought_72 (by decide) ?_
            refine v_callV (k1' := 0) (k2' := 0) hG dX11_planInThought_74 zc_X0_cutMark ⟨zl_X11_162, zi_X0_cutMark, zs_X0_cutMark⟩ (fun l => kc0_cutMark l D A ad K S Q qa tp s bo e uc lr nx 2 (by decide) m 99 SL (by assumption) (by omega) (by first | assumption | omega) (by first | assumption | exact hM _ (by omega) (by omega)) (by assumption) (by assumption) (by assumption) (by omega) (by exact (hZ m (by omega) (by omega) (by omega)).2)) rfl (cR0 (by decide)) (fun _ h => h) ⟨by decide, by decide⟩ rfl rfl ⟨by decide, by decide⟩ (rest := []) rfl (Nat.le_of_ble_eq_true rfl) (fun u12 => []) (fun _ => rfl) (fun u12 hu12 => ?_)
            refine v_goto (tgt := 104) hG dX11_planInThought_77 (by decide) ?_
            have e13 : p_cut s (flawF (s (50 + m)) (q_risk s SL m (s 2)) 99) m = p_does s SL w m := by unfold p_does; (repeat' split) <;> first | rfl | (exfalso; omega)
            exact v_return hG hR dX11_planInThought_104 () rfl (by trivial) (fun _ hM => by rw [← e13]; exact hM)
        · skip
          have e14 : s = p_does s SL w m := by unfold p_does; (repeat' split) <;> first | rfl | (exfalso; omega)
          exact v_return hG hR dX11_planInThought_62 () rfl (by trivial) (fun _ hM => by rw [← e14]; exact hM)
      · skip
        refine v_iconst hG dX11_planInThought_54 ?_
        refine v_goto (tgt := 59) hG dX11_planInThought_55 (by decide) ?_
        refine v_icmp_ne (tgt := 63) hG dX11_planInThought_59 (by decide) (by omega) (by omega) (fun c15 => ?_) (fun c15 => ?_)
        · skip
          refine v_iload_n hG dX11_planInThought_63 rfl 2 rfl ?_
          refine v_if_ne (tgt := 80) hG dX11_planInThought_64 (by decide) (by omega) (fun c16 => ?_) (fun c16 => ?_)
          · skip
            refine v_iload_n hG dX11_planInThought_80 rfl 2 rfl ?_
            refine v_iconst hG dX11_planInThought_81 ?_
            refine v_icmp_ne (tgt := 96) hG dX11_planInThought_82 (by decide) (by omega) (by omega) (fun c17 => ?_) (fun c17 => ?_)
            · skip
              refine v_aload_n hG dX11_planInThought_96 rfl 1 rfl ?_
              refine cg11 hG dX11_planInThought_97 zf_X11_26 (k := 2) (by decide) (v := .ref (kB ad 2)) rfl ?_
              refine v_aload_n hG dX11_planInThought_100 rfl 0 rfl ?_
              refine v_callV (k1' := 0) (k2' := 0) hG dX11_planInThought_101 zc_X0_goOver ⟨zl_X11_174, zi_X0_goOver, zs_X0_goOver⟩ (fun l => kc0_goOver l D A ad K S Q qa tp s bo e uc lr nx 2 (by decide) m (by assumption) (by omega) (by first | assumption | omega) (by first | assumption | exact hM _ (by omega) (by omega)) (by assumption)) rfl (cR0 (by decide)) (fun _ h => h) ⟨by decide, by decide⟩ rfl rfl ⟨by decide, by decide⟩ (rest := []) rfl (Nat.le_of_ble_eq_true rfl) (fun u18 => []) (fun _ => rfl) (fun u18 hu18 => ?_)
              have e19 : p_over s m = p_does s SL w m := by unfold p_does; (repeat' split) <;> first | rfl | (exfalso; omega)
              exact v_return hG hR dX11_planInThought_104 () rfl (by trivial) (fun _ hM => by rw [← e19]; exact hM)
            · skip
              refine v_aload_n hG dX11_planInThought_85 rfl 1 rfl ?_
              refine cg11 hG dX11_planInThought_86 zf_X11_26 (k := 2) (by decide) (v := .ref (kB ad 2)) rfl ?_
              refine v_aload_n hG dX11_planInThought_89 rfl 0 rfl ?_
              refine v_callV (k1' := 0) (k2' := 0) hG dX11_planInThought_90 zc_X0_mendMark ⟨zl_X11_170, zi_X0_mendMark, zs_X0_mendMark⟩ (fun l => kc0_mendMark l D A ad K S Q qa tp s bo e uc lr nx 2 (by decide) m SL (by assumption) (by omega) (by first | assumption | omega) (by first | assumption | exact hM _ (by omega) (by omega)) (by assumption) (by assumption) (by assumption)) rfl (cR0 (by decide)) (fun _ h => h) ⟨by decide, by decide⟩ rfl rfl ⟨by decide, by decide⟩ (rest := []) rfl (Nat.le_of_ble_eq_true rfl) (fun u20 => []) (fun _ => rfl) (fun u20 hu20 => ?_)
              refine v_goto (tgt := 104) hG dX11_planInThought_93 (by decide) ?_
              have e21 : p_mend s m = p_does s SL w m := by unfold p_does; (repeat' split) <;> first | rfl | (exfalso; omega)
              exact v_return hG hR dX11_planInThought_104 () rfl (by trivial) (fun _ hM => by rw [← e21]; exact hM)
          · skip
            refine v_aload_n hG dX11_planInThought_67 rfl 1 rfl ?_
            refine cg11 hG dX11_planInThought_68 zf_X11_26 (k := 2) (by decide) (v := .ref (kB ad 2)) rfl ?_
            refine v_aload_n hG dX11_planInThought_71 rfl 0 rfl ?_
            refine v_bipush hG dX11_planInThought_72 (by decide) ?_
            refine v_callV (k1' := 0) (k2' := 0) hG dX11_planInThought_74 zc_X0_cutMark ⟨zl_X11_162, zi_X0_cutMark, zs_X0_cutMark⟩ (fun l => kc0_cutMark l D A ad K S Q qa tp s bo e uc lr nx 2 (by decide) m 99 SL (by assumption) (by omega) (by first | assumption | omega) (by first | assumption | exact hM _ (by omega) (by omega)) (by assumption) (by assumption) (by assumption) (by omega) (by exact (hZ m (by omega) (by omega) (by omega)).2)) rfl (cR0 (by decide)) (fun _ h => h) ⟨by decide, by decide⟩ rfl rfl ⟨by decide, by decide⟩ (rest := []) rfl (Nat.le_of_ble_eq_true rfl) (fun u22 => []) (fun _ => rfl) (fun u22 hu22 => ?_)
            refine v_goto (tgt := 104) hG dX11_planInThought_77 (by decide) ?_
            have e23 : p_cut s (flawF (s (50 + m)) (q_risk s SL m (s 2)) 99) m = p_does s SL w m := by unfold p_does; (repeat' split) <;> first | rfl | (exfalso; omega)
            exact v_return hG hR dX11_planInThought_104 () rfl (by trivial) (fun _ hM => by rw [← e23]; exact hM)
        · skip
          have e24 : s = p_does s SL w m := by unfold p_does; (repeat' split) <;> first | rfl | (exfalso; omega)
          exact v_return hG hR dX11_planInThought_62 () rfl (by trivial) (fun _ hM => by rw [← e24]; exact hM)
    · skip
      refine v_aload_n hG dX11_planInThought_20 rfl 0 rfl ?_
      refine cg11 hG dX11_planInThought_21 zf_X11_26 (k := 2) (by decide) (v := .ref (kB ad 2)) rfl ?_
      refine v_bipush hG dX11_planInThought_24 (by decide) ?_
      refine v_ldcw (n := 1000000000) hG dX11_planInThought_26 (ztb 780 (by decide +kernel) (by decide +kernel)) rfl ?_
      refine v_callV (k1' := 0) (k2' := 0) hG dX11_planInThought_29 zc_X0_takePrints ⟨zl_X11_177, zi_X0_takePrints, zs_X0_takePrints⟩ (fun l => kc0_takePrints l D A ad K S Q qa tp s bo e uc lr nx 2 (by decide) 50 1000000000 (by assumption) (by assumption) (by assumption) (by omega) (by omega) (by omega)) rfl (cR0 (by decide)) (fun _ h => h) ⟨by decide, by decide⟩ rfl rfl ⟨by decide, by decide⟩ (rest := []) rfl (Nat.le_of_ble_eq_true rfl) (fun u25 => []) (fun _ => rfl) (fun u25 hu25 => ?_)
      rw [take_prints hN hM h1p (by omega)]
      have e26 : p_prints s 50 = p_does s SL w m := by unfold p_does; (repeat' split) <;> first | rfl | (exfalso; omega)
      exact v_return hG hR dX11_planInThought_32 () rfl (by trivial) (fun _ hM => by rw [← e26]; exact hM)
  · skip
    refine v_aload_n hG dX11_planInThought_5 rfl 0 rfl ?_
    refine cg11 hG dX11_planInThought_6 zf_X11_26 (k := 2) (by decide) (v := .ref (kB ad 2)) rfl ?_
    refine v_bipush hG dX11_planInThought_9 (by decide) ?_
    refine v_callV (k1' := 0) (k2' := 0) hG dX11_planInThought_11 zc_X0_restFor ⟨zl_X11_166, zi_X0_restFor, zs_X0_restFor⟩ (fun l => kc0_restFor l D A ad K S Q qa tp s bo e uc lr nx 2 (by decide) 10 (by assumption) (by assumption) (by omega)) rfl (cR0 (by decide)) (fun _ h => h) ⟨by decide, by decide⟩ rfl rfl ⟨by decide, by decide⟩ (rest := []) rfl (Nat.le_of_ble_eq_true rfl) (fun u27 => []) (fun _ => rfl) (fun u27 hu27 => ?_)
    have e28 : p_rest s 10 = p_does s SL w m := by unfold p_does; (repeat' split) <;> first | rfl | (exfalso; omega)
    exact v_return hG hR dX11_planInThought_14 () rfl (by trivial) (fun _ hM => by rw [← e28]; exact hM)
set_option maxHeartbeats 4000000 in
set_option maxRecDepth 100000 in
theorem kc11_done (l : Launch) (D : Dx) (A : Nat → Prop) (ad : Nat → Nat) (K : Int → Int) (S Q qa : Nat → Int → Int) (tp : Nat → Nat) (s t bo e uc lr nx : Int → Int) (w : Int) (hrw : -2147483648 ≤ w ∧ w < 2147483648) (SL : List Int) (hTt : TB t) (hTB : TB s) (hN : NM s) (hM : GM s) (hP : PL s) (hCH : CHP Q qa s SL) (hT : TI s) (hZ : ZU s) (hW : WW s) (hPN : PN s) (h1p : 0 ≤ s 1 ∧ s 1 ≤ 9999) : CT l D A yX11_done cX11_done 3 (some .int) { frames := 6, cells := 0, slots := 0, locals := 144 } [.ref (ad 0), vI w] (CW D A ad K (uS (uS S 2 t) 0 s) Q qa tp bo e uc lr nx) (fun u : (Int → Int) => some (vI (a_done s SL w))) (fun u => TB u) (fun u => CW D A ad K (uS (uS S 2 u) 0 s) Q qa tp bo e uc lr nx) := by
  refine ct_of (lo0 := [(0, .ref (ad 0)), (1, vI w)]) (by decide) (Nat.le_of_ble_eq_true rfl) rfl ?_
  intro G hG hR
  have hN9 : 0 ≤ s 43 ∧ s 43 ≤ 8 := hN
  have hC8 : 0 ≤ s 43 ∧ s 43 ≤ 8 := hN
  have hC6 : hc s < 6 := hCH.1
  have hC1 := cut01 hM
  have hS1 := hPN.1
  refine v_iload_n hG dX11_done_0 rfl 1 rfl ?_
  refine v_iconst hG dX11_done_1 ?_
  refine v_iconst hG dX11_done_2 ?_
  refine v_callS (k1' := 0) (k2' := 0) hG dX11_done_3 zc_X11_within ⟨zl_X11_50, zt_X11_within⟩ (fun l => kc11_within l D A (CW D A ad K (uS (uS S 2 t) 0 s) Q qa tp bo e uc lr nx) w 0 2 (by omega) (by omega) (by omega)) rfl (fun _ h => h) ⟨by decide, by decide⟩ rfl rfl ⟨by decide, by decide⟩ (rest := []) rfl (Nat.le_of_ble_eq_true rfl) (fun u1 => [vI (bi (0 ≤ w ∧ w ≤ 2))]) (fun _ => rfl) (fun u1 hu1 => ?_)
  refine v_ifb_ne (p := 0 ≤ w ∧ w ≤ 2) (tgt := 11) hG dX11_done_6 (by decide) (fun c2 => ?_) (fun c2 => ?_)
  · skip
    refine v_aload_n hG dX11_done_11 rfl 0 rfl ?_
    refine cg11 hG dX11_done_12 zf_X11_26 (k := 2) (by decide) (v := .ref (kB ad 2)) rfl ?_
    refine v_aload_n hG dX11_done_15 rfl 0 rfl ?_
    refine cg11 hG dX11_done_16 zf_X11_17 (k := 0) (by decide) (v := .ref (kB ad 0)) rfl ?_
    refine v_callV (k1' := 0) (k2' := 0) hG dX11_done_19 zc_X0_copyWork ⟨zl_X11_232, zi_X0_copyWork, zs_X0_copyWork⟩ (fun l => kw_20 l D A ad K S Q qa tp s t bo e uc lr nx (by assumption) (by omega) (by assumption) (by assumption)) rfl (cR0 (by decide)) (fun _ h => h) ⟨by decide, by decide⟩ rfl rfl ⟨by decide, by decide⟩ (rest := []) rfl (Nat.le_of_ble_eq_true rfl) (fun u3 => []) (fun _ => rfl) (fun u3 hu3 => ?_)
    refine v_iconst hG dX11_done_22 ?_
    refine v_istore_n (lo' := [(2, vI 0), (0, .ref (ad 0)), (1, vI w)]) hG dX11_done_23 rfl (by decide) rfl ?_
    refine v_lo [1, 2, 0] (lo' := [(0, .ref (ad 0)), (1, vI w), (2, vI 0)]) rfl ?_
    have L6 : ∀ mz : Nat, ∀ (k : Nat), ((k : Int) ≤ s 46) → (s 46 - (k : Int)).toNat = mz → ∀ x4 : Int, x4 = ((k : Int)) → ∀ x5 : Int → Int, x5 = (wkC (pd s SL k) t) → V G 0 0 (CW D A ad K (uS (uS S 2 x5) 0 s) Q qa tp bo e uc lr nx) 24 [(0, .ref (ad 0)), (1, vI w), (2, vI x4)] [] := by
      intro dL6
      induction dL6 using Nat.strongRecOn with
      | ind dL6 ihL6 =>
        intro k hq7 hq8
        intro x4 hx4
        subst hx4
        intro x5 hx5
        subst hx5
        obtain ⟨hpl, hpm, hpt, hpw⟩ := pd_all (SL := SL) hN hM hT hW hPN k (by omega)
        obtain ⟨hpz, hp1⟩ := pd_more (SL := SL) hN hM hT hW hPN hZ h1p k (by omega)
        have m43 : wkC (pd s SL k) t 43 = s 43 := by rw [hy_43]; exact hpl 43 (by omega)
        have m1 : wkC (pd s SL k) t 1 = pd s SL k 1 := wkC_in (by omega)
        refine v_iload_n hG dX11_done_24 rfl 2 rfl ?_
        refine v_aload_n hG dX11_done_25 rfl 0 rfl ?_
        refine cg11 hG dX11_done_26 zf_X11_17 (k := 0) (by decide) (v := .ref (kB ad 0)) rfl ?_
        refine cg0 (by decide) hG dX11_done_29 zf_X11_254 (k := 9) (by decide) (v := .ref (kT ad 0 2)) rfl ?_
        refine cg7 (by decide) (t := 2) (by decide) hG dX11_done_32 zf_X11_75 (k := 2) (by decide) (v := vI (s 46)) rfl ?_
        refine v_icmp_ge (tgt := 72) hG dX11_done_35 (by decide) (by omega) (by omega) (fun c9 => ?_) (fun c9 => ?_)
        · skip
          refine v_iload_n hG dX11_done_72 rfl 1 rfl ?_
          by_cases c10 : w = 0
          · refine v_lookup (tgt := 100) hG dX11_done_73 (by omega) (by decide) (by rw [c10] <;> rfl) (by decide) ?_
            refine v_aload_n hG dX11_done_100 rfl 0 rfl ?_
            refine cg11 hG dX11_done_101 zf_X11_26 (k := 2) (by decide) (v := .ref (kB ad 2)) rfl ?_
            refine v_P (fun _ h => by rw [uS_sw (by decide)] at h; exact h) ?_
            refine cg0 (by decide) hG dX11_done_104 zf_X11_149 (k := 0) (by decide) (v := vI ((wkC (pd s SL k) t) 0)) rfl ?_
            refine v_P (fun _ h => by rw [uS_sw (by decide)] at h; exact h) ?_
            refine v_aload_n hG dX11_done_107 rfl 0 rfl ?_
            refine cg11 hG dX11_done_108 zf_X11_17 (k := 0) (by decide) (v := .ref (kB ad 0)) rfl ?_
            refine cg0 (by decide) hG dX11_done_111 zf_X11_149 (k := 0) (by decide) (v := vI (s 0)) rfl ?_
            refine v_isub hG dX11_done_114 ?_
            have e11 : @Eq Int (a_done s SL w) (((wkC (pd s SL k) t) 0) - (s 0)) := by rw [wkC_in (by omega), show k = (s 46).toNat by omega] ; simp only [a_done, if_pos c2, if_pos c9, if_pos c10]; first | done | rfl
            exact v_ireturn hG hR dX11_done_115 (wkC (pd s SL k) t) (congrArg (fun z => some (vI z)) e11) (by first | assumption | exact TB_wk (by assumption) | exact TB_wk (TB_wk (by assumption))) (fun _ hM => hM)
          by_cases c12 : w = 1
          · refine v_lookup (tgt := 116) hG dX11_done_73 (by omega) (by decide) (by rw [c12] <;> rfl) (by decide) ?_
            refine v_aload_n hG dX11_done_116 rfl 0 rfl ?_
            refine cg11 hG dX11_done_117 zf_X11_26 (k := 2) (by decide) (v := .ref (kB ad 2)) rfl ?_
            refine v_P (fun _ h => by rw [uS_sw (by decide)] at h; exact h) ?_
            refine cg0 (by decide) hG dX11_done_120 zf_X11_130 (k := 2) (by decide) (v := vI ((wkC (pd s SL k) t) 2)) rfl ?_
            refine v_P (fun _ h => by rw [uS_sw (by decide)] at h; exact h) ?_
            have e13 : @Eq Int (a_done s SL w) ((wkC (pd s SL k) t) 2) := by rw [wkC_in (by omega), show k = (s 46).toNat by omega] ; simp only [a_done, if_pos c2, if_pos c9, if_neg c10, if_pos c12]; first | done | rfl
            exact v_ireturn hG hR dX11_done_123 (wkC (pd s SL k) t) (congrArg (fun z => some (vI z)) e13) (by first | assumption | exact TB_wk (by assumption) | exact TB_wk (TB_wk (by assumption))) (fun _ hM => hM)
          refine v_lookup (off := 51) (tgt := 124) hG dX11_done_73 (by omega) (by decide) (by simp [Op.lookupswitch.offset, Ne.symm c10, Ne.symm c12]) (by decide) ?_
          refine v_aload_n hG dX11_done_124 rfl 0 rfl ?_
          refine cg11 hG dX11_done_125 zf_X11_26 (k := 2) (by decide) (v := .ref (kB ad 2)) rfl ?_
          refine v_iconst hG dX11_done_128 ?_
          refine v_callV (k1' := 0) (k2' := 0) hG dX11_done_129 zc_X0_printing ⟨zl_X11_181, zi_X0_printing, zs_X0_printing⟩ (fun l => kc0_printing l D A ad K (uS S 0 s) Q qa tp (wkC (pd s SL k) t) bo e uc lr nx 2 (by decide) 0 SL (by exact hy_NM (lo_NM hpl hN)) (by exact hy_GM (lo_NM hpl hN) hpm) (by exact hy_PL (lo_PL hpl hP)) (by exact hy_CHP (lo_PL hpl hP) (CHP_lo hpl hP hCH)) (by omega)) rfl (cR0 (by decide)) (fun _ h => by rw [uS_sw (by decide)] at h; exact h) ⟨by decide, by decide⟩ rfl rfl ⟨by decide, by decide⟩ (rest := []) rfl (Nat.le_of_ble_eq_true rfl) (fun u15 => [vI (bset (prt (wkC (pd s SL k) t) 0) ((wkC (pd s SL k) t) 43).toNat)]) (fun _ => rfl) (fun u15 hu15 => ?_)
          refine v_P (fun _ h => by rw [uS_sw (by decide)] at h; exact h) ?_
          have fu15 : 0 ≤ bset (prt (wkC (pd s SL k) t) 0) ((wkC (pd s SL k) t) 43).toNat ∧ bset (prt (wkC (pd s SL k) t) 0) ((wkC (pd s SL k) t) 43).toNat < 256 := hu15
          rw [show bset (prt (wkC (pd s SL k) t) 0) (wkC (pd s SL k) t 43).toNat = bset (prt (pd s SL k) 0) (pd s SL k 43).toNat from hy_pset (lo_NM hpl hN) (lo_PL hpl hP)]
          have hb8 := bset_8 (prt (pd s SL k) 0) (n := (pd s SL k 43).toNat) (by rw [hpl 43 (by omega)]; omega)
          refine v_callS (k1' := 0) (k2' := 0) hG dX11_done_132 zc_J6_bitCount_0f7a4 ⟨zl_X11_185, zt_J6_bitCount_0f7a4⟩ (fun l => k_bitCount_0f7a4 l D A (CW D A ad K (uS (uS S 2 (wkC (pd s SL k) t)) 0 s) Q qa tp bo e uc lr nx) (bset (prt (pd s SL k) 0) (pd s SL k 43).toNat) (by omega)) rfl (fun _ h => h) ⟨by decide, by decide⟩ rfl rfl ⟨by decide, by decide⟩ (rest := []) rfl (Nat.le_of_ble_eq_true rfl) (fun u16 => [vI (szF (bset (prt (pd s SL k) 0) (pd s SL k 43).toNat) 8)]) (fun _ => rfl) (fun u16 hu16 => ?_)
          have fu16 : 0 ≤ szF (bset (prt (pd s SL k) 0) (pd s SL k 43).toNat) 8 ∧ szF (bset (prt (pd s SL k) 0) (pd s SL k 43).toNat) 8 ≤ 8 := hu16
          have e17 : @Eq Int (a_done s SL w) (szF (bset (prt (pd s SL k) 0) (pd s SL k 43).toNat) 8) := by rw [szB _ (by rw [hpl 43 (by omega)]; omega), hpl 43 (by omega), show k = (s 46).toNat by omega]; unfold a_done; (repeat' split) <;> first | rfl | (exfalso; omega)
          exact v_ireturn hG hR dX11_done_135 (wkC (pd s SL k) t) (congrArg (fun z => some (vI z)) e17) (by first | assumption | exact TB_wk (by assumption) | exact TB_wk (TB_wk (by assumption))) (fun _ hM => hM)
        · skip
          have hpk := hPN.2 (k : Int) (by omega) (by omega)
          refine v_aload_n hG dX11_done_38 rfl 0 rfl ?_
          refine v_aload_n hG dX11_done_39 rfl 0 rfl ?_
          refine cg11 hG dX11_done_40 zf_X11_17 (k := 0) (by decide) (v := .ref (kB ad 0)) rfl ?_
          refine cg0 (by decide) hG dX11_done_43 zf_X11_254 (k := 9) (by decide) (v := .ref (kT ad 0 2)) rfl ?_
          refine v_iload_n hG dX11_done_46 rfl 2 rfl ?_
          refine v_iconst hG dX11_done_47 ?_
          refine v_callV (k1' := 0) (k2' := 0) hG dX11_done_48 zc_X7_at ⟨zl_X11_257, zi_X7_at, zs_X7_at⟩ (fun l => kt2_at0 l D A ad K (uS S 2 (wkC (pd s SL k) t)) Q qa tp s bo e uc lr nx 0 (by decide) (k : Int) (by assumption) (by omega)) rfl (cR7 (by decide) (t := 2) (by decide)) (fun _ h => h) ⟨by decide, by decide⟩ rfl rfl ⟨by decide, by decide⟩ (rest := [.ref (ad 0)]) rfl (Nat.le_of_ble_eq_true rfl) (fun u18 => [vI (s (118 + (k : Int))), .ref (ad 0)]) (fun _ => rfl) (fun u18 hu18 => ?_)
          refine v_aload_n hG dX11_done_51 rfl 0 rfl ?_
          refine cg11 hG dX11_done_52 zf_X11_17 (k := 0) (by decide) (v := .ref (kB ad 0)) rfl ?_
          refine cg0 (by decide) hG dX11_done_55 zf_X11_254 (k := 9) (by decide) (v := .ref (kT ad 0 2)) rfl ?_
          refine v_iload_n hG dX11_done_58 rfl 2 rfl ?_
          refine v_iconst hG dX11_done_59 ?_
          refine v_callV (k1' := 0) (k2' := 0) hG dX11_done_60 zc_X7_at ⟨zl_X11_257, zi_X7_at, zs_X7_at⟩ (fun l => kt2_at1 l D A ad K (uS S 2 (wkC (pd s SL k) t)) Q qa tp s bo e uc lr nx 0 (by decide) (k : Int) (by assumption) (by omega)) rfl (cR7 (by decide) (t := 2) (by decide)) (fun _ h => h) ⟨by decide, by decide⟩ rfl rfl ⟨by decide, by decide⟩ (rest := [vI (s (118 + (k : Int))), .ref (ad 0)]) rfl (Nat.le_of_ble_eq_true rfl) (fun u19 => [vI (s (126 + (k : Int))), vI (s (118 + (k : Int))), .ref (ad 0)]) (fun _ => rfl) (fun u19 hu19 => ?_)
          refine v_callV (k1' := 0) (k2' := 0) hG dX11_done_63 zc_X11_planInThought ⟨zl_X11_260, zi_X11_planInThought, zs_X11_planInThought⟩ (fun l => kc11_planInThought l D A ad K (uS S 0 s) Q qa tp (wkC (pd s SL k) t) bo e uc lr nx (s (118 + (k : Int))) (s (126 + (k : Int))) SL (by omega) (by rw [m43]; exact hpk.2) (by exact TB_wk hTt) (by exact hy_NM (lo_NM hpl hN)) (by exact hy_GM (lo_NM hpl hN) hpm) (by exact hy_PL (lo_PL hpl hP)) (by exact hy_CHP (lo_PL hpl hP) (CHP_lo hpl hP hCH)) (by exact hy_TI hpt) (by exact hy_ZU (lo_NM hpl hN) hpz) (by rw [m1]; omega)) rfl cR11 (fun _ h => by rw [uS_sw (by decide)] at h; exact h) ⟨by decide, by decide⟩ rfl rfl ⟨by decide, by decide⟩ (rest := []) rfl (Nat.le_of_ble_eq_true rfl) (fun u20 => []) (fun _ => rfl) (fun u20 hu20 => ?_)
          refine v_P (fun _ h => by rw [uS_sw (by decide)] at h; exact h) ?_
          rw [hy_does (lo_NM hpl hN) (lo_PL hpl hP) hpk.1 (by rw [hpl 43 (by omega)]; exact hpk.2)]
          refine v_iinc (lo' := [(2, vI ((k : Int) + 1)), (0, .ref (ad 0)), (1, vI w)]) hG dX11_done_66 2 rfl (by decide) rfl ?_
          refine v_goto (tgt := 24) hG dX11_done_69 (by decide) ?_
          refine v_lo [1, 2, 0] (lo' := [(0, .ref (ad 0)), (1, vI w), (2, vI ((k : Int) + 1))]) rfl ?_
          exact ihL6 _ (by omega) (k + 1) (by omega) rfl _ (by first | omega | rfl | (simp [c2, c9]; done)) _ (by rfl)
    exact L6 _ 0 (by omega) rfl _ (by first | omega | rfl | (simp [c2]; done)) _ (by rfl)
  · skip
    refine v_iconst hG dX11_done_9 ?_
    have e21 : @Eq Int (a_done s SL w) (-1) := by simp only [a_done, if_neg c2]
    exact v_ireturn hG hR dX11_done_10 t (congrArg (fun z => some (vI z)) e21) (by first | assumption | exact TB_wk (by assumption) | exact TB_wk (TB_wk (by assumption))) (fun _ hM => hM)
set_option maxHeartbeats 4000000 in
set_option maxRecDepth 100000 in
theorem kc11_image (l : Launch) (D : Dx) (A : Nat → Prop) (ad : Nat → Nat) (K : Int → Int) (S Q qa : Nat → Int → Int) (tp : Nat → Nat) (s t bo e uc lr nx : Int → Int) (SL : List Int) (hTt : TB t) (hTB : TB s) (hN : NM s) (hM : GM s) (hP : PL s) (hCH : CHP Q qa s SL) : CT l D A yX11_image cX11_image 1 (some .int) { frames := 4, cells := 0, slots := 0, locals := 87 } [.ref (ad 0)] (CW D A ad K (uS (uS S 1 t) 0 s) Q qa tp bo e uc lr nx) (fun _ : Unit => some (vI (s 43))) (fun _ => True) (fun _ => CW D A ad K (uS (uS S 1 s) 0 s) Q qa tp bo (sU e 1 1) uc lr nx) := by
  refine ct_of (lo0 := [(0, .ref (ad 0))]) (by decide) (Nat.le_of_ble_eq_true rfl) rfl ?_
  intro G hG hR
  have hN9 : 0 ≤ s 43 ∧ s 43 ≤ 8 := hN
  have hC8 : 0 ≤ s 43 ∧ s 43 ≤ 8 := hN
  have hC6 : hc s < 6 := hCH.1
  have hC1 := cut01 hM
  refine v_aload_n hG dX11_image_0 rfl 0 rfl ?_
  refine cg11 hG dX11_image_1 zf_X11_23 (k := 1) (by decide) (v := .ref (kB ad 1)) rfl ?_
  refine v_aload_n hG dX11_image_4 rfl 0 rfl ?_
  refine cg11 hG dX11_image_5 zf_X11_17 (k := 0) (by decide) (v := .ref (kB ad 0)) rfl ?_
  refine v_callV (k1' := 0) (k2' := 0) hG dX11_image_8 zc_X0_copyAll ⟨zl_X11_286, zi_X0_copyAll, zs_X0_copyAll⟩ (fun l => ky_10 l D A ad K S Q qa tp s t bo e uc lr nx (by assumption) (by assumption) (by omega) (by assumption) (by assumption)) rfl (cR0 (by decide)) (fun _ h => h) ⟨by decide, by decide⟩ rfl rfl ⟨by decide, by decide⟩ (rest := []) rfl (Nat.le_of_ble_eq_true rfl) (fun u1 => []) (fun _ => rfl) (fun u1 hu1 => ?_)
  refine v_aload_n hG dX11_image_11 rfl 0 rfl ?_
  refine v_iconst hG dX11_image_12 ?_
  refine cp11_it (Or.inr rfl) hG dX11_image_13 zf_X11_289 ?_
  refine v_aload_n hG dX11_image_16 rfl 0 rfl ?_
  refine cg11 hG dX11_image_17 zf_X11_17 (k := 0) (by decide) (v := .ref (kB ad 0)) rfl ?_
  refine cg0 (by decide) hG dX11_image_20 zf_X11_90 (k := 3) (by decide) (v := vI (s 43)) rfl ?_
  exact v_ireturn hG hR dX11_image_23 () rfl (by trivial) (fun _ hM => hM)
set_option maxHeartbeats 4000000 in
set_option maxRecDepth 100000 in
theorem kc11_undo (l : Launch) (D : Dx) (A : Nat → Prop) (ad : Nat → Nat) (K : Int → Int) (S Q qa : Nat → Int → Int) (tp : Nat → Nat) (s t bo e uc lr nx : Int → Int) (SL : List Int) (hTt : TB t) (hTB : TB s) (hN : NM s) (hM : GM s) (hP : PL s) (hCH : CHP Q qa s SL) (hit : e 1 = 0 ∨ e 1 = 1) : CT l D A yX11_undo cX11_undo 1 (some .int) { frames := 4, cells := 0, slots := 0, locals := 87 } [.ref (ad 0)] (CW D A ad K (uS (uS S 0 t) 1 s) Q qa tp bo e uc lr nx) (fun _ : Unit => some (vI (if e 1 = 1 then s 43 else -3))) (fun _ => True) (fun _ => CW D A ad K (uS (uS S 0 (if e 1 = 1 then s else t)) 1 s) Q qa tp bo e uc lr nx) := by
  refine ct_of (lo0 := [(0, .ref (ad 0))]) (by decide) (Nat.le_of_ble_eq_true rfl) rfl ?_
  intro G hG hR
  have hN9 : 0 ≤ s 43 ∧ s 43 ≤ 8 := hN
  have hC8 : 0 ≤ s 43 ∧ s 43 ≤ 8 := hN
  have hC6 : hc s < 6 := hCH.1
  have hC1 := cut01 hM
  refine v_aload_n hG dX11_undo_0 rfl 0 rfl ?_
  refine cg11 hG dX11_undo_1 zf_X11_289 (k := 8) (by decide) (v := vI (e 1)) rfl ?_
  refine v_if_ne (tgt := 10) hG dX11_undo_4 (by decide) (by omega) (fun c1 => ?_) (fun c1 => ?_)
  · skip
    refine v_aload_n hG dX11_undo_10 rfl 0 rfl ?_
    refine cg11 hG dX11_undo_11 zf_X11_17 (k := 0) (by decide) (v := .ref (kB ad 0)) rfl ?_
    refine v_aload_n hG dX11_undo_14 rfl 0 rfl ?_
    refine cg11 hG dX11_undo_15 zf_X11_23 (k := 1) (by decide) (v := .ref (kB ad 1)) rfl ?_
    refine v_callV (k1' := 0) (k2' := 0) hG dX11_undo_18 zc_X0_copyAll ⟨zl_X11_286, zi_X0_copyAll, zs_X0_copyAll⟩ (fun l => ky_01 l D A ad K S Q qa tp s t bo e uc lr nx (by assumption) (by assumption) (by omega) (by assumption) (by assumption)) rfl (cR0 (by decide)) (fun _ h => h) ⟨by decide, by decide⟩ rfl rfl ⟨by decide, by decide⟩ (rest := []) rfl (Nat.le_of_ble_eq_true rfl) (fun u2 => []) (fun _ => rfl) (fun u2 hu2 => ?_)
    refine v_aload_n hG dX11_undo_21 rfl 0 rfl ?_
    refine cg11 hG dX11_undo_22 zf_X11_17 (k := 0) (by decide) (v := .ref (kB ad 0)) rfl ?_
    refine v_P (fun _ h => by rw [uS_sw (by decide)] at h; exact h) ?_
    refine cg0 (by decide) hG dX11_undo_25 zf_X11_90 (k := 3) (by decide) (v := vI (s 43)) rfl ?_
    refine v_P (fun _ h => by rw [uS_sw (by decide)] at h; exact h) ?_
    have e3 : s = if e 1 = 1 then s else t := by (repeat' split) <;> first | rfl | omega | (exfalso; omega)
    have e4 : @Eq Int (if e 1 = 1 then s 43 else -3) (s 43) := by (repeat' split) <;> first | rfl | omega | (exfalso; omega)
    exact v_ireturn hG hR dX11_undo_28 () (congrArg (fun z => some (vI z)) e4) (by trivial) (fun _ hM => by rw [← e3]; exact hM)
  · skip
    refine v_bipush hG dX11_undo_7 (by decide) ?_
    have e5 : t = if e 1 = 1 then s else t := by (repeat' split) <;> first | rfl | omega | (exfalso; omega)
    have e6 : @Eq Int (if e 1 = 1 then s 43 else -3) (-3) := by (repeat' split) <;> first | rfl | omega | (exfalso; omega)
    exact v_ireturn hG hR dX11_undo_9 () (congrArg (fun z => some (vI z)) e6) (by trivial) (fun _ hM => by rw [← e5]; exact hM)
