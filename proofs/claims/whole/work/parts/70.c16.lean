/-! THE CLASS: the uncut marks; flaws, clean -/
def uncF (s : Int → Int) : Nat → Bool := fun m => decide (¬ s (11 + m) = 1)
theorem unc_cnt (s : Int → Int) : cntB (uncF s) (s 43).toNat = q_uncut s := rfl
theorem uncF_t {s : Int → Int} {k : Nat} (h : ¬ s (11 + (k : Int)) = 1) : uncF s k = true := decide_eq_true h
theorem uncF_f {s : Int → Int} {k : Nat} (h : s (11 + (k : Int)) = 1) : uncF s k = false := decide_eq_false (fun q => q h)
/-- the marks below k that aren't cut stand in u by their order -/
def UC (s : Int → Int) (k : Nat) (u : Int → Int) : Prop := ∀ j : Nat, j < k → ¬ s (11 + (j : Int)) = 1 → u (cntB (uncF s) j) = j
theorem cntB_mono (f : Nat → Bool) {k : Nat} : ∀ d : Nat, cntB f k ≤ cntB f (k + d)
  | 0 => Int.le_refl _
  | d + 1 => by
    have h := cntB_mono f (k := k) d
    show _ ≤ cntB f (k + d) + (if f (k + d) then 1 else 0)
    split <;> omega
theorem UC_0 {s u : Int → Int} : UC s 0 u := fun j h => by omega
theorem UC_n {s u : Int → Int} {k : Nat} (h : s (11 + (k : Int)) = 1) (hu : UC s k u) : UC s (k + 1) u := fun j hj hc => by
  by_cases e : j = k
  · subst e; exact absurd h hc
  · exact hu j (by omega) hc
theorem UC_y {s u : Int → Int} {k : Nat} (h : ¬ s (11 + (k : Int)) = 1) (hu : UC s k u) : UC s (k + 1) (sU u (cntB (uncF s) k) k) := fun j hj hc => by
  by_cases e : j = k
  · subst e; exact sU_eq
  · have h1 := cnt_t (uncF_t hc)
    have h2 := cntB_mono (uncF s) (k := j + 1) (k - (j + 1))
    rw [show j + 1 + (k - (j + 1)) = k by omega] at h2
    rw [sU_ne (by omega)]
    exact hu j (by omega) hc
theorem lff_skip {s : Int → Int} {SL : List Int} {k : Nat} (h : s (11 + (k : Int)) = 1) : lff s SL (k + 1) = lff s SL k := by
  show (if 4 ≤ (lff s SL k).2.2.2.2 then lff s SL k else if s (11 + k) = 1 then lff s SL k else _) = _
  split <;> first | rfl | rw [if_pos h]
theorem lff_cnt (s : Int → Int) (SL : List Int) : ∀ k : Nat, (lff s SL k).2.2.2.2 = if cntB (uncF s) k < 4 then cntB (uncF s) k else 4
  | 0 => rfl
  | k + 1 => by
    have ih := lff_cnt s SL k
    by_cases h : s (11 + (k : Int)) = 1
    · have h1 := cnt_f (uncF_f h)
      rw [lff_skip h, ih, ← h1, Int.add_zero]
    · have h1 := cnt_t (uncF_t h)
      have e : lff s SL (k + 1) = if 4 ≤ (lff s SL k).2.2.2.2 then lff s SL k else if s (11 + k) = 1 then lff s SL k else (clamp ((lff s SL k).1 + q_needs s k / 2) 0 99, (lff s SL k).2.1 + q_risk s SL k (lff s SL k).1, (lff s SL k).2.2.1 * (100 - q_risk s SL k (lff s SL k).1), (lff s SL k).2.2.2.1 * 100, (lff s SL k).2.2.2.2 + 1) := rfl
      rw [e]
      by_cases h4 : cntB (uncF s) k < 4
      · rw [if_pos h4] at ih
        rw [if_neg (by omega), if_neg h]
        show (lff s SL k).2.2.2.2 + 1 = _
        split <;> omega
      · rw [if_neg h4] at ih
        rw [if_pos (by omega), if_neg (by omega), ih]
theorem lff_y {s : Int → Int} {SL : List Int} {k j : Nat} (h4 : cntB (uncF s) k < 4) (hu : ¬ s (11 + (j : Int)) = 1) (hl : lff s SL j = lff s SL k) : lff s SL (j + 1) = (clamp ((lff s SL k).1 + q_needs s j / 2) 0 99, (lff s SL k).2.1 + q_risk s SL j (lff s SL k).1, (lff s SL k).2.2.1 * (100 - q_risk s SL j (lff s SL k).1), (lff s SL k).2.2.2.1 * 100, (lff s SL k).2.2.2.2 + 1) := by
  have h := lff_cnt s SL k
  rw [if_pos h4] at h
  have e : lff s SL (j + 1) = if 4 ≤ (lff s SL j).2.2.2.2 then lff s SL j else if s (11 + j) = 1 then lff s SL j else (clamp ((lff s SL j).1 + q_needs s j / 2) 0 99, (lff s SL j).2.1 + q_risk s SL j (lff s SL j).1, (lff s SL j).2.2.1 * (100 - q_risk s SL j (lff s SL j).1), (lff s SL j).2.2.2.1 * 100, (lff s SL j).2.2.2.2 + 1) := rfl
  rw [e, hl, if_neg (by omega), if_neg hu]
theorem next_unc {s : Int → Int} {SL : List Int} {n : Nat} : ∀ d k : Nat, k + d = n → cntB (uncF s) k < cntB (uncF s) n → ∃ j : Nat, k ≤ j ∧ j < n ∧ ¬ s (11 + (j : Int)) = 1 ∧ cntB (uncF s) j = cntB (uncF s) k ∧ lff s SL j = lff s SL k
  | 0, k, hk, h => by rw [show n = k by omega] at h; omega
  | d + 1, k, hk, h => by
    by_cases hc : s (11 + (k : Int)) = 1
    · have h1 := cnt_f (uncF_f hc)
      obtain ⟨j, g1, g2, g3, g4, g5⟩ := next_unc (s := s) (SL := SL) (n := n) d (k + 1) (by omega) (by omega)
      exact ⟨j, by omega, g2, g3, by omega, g5.trans (lff_skip hc)⟩
    · exact ⟨k, Nat.le_refl _, by omega, hc, rfl, rfl⟩
theorem lff_rest {s : Int → Int} {SL : List Int} {n : Nat} : ∀ d k : Nat, k + d = n → cntB (uncF s) n ≤ cntB (uncF s) k → lff s SL n = lff s SL k
  | 0, k, hk, _ => by rw [show n = k by omega]
  | d + 1, k, hk, h => by
    by_cases hc : s (11 + (k : Int)) = 1
    · have h1 := cnt_f (uncF_f hc)
      rw [lff_rest d (k + 1) (by omega) (by omega), lff_skip hc]
    · have h1 := cnt_t (uncF_t hc)
      have h2 := cntB_mono (uncF s) (k := k + 1) d
      rw [show k + 1 + d = n by omega] at h2
      omega
theorem lff_end {s : Int → Int} {SL : List Int} {k : Nat} (hk : (k : Int) ≤ s 43) (h : q_uncut s ≤ cntB (uncF s) k ∨ 4 ≤ cntB (uncF s) k) : lff s SL (s 43).toNat = lff s SL k := by
  rcases h with h | h
  · exact lff_rest ((s 43).toNat - k) k (by omega) h
  · have e := lff_cnt s SL k
    rw [if_neg (by omega)] at e
    exact lff_4 (by omega) (by omega)
theorem unc_rng {s : Int → Int} (hN : NM s) : 0 ≤ q_uncut s ∧ q_uncut s ≤ 8 := by
  have hN9 : 0 ≤ s 43 ∧ s 43 ≤ 8 := hN
  have h := cntB_rng (uncF s) (s 43).toNat
  rw [unc_cnt] at h
  omega
set_option maxHeartbeats 4000000 in
set_option maxRecDepth 100000 in
theorem kc11_gatherUncut (l : Launch) (D : Dx) (A : Nat → Prop) (ad : Nat → Nat) (K : Int → Int) (S Q qa : Nat → Int → Int) (tp : Nat → Nat) (s bo e uc lr nx : Int → Int) (hN : NM s) (hM : GM s) : CT l D A yX11_gatherUncut cX11_gatherUncut 3 (some .int) { frames := 0, cells := 0, slots := 0, locals := 0 } [.ref (ad 0)] (CW D A ad K (uS S 0 s) Q qa tp bo e uc lr nx) (fun u : (Int → Int) => some (vI (q_uncut s))) (fun u => UC s (s 43).toNat u ∧ 0 ≤ q_uncut s ∧ q_uncut s ≤ 8) (fun u => CW D A ad K (uS S 0 s) Q qa tp bo e u lr nx) := by
  refine ct_of (lo0 := [(0, .ref (ad 0))]) (by decide) (Nat.le_of_ble_eq_true rfl) rfl ?_
  intro G hG hR
  have hN9 : 0 ≤ s 43 ∧ s 43 ≤ 8 := hN
  refine v_iconst hG dX11_gatherUncut_0 ?_
  refine v_istore_n (lo' := [(1, vI 0), (0, .ref (ad 0))]) hG dX11_gatherUncut_1 rfl (by decide) rfl ?_
  refine v_iconst hG dX11_gatherUncut_2 ?_
  refine v_istore_n (lo' := [(2, vI 0), (1, vI 0), (0, .ref (ad 0))]) hG dX11_gatherUncut_3 rfl (by decide) rfl ?_
  refine v_lo [2, 1, 0] (lo' := [(0, .ref (ad 0)), (1, vI 0), (2, vI 0)]) rfl ?_
  have L4 : ∀ mz : Nat, ∀ (k : Nat), ((k : Int) ≤ s 43) → (s 43 - (k : Int)).toNat = mz → ∀ x1 : Int, x1 = ((k : Int)) → ∀ x2 : Int, x2 = (cntB (uncF s) k) → ∀ x3 : Int → Int, UC s k x3 → V G 0 0 (CW D A ad K (uS S 0 s) Q qa tp bo e x3 lr nx) 4 [(0, .ref (ad 0)), (1, vI x2), (2, vI x1)] [] := by
    intro dL4
    induction dL4 using Nat.strongRecOn with
    | ind dL4 ihL4 =>
      intro k hq5 hq6
      intro x1 hx1
      subst hx1
      intro x2 hx2
      subst hx2
      intro x3 hx3
      have hcb := cntB_rng (uncF s) k
      refine v_iload_n hG dX11_gatherUncut_4 rfl 2 rfl ?_
      refine v_aload_n hG dX11_gatherUncut_5 rfl 0 rfl ?_
      refine cg11 hG dX11_gatherUncut_6 zf_X11_17 (k := 0) (by decide) (v := .ref (kB ad 0)) rfl ?_
      refine cg0 (by decide) hG dX11_gatherUncut_9 zf_X11_90 (k := 3) (by decide) (v := vI (s 43)) rfl ?_
      refine v_icmp_ge (tgt := 46) hG dX11_gatherUncut_12 (by decide) (by omega) (by omega) (fun c7 => ?_) (fun c7 => ?_)
      · skip
        refine v_iload_n hG dX11_gatherUncut_46 rfl 1 rfl ?_
        have e8 : @Eq Int (q_uncut s) (cntB (uncF s) k) := by rw [show k = (s 43).toNat by omega]; rfl
        exact v_ireturn hG hR dX11_gatherUncut_47 x3 (congrArg (fun z => some (vI z)) e8) (by rw [show (s 43).toNat = k by omega]; exact ⟨(by assumption), unc_rng hN⟩) (fun _ hM => hM)
      · skip
        refine v_aload_n hG dX11_gatherUncut_15 rfl 0 rfl ?_
        refine cg11 hG dX11_gatherUncut_16 zf_X11_17 (k := 0) (by decide) (v := .ref (kB ad 0)) rfl ?_
        refine cg0 (by decide) hG dX11_gatherUncut_19 zf_X11_91 (k := 6) (by decide) (v := .ref (kA ad 0)) rfl ?_
        refine v_iload_n hG dX11_gatherUncut_22 rfl 2 rfl ?_
        refine ca_M (x := (k : Int)) (by decide) (by omega) hG dX11_gatherUncut_23 ?_
        refine cgM (by decide) (by omega) (by omega) hG dX11_gatherUncut_24 zf_X11_117 (k := 5) (by decide) (v := vI (bi (s (11 + (k : Int)) = 1))) (congrArg (fun z => some (vI z)) ((bi01 (by first | assumption | exact (hM _ (by omega) (by omega)).2.2.2.2.1)))) ?_
        refine v_ifb_ne (p := s (11 + (k : Int)) = 1) (tgt := 40) hG dX11_gatherUncut_27 (by decide) (fun c9 => ?_) (fun c9 => ?_)
        · skip
          refine v_iinc (lo' := [(2, vI ((k : Int) + 1)), (0, .ref (ad 0)), (1, vI (cntB (uncF s) k))]) hG dX11_gatherUncut_40 2 rfl (by decide) rfl ?_
          refine v_goto (tgt := 4) hG dX11_gatherUncut_43 (by decide) ?_
          refine v_lo [1, 2, 0] (lo' := [(0, .ref (ad 0)), (1, vI (cntB (uncF s) k)), (2, vI ((k : Int) + 1))]) rfl ?_
          exact ihL4 _ (by omega) (k + 1) (by omega) rfl _ (by first | omega | rfl | (simp [c7, c9]; done)) _ (by first | exact cnt_t (uncF_t (by assumption)) | (have hq := cnt_f (uncF_f (s := s) (k := k) (by assumption)); omega)) _ (by first | exact UC_y (by assumption) (by assumption) | exact UC_n (by assumption) (by assumption))
        · skip
          refine v_aload_n hG dX11_gatherUncut_30 rfl 0 rfl ?_
          refine cg11 hG dX11_gatherUncut_31 zf_X11_40 (k := 5) (by decide) (v := .ref (ad 4)) rfl ?_
          refine v_iload_n hG dX11_gatherUncut_34 rfl 1 rfl ?_
          refine v_iload_n hG dX11_gatherUncut_35 rfl 2 rfl ?_
          refine cs_uc hG dX11_gatherUncut_36 (by omega) ?_
          refine v_iinc (lo' := [(1, vI ((cntB (uncF s) k) + 1)), (0, .ref (ad 0)), (2, vI (k : Int))]) hG dX11_gatherUncut_37 1 rfl (by decide) rfl ?_
          refine v_iinc (lo' := [(2, vI ((k : Int) + 1)), (1, vI ((cntB (uncF s) k) + 1)), (0, .ref (ad 0))]) hG dX11_gatherUncut_40 2 rfl (by decide) rfl ?_
          refine v_goto (tgt := 4) hG dX11_gatherUncut_43 (by decide) ?_
          refine v_lo [2, 1, 0] (lo' := [(0, .ref (ad 0)), (1, vI ((cntB (uncF s) k) + 1)), (2, vI ((k : Int) + 1))]) rfl ?_
          exact ihL4 _ (by omega) (k + 1) (by omega) rfl _ (by first | omega | rfl | (simp [c7, c9]; done)) _ (by first | exact cnt_t (uncF_t (by assumption)) | (have hq := cnt_f (uncF_f (s := s) (k := k) (by assumption)); omega)) _ (by first | exact UC_y (by assumption) (by assumption) | exact UC_n (by assumption) (by assumption))
  exact L4 _ 0 (by omega) rfl _ (by first | omega | rfl | (simp []; done)) _ (by rfl) _ (by exact UC_0)
set_option maxHeartbeats 4000000 in
set_option maxRecDepth 100000 in
theorem kc11_flaws (l : Launch) (D : Dx) (A : Nat → Prop) (ad : Nat → Nat) (K : Int → Int) (S Q qa : Nat → Int → Int) (tp : Nat → Nat) (s bo e uc lr nx : Int → Int) (t : Int) (hrt : -2147483648 ≤ t ∧ t < 2147483648) (SL : List Int) (hN : NM s) (hM : GM s) (hP : PL s) (hCH : CHP Q qa s SL) (hT : TI s) : CT l D A yX11_flaws cX11_flaws 8 (some .long) { frames := 4, cells := 0, slots := 0, locals := 99 } [.ref (ad 0), vI t] (CW D A ad K (uS S 0 s) Q qa tp bo e uc lr nx) (fun u : (Int → Int) => some (vL (a_flaws s SL t))) (fun _ => True) (fun u => CW D A ad K (uS S 0 s) Q qa tp bo e u lr nx) := by
  refine ct_of (lo0 := [(0, .ref (ad 0)), (1, vI t)]) (by decide) (Nat.le_of_ble_eq_true rfl) rfl ?_
  intro G hG hR
  have hN9 : 0 ≤ s 43 ∧ s 43 ≤ 8 := hN
  obtain ⟨hhc, hpls, hwe, hmd⟩ := id hCH
  have hwr := q_wear_rng hP
  have hT2 : 0 ≤ s 2 ∧ s 2 ≤ 99 := hT
  refine v_aload_n hG dX11_flaws_0 rfl 0 rfl ?_
  refine v_callV (k1' := 0) (k2' := 0) hG dX11_flaws_1 zc_X11_gatherUncut ⟨zl_X11_196, zi_X11_gatherUncut, zs_X11_gatherUncut⟩ (fun l => kc11_gatherUncut l D A ad K S Q qa tp s bo e uc lr nx (by assumption) (by assumption)) rfl cR11 (fun _ h => h) ⟨by decide, by decide⟩ rfl rfl ⟨by decide, by decide⟩ (rest := []) rfl (Nat.le_of_ble_eq_true rfl) (fun u1 => [vI (q_uncut s)]) (fun _ => rfl) (fun u1 hu1 => ?_)
  have fu1 : UC s (s 43).toNat u1 ∧ 0 ≤ q_uncut s ∧ q_uncut s ≤ 8 := hu1
  obtain ⟨hUC, huc0, huc8⟩ := fu1
  refine v_iconst hG dX11_flaws_4 ?_
  refine v_mmin hG dX11_flaws_5 zl_X11_205 (by decide) ⟨Nat.le_refl _, Nat.le_refl _⟩ (Nat.le_of_ble_eq_true rfl) (by omega) (by omega) ?_
  generalize hv2 : (if 4 < (q_uncut s) then 4 else (q_uncut s)) = v2
  have bv2 : (v2 = q_uncut s ∨ v2 = 4) ∧ v2 ≤ q_uncut s ∧ v2 ≤ 4 := by rw [← hv2]; (repeat' split) <;> omega
  refine v_istore_n (lo' := [(2, vI v2), (0, .ref (ad 0)), (1, vI t)]) hG dX11_flaws_8 rfl (by decide) rfl ?_
  refine v_aload_n hG dX11_flaws_9 rfl 1 rfl ?_
  refine cg11 hG dX11_flaws_10 zf_X11_17 (k := 0) (by decide) (v := .ref (kB ad 0)) rfl ?_
  refine cg0 (by decide) hG dX11_flaws_13 zf_X11_130 (k := 2) (by decide) (v := vI (s 2)) rfl ?_
  refine v_istore_n (lo' := [(3, vI (s 2)), (2, vI v2), (0, .ref (ad 0)), (1, vI t)]) hG dX11_flaws_16 rfl (by decide) rfl ?_
  refine v_lconst0 hG dX11_flaws_17 ?_
  refine v_lstore (lo' := [(4, vL 0), (3, vI (s 2)), (2, vI v2), (0, .ref (ad 0)), (1, vI t)]) hG dX11_flaws_18 (by decide) rfl ?_
  refine v_iconst hG dX11_flaws_20 ?_
  refine v_istore (lo' := [(6, vI 0), (4, vL 0), (3, vI (s 2)), (2, vI v2), (0, .ref (ad 0)), (1, vI t)]) hG dX11_flaws_21 (by decide) rfl ?_
  refine v_lo [4, 5, 3, 2, 1, 0] (lo' := [(0, .ref (ad 0)), (1, vI t), (2, vI v2), (3, vI (s 2)), (4, vL 0), (6, vI 0)]) rfl ?_
  have L6 : ∀ mz : Nat, ∀ (k : Nat), ((k : Int) ≤ s 43) → (s 43 - (k : Int)).toNat = mz → ∀ x3 : Int, x3 = (cntB (uncF s) k) → ∀ x4 : Int, x4 = ((lff s SL k).1) → ∀ x5 : Int, x5 = ((lff s SL k).2.1) → V G 0 0 (CW D A ad K (uS S 0 s) Q qa tp bo e u1 lr nx) 23 [(0, .ref (ad 0)), (1, vI t), (2, vI v2), (3, vI x4), (4, vL x5), (6, vI x3)] [] := by
    intro dL6
    induction dL6 using Nat.strongRecOn with
    | ind dL6 ihL6 =>
      intro k hq7 hq8
      intro x3 hx3
      subst hx3
      intro x4 hx4
      subst hx4
      intro x5 hx5
      subst hx5
      have hcb := cntB_rng (uncF s) k
      have hro := lff_rng (SL := SL) hT k
      obtain ⟨hr1, hr2, hr3, hr4, hr5, -⟩ := id hro
      refine v_iload hG dX11_flaws_23 5 rfl ?_
      refine v_iload_n hG dX11_flaws_25 rfl 2 rfl ?_
      refine v_icmp_ge (tgt := 78) hG dX11_flaws_26 (by decide) (by omega) (by omega) (fun c9 => ?_) (fun c9 => ?_)
      · skip
        refine v_lload hG dX11_flaws_78 4 rfl ?_
        refine v_ldc2 (n := 100) hG dX11_flaws_80 (ztb 793 (by decide +kernel) (by decide +kernel)) rfl ?_
        refine v_iload_n hG dX11_flaws_83 rfl 1 rfl ?_
        refine v_callS (k1' := 0) (k2' := 0) hG dX11_flaws_84 zc_X11_fraction ⟨zl_X11_215, zt_X11_fraction⟩ (fun l => kc11_fraction l D A (CW D A ad K (uS S 0 s) Q qa tp bo e u1 lr nx) ((lff s SL k).2.1) 100 t (by omega) (by omega) (by omega)) rfl (fun _ h => h) ⟨by decide, by decide⟩ rfl rfl ⟨by decide, by decide⟩ (rest := []) rfl (Nat.le_of_ble_eq_true rfl) (fun u10 => [vL (if 0 ≤ t ∧ t ≤ 1 then (if 100 = 0 then -9223372036854775808 else q_low ((lff s SL k).2.1) 100 t) else -9223372036854775808)]) (fun _ => rfl) (fun u10 hu10 => ?_)
        have e11 : @Eq Int (a_flaws s SL t) (if 0 ≤ t ∧ t ≤ 1 then (if 100 = 0 then -9223372036854775808 else q_low ((lff s SL k).2.1) 100 t) else -9223372036854775808) := by unfold a_flaws; rw [lff_end (k := k) (by omega) (by omega)]; (repeat' split) <;> first | rfl | (exfalso; omega)
        exact v_lreturn hG hR dX11_flaws_87 u1 (congrArg (fun z => some (vL z)) e11) (by trivial) (fun _ hM => hM)
      · skip
        obtain ⟨j, hkj, hj, hju, hjr, hjl⟩ := next_unc (s := s) (SL := SL) (n := (s 43).toNat) ((s 43).toNat - k) k (by omega) (by rw [unc_cnt]; omega)
        have hjq : u1 (cntB (uncF s) k) = (j : Int) := by rw [← hjr]; exact hUC j hj hju
        have hjt := cnt_t (uncF_t hju)
        have hjs := lff_y (SL := SL) (k := k) (by omega) hju hjl
        refine v_aload_n hG dX11_flaws_29 rfl 0 rfl ?_
        refine cg11 hG dX11_flaws_30 zf_X11_17 (k := 0) (by decide) (v := .ref (kB ad 0)) rfl ?_
        refine cg0 (by decide) hG dX11_flaws_33 zf_X11_91 (k := 6) (by decide) (v := .ref (kA ad 0)) rfl ?_
        refine v_aload_n hG dX11_flaws_36 rfl 0 rfl ?_
        refine cg11 hG dX11_flaws_37 zf_X11_40 (k := 5) (by decide) (v := .ref (ad 4)) rfl ?_
        refine v_iload hG dX11_flaws_40 5 rfl ?_
        refine ca_uc hG dX11_flaws_42 (by omega) rfl ?_
        rw [hjq]
        have hm := hM (j : Int) (by omega) (by omega)
        refine ca_M (x := (j : Int)) (by decide) (by omega) hG dX11_flaws_43 ?_
        refine v_astore (lo' := [(7, .ref (kM ad 0 (j : Int))), (0, .ref (ad 0)), (1, vI t), (2, vI v2), (3, vI ((lff s SL k).1)), (4, vL ((lff s SL k).2.1)), (6, vI (cntB (uncF s) k))]) hG dX11_flaws_44 (by decide) rfl ?_
        refine v_lload hG dX11_flaws_46 5 rfl ?_
        refine v_aload_n hG dX11_flaws_48 rfl 1 rfl ?_
        refine cg11 hG dX11_flaws_49 zf_X11_17 (k := 0) (by decide) (v := .ref (kB ad 0)) rfl ?_
        refine cg0 (by decide) hG dX11_flaws_52 zf_X11_86 (k := 5) (by decide) (v := .ref (kP ad (hc s))) rfl ?_
        refine v_aload hG dX11_flaws_55 0 rfl ?_
        refine v_iload_n hG dX11_flaws_57 rfl 4 rfl ?_
        refine v_callV (k1' := 0) (k2' := 0) hG dX11_flaws_58 zc_X6_riskOf ⟨zl_X11_133, zi_X6_riskOf, zs_X6_riskOf⟩ (fun l => kc6_riskOf l D A ad K S Q qa tp s bo e u1 lr nx 0 (by decide) (hc s) (j : Int) ((lff s SL k).1) SL (by first | assumption | omega) (by omega) (by first | assumption | omega) (by first | assumption | exact hM _ (by omega) (by omega)) (by omega) (by assumption)) rfl (cR6 (by assumption)) (fun _ h => h) ⟨by decide, by decide⟩ rfl rfl ⟨by decide, by decide⟩ (rest := [vL ((lff s SL k).2.1)]) rfl (Nat.le_of_ble_eq_true rfl) (fun u12 => [vI (q_risk s SL (j : Int) ((lff s SL k).1)), vL ((lff s SL k).2.1)]) (fun _ => rfl) (fun u12 hu12 => ?_)
        have fu12 : 0 ≤ q_risk s SL (j : Int) ((lff s SL k).1) ∧ q_risk s SL (j : Int) ((lff s SL k).1) ≤ 99 := hu12
        refine v_i2l hG dX11_flaws_61 (by omega) ?_
        refine v_ladd hG dX11_flaws_62 ?_
        refine v_lstore (lo' := [(4, vL (((lff s SL k).2.1) + (q_risk s SL (j : Int) ((lff s SL k).1)))), (7, .ref (kM ad 0 (j : Int))), (0, .ref (ad 0)), (1, vI t), (2, vI v2), (3, vI ((lff s SL k).1)), (6, vI (cntB (uncF s) k))]) hG dX11_flaws_63 (by decide) rfl ?_
        refine v_aload hG dX11_flaws_65 1 rfl ?_
        refine v_iload_n hG dX11_flaws_67 rfl 5 rfl ?_
        refine cv_tiredBehindCut (by decide) (by omega) (by omega) (by first | assumption | exact hM _ (by omega) (by omega)) (by omega) hG dX11_flaws_68 zl_X11_210 ⟨by decide, by decide⟩ (Nat.le_of_ble_eq_true rfl) ?_
        refine v_istore_n (lo' := [(3, vI (clamp (((lff s SL k).1) + q_needs s (j : Int) / 2) 0 99)), (4, vL (((lff s SL k).2.1) + (q_risk s SL (j : Int) ((lff s SL k).1)))), (7, .ref (kM ad 0 (j : Int))), (0, .ref (ad 0)), (1, vI t), (2, vI v2), (6, vI (cntB (uncF s) k))]) hG dX11_flaws_71 rfl (by decide) rfl ?_
        refine v_iinc (lo' := [(6, vI ((cntB (uncF s) k) + 1)), (3, vI (clamp (((lff s SL k).1) + q_needs s (j : Int) / 2) 0 99)), (4, vL (((lff s SL k).2.1) + (q_risk s SL (j : Int) ((lff s SL k).1)))), (7, .ref (kM ad 0 (j : Int))), (0, .ref (ad 0)), (1, vI t), (2, vI v2)]) hG dX11_flaws_72 6 rfl (by decide) rfl ?_
        refine v_goto (tgt := 23) hG dX11_flaws_75 (by decide) ?_
        refine v_lo [4, 5, 6, 1, 2, 0] (lo' := [(0, .ref (ad 0)), (1, vI t), (2, vI v2), (3, vI (clamp (((lff s SL k).1) + q_needs s (j : Int) / 2) 0 99)), (4, vL (((lff s SL k).2.1) + (q_risk s SL (j : Int) ((lff s SL k).1)))), (6, vI ((cntB (uncF s) k) + 1))]) rfl ?_
        exact ihL6 _ (by omega) (j + 1) (by omega) rfl _ (by omega) _ (by rw [hjs]) _ (by rw [hjs])
  exact L6 _ 0 (by omega) rfl _ (by rfl) _ (by rfl) _ (by rfl)
set_option maxHeartbeats 4000000 in
set_option maxRecDepth 100000 in
theorem kc11_clean (l : Launch) (D : Dx) (A : Nat → Prop) (ad : Nat → Nat) (K : Int → Int) (S Q qa : Nat → Int → Int) (tp : Nat → Nat) (s bo e uc lr nx : Int → Int) (t : Int) (hrt : -2147483648 ≤ t ∧ t < 2147483648) (SL : List Int) (hN : NM s) (hM : GM s) (hP : PL s) (hCH : CHP Q qa s SL) (hT : TI s) : CT l D A yX11_clean cX11_clean 10 (some .long) { frames := 4, cells := 0, slots := 0, locals := 99 } [.ref (ad 0), vI t] (CW D A ad K (uS S 0 s) Q qa tp bo e uc lr nx) (fun u : (Int → Int) => some (vL (a_clean s SL t))) (fun _ => True) (fun u => CW D A ad K (uS S 0 s) Q qa tp bo e u lr nx) := by
  refine ct_of (lo0 := [(0, .ref (ad 0)), (1, vI t)]) (by decide) (Nat.le_of_ble_eq_true rfl) rfl ?_
  intro G hG hR
  have hN9 : 0 ≤ s 43 ∧ s 43 ≤ 8 := hN
  obtain ⟨hhc, hpls, hwe, hmd⟩ := id hCH
  have hwr := q_wear_rng hP
  have hT2 : 0 ≤ s 2 ∧ s 2 ≤ 99 := hT
  refine v_aload_n hG dX11_clean_0 rfl 0 rfl ?_
  refine v_callV (k1' := 0) (k2' := 0) hG dX11_clean_1 zc_X11_gatherUncut ⟨zl_X11_196, zi_X11_gatherUncut, zs_X11_gatherUncut⟩ (fun l => kc11_gatherUncut l D A ad K S Q qa tp s bo e uc lr nx (by assumption) (by assumption)) rfl cR11 (fun _ h => h) ⟨by decide, by decide⟩ rfl rfl ⟨by decide, by decide⟩ (rest := []) rfl (Nat.le_of_ble_eq_true rfl) (fun u1 => [vI (q_uncut s)]) (fun _ => rfl) (fun u1 hu1 => ?_)
  have fu1 : UC s (s 43).toNat u1 ∧ 0 ≤ q_uncut s ∧ q_uncut s ≤ 8 := hu1
  obtain ⟨hUC, huc0, huc8⟩ := fu1
  refine v_iconst hG dX11_clean_4 ?_
  refine v_mmin hG dX11_clean_5 zl_X11_205 (by decide) ⟨Nat.le_refl _, Nat.le_refl _⟩ (Nat.le_of_ble_eq_true rfl) (by omega) (by omega) ?_
  generalize hv2 : (if 4 < (q_uncut s) then 4 else (q_uncut s)) = v2
  have bv2 : (v2 = q_uncut s ∨ v2 = 4) ∧ v2 ≤ q_uncut s ∧ v2 ≤ 4 := by rw [← hv2]; (repeat' split) <;> omega
  refine v_istore_n (lo' := [(2, vI v2), (0, .ref (ad 0)), (1, vI t)]) hG dX11_clean_8 rfl (by decide) rfl ?_
  refine v_aload_n hG dX11_clean_9 rfl 1 rfl ?_
  refine cg11 hG dX11_clean_10 zf_X11_17 (k := 0) (by decide) (v := .ref (kB ad 0)) rfl ?_
  refine cg0 (by decide) hG dX11_clean_13 zf_X11_130 (k := 2) (by decide) (v := vI (s 2)) rfl ?_
  refine v_istore_n (lo' := [(3, vI (s 2)), (2, vI v2), (0, .ref (ad 0)), (1, vI t)]) hG dX11_clean_16 rfl (by decide) rfl ?_
  refine v_lconst1 hG dX11_clean_17 ?_
  refine v_lstore (lo' := [(4, vL 1), (3, vI (s 2)), (2, vI v2), (0, .ref (ad 0)), (1, vI t)]) hG dX11_clean_18 (by decide) rfl ?_
  refine v_lconst1 hG dX11_clean_20 ?_
  refine v_lstore (lo' := [(6, vL 1), (4, vL 1), (3, vI (s 2)), (2, vI v2), (0, .ref (ad 0)), (1, vI t)]) hG dX11_clean_21 (by decide) rfl ?_
  refine v_iconst hG dX11_clean_23 ?_
  refine v_istore (lo' := [(8, vI 0), (6, vL 1), (4, vL 1), (3, vI (s 2)), (2, vI v2), (0, .ref (ad 0)), (1, vI t)]) hG dX11_clean_24 (by decide) rfl ?_
  refine v_lo [5, 6, 4, 3, 2, 1, 0] (lo' := [(0, .ref (ad 0)), (1, vI t), (2, vI v2), (3, vI (s 2)), (4, vL 1), (6, vL 1), (8, vI 0)]) rfl ?_
  have L7 : ∀ mz : Nat, ∀ (k : Nat), ((k : Int) ≤ s 43) → (s 43 - (k : Int)).toNat = mz → ∀ x3 : Int, x3 = (cntB (uncF s) k) → ∀ x4 : Int, x4 = ((lff s SL k).1) → ∀ x5 : Int, x5 = ((lff s SL k).2.2.1) → ∀ x6 : Int, x6 = ((lff s SL k).2.2.2.1) → V G 0 0 (CW D A ad K (uS S 0 s) Q qa tp bo e u1 lr nx) 26 [(0, .ref (ad 0)), (1, vI t), (2, vI v2), (3, vI x4), (4, vL x5), (6, vL x6), (8, vI x3)] [] := by
    intro dL7
    induction dL7 using Nat.strongRecOn with
    | ind dL7 ihL7 =>
      intro k hq8 hq9
      intro x3 hx3
      subst hx3
      intro x4 hx4
      subst hx4
      intro x5 hx5
      subst hx5
      intro x6 hx6
      subst hx6
      have hcb := cntB_rng (uncF s) k
      have hro := lff_rng (SL := SL) hT k
      obtain ⟨hr1, hr2, hr3, hr4, hr5, -⟩ := id hro
      refine v_iload hG dX11_clean_26 6 rfl ?_
      refine v_iload_n hG dX11_clean_28 rfl 2 rfl ?_
      refine v_icmp_ge (tgt := 92) hG dX11_clean_29 (by decide) (by omega) (by omega) (fun c10 => ?_) (fun c10 => ?_)
      · skip
        refine v_lload hG dX11_clean_92 4 rfl ?_
        refine v_lload hG dX11_clean_94 5 rfl ?_
        refine v_iload_n hG dX11_clean_96 rfl 1 rfl ?_
        refine v_callS (k1' := 0) (k2' := 0) hG dX11_clean_97 zc_X11_fraction ⟨zl_X11_215, zt_X11_fraction⟩ (fun l => kc11_fraction l D A (CW D A ad K (uS S 0 s) Q qa tp bo e u1 lr nx) ((lff s SL k).2.2.1) ((lff s SL k).2.2.2.1) t (by omega) (by omega) (by omega)) rfl (fun _ h => h) ⟨by decide, by decide⟩ rfl rfl ⟨by decide, by decide⟩ (rest := []) rfl (Nat.le_of_ble_eq_true rfl) (fun u11 => [vL (if 0 ≤ t ∧ t ≤ 1 then (if ((lff s SL k).2.2.2.1) = 0 then -9223372036854775808 else q_low ((lff s SL k).2.2.1) ((lff s SL k).2.2.2.1) t) else -9223372036854775808)]) (fun _ => rfl) (fun u11 hu11 => ?_)
        have e12 : @Eq Int (a_clean s SL t) (if 0 ≤ t ∧ t ≤ 1 then (if ((lff s SL k).2.2.2.1) = 0 then -9223372036854775808 else q_low ((lff s SL k).2.2.1) ((lff s SL k).2.2.2.1) t) else -9223372036854775808) := by unfold a_clean; rw [lff_end (k := k) (by omega) (by omega)]; (repeat' split) <;> first | rfl | (exfalso; omega)
        exact v_lreturn hG hR dX11_clean_100 u1 (congrArg (fun z => some (vL z)) e12) (by trivial) (fun _ hM => hM)
      · skip
        obtain ⟨j, hkj, hj, hju, hjr, hjl⟩ := next_unc (s := s) (SL := SL) (n := (s 43).toNat) ((s 43).toNat - k) k (by omega) (by rw [unc_cnt]; omega)
        have hjq : u1 (cntB (uncF s) k) = (j : Int) := by rw [← hjr]; exact hUC j hj hju
        have hjt := cnt_t (uncF_t hju)
        have hjs := lff_y (SL := SL) (k := k) (by omega) hju hjl
        refine v_aload_n hG dX11_clean_32 rfl 0 rfl ?_
        refine cg11 hG dX11_clean_33 zf_X11_17 (k := 0) (by decide) (v := .ref (kB ad 0)) rfl ?_
        refine cg0 (by decide) hG dX11_clean_36 zf_X11_91 (k := 6) (by decide) (v := .ref (kA ad 0)) rfl ?_
        refine v_aload_n hG dX11_clean_39 rfl 0 rfl ?_
        refine cg11 hG dX11_clean_40 zf_X11_40 (k := 5) (by decide) (v := .ref (ad 4)) rfl ?_
        refine v_iload hG dX11_clean_43 6 rfl ?_
        refine ca_uc hG dX11_clean_45 (by omega) rfl ?_
        rw [hjq]
        have hm := hM (j : Int) (by omega) (by omega)
        refine ca_M (x := (j : Int)) (by decide) (by omega) hG dX11_clean_46 ?_
        refine v_astore (lo' := [(9, .ref (kM ad 0 (j : Int))), (0, .ref (ad 0)), (1, vI t), (2, vI v2), (3, vI ((lff s SL k).1)), (4, vL ((lff s SL k).2.2.1)), (6, vL ((lff s SL k).2.2.2.1)), (8, vI (cntB (uncF s) k))]) hG dX11_clean_47 (by decide) rfl ?_
        refine v_lload hG dX11_clean_49 5 rfl ?_
        refine v_bipush hG dX11_clean_51 (by decide) ?_
        refine v_aload_n hG dX11_clean_53 rfl 1 rfl ?_
        refine cg11 hG dX11_clean_54 zf_X11_17 (k := 0) (by decide) (v := .ref (kB ad 0)) rfl ?_
        refine cg0 (by decide) hG dX11_clean_57 zf_X11_86 (k := 5) (by decide) (v := .ref (kP ad (hc s))) rfl ?_
        refine v_aload hG dX11_clean_60 0 rfl ?_
        refine v_iload_n hG dX11_clean_62 rfl 4 rfl ?_
        refine v_callV (k1' := 0) (k2' := 0) hG dX11_clean_63 zc_X6_riskOf ⟨zl_X11_133, zi_X6_riskOf, zs_X6_riskOf⟩ (fun l => kc6_riskOf l D A ad K S Q qa tp s bo e u1 lr nx 0 (by decide) (hc s) (j : Int) ((lff s SL k).1) SL (by first | assumption | omega) (by omega) (by first | assumption | omega) (by first | assumption | exact hM _ (by omega) (by omega)) (by omega) (by assumption)) rfl (cR6 (by assumption)) (fun _ h => h) ⟨by decide, by decide⟩ rfl rfl ⟨by decide, by decide⟩ (rest := [vI 100, vL ((lff s SL k).2.2.1)]) rfl (Nat.le_of_ble_eq_true rfl) (fun u13 => [vI (q_risk s SL (j : Int) ((lff s SL k).1)), vI 100, vL ((lff s SL k).2.2.1)]) (fun _ => rfl) (fun u13 hu13 => ?_)
        have fu13 : 0 ≤ q_risk s SL (j : Int) ((lff s SL k).1) ∧ q_risk s SL (j : Int) ((lff s SL k).1) ≤ 99 := hu13
        refine v_isub hG dX11_clean_66 ?_
        refine v_i2l hG dX11_clean_67 (by omega) ?_
        refine v_lmul hG dX11_clean_68 ?_
        refine v_lstore (lo' := [(4, vL (((lff s SL k).2.2.1) * (100 - (q_risk s SL (j : Int) ((lff s SL k).1))))), (9, .ref (kM ad 0 (j : Int))), (0, .ref (ad 0)), (1, vI t), (2, vI v2), (3, vI ((lff s SL k).1)), (6, vL ((lff s SL k).2.2.2.1)), (8, vI (cntB (uncF s) k))]) hG dX11_clean_69 (by decide) rfl ?_
        refine v_lload hG dX11_clean_71 6 rfl ?_
        refine v_ldc2 (n := 100) hG dX11_clean_73 (ztb 793 (by decide +kernel) (by decide +kernel)) rfl ?_
        refine v_lmul hG dX11_clean_76 ?_
        refine v_lstore (lo' := [(6, vL (((lff s SL k).2.2.2.1) * 100)), (4, vL (((lff s SL k).2.2.1) * (100 - (q_risk s SL (j : Int) ((lff s SL k).1))))), (9, .ref (kM ad 0 (j : Int))), (0, .ref (ad 0)), (1, vI t), (2, vI v2), (3, vI ((lff s SL k).1)), (8, vI (cntB (uncF s) k))]) hG dX11_clean_77 (by decide) rfl ?_
        refine v_aload hG dX11_clean_79 2 rfl ?_
        refine v_iload_n hG dX11_clean_81 rfl 6 rfl ?_
        refine cv_tiredBehindCut (by decide) (by omega) (by omega) (by first | assumption | exact hM _ (by omega) (by omega)) (by omega) hG dX11_clean_82 zl_X11_210 ⟨by decide, by decide⟩ (Nat.le_of_ble_eq_true rfl) ?_
        refine v_istore_n (lo' := [(3, vI (clamp (((lff s SL k).1) + q_needs s (j : Int) / 2) 0 99)), (6, vL (((lff s SL k).2.2.2.1) * 100)), (4, vL (((lff s SL k).2.2.1) * (100 - (q_risk s SL (j : Int) ((lff s SL k).1))))), (9, .ref (kM ad 0 (j : Int))), (0, .ref (ad 0)), (1, vI t), (2, vI v2), (8, vI (cntB (uncF s) k))]) hG dX11_clean_85 rfl (by decide) rfl ?_
        refine v_iinc (lo' := [(8, vI ((cntB (uncF s) k) + 1)), (3, vI (clamp (((lff s SL k).1) + q_needs s (j : Int) / 2) 0 99)), (6, vL (((lff s SL k).2.2.2.1) * 100)), (4, vL (((lff s SL k).2.2.1) * (100 - (q_risk s SL (j : Int) ((lff s SL k).1))))), (9, .ref (kM ad 0 (j : Int))), (0, .ref (ad 0)), (1, vI t), (2, vI v2)]) hG dX11_clean_86 7 rfl (by decide) rfl ?_
        refine v_goto (tgt := 26) hG dX11_clean_89 (by decide) ?_
        refine v_lo [5, 6, 7, 1, 3, 2, 0] (lo' := [(0, .ref (ad 0)), (1, vI t), (2, vI v2), (3, vI (clamp (((lff s SL k).1) + q_needs s (j : Int) / 2) 0 99)), (4, vL (((lff s SL k).2.2.1) * (100 - (q_risk s SL (j : Int) ((lff s SL k).1))))), (6, vL (((lff s SL k).2.2.2.1) * 100)), (8, vI ((cntB (uncF s) k) + 1))]) rfl ?_
        exact ihL7 _ (by omega) (j + 1) (by omega) rfl _ (by omega) _ (by rw [hjs]) _ (by rw [hjs]) _ (by rw [hjs])
  exact L7 _ 0 (by omega) rfl _ (by rfl) _ (by rfl) _ (by rfl) _ (by rfl)
