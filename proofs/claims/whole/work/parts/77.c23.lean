/-! THE CLASS: reading a tape, what is asked -/
/-- a code kept -/
def KP (q w : Int → Int) (code : Int) (q1 w1 : Int → Int) : Prop := (∀ k : Int, k ≠ 1 → q1 k = q k) ∧ (0 ≤ q1 1 ∧ q1 1 ≤ 100) ∧ (q 1 < 100 → q1 1 = q 1 + 1 ∧ (∀ j : Int, j ≠ q 1 → w1 j = w j) ∧ w1 (q 1) = code)
/-- what was read as r, written behind what was there -/
def EM (q w : Int → Int) (r : R3) (q1 w1 : Int → Int) : Prop := (∀ k : Int, k ≠ 1 → k ≠ 3 → q1 k = q k) ∧ q1 3 = (r.1 : Int) ∧ (0 ≤ q1 1 ∧ q1 1 ≤ 100) ∧ (r.2.1 = true → q1 1 = q 1 + (r.2.2.length : Int) ∧ (∀ j : Int, 0 ≤ j → j < q 1 → w1 j = w j) ∧ ∀ i : Nat, i < r.2.2.length → w1 (q 1 + (i : Int)) = cvO (r.2.2.getD i 0))
theorem EM_fail {q w q1 w1 : Int → Int} {r : R3} (h1 : ∀ k : Int, k ≠ 1 → k ≠ 3 → q1 k = q k) (h2 : q1 3 = (r.1 : Int)) (h3 : 0 ≤ q1 1 ∧ q1 1 ≤ 100) (h4 : r.2.1 = false) : EM q w r q1 w1 := ⟨h1, h2, h3, fun h => by rw [h4] at h; exact Bool.noConfusion h⟩
theorem EM_fail3 {q w w1 : Int → Int} {r : R3} {x : Int} (hx : x = (r.1 : Int)) (hk : 0 ≤ q 1 ∧ q 1 ≤ 100) (h4 : r.2.1 = false) : EM q w r (sU q 3 x) w1 := EM_fail (fun k _ h => sU_ne h) (by rw [sU_eq]; exact hx) (by rw [sU_ne (by omega)]; exact hk) h4
theorem KP_y {q w : Int → Int} {code : Int} (h : ¬ 100 ≤ q 1) (hk : 0 ≤ q 1 ∧ q 1 ≤ 100) : KP q w code (sU q 1 (q 1 + 1)) (sU w (q 1) code) := ⟨fun k hk => sU_ne hk, by rw [sU_eq]; omega, fun _ => ⟨sU_eq, fun j hj => sU_ne hj, sU_eq⟩⟩
theorem KP_n {q w : Int → Int} {code : Int} (h : 100 ≤ q 1) (hk : 0 ≤ q 1 ∧ q 1 ≤ 100) : KP q w code q w := ⟨fun k _ => rfl, hk, fun g => by omega⟩
theorem z1_no : zix 1 33 = -1 ∧ zix 1 40 = -1 := by decide +kernel
theorem fac_0 (c : Nat → Int) (p : Nat) : facF c 0 p = atomF c p := by
  show (if c p = 33 ∨ c p = 40 then (p, false, []) else atomF c p) = atomF c p
  by_cases h : c p = 33 ∨ c p = 40
  · rw [if_pos h]
    unfold atomF
    rw [if_pos (by rcases h with h | h <;> rw [h]; exact z1_no.1; exact z1_no.2)]
  · rw [if_neg h]
theorem atom_1 {c : Nat → Int} {p : Nat} (h : zix 1 (c p) = -1) : atomF c p = (p, false, []) := if_pos h
theorem atom_2 {c : Nat → Int} {p : Nat} (h : ¬ zix 1 (c p) = -1) (h2 : zix 2 (c (p + 1)) = -1) : atomF c p = (p + 1, false, []) := by
  unfold atomF
  rw [if_neg h, if_pos h2]
theorem atom_3 {c : Nat → Int} {p : Nat} (h : ¬ zix 1 (c p) = -1) (h2 : ¬ zix 2 (c (p + 1)) = -1) : atomF c p = ((figF c (p + 2, true)).1.1, (figF c (p + 2, true)).1.2, if (figF c (p + 2, true)).1.2 = true then [zix 1 (c p) + 8 * zix 2 (c (p + 1)) + 32 * (figF c (p + 2, true)).2] else []) := by
  unfold atomF
  rw [if_neg h, if_neg h2]
theorem zn_12 : zn 1 = 6 ∧ zn 2 = 3 := by decide +kernel
theorem fig_0 {c : Nat → Int} {p : Nat} (h : (figF c (p, true)).1.2 = true) : 0 ≤ (figF c (p, true)).2 := by
  unfold figF at h ⊢
  by_cases h0 : isDp (c p)
  · have h48 : 48 ≤ c p := h0.1
    rw [if_pos ⟨rfl, h0⟩]
    by_cases h1 : isDp (c (p + 1)) ∧ 0 < c p - 48
    · have h49 : 48 ≤ c (p + 1) := h1.1.1
      rw [if_pos h1]
      show 0 ≤ 10 * (c p - 48) + c (p + 1) - 48
      omega
    · rw [if_neg h1]
      show 0 ≤ c p - 48
      omega
  · rw [if_neg (fun q => h0 q.2)] at h
    exact Bool.noConfusion h
theorem cv_atom {a b n : Int} (ha : 0 ≤ a ∧ a < 6) (hb : 0 ≤ b ∧ b < 3) (hn : 0 ≤ n) : cvO (a + 8 * b + 32 * n) = (a * 3 + b) * 100 + n := by
  unfold cvO
  rw [if_neg (by omega)]
  omega
/-- an atom, all of it -/
theorem EM_atom {q w q1 w1 qa2 : Int → Int} {c : Nat → Int} {p : Nat} {x : Int} (h : ¬ zix 1 (c p) = -1) (h2 : ¬ zix 2 (c (p + 1)) = -1) (hf : (figF c (p + 2, true)).1.2 = true) (hx : x = (zix 1 (c p) * 3 + zix 2 (c (p + 1))) * 100 + (figF c (p + 2, true)).2) (hq : ∀ k : Int, k ≠ 3 → qa2 k = q k) (h3 : qa2 3 = ((figF c (p + 2, true)).1.1 : Int)) (hk : q 1 < 100) (hK : KP qa2 w x q1 w1) : EM q w (atomF c p) q1 w1 := by
  obtain ⟨k1, k2, k3⟩ := hK
  have e1 := hq 1 (by decide)
  obtain ⟨k4, k5, k6⟩ := k3 (by omega)
  have hz := zn_12
  have r1 := zix_rng 1 (c p)
  have r2 := zix_rng 2 (c (p + 1))
  rw [hz.1] at r1
  rw [hz.2] at r2
  have hn := fig_0 hf
  rw [atom_3 h h2, if_pos hf]
  refine ⟨fun k a b => (k1 k a).trans (hq k b), (k1 3 (by decide)).trans h3, k2, fun _ => ⟨by show q1 1 = q 1 + ((1 : Nat) : Int); omega, fun j a b => k5 j (by omega), fun i hi => ?_⟩⟩
  have hi0 : i = 0 := by have : i < 1 := hi; omega
  subst hi0
  rw [show q 1 + ((0 : Nat) : Int) = qa2 1 by omega, k6, hx]
  exact (cv_atom (by omega) (by omega) hn).symm
set_option maxHeartbeats 4000000 in
set_option maxRecDepth 100000 in
theorem kc6_keepG (l : Launch) (D : Dx) (A : Nat → Prop) (ad : Nat → Nat) (K : Int → Int) (S Q qa : Nat → Int → Int) (tp : Nat → Nat) (s q w0 w1 w2 w3 bo e uc lr nx : Int → Int) (p : Nat) (hp : p < 6) (code : Int) (hkc : 0 ≤ q 1 ∧ q 1 ≤ 100) : CT l D A yX6_keep cX6_keep 2 none { frames := 0, cells := 0, slots := 0, locals := 0 } [.ref (kP ad p), vI code] (CW D A ad K (uS S 0 s) (uS Q p q) (q4 qa p w0 w1 w2 w3) tp bo e uc lr nx) (fun u : (Int → Int) × (Int → Int) => none) (fun u => KP q w3 code u.1 u.2) (fun u => CW D A ad K (uS S 0 s) (uS Q p u.1) (q4 qa p w0 w1 w2 u.2) tp bo e uc lr nx) := by
  refine ct_of (lo0 := [(0, .ref (kP ad p)), (1, vI code)]) (by decide) (Nat.le_of_ble_eq_true rfl) rfl ?_
  intro G hG hR
  refine v_aload_n hG dX6_keep_0 rfl 0 rfl ?_
  refine cq6 hp hG dX6_keep_1 zf_X6_49 (k := 5) (by decide) (v := vI (q 1)) rfl ?_
  refine v_aload_n hG dX6_keep_4 rfl 0 rfl ?_
  refine cq6 hp hG dX6_keep_5 zf_X6_21 (k := 3) (by decide) (v := .ref (kQ ad 3 p)) rfl ?_
  refine cl_q3 hp hG dX6_keep_8 ?_
  refine v_icmp_ge (tgt := 32) hG dX6_keep_9 (by decide) (by omega) (by omega) (fun c1 => ?_) (fun c1 => ?_)
  · skip
    exact v_return hG hR dX6_keep_32 (q, w3) rfl (by first | exact KP_y (by assumption) hkc | exact KP_n (by assumption) hkc) (fun _ hM => hM)
  · skip
    refine v_aload_n hG dX6_keep_12 rfl 0 rfl ?_
    refine cq6 hp hG dX6_keep_13 zf_X6_21 (k := 3) (by decide) (v := .ref (kQ ad 3 p)) rfl ?_
    refine v_aload_n hG dX6_keep_16 rfl 0 rfl ?_
    refine cq6 hp hG dX6_keep_17 zf_X6_49 (k := 5) (by decide) (v := vI (q 1)) rfl ?_
    refine v_iload_n hG dX6_keep_20 rfl 1 rfl ?_
    refine cs_q3 hp hG dX6_keep_21 (by omega) ?_
    refine v_aload_n hG dX6_keep_22 rfl 0 rfl ?_
    refine v_dup hG dX6_keep_23 rfl ?_
    refine cq6 hp hG dX6_keep_24 zf_X6_49 (k := 5) (by decide) (v := vI (q 1)) rfl ?_
    refine v_iconst hG dX6_keep_27 ?_
    refine v_iadd hG dX6_keep_28 ?_
    refine cp6_kc hp hG dX6_keep_29 zf_X6_49 ?_
    exact v_return hG hR dX6_keep_32 (sU q 1 ((q 1) + 1), sU w3 (q 1) code) rfl (by first | exact KP_y (by assumption) hkc | exact KP_n (by assumption) hkc) (fun _ hM => hM)
set_option maxHeartbeats 4000000 in
set_option maxRecDepth 100000 in
theorem kc6_readOne0 (l : Launch) (D : Dx) (A : Nat → Prop) (ad : Nat → Nat) (K : Int → Int) (S Q qa : Nat → Int → Int) (tp : Nat → Nat) (s q w0 w1 w2 w3 bo e uc lr nx : Int → Int) (p : Nat) (hp : p < 6) (pp : Nat) (hq2 : q 2 = s 48) (h3 : q 3 = (pp : Int)) (hTS : TS s) (hpn : (pp : Int) ≤ s 48) (htp : tp p = kC ad 0 0) (hkp : 0 ≤ q 1 ∧ q 1 ≤ (pp : Int)) : CT l D A yX6_readOne cX6_readOne 5 (some .boolean) { frames := 5, cells := 0, slots := 0, locals := 113 } [.ref (kP ad p), vI 5] (CW D A ad K (uS S 0 s) (uS Q p q) (q4 qa p w0 w1 w2 w3) tp bo e uc lr nx) (fun u : (Int → Int) × (Int → Int) => some (vI (bi ((facF (chT s) 0 pp).2.1 = true)))) (fun u => EM q w3 (facF (chT s) 0 pp) u.1 u.2) (fun u => CW D A ad K (uS S 0 s) (uS Q p u.1) (q4 qa p w0 w1 w2 u.2) tp bo e uc lr nx) := by
  refine ct_of (lo0 := [(0, .ref (kP ad p)), (1, vI 5)]) (by decide) (Nat.le_of_ble_eq_true rfl) rfl ?_
  intro G hG hR
  have hT1 := hTS.1
  have hCE := chT_CE hTS
  have hz1 := zix_b (i := 1) (by decide) (chT s pp)
  have hz2 := zix_b (i := 2) (by decide) (chT s (pp + 1))
  have hfr := figF_rng (ok := true) hCE (p := pp + 2)
  refine v_iload_n hG dX6_readOne_0 rfl 1 rfl ?_
  refine v_iconst hG dX6_readOne_1 ?_
  refine v_icmp_ge (tgt := 63) hG dX6_readOne_2 (by decide) (by omega) (by omega) (fun c1 => ?_) (fun c1 => ?_)
  · skip
    refine v_aload_n hG dX6_readOne_63 rfl 0 rfl ?_
    refine v_ldcS (i := 1) (tx := "mkdxtv") hG dX6_readOne_64 (by decide) ?_
    refine v_callV (k1' := 0) (k2' := 0) hG dX6_readOne_66 zc_X6_readOneOf ⟨zl_X6_97, zi_X6_readOneOf, zs_X6_readOneOf⟩ (fun l => kc6_readOneOf l D A ad K S Q qa tp s q w0 w1 w2 w3 bo e uc lr nx p hp pp 1 (by first | assumption | (rw [sU_ne (by omega)]; assumption) | (simp only [sU_at]; (repeat' split) <;> first | assumption | (exfalso; omega))) (by first | exact sU_eq | assumption) (by assumption) (by omega) (by assumption) (by first | assumption | decide)) rfl (cR6 hp) (fun _ h => h) ⟨by decide, by decide⟩ rfl rfl ⟨by decide, by decide⟩ (rest := []) rfl (Nat.le_of_ble_eq_true rfl) (fun u2 => [vI (zix 1 (chT s pp))]) (fun _ => rfl) (fun u2 hu2 => ?_)
    have fu2 : -1 ≤ zix 1 (chT s pp) ∧ zix 1 (chT s pp) ≤ 16 := hu2
    refine v_istore_n (lo' := [(2, vI (zix 1 (chT s pp))), (0, .ref (kP ad p)), (1, vI 5)]) hG dX6_readOne_69 rfl (by decide) rfl ?_
    refine v_iload_n hG dX6_readOne_70 rfl 0 rfl ?_
    refine v_if_ge (tgt := 78) hG dX6_readOne_71 (by decide) (by omega) (fun c3 => ?_) (fun c3 => ?_)
    · skip
      rw [show ((if zix 1 (chT s pp) = -1 then pp else pp + 1 : Nat) : Int) = ((pp + 1 : Nat) : Int) from by rw [if_neg (by omega)]]
      have hlt1 : pp < (s 48).toNat := hCE.lt (fun e => by
          have h9 : zix 1 (chT s pp) = -1 := (by rw [e]; exact zix_end (by decide))
          omega)
      refine v_aload_n hG dX6_readOne_78 rfl 1 rfl ?_
      refine v_ldcS (i := 2) (tx := "<=>") hG dX6_readOne_79 (by decide) ?_
      refine v_callV (k1' := 0) (k2' := 0) hG dX6_readOne_81 zc_X6_readOneOf ⟨zl_X6_97, zi_X6_readOneOf, zs_X6_readOneOf⟩ (fun l => kc6_readOneOf l D A ad K S Q qa tp s (sU q 3 ((pp + 1 : Nat) : Int)) w0 w1 w2 w3 bo e uc lr nx p hp (pp + 1) 2 (by first | assumption | (rw [sU_ne (by omega)]; assumption) | (simp only [sU_at]; (repeat' split) <;> first | assumption | (exfalso; omega))) (by exact sU_eq) (by assumption) (by omega) (by assumption) (by first | assumption | decide)) rfl (cR6 hp) (fun _ h => h) ⟨by decide, by decide⟩ rfl rfl ⟨by decide, by decide⟩ (rest := []) rfl (Nat.le_of_ble_eq_true rfl) (fun u4 => [vI (zix 2 (chT s (pp + 1)))]) (fun _ => rfl) (fun u4 hu4 => ?_)
      have fu4 : -1 ≤ zix 2 (chT s (pp + 1)) ∧ zix 2 (chT s (pp + 1)) ≤ 16 := hu4
      rw [sU_sU]
      refine v_istore_n (lo' := [(3, vI (zix 2 (chT s (pp + 1)))), (2, vI (zix 1 (chT s pp))), (0, .ref (kP ad p)), (1, vI 5)]) hG dX6_readOne_84 rfl (by decide) rfl ?_
      refine v_iload_n hG dX6_readOne_85 rfl 0 rfl ?_
      refine v_if_ge (tgt := 93) hG dX6_readOne_86 (by decide) (by omega) (fun c5 => ?_) (fun c5 => ?_)
      · skip
        rw [show ((if zix 2 (chT s (pp + 1)) = -1 then pp + 1 else pp + 1 + 1 : Nat) : Int) = ((pp + 2 : Nat) : Int) from by rw [if_neg (by omega)]]
        have hlt2 : pp + 1 < (s 48).toNat := hCE.lt (fun e => by
            have h9 : zix 2 (chT s (pp + 1)) = -1 := (by rw [e]; exact zix_end (by decide))
            omega)
        have hf2 := hfr (by omega)
        refine v_aload_n hG dX6_readOne_93 rfl 2 rfl ?_
        refine v_callV (k1' := 0) (k2' := 0) hG dX6_readOne_94 zc_X6_readNumber ⟨zl_X6_64, zi_X6_readNumber, zs_X6_readNumber⟩ (fun l => kc6_readNumber l D A ad K S Q qa tp s (sU q 3 ((pp + 2 : Nat) : Int)) w0 w1 w2 w3 bo e uc lr nx p hp (pp + 2) (by first | assumption | (rw [sU_ne (by omega)]; assumption) | (simp only [sU_at]; (repeat' split) <;> first | assumption | (exfalso; omega))) (by exact sU_eq) (by assumption) (by omega) (by assumption)) rfl (cR6 hp) (fun _ h => h) ⟨by decide, by decide⟩ rfl rfl ⟨by decide, by decide⟩ (rest := []) rfl (Nat.le_of_ble_eq_true rfl) (fun u6 => [vI (if (figF (chT s) ((pp + 2), true)).1.2 = true then (figF (chT s) ((pp + 2), true)).2 else -1)]) (fun _ => rfl) (fun u6 hu6 => ?_)
        rw [sU_sU]
        refine v_istore (lo' := [(4, vI (if (figF (chT s) ((pp + 2), true)).1.2 = true then (figF (chT s) ((pp + 2), true)).2 else -1)), (3, vI (zix 2 (chT s (pp + 1)))), (2, vI (zix 1 (chT s pp))), (0, .ref (kP ad p)), (1, vI 5)]) hG dX6_readOne_97 (by decide) rfl ?_
        refine v_iload hG dX6_readOne_99 0 rfl ?_
        refine v_if_ge (tgt := 106) hG dX6_readOne_101 (by decide) (by omega) (fun c7 => ?_) (fun c7 => ?_)
        · skip
          have hft : (figF (chT s) (pp + 2, true)).1.2 = true := by
            apply Decidable.byContradiction
            intro q9
            have e9 : (if (figF (chT s) (pp + 2, true)).1.2 = true then (figF (chT s) (pp + 2, true)).2 else (-1 : Int)) = -1 := if_neg q9
            omega
          refine v_aload_n hG dX6_readOne_106 rfl 3 rfl ?_
          refine v_iload_n hG dX6_readOne_107 rfl 2 rfl ?_
          refine v_iconst hG dX6_readOne_108 ?_
          refine v_imul hG dX6_readOne_109 ?_
          refine v_iload_n hG dX6_readOne_110 rfl 1 rfl ?_
          refine v_iadd hG dX6_readOne_111 ?_
          refine v_bipush hG dX6_readOne_112 (by decide) ?_
          refine v_imul hG dX6_readOne_114 ?_
          refine v_iload hG dX6_readOne_115 0 rfl ?_
          refine v_iadd hG dX6_readOne_117 ?_
          refine v_callV (k1' := 0) (k2' := 0) hG dX6_readOne_118 zc_X6_keep ⟨zl_X6_88, zi_X6_keep, zs_X6_keep⟩ (fun l => kc6_keepG l D A ad K S Q qa tp s (sU q 3 (((figF (chT s) (pp + 2, true)).1.1 : Nat) : Int)) w0 w1 w2 w3 bo e uc lr nx p hp (((((zix 1 (chT s pp)) * 3) + (zix 2 (chT s (pp + 1)))) * 100) + (if (figF (chT s) ((pp + 2), true)).1.2 = true then (figF (chT s) ((pp + 2), true)).2 else -1)) (by rw [sU_ne (by omega)]; omega)) rfl (cR6 hp) (fun _ h => h) ⟨by decide, by decide⟩ rfl rfl ⟨by decide, by decide⟩ (rest := []) rfl (Nat.le_of_ble_eq_true rfl) (fun u8 => []) (fun _ => rfl) (fun u8 hu8 => ?_)
          have fu8 : KP (sU q 3 (((figF (chT s) (pp + 2, true)).1.1 : Nat) : Int)) w3 (((((zix 1 (chT s pp)) * 3) + (zix 2 (chT s (pp + 1)))) * 100) + (if (figF (chT s) ((pp + 2), true)).1.2 = true then (figF (chT s) ((pp + 2), true)).2 else -1)) u8.1 u8.2 := hu8
          have hKP := fu8
          refine v_iconst hG dX6_readOne_121 ?_
          have e9 : @Eq Int (bi ((facF (chT s) 0 pp).2.1 = true)) (1) := by have hx : (facF (chT s) 0 pp).2.1 = true := (by rw [fac_0, atom_3 (by omega) (by omega)]; exact hft); rw [bi_pos hx]
          exact v_zreturn hG hR dX6_readOne_122 (Or.inr rfl) (u8.1, u8.2) (congrArg (fun z => some (vI z)) e9) (by rw [fac_0]; exact EM_atom (by omega) (by omega) hft (by rw [if_pos hft]) (fun k h => sU_ne h) sU_eq (by omega) hKP) (fun _ hM => hM)
        · skip
          have hfn : (figF (chT s) (pp + 2, true)).1.2 = false := by
            cases q9 : (figF (chT s) (pp + 2, true)).1.2
            · rfl
            · have e9 : (if (figF (chT s) (pp + 2, true)).1.2 = true then (figF (chT s) (pp + 2, true)).2 else (-1 : Int)) = (figF (chT s) (pp + 2, true)).2 := if_pos q9
              omega
          refine v_iconst hG dX6_readOne_104 ?_
          have e10 : @Eq Int (bi ((facF (chT s) 0 pp).2.1 = true)) (0) := by first | (have hx : ¬ (facF (chT s) 0 pp).2.1 = true := (by rw [fac_0, atom_3 (by omega) (by omega), hfn]; exact Bool.false_ne_true); rw [bi_neg hx]; done) | (have hx : ¬ (facF (chT s) 0 pp).2.1 = true := (by rw [fac_0, atom_1 (by omega)]; exact Bool.false_ne_true); rw [bi_neg hx]; done) | (have hx : ¬ (facF (chT s) 0 pp).2.1 = true := (by rw [fac_0, atom_2 (by omega) (by omega)]; exact Bool.false_ne_true); rw [bi_neg hx]; done)
          exact v_zreturn hG hR dX6_readOne_105 (Or.inl rfl) (sU q 3 (((figF (chT s) (pp + 2, true)).1.1 : Nat) : Int), w3) (congrArg (fun z => some (vI z)) e10) (by first | (rw [fac_0, atom_3 (by omega) (by omega)]; exact EM_fail3 rfl (by omega) hfn) | (rw [fac_0, atom_1 (by omega)]; exact EM_fail3 rfl (by omega) rfl) | (rw [fac_0, atom_2 (by omega) (by omega)]; exact EM_fail3 rfl (by omega) rfl)) (fun _ hM => hM)
      · skip
        rw [show ((if zix 2 (chT s (pp + 1)) = -1 then pp + 1 else pp + 1 + 1 : Nat) : Int) = ((pp + 1 : Nat) : Int) from by rw [if_pos (by omega)]]
        refine v_iconst hG dX6_readOne_89 ?_
        refine v_goto (tgt := 97) hG dX6_readOne_90 (by decide) ?_
        refine v_istore (lo' := [(4, vI (-1)), (3, vI (zix 2 (chT s (pp + 1)))), (2, vI (zix 1 (chT s pp))), (0, .ref (kP ad p)), (1, vI 5)]) hG dX6_readOne_97 (by decide) rfl ?_
        refine v_iload hG dX6_readOne_99 0 rfl ?_
        refine v_if_ge (tgt := 106) hG dX6_readOne_101 (by decide) (by omega) (fun c11 => ?_) (fun c11 => ?_)
        · skip
          exfalso; omega
        · skip
          refine v_iconst hG dX6_readOne_104 ?_
          have e12 : @Eq Int (bi ((facF (chT s) 0 pp).2.1 = true)) (0) := by first | (have hx : ¬ (facF (chT s) 0 pp).2.1 = true := (by rw [fac_0, atom_3 (by omega) (by omega), hfn]; exact Bool.false_ne_true); rw [bi_neg hx]; done) | (have hx : ¬ (facF (chT s) 0 pp).2.1 = true := (by rw [fac_0, atom_1 (by omega)]; exact Bool.false_ne_true); rw [bi_neg hx]; done) | (have hx : ¬ (facF (chT s) 0 pp).2.1 = true := (by rw [fac_0, atom_2 (by omega) (by omega)]; exact Bool.false_ne_true); rw [bi_neg hx]; done)
          exact v_zreturn hG hR dX6_readOne_105 (Or.inl rfl) (sU q 3 ((pp + 1 : Nat) : Int), w3) (congrArg (fun z => some (vI z)) e12) (by first | (rw [fac_0, atom_3 (by omega) (by omega)]; exact EM_fail3 rfl (by omega) hfn) | (rw [fac_0, atom_1 (by omega)]; exact EM_fail3 rfl (by omega) rfl) | (rw [fac_0, atom_2 (by omega) (by omega)]; exact EM_fail3 rfl (by omega) rfl)) (fun _ hM => hM)
    · skip
      rw [show ((if zix 1 (chT s pp) = -1 then pp else pp + 1 : Nat) : Int) = ((pp : Nat) : Int) from by rw [if_pos (by omega)]]
      refine v_iconst hG dX6_readOne_74 ?_
      refine v_goto (tgt := 84) hG dX6_readOne_75 (by decide) ?_
      refine v_istore_n (lo' := [(3, vI (-1)), (2, vI (zix 1 (chT s pp))), (0, .ref (kP ad p)), (1, vI 5)]) hG dX6_readOne_84 rfl (by decide) rfl ?_
      refine v_iload_n hG dX6_readOne_85 rfl 0 rfl ?_
      refine v_if_ge (tgt := 93) hG dX6_readOne_86 (by decide) (by omega) (fun c13 => ?_) (fun c13 => ?_)
      · skip
        exfalso; omega
      · skip
        refine v_iconst hG dX6_readOne_89 ?_
        refine v_goto (tgt := 97) hG dX6_readOne_90 (by decide) ?_
        refine v_istore (lo' := [(4, vI (-1)), (3, vI (-1)), (2, vI (zix 1 (chT s pp))), (0, .ref (kP ad p)), (1, vI 5)]) hG dX6_readOne_97 (by decide) rfl ?_
        refine v_iload hG dX6_readOne_99 0 rfl ?_
        refine v_if_ge (tgt := 106) hG dX6_readOne_101 (by decide) (by omega) (fun c14 => ?_) (fun c14 => ?_)
        · skip
          exfalso; omega
        · skip
          refine v_iconst hG dX6_readOne_104 ?_
          have e15 : @Eq Int (bi ((facF (chT s) 0 pp).2.1 = true)) (0) := by first | (have hx : ¬ (facF (chT s) 0 pp).2.1 = true := (by rw [fac_0, atom_3 (by omega) (by omega), hfn]; exact Bool.false_ne_true); rw [bi_neg hx]; done) | (have hx : ¬ (facF (chT s) 0 pp).2.1 = true := (by rw [fac_0, atom_1 (by omega)]; exact Bool.false_ne_true); rw [bi_neg hx]; done) | (have hx : ¬ (facF (chT s) 0 pp).2.1 = true := (by rw [fac_0, atom_2 (by omega) (by omega)]; exact Bool.false_ne_true); rw [bi_neg hx]; done)
          exact v_zreturn hG hR dX6_readOne_105 (Or.inl rfl) (sU q 3 ((pp : Nat) : Int), w3) (congrArg (fun z => some (vI z)) e15) (by first | (rw [fac_0, atom_3 (by omega) (by omega)]; exact EM_fail3 rfl (by omega) hfn) | (rw [fac_0, atom_1 (by omega)]; exact EM_fail3 rfl (by omega) rfl) | (rw [fac_0, atom_2 (by omega) (by omega)]; exact EM_fail3 rfl (by omega) rfl)) (fun _ hM => hM)
  · skip
    exfalso; omega
