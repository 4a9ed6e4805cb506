/-! THE CLASS: reading a tape, words -/
def wdF (c : Nat → Int) (p : Nat) : (Nat × Bool) × Int := if c p = 119 then (spF c 3 4 (p, true), 0) else if c p = 109 then (spF c 4 4 (p, true), 1) else if c p = 114 then (spF c 5 4 (p, true), 2) else if c p = 115 then (spF c 6 4 (p, true), 3) else ((p, false), 0)
theorem z0_rng {k : Int} (hk : 0 ≤ k ∧ k < 16) : 0 ≤ zch 0 k ∧ zch 0 k ≤ 127 := zch_rng 0 (by decide) hk
theorem z0_w {a i : Nat} (ha : a < 4) (hi : i < 4) : zch 0 (4 * (a : Int) + (i : Int)) = zch (3 + a) (i : Int) := by
  have e : ∀ a, a < 4 → ∀ i, i < 4 → zch 0 (4 * ((a : Nat) : Int) + ((i : Nat) : Int)) = zch (3 + a) ((i : Nat) : Int) := by decide +kernel
  exact e a ha i hi
theorem z0_a : zch 0 0 = 119 ∧ zch 0 4 = 109 ∧ zch 0 8 = 114 ∧ zch 0 12 = 115 := by decide +kernel
theorem wd_at {c : Nat → Int} {p a : Nat} (ha : a < 4) (h : c p = zch 0 (4 * (a : Int))) : wdF c p = (spF c (3 + a) 4 (p, true), (a : Int)) := by
  obtain ⟨z0, z1, z2, z3⟩ := z0_a
  unfold wdF
  rcases (show a = 0 ∨ a = 1 ∨ a = 2 ∨ a = 3 by omega) with rfl | rfl | rfl | rfl
  · rw [show (4 * ((0 : Nat) : Int)) = 0 from rfl, z0] at h
    rw [if_pos h]; rfl
  · rw [show (4 * ((1 : Nat) : Int)) = 4 from rfl, z1] at h
    rw [if_neg (by omega), if_pos h]; rfl
  · rw [show (4 * ((2 : Nat) : Int)) = 8 from rfl, z2] at h
    rw [if_neg (by omega), if_neg (by omega), if_pos h]; rfl
  · rw [show (4 * ((3 : Nat) : Int)) = 12 from rfl, z3] at h
    rw [if_neg (by omega), if_neg (by omega), if_neg (by omega), if_pos h]; rfl
theorem wd_no {c : Nat → Int} {p a : Nat} (ha : 4 ≤ a) (h : ∀ b : Nat, b < a → ¬ c p = zch 0 (4 * (b : Int))) : wdF c p = ((p, false), 0) := by
  obtain ⟨z0, z1, z2, z3⟩ := z0_a
  have h0 := h 0 (by omega)
  have h1 := h 1 (by omega)
  have h2 := h 2 (by omega)
  have h3 := h 3 (by omega)
  rw [show (4 * ((0 : Nat) : Int)) = 0 from rfl, z0] at h0
  rw [show (4 * ((1 : Nat) : Int)) = 4 from rfl, z1] at h1
  rw [show (4 * ((2 : Nat) : Int)) = 8 from rfl, z2] at h2
  rw [show (4 * ((3 : Nat) : Int)) = 12 from rfl, z3] at h3
  unfold wdF
  rw [if_neg h0, if_neg h1, if_neg h2, if_neg h3]
theorem spF_stop {c : Nat → Int} {w k : Nat} {u : Nat × Bool} (h : (spF c w k u).2 = false) : ∀ d : Nat, spF c w (k + d) u = spF c w k u
  | 0 => rfl
  | d + 1 => by
    have ih := spF_stop h d
    show mustF c (zch w ((k + d : Nat) : Int)) (spF c w (k + d) u) = spF c w k u
    rw [ih]
    unfold mustF
    rw [if_neg (fun q => by rw [h] at q; exact Bool.noConfusion q.1)]
    exact Prod.ext rfl h.symm
theorem sp_y {c : Nat → Int} {w k : Nat} {u : Nat × Bool} (h : (spF c w k u).2 = true) (hc : c (spF c w k u).1 = zch w (k : Int)) : spF c w (k + 1) u = ((spF c w k u).1 + 1, true) := if_pos ⟨h, hc⟩
theorem sp_n {c : Nat → Int} {w k : Nat} {u : Nat × Bool} (hc : ¬ c (spF c w k u).1 = zch w (k : Int)) : spF c w (k + 1) u = ((spF c w k u).1, false) := if_neg (fun q => hc q.2)
theorem must_1 {c : Nat → Int} {x : Int} {w k : Nat} {u : Nat × Bool} (h : (spF c w k u).2 = true) (hx : x = zch w (k : Int)) : mustF c x ((spF c w k u).1, true) = spF c w (k + 1) u := by
  subst hx
  show _ = mustF c (zch w (k : Int)) (spF c w k u)
  rw [show spF c w k u = ((spF c w k u).1, true) from Prod.ext rfl h]
theorem spF_pl {c : Nat → Int} {w k p : Nat} : p ≤ (spF c w k (p, true)).1 := by
  induction k with
  | zero => exact Nat.le_refl _
  | succ k ih =>
    show p ≤ (mustF c (zch w (k : Int)) (spF c w k (p, true))).1
    unfold mustF
    split
    · show p ≤ (spF c w k (p, true)).1 + 1; omega
    · exact ih
set_option maxHeartbeats 4000000 in
set_option maxRecDepth 100000 in
theorem kc6_readWord (l : Launch) (D : Dx) (A : Nat → Prop) (ad : Nat → Nat) (K : Int → Int) (S Q qa : Nat → Int → Int) (tp : Nat → Nat) (s q w0 w1 w2 w3 bo e uc lr nx : Int → Int) (p : Nat) (hp : p < 6) (pp : Nat) (hq2 : q 2 = s 48) (h3 : q 3 = (pp : Int)) (hTS : TS s) (hpn : (pp : Int) ≤ s 48) (htp : tp p = kC ad 0 0) : CT l D A yX6_readWord cX6_readWord 3 (some .int) { frames := 4, cells := 0, slots := 0, locals := 101 } [.ref (kP ad p)] (CW D A ad K (uS S 0 s) (uS Q p q) (q4 qa p w0 w1 w2 w3) tp bo e uc lr nx) (fun _ : Unit => some (vI (if (wdF (chT s) pp).1.2 = true then (wdF (chT s) pp).2 else -1))) (fun _ => True) (fun _ => CW D A ad K (uS S 0 s) (uS Q p (sU q 3 (((wdF (chT s) pp).1.1 : Nat) : Int))) (q4 qa p w0 w1 w2 w3) tp bo e uc lr nx) := by
  refine ct_of (lo0 := [(0, .ref (kP ad p))]) (by decide) (Nat.le_of_ble_eq_true rfl) rfl ?_
  intro G hG hR
  have hT1 := hTS.1
  have hz16 : zn 0 = 16 := by decide +kernel
  have hCE := chT_CE hTS
  refine v_iconst hG dX6_readWord_0 ?_
  refine v_istore_n (lo' := [(1, vI 0), (0, .ref (kP ad p))]) hG dX6_readWord_1 rfl (by decide) rfl ?_
  refine v_lo [1, 0] (lo' := [(0, .ref (kP ad p)), (1, vI 0)]) rfl ?_
  have L3 : ∀ mz : Nat, ∀ (a : Nat), (a ≤ 4) → (∀ b : Nat, b < a → ¬ chT s pp = zch 0 (4 * (b : Int))) → 4 - a = mz → ∀ x1 : Int, x1 = (4 * (a : Int)) → ∀ x2 : Int → Int, x2 = (sU q 3 ((pp : Nat) : Int)) → V G 0 0 (CW D A ad K (uS S 0 s) (uS Q p x2) (q4 qa p w0 w1 w2 w3) tp bo e uc lr nx) 2 [(0, .ref (kP ad p)), (1, vI x1)] [] := by
    intro dL3
    induction dL3 using Nat.strongRecOn with
    | ind dL3 ihL3 =>
      intro a hq4 hq5 hq6
      intro x1 hx1
      subst hx1
      intro x2 hx2
      subst hx2
      refine v_iload_n hG dX6_readWord_2 rfl 1 rfl ?_
      refine v_ldcS (i := 0) (tx := "wearmendrisksure") hG dX6_readWord_3 (by decide) ?_
      refine v_callK (by decide) rfl (k1' := 0) (k2' := 0) hG dX6_readWord_5 zc_J0_length_8abf5 ⟨zl_X6_76, zi_J0_length_8abf5, zs_J0_length_8abf5⟩ (fun l => k_length_8abf5 l D A (CW D A ad K (uS S 0 s) (uS Q p (sU q 3 ((pp : Nat) : Int))) (q4 qa p w0 w1 w2 w3) tp bo e uc lr nx) 0 (by first | assumption | decide)) rfl (fun _ h => h) ⟨by decide, by decide⟩ rfl rfl ⟨by decide, by decide⟩ (rest := [vI (4 * (a : Int))]) rfl (Nat.le_of_ble_eq_true rfl) (fun u7 => [vI (zn 0), vI (4 * (a : Int))]) (fun _ => rfl) (fun u7 hu7 => ?_)
      refine v_icmp_ge (tgt := 64) hG dX6_readWord_8 (by decide) (by omega) (by omega) (fun c8 => ?_) (fun c8 => ?_)
      · skip
        refine v_iconst hG dX6_readWord_64 ?_
        have e9 : sU q 3 ((pp : Nat) : Int) = sU q 3 (((wdF (chT s) pp).1.1 : Nat) : Int) := by rw [wd_no (a := a) (by omega) (by assumption)]
        have e10 : @Eq Int (if (wdF (chT s) pp).1.2 = true then (wdF (chT s) pp).2 else -1) (-1) := by rw [wd_no (a := a) (by omega) (by assumption)]; rfl
        exact v_ireturn hG hR dX6_readWord_65 () (congrArg (fun z => some (vI z)) e10) (by trivial) (fun _ hM => by rw [← e9]; exact hM)
      · skip
        have hza := z0_rng (k := 4 * (a : Int)) (by omega)
        refine v_aload_n hG dX6_readWord_11 rfl 0 rfl ?_
        refine v_ldcS (i := 0) (tx := "wearmendrisksure") hG dX6_readWord_12 (by decide) ?_
        refine v_iload_n hG dX6_readWord_14 rfl 1 rfl ?_
        refine v_callK (by decide) rfl (k1' := 0) (k2' := 0) hG dX6_readWord_15 zc_J0_charAt_5068e ⟨zl_X6_81, zi_J0_charAt_5068e, zs_J0_charAt_5068e⟩ (fun l => k_charAt_5068e l D A (CW D A ad K (uS S 0 s) (uS Q p (sU q 3 ((pp : Nat) : Int))) (q4 qa p w0 w1 w2 w3) tp bo e uc lr nx) (4 * (a : Int)) 0 (by first | assumption | decide) (by omega)) rfl (fun _ h => h) ⟨by decide, by decide⟩ rfl rfl ⟨by decide, by decide⟩ (rest := [.ref (kP ad p)]) rfl (Nat.le_of_ble_eq_true rfl) (fun u11 => [vI (zch 0 (4 * (a : Int))), .ref (kP ad p)]) (fun _ => rfl) (fun u11 hu11 => ?_)
        refine v_callV (k1' := 0) (k2' := 0) hG dX6_readWord_18 zc_X6_skip ⟨zl_X6_56, zi_X6_skip, zs_X6_skip⟩ (fun l => kc6_skip l D A ad K S Q qa tp s (sU q 3 ((pp : Nat) : Int)) w0 w1 w2 w3 bo e uc lr nx p hp pp (zch 0 (4 * (a : Int))) (by first | assumption | (rw [sU_ne (by omega)]; assumption) | (simp only [sU_at]; (repeat' split) <;> first | assumption | (exfalso; omega))) (by first | exact sU_eq | assumption) (by assumption) (by omega) (by assumption) (by omega)) rfl (cR6 hp) (fun _ h => h) ⟨by decide, by decide⟩ rfl rfl ⟨by decide, by decide⟩ (rest := []) rfl (Nat.le_of_ble_eq_true rfl) (fun u12 => [vI (bi (chT s pp = (zch 0 (4 * (a : Int)))))]) (fun _ => rfl) (fun u12 hu12 => ?_)
        rw [sU_sU]
        refine v_ifb_eq (p := chT s pp = (zch 0 (4 * (a : Int)))) (tgt := 58) hG dX6_readWord_21 (by decide) (fun c13 => ?_) (fun c13 => ?_)
        · skip
          refine v_iinc (lo' := [(1, vI ((4 * (a : Int)) + 4)), (0, .ref (kP ad p))]) hG dX6_readWord_58 1 rfl (by decide) rfl ?_
          refine v_goto (tgt := 2) hG dX6_readWord_61 (by decide) ?_
          refine v_lo [1, 0] (lo' := [(0, .ref (kP ad p)), (1, vI ((4 * (a : Int)) + 4))]) rfl ?_
          exact ihL3 _ (by omega) (a + 1) (by omega) (by exact fun b hb => by by_cases e : b = a; (subst e; assumption); (exact (show ∀ b : Nat, b < a → ¬ chT s pp = zch 0 (4 * (b : Int)) by assumption) b (by omega))) rfl _ (by omega) _ (by rw [show mustF (chT s) (zch 0 (4 * (a : Int))) (pp, true) = (pp, false) from if_neg (fun h => absurd h.2 (by assumption))])
        · skip
          refine v_iconst hG dX6_readWord_24 ?_
          refine v_istore_n (lo' := [(2, vI 1), (0, .ref (kP ad p)), (1, vI (4 * (a : Int)))]) hG dX6_readWord_25 rfl (by decide) rfl ?_
          refine v_lo [1, 2, 0] (lo' := [(0, .ref (kP ad p)), (1, vI (4 * (a : Int))), (2, vI 1)]) rfl ?_
          have L16 : ∀ mz : Nat, ∀ (i : Nat), (1 ≤ i ∧ i ≤ 4) → ((spF (chT s) (3 + a) i (pp, true)).2 = true) → 4 - i = mz → ∀ x14 : Int, x14 = ((i : Int)) → ∀ x15 : Int → Int, x15 = (sU q 3 (((spF (chT s) (3 + a) i (pp, true)).1 : Nat) : Int)) → V G 0 0 (CW D A ad K (uS S 0 s) (uS Q p x15) (q4 qa p w0 w1 w2 w3) tp bo e uc lr nx) 26 [(0, .ref (kP ad p)), (1, vI (4 * (a : Int))), (2, vI x14)] [] := by
            intro dL16
            induction dL16 using Nat.strongRecOn with
            | ind dL16 ihL16 =>
              intro i hq17 hq18 hq19
              intro x14 hx14
              subst hx14
              intro x15 hx15
              subst hx15
              refine v_iload_n hG dX6_readWord_26 rfl 2 rfl ?_
              refine v_iconst hG dX6_readWord_27 ?_
              refine v_icmp_ge (tgt := 54) hG dX6_readWord_28 (by decide) (by omega) (by omega) (fun c20 => ?_) (fun c20 => ?_)
              · skip
                refine v_iload_n hG dX6_readWord_54 rfl 1 rfl ?_
                refine v_iconst hG dX6_readWord_55 ?_
                refine v_idiv hG dX6_readWord_56 (by omega) (by omega) ?_
                have e21 : sU q 3 (((spF (chT s) (3 + a) i (pp, true)).1 : Nat) : Int) = sU q 3 (((wdF (chT s) pp).1.1 : Nat) : Int) := by rw [wd_at (a := a) (by omega) (by assumption), show 4 = i by omega]
                have e22 : @Eq Int (if (wdF (chT s) pp).1.2 = true then (wdF (chT s) pp).2 else -1) ((4 * (a : Int)) / 4) := by rw [wd_at (a := a) (by omega) (by assumption), show 4 = i by omega]; show (if (spF (chT s) (3 + a) i (pp, true)).2 = true then (a : Int) else -1) = _; rw [if_pos (by assumption)]; omega
                exact v_ireturn hG hR dX6_readWord_57 () (congrArg (fun z => some (vI z)) e22) (by trivial) (fun _ hM => by rw [← e21]; exact hM)
              · skip
                have hzi := z0_rng (k := 4 * (a : Int) + (i : Int)) (by omega)
                have hsr := spF_rng (w := 3 + a) hCE (by omega) i (pp, true) (by have := (zn_rng (3 + a) (by omega)); have hz5 : zn (3 + a) = 5 := (by rcases (show a = 0 ∨ a = 1 ∨ a = 2 ∨ a = 3 by omega) with rfl | rfl | rfl | rfl <;> decide +kernel); omega) (by show pp ≤ _; omega)
                refine v_aload_n hG dX6_readWord_31 rfl 0 rfl ?_
                refine v_ldcS (i := 0) (tx := "wearmendrisksure") hG dX6_readWord_32 (by decide) ?_
                refine v_iload_n hG dX6_readWord_34 rfl 1 rfl ?_
                refine v_iload_n hG dX6_readWord_35 rfl 2 rfl ?_
                refine v_iadd hG dX6_readWord_36 ?_
                refine v_callK (by decide) rfl (k1' := 0) (k2' := 0) hG dX6_readWord_37 zc_J0_charAt_5068e ⟨zl_X6_81, zi_J0_charAt_5068e, zs_J0_charAt_5068e⟩ (fun l => k_charAt_5068e l D A (CW D A ad K (uS S 0 s) (uS Q p (sU q 3 (((spF (chT s) (3 + a) i (pp, true)).1 : Nat) : Int))) (q4 qa p w0 w1 w2 w3) tp bo e uc lr nx) ((4 * (a : Int)) + (i : Int)) 0 (by first | assumption | decide) (by omega)) rfl (fun _ h => h) ⟨by decide, by decide⟩ rfl rfl ⟨by decide, by decide⟩ (rest := [.ref (kP ad p)]) rfl (Nat.le_of_ble_eq_true rfl) (fun u23 => [vI (zch 0 ((4 * (a : Int)) + (i : Int))), .ref (kP ad p)]) (fun _ => rfl) (fun u23 hu23 => ?_)
                refine v_callV (k1' := 0) (k2' := 0) hG dX6_readWord_40 zc_X6_skip ⟨zl_X6_56, zi_X6_skip, zs_X6_skip⟩ (fun l => kc6_skip l D A ad K S Q qa tp s (sU q 3 (((spF (chT s) (3 + a) i (pp, true)).1 : Nat) : Int)) w0 w1 w2 w3 bo e uc lr nx p hp ((spF (chT s) (3 + a) i (pp, true)).1) (zch 0 ((4 * (a : Int)) + (i : Int))) (by first | assumption | (rw [sU_ne (by omega)]; assumption) | (simp only [sU_at]; (repeat' split) <;> first | assumption | (exfalso; omega))) (by first | exact sU_eq | assumption) (by assumption) (by omega) (by assumption) (by omega)) rfl (cR6 hp) (fun _ h => h) ⟨by decide, by decide⟩ rfl rfl ⟨by decide, by decide⟩ (rest := []) rfl (Nat.le_of_ble_eq_true rfl) (fun u24 => [vI (bi (chT s ((spF (chT s) (3 + a) i (pp, true)).1) = (zch 0 ((4 * (a : Int)) + (i : Int)))))]) (fun _ => rfl) (fun u24 hu24 => ?_)
                rw [sU_sU]
                rw [must_1 (by assumption) (z0_w (by omega) (by omega))]
                refine v_ifb_ne (p := chT s ((spF (chT s) (3 + a) i (pp, true)).1) = (zch 0 ((4 * (a : Int)) + (i : Int)))) (tgt := 48) hG dX6_readWord_43 (by decide) (fun c25 => ?_) (fun c25 => ?_)
                · skip
                  refine v_iinc (lo' := [(2, vI ((i : Int) + 1)), (0, .ref (kP ad p)), (1, vI (4 * (a : Int)))]) hG dX6_readWord_48 2 rfl (by decide) rfl ?_
                  refine v_goto (tgt := 26) hG dX6_readWord_51 (by decide) ?_
                  refine v_lo [1, 2, 0] (lo' := [(0, .ref (kP ad p)), (1, vI (4 * (a : Int))), (2, vI ((i : Int) + 1))]) rfl ?_
                  exact ihL16 _ (by omega) (i + 1) (by omega) (by rw [sp_y (by assumption) (by rw [← z0_w (by omega) (by omega)]; assumption)]) rfl _ (by omega) _ (by rfl)
                · skip
                  refine v_iconst hG dX6_readWord_46 ?_
                  have e26 : sU q 3 (((spF (chT s) (3 + a) (i + 1) (pp, true)).1 : Nat) : Int) = sU q 3 (((wdF (chT s) pp).1.1 : Nat) : Int) := by rw [wd_at (a := a) (by omega) (by assumption), show spF (chT s) (3 + a) 4 (pp, true) = spF (chT s) (3 + a) (i + 1) (pp, true) from by rw [← spF_stop (k := i + 1) (by rw [sp_n (by rw [← z0_w (by omega) (by omega)]; assumption)]) (4 - (i + 1)), show i + 1 + (4 - (i + 1)) = 4 by omega]]
                  have e27 : @Eq Int (if (wdF (chT s) pp).1.2 = true then (wdF (chT s) pp).2 else -1) (-1) := by rw [wd_at (a := a) (by omega) (by assumption)]; exact if_neg (by rw [show spF (chT s) (3 + a) 4 (pp, true) = spF (chT s) (3 + a) (i + 1) (pp, true) from by rw [← spF_stop (k := i + 1) (by rw [sp_n (by rw [← z0_w (by omega) (by omega)]; assumption)]) (4 - (i + 1)), show i + 1 + (4 - (i + 1)) = 4 by omega], sp_n (by rw [← z0_w (by omega) (by omega)]; assumption)]; exact Bool.false_ne_true)
                  exact v_ireturn hG hR dX6_readWord_47 () (congrArg (fun z => some (vI z)) e27) (by trivial) (fun _ hM => by rw [← e26]; exact hM)
          exact L16 _ 1 (by omega) (by rw [sp_y (k := 0) rfl (by rw [← z0_w (by omega) (by omega), show 4 * (a : Int) + ((0 : Nat) : Int) = 4 * (a : Int) by omega]; assumption)]) rfl _ (by rfl) _ (by rw [sp_y (k := 0) rfl (by rw [← z0_w (by omega) (by omega), show 4 * (a : Int) + ((0 : Nat) : Int) = 4 * (a : Int) by omega]; assumption), show mustF (chT s) (zch 0 (4 * (a : Int))) (pp, true) = (pp + 1, true) from if_pos ⟨rfl, by assumption⟩]; rfl)
  exact L3 _ 0 (by omega) (by exact fun b hb => absurd hb (Nat.not_lt_zero b)) rfl _ (by rfl) _ (by exact sU_at3 h3)
