/-! THE CLASS: reading a tape, one of several signs -/
theorem zix_b {i : Nat} (hi : i < 7) (x : Int) : -1 ≤ zix i x ∧ zix i x ≤ 16 := by
  have h1 := zix_rng i x
  have h2 := zn_rng i hi
  omega
theorem zix_hit {i k : Nat} {x : Int} (h : leastM (fun k => decide (zch i (k : Int) = x)) k = -1) (hk : (k : Int) < zn i) (e : zch i (k : Int) = x) : (k : Int) = zix i x := (leastM_hit h (decide_eq_true e) (by omega)).symm
theorem zix_stay {i k : Nat} {x : Int} (h : leastM (fun k => decide (zch i (k : Int) = x)) k = -1) (e : ¬ zch i (k : Int) = x) : leastM (fun k => decide (zch i (k : Int) = x)) (k + 1) = -1 := leastM_none.mpr (fun j hj => by
  by_cases q : j = k
  · subst q; exact decide_eq_false e
  · exact leastM_none.mp h j (by omega))
set_option maxHeartbeats 4000000 in
set_option maxRecDepth 100000 in
theorem k_indexOfC (l : Launch) (D : Dx) (A : Nat → Prop) (P : Heap → Prop) (i : Nat) (x : Int) (f : Int) (t : Int) (hi : i < 7) (hx : 0 ≤ x ∧ x ≤ 127) (hf : f = 0) (ht : t = zn i) : CT l D A yJ1_indexOfChar_4cfef cJ1_indexOfChar_4cfef 6 (some .int) { frames := 0, cells := 0, slots := 0, locals := 0 } [.ref (zV D i), vI x, vI f, vI t] P (fun _ : Unit => some (vI (zix i x))) (fun _ => -1 ≤ zix i x ∧ zix i x ≤ 16) (fun _ => P) := by
  refine ct_of (lo0 := [(0, .ref (zV D i)), (1, vI x), (2, vI f), (3, vI t)]) (by decide) (Nat.le_of_ble_eq_true rfl) rfl ?_
  intro G hG hR
  have hz := zn_rng i hi
  refine v_iload_n hG dJ1_indexOfChar_4cfef_0 rfl 1 rfl ?_
  refine v_i2b hG dJ1_indexOfChar_4cfef_1 (by omega) ?_
  refine v_istore (lo' := [(4, vI x), (0, .ref (zV D i)), (1, vI x), (2, vI f), (3, vI t)]) hG dJ1_indexOfChar_4cfef_2 (by decide) rfl ?_
  refine v_iload_n hG dJ1_indexOfChar_4cfef_4 rfl 3 rfl ?_
  refine v_istore (lo' := [(5, vI f), (4, vI x), (0, .ref (zV D i)), (1, vI x), (2, vI f), (3, vI t)]) hG dJ1_indexOfChar_4cfef_5 (by decide) rfl ?_
  refine v_lo [2, 3, 4, 5, 1, 0] (lo' := [(0, .ref (zV D i)), (1, vI x), (2, vI f), (3, vI t), (4, vI x), (5, vI f)]) rfl ?_
  have L2 : ∀ mz : Nat, ∀ (k : Nat), ((k : Int) ≤ zn i) → (leastM (fun k => decide (zch i (k : Int) = x)) k = -1) → (zn i - (k : Int)).toNat = mz → ∀ x1 : Int, x1 = ((k : Int)) → V G 0 0 (P) 7 [(0, .ref (zV D i)), (1, vI x), (2, vI f), (3, vI t), (4, vI x), (5, vI x1)] [] := by
    intro dL2
    induction dL2 using Nat.strongRecOn with
    | ind dL2 ihL2 =>
      intro k hq3 hq4 hq5
      intro x1 hx1
      subst hx1
      refine v_iload hG dJ1_indexOfChar_4cfef_7 5 rfl ?_
      refine v_iload_n hG dJ1_indexOfChar_4cfef_9 rfl 3 rfl ?_
      refine v_icmp_ge (tgt := 31) hG dJ1_indexOfChar_4cfef_10 (by decide) (by omega) (by omega) (fun c6 => ?_) (fun c6 => ?_)
      · skip
        refine v_iconst hG dJ1_indexOfChar_4cfef_31 ?_
        have e7 : @Eq Int (zix i x) (-1) := by exact (show zix i x = -1 by unfold zix; rw [show (zn i).toNat = k by omega]; assumption)
        exact v_ireturn hG hR dJ1_indexOfChar_4cfef_32 () (congrArg (fun z => some (vI z)) e7) (by exact zix_b hi x) (fun _ hM => hM)
      · skip
        have hc := zch_rng i hi (k := (k : Int)) (by omega)
        refine v_aload_n hG dJ1_indexOfChar_4cfef_13 rfl 0 rfl ?_
        refine v_iload hG dJ1_indexOfChar_4cfef_14 5 rfl ?_
        refine v_strld hG dJ1_indexOfChar_4cfef_16 hi (by omega) ?_
        refine v_iload hG dJ1_indexOfChar_4cfef_17 4 rfl ?_
        refine v_icmp_ne (tgt := 25) hG dJ1_indexOfChar_4cfef_19 (by decide) (by omega) (by omega) (fun c8 => ?_) (fun c8 => ?_)
        · skip
          refine v_iinc (lo' := [(5, vI ((k : Int) + 1)), (0, .ref (zV D i)), (1, vI x), (2, vI f), (3, vI t), (4, vI x)]) hG dJ1_indexOfChar_4cfef_25 5 rfl (by decide) rfl ?_
          refine v_goto (tgt := 7) hG dJ1_indexOfChar_4cfef_28 (by decide) ?_
          refine v_lo [1, 2, 3, 4, 5, 0] (lo' := [(0, .ref (zV D i)), (1, vI x), (2, vI f), (3, vI t), (4, vI x), (5, vI ((k : Int) + 1))]) rfl ?_
          exact ihL2 _ (by omega) (k + 1) (by omega) (by exact zix_stay (by assumption) (by assumption)) rfl _ (by omega)
        · skip
          refine v_iload hG dJ1_indexOfChar_4cfef_22 5 rfl ?_
          have e9 : @Eq Int (zix i x) ((k : Int)) := by exact (zix_hit (by assumption) (by omega) (by assumption)).symm
          exact v_ireturn hG hR dJ1_indexOfChar_4cfef_24 () (congrArg (fun z => some (vI z)) e9) (by exact zix_b hi x) (fun _ hM => hM)
  exact L2 _ 0 (by omega) (by rfl) rfl _ (by omega)
set_option maxHeartbeats 4000000 in
set_option maxRecDepth 100000 in
theorem k_indexOfL (l : Launch) (D : Dx) (A : Nat → Prop) (P : Heap → Prop) (i : Nat) (x : Int) (f : Int) (t : Int) (hi : i < 7) (hx : 0 ≤ x ∧ x ≤ 127) (hf : f = 0) (ht : t = zn i) : CT l D A yJ1_indexOf_4cfef cJ1_indexOf_4cfef 4 (some .int) { frames := 1, cells := 0, slots := 0, locals := 25 } [.ref (zV D i), vI x, vI f, vI t] P (fun _ : Unit => some (vI (zix i x))) (fun _ => -1 ≤ zix i x ∧ zix i x ≤ 16) (fun _ => P) := by
  refine ct_of (lo0 := [(0, .ref (zV D i)), (1, vI x), (2, vI f), (3, vI t)]) (by decide) (Nat.le_of_ble_eq_true rfl) rfl ?_
  intro G hG hR
  have hz := zn_rng i hi
  have hzr := zix_rng i x
  refine v_iload_n hG dJ1_indexOf_4cfef_0 rfl 1 rfl ?_
  refine v_callS (k1' := 0) (k2' := 0) hG dJ1_indexOf_4cfef_1 zc_J1_canEncode_9a6ad ⟨zl_J1_88, zt_J1_canEncode_9a6ad⟩ (fun l => k_canEncode_9a6ad l D A (P) x (by omega)) rfl (fun _ h => h) ⟨by decide, by decide⟩ rfl rfl ⟨by decide, by decide⟩ (rest := []) rfl (Nat.le_of_ble_eq_true rfl) (fun u1 => [vI (bi (0 ≤ x ∧ x ≤ 255))]) (fun _ => rfl) (fun u1 hu1 => ?_)
  refine v_ifb_ne (p := 0 ≤ x ∧ x ≤ 255) (tgt := 9) hG dJ1_indexOf_4cfef_4 (by decide) (fun c2 => ?_) (fun c2 => ?_)
  · skip
    refine v_iload_n hG dJ1_indexOf_4cfef_9 rfl 2 rfl ?_
    refine v_iconst hG dJ1_indexOf_4cfef_10 ?_
    refine v_mmax hG dJ1_indexOf_4cfef_11 zl_J1_92 (by decide) ⟨Nat.le_refl _, Nat.le_refl _⟩ (Nat.le_of_ble_eq_true rfl) (by omega) (by omega) ?_
    generalize hv3 : (if f < 0 then 0 else f) = v3
    have bv3 : (v3 = f ∨ v3 = 0) ∧ f ≤ v3 ∧ 0 ≤ v3 := by rw [← hv3]; (repeat' split) <;> omega
    refine v_istore_n (lo' := [(2, vI v3), (0, .ref (zV D i)), (1, vI x), (3, vI t)]) hG dJ1_indexOf_4cfef_14 rfl (by decide) rfl ?_
    refine v_iload_n hG dJ1_indexOf_4cfef_15 rfl 3 rfl ?_
    refine v_aload_n hG dJ1_indexOf_4cfef_16 rfl 1 rfl ?_
    refine v_strlen hG dJ1_indexOf_4cfef_17 hi ?_
    refine v_mmin hG dJ1_indexOf_4cfef_18 zl_J1_38 (by decide) ⟨Nat.le_refl _, Nat.le_refl _⟩ (Nat.le_of_ble_eq_true rfl) (by omega) (by omega) ?_
    generalize hv4 : (if (zn i) < t then (zn i) else t) = v4
    have bv4 : (v4 = t ∨ v4 = zn i) ∧ v4 ≤ t ∧ v4 ≤ zn i := by rw [← hv4]; (repeat' split) <;> omega
    refine v_istore_n (lo' := [(3, vI v4), (2, vI v3), (0, .ref (zV D i)), (1, vI x)]) hG dJ1_indexOf_4cfef_21 rfl (by decide) rfl ?_
    refine v_iload_n hG dJ1_indexOf_4cfef_22 rfl 1 rfl ?_
    refine v_iload_n hG dJ1_indexOf_4cfef_23 rfl 0 rfl ?_
    refine v_icmp_lt (tgt := 29) hG dJ1_indexOf_4cfef_24 (by decide) (by omega) (by omega) (fun c5 => ?_) (fun c5 => ?_)
    · skip
      refine v_aload_n hG dJ1_indexOf_4cfef_29 rfl 2 rfl ?_
      refine v_iload_n hG dJ1_indexOf_4cfef_30 rfl 3 rfl ?_
      refine v_iload_n hG dJ1_indexOf_4cfef_31 rfl 1 rfl ?_
      refine v_iload_n hG dJ1_indexOf_4cfef_32 rfl 0 rfl ?_
      refine v_callS (k1' := 0) (k2' := 0) hG dJ1_indexOf_4cfef_33 zc_J1_indexOfChar_4cfef ⟨zl_J1_95, zt_J1_indexOfChar_4cfef⟩ (fun l => k_indexOfC l D A (P) i x v3 v4 (by first | assumption | decide) (by omega) (by omega) (by omega)) rfl (fun _ h => h) ⟨by decide, by decide⟩ rfl rfl ⟨by decide, by decide⟩ (rest := []) rfl (Nat.le_of_ble_eq_true rfl) (fun u6 => [vI (zix i x)]) (fun _ => rfl) (fun u6 hu6 => ?_)
      have fu6 : -1 ≤ zix i x ∧ zix i x ≤ 16 := hu6
      exact v_ireturn hG hR dJ1_indexOf_4cfef_36 () rfl (by exact zix_b hi x) (fun _ hM => hM)
    · skip
      refine v_iconst hG dJ1_indexOf_4cfef_27 ?_
      have e7 : @Eq Int (zix i x) (-1) := by omega
      exact v_ireturn hG hR dJ1_indexOf_4cfef_28 () (congrArg (fun z => some (vI z)) e7) (by exact zix_b hi x) (fun _ hM => hM)
  · skip
    exfalso; omega
set_option maxHeartbeats 4000000 in
set_option maxRecDepth 100000 in
theorem k_indexOf2 (l : Launch) (D : Dx) (A : Nat → Prop) (P : Heap → Prop) (i : Nat) (x : Int) (f : Int) (hi : i < 7) (hx : 0 ≤ x ∧ x ≤ 127) (hf : f = 0) : CT l D A yJ0_indexOf_7cf53 cJ0_indexOf_7cf53 3 (some .int) { frames := 2, cells := 0, slots := 0, locals := 48 } [.ref (zK D i), vI x, vI f] P (fun _ : Unit => some (vI (zix i x))) (fun _ => -1 ≤ zix i x ∧ zix i x ≤ 16) (fun _ => P) := by
  refine ct_of (lo0 := [(0, .ref (zK D i)), (1, vI x), (2, vI f)]) (by decide) (Nat.le_of_ble_eq_true rfl) rfl ?_
  intro G hG hR
  have hz := zn_rng i hi
  refine v_aload_n hG dJ0_indexOf_7cf53_0 rfl 0 rfl ?_
  refine v_callK hi rfl (k1' := 0) (k2' := 0) hG dJ0_indexOf_7cf53_1 zc_J0_isLatin1_aae02 ⟨zl_J0_492, zi_J0_isLatin1_aae02, zs_J0_isLatin1_aae02⟩ (fun l => k_isLatin1_aae02 l D A (P) i (by first | assumption | decide)) rfl (fun _ h => h) ⟨by decide, by decide⟩ rfl rfl ⟨by decide, by decide⟩ (rest := []) rfl (Nat.le_of_ble_eq_true rfl) (fun u1 => [vI 1]) (fun _ => rfl) (fun u1 hu1 => ?_)
  refine v_if_eq (tgt := 23) hG dJ0_indexOf_7cf53_4 (by decide) (by omega) (fun c2 => ?_) (fun c2 => ?_)
  · skip
    exfalso; omega
  · skip
    refine v_aload_n hG dJ0_indexOf_7cf53_7 rfl 0 rfl ?_
    refine v_strval hG dJ0_indexOf_7cf53_8 hi ?_
    refine v_iload_n hG dJ0_indexOf_7cf53_11 rfl 1 rfl ?_
    refine v_iload_n hG dJ0_indexOf_7cf53_12 rfl 2 rfl ?_
    refine v_aload_n hG dJ0_indexOf_7cf53_13 rfl 0 rfl ?_
    refine v_callK hi rfl (k1' := 0) (k2' := 0) hG dJ0_indexOf_7cf53_14 zc_J0_length_8abf5 ⟨zl_J0_505, zi_J0_length_8abf5, zs_J0_length_8abf5⟩ (fun l => k_length_8abf5 l D A (P) i (by first | assumption | decide)) rfl (fun _ h => h) ⟨by decide, by decide⟩ rfl rfl ⟨by decide, by decide⟩ (rest := [vI f, vI x, .ref (zV D i)]) rfl (Nat.le_of_ble_eq_true rfl) (fun u3 => [vI (zn i), vI f, vI x, .ref (zV D i)]) (fun _ => rfl) (fun u3 hu3 => ?_)
    refine v_callS (k1' := 0) (k2' := 0) hG dJ0_indexOf_7cf53_17 zc_J1_indexOf_4cfef ⟨zl_J0_637, zt_J1_indexOf_4cfef⟩ (fun l => k_indexOfL l D A (P) i x f (zn i) (by first | assumption | decide) (by omega) (by omega) (by omega)) rfl (fun _ h => h) ⟨by decide, by decide⟩ rfl rfl ⟨by decide, by decide⟩ (rest := []) rfl (Nat.le_of_ble_eq_true rfl) (fun u4 => [vI (zix i x)]) (fun _ => rfl) (fun u4 hu4 => ?_)
    have fu4 : -1 ≤ zix i x ∧ zix i x ≤ 16 := hu4
    refine v_goto (tgt := 36) hG dJ0_indexOf_7cf53_20 (by decide) ?_
    exact v_ireturn hG hR dJ0_indexOf_7cf53_36 () rfl (by exact zix_b hi x) (fun _ hM => hM)
set_option maxHeartbeats 4000000 in
set_option maxRecDepth 100000 in
theorem k_indexOf1 (l : Launch) (D : Dx) (A : Nat → Prop) (P : Heap → Prop) (i : Nat) (x : Int) (hi : i < 7) (hx : 0 ≤ x ∧ x ≤ 127) : CT l D A yJ0_indexOf_0f7a4 cJ0_indexOf_0f7a4 2 (some .int) { frames := 3, cells := 0, slots := 0, locals := 70 } [.ref (zK D i), vI x] P (fun _ : Unit => some (vI (zix i x))) (fun _ => -1 ≤ zix i x ∧ zix i x ≤ 16) (fun _ => P) := by
  refine ct_of (lo0 := [(0, .ref (zK D i)), (1, vI x)]) (by decide) (Nat.le_of_ble_eq_true rfl) rfl ?_
  intro G hG hR
  refine v_aload_n hG dJ0_indexOf_0f7a4_0 rfl 0 rfl ?_
  refine v_iload_n hG dJ0_indexOf_0f7a4_1 rfl 1 rfl ?_
  refine v_iconst hG dJ0_indexOf_0f7a4_2 ?_
  refine v_callK hi rfl (k1' := 0) (k2' := 0) hG dJ0_indexOf_0f7a4_3 zc_J0_indexOf_7cf53 ⟨zl_J0_633, zi_J0_indexOf_7cf53, zs_J0_indexOf_7cf53⟩ (fun l => k_indexOf2 l D A (P) i x 0 (by first | assumption | decide) (by omega) (by omega)) rfl (fun _ h => h) ⟨by decide, by decide⟩ rfl rfl ⟨by decide, by decide⟩ (rest := []) rfl (Nat.le_of_ble_eq_true rfl) (fun u1 => [vI (zix i x)]) (fun _ => rfl) (fun u1 hu1 => ?_)
  have fu1 : -1 ≤ zix i x ∧ zix i x ≤ 16 := hu1
  exact v_ireturn hG hR dJ0_indexOf_0f7a4_6 () rfl (by exact zix_b hi x) (fun _ hM => hM)
set_option maxHeartbeats 4000000 in
set_option maxRecDepth 100000 in
theorem kc6_readOneOf (l : Launch) (D : Dx) (A : Nat → Prop) (ad : Nat → Nat) (K : Int → Int) (S Q qa : Nat → Int → Int) (tp : Nat → Nat) (s q w0 w1 w2 w3 bo e uc lr nx : Int → Int) (p : Nat) (hp : p < 6) (pp : Nat) (i : Nat) (hq2 : q 2 = s 48) (h3 : q 3 = (pp : Int)) (hTS : TS s) (hpn : (pp : Int) ≤ s 48) (htp : tp p = kC ad 0 0) (hi : i < 7) : CT l D A yX6_readOneOf cX6_readOneOf 3 (some .int) { frames := 4, cells := 0, slots := 0, locals := 91 } [.ref (kP ad p), .ref (zK D i)] (CW D A ad K (uS S 0 s) (uS Q p q) (q4 qa p w0 w1 w2 w3) tp bo e uc lr nx) (fun _ : Unit => some (vI (zix i (chT s pp)))) (fun _ => -1 ≤ zix i (chT s pp) ∧ zix i (chT s pp) ≤ 16) (fun _ => CW D A ad K (uS S 0 s) (uS Q p (sU q 3 ((if zix i (chT s pp) = -1 then pp else pp + 1 : Nat) : Int))) (q4 qa p w0 w1 w2 w3) tp bo e uc lr nx) := by
  refine ct_of (lo0 := [(0, .ref (kP ad p)), (1, .ref (zK D i))]) (by decide) (Nat.le_of_ble_eq_true rfl) rfl ?_
  intro G hG hR
  have hT1 := hTS.1
  have hT2 := hTS.2 (q 3) (by omega)
  refine v_aload_n hG dX6_readOneOf_0 rfl 0 rfl ?_
  refine cq6 hp hG dX6_readOneOf_1 zf_X6_43 (k := 8) (by decide) (v := vI (q 3)) rfl ?_
  refine v_aload_n hG dX6_readOneOf_4 rfl 0 rfl ?_
  refine cq6 hp hG dX6_readOneOf_5 zf_X6_40 (k := 7) (by decide) (v := vI (q 2)) rfl ?_
  refine v_icmp_ge (tgt := 28) hG dX6_readOneOf_8 (by decide) (by omega) (by omega) (fun c1 => ?_) (fun c1 => ?_)
  · skip
    refine v_iconst hG dX6_readOneOf_28 ?_
    refine v_istore_n (lo' := [(2, vI (-1)), (0, .ref (kP ad p)), (1, .ref (zK D i))]) hG dX6_readOneOf_29 rfl (by decide) rfl ?_
    refine v_iload_n hG dX6_readOneOf_30 rfl 0 rfl ?_
    refine v_if_lt (tgt := 44) hG dX6_readOneOf_31 (by decide) (by omega) (fun c2 => ?_) (fun c2 => ?_)
    · skip
      refine v_iload_n hG dX6_readOneOf_44 rfl 0 rfl ?_
      have e3 : q = sU q 3 ((if zix i (chT s pp) = -1 then pp else pp + 1 : Nat) : Int) := by first | (have hx : zix i (chT s pp) = zix i (s (158 + q 3)) := (by rw [chT_in (by omega), ← h3]); rw [hx, if_neg (by omega), h3]; rfl) | (have hx : zix i (chT s pp) = zix i (s (158 + q 3)) := (by rw [chT_in (by omega), ← h3]); rw [hx, if_pos (by omega)]; exact sU_at3 h3) | (have hx : zix i (chT s pp) = -1 := (by rw [chT_out (by omega)]; exact zix_end hi); rw [hx, if_pos rfl]; exact sU_at3 h3)
      have e4 : @Eq Int (zix i (chT s pp)) (-1) := by first | (have hx : zix i (chT s pp) = zix i (s (158 + q 3)) := (by rw [chT_in (by omega), ← h3]); rw [hx]; done) | (have hx : zix i (chT s pp) = -1 := (by rw [chT_out (by omega)]; exact zix_end hi); rw [hx]; done)
      exact v_ireturn hG hR dX6_readOneOf_45 () (congrArg (fun z => some (vI z)) e4) (by exact zix_b hi _) (fun _ hM => by rw [← e3]; exact hM)
    · skip
      refine v_aload_n hG dX6_readOneOf_34 rfl 1 rfl ?_
      refine v_dup hG dX6_readOneOf_35 rfl ?_
      refine cq6 hp hG dX6_readOneOf_36 zf_X6_43 (k := 8) (by decide) (v := vI (q 3)) rfl ?_
      refine v_iconst hG dX6_readOneOf_39 ?_
      refine v_iadd hG dX6_readOneOf_40 ?_
      refine cp6_at hp hG dX6_readOneOf_41 zf_X6_43 ?_
      refine v_iload_n hG dX6_readOneOf_44 rfl 0 rfl ?_
      have e5 : sU q 3 ((q 3) + 1) = sU q 3 ((if zix i (chT s pp) = -1 then pp else pp + 1 : Nat) : Int) := by first | (have hx : zix i (chT s pp) = zix i (s (158 + q 3)) := (by rw [chT_in (by omega), ← h3]); rw [hx, if_neg (by omega), h3]; rfl) | (have hx : zix i (chT s pp) = zix i (s (158 + q 3)) := (by rw [chT_in (by omega), ← h3]); rw [hx, if_pos (by omega)]; exact sU_at3 h3) | (have hx : zix i (chT s pp) = -1 := (by rw [chT_out (by omega)]; exact zix_end hi); rw [hx, if_pos rfl]; exact sU_at3 h3)
      have e6 : @Eq Int (zix i (chT s pp)) (-1) := by first | (have hx : zix i (chT s pp) = zix i (s (158 + q 3)) := (by rw [chT_in (by omega), ← h3]); rw [hx]; done) | (have hx : zix i (chT s pp) = -1 := (by rw [chT_out (by omega)]; exact zix_end hi); rw [hx]; done)
      exact v_ireturn hG hR dX6_readOneOf_45 () (congrArg (fun z => some (vI z)) e6) (by exact zix_b hi _) (fun _ hM => by rw [← e5]; exact hM)
  · skip
    refine v_aload_n hG dX6_readOneOf_11 rfl 1 rfl ?_
    refine v_aload_n hG dX6_readOneOf_12 rfl 0 rfl ?_
    refine cq6 hp hG dX6_readOneOf_13 zf_X6_24 (k := 6) (by decide) (v := .ref (kC ad 0 0)) (congrArg (fun z => some (Value.ref z)) htp) ?_
    refine v_aload_n hG dX6_readOneOf_16 rfl 0 rfl ?_
    refine cq6 hp hG dX6_readOneOf_17 zf_X6_43 (k := 8) (by decide) (v := vI (q 3)) rfl ?_
    refine ca_tape (by decide) hG dX6_readOneOf_20 (by omega) (by omega) rfl ?_
    refine v_i2c hG dX6_readOneOf_21 (by omega) ?_
    refine v_callK hi rfl (k1' := 0) (k2' := 0) hG dX6_readOneOf_22 zc_J0_indexOf_0f7a4 ⟨zl_X6_103, zi_J0_indexOf_0f7a4, zs_J0_indexOf_0f7a4⟩ (fun l => k_indexOf1 l D A (CW D A ad K (uS S 0 s) (uS Q p q) (q4 qa p w0 w1 w2 w3) tp bo e uc lr nx) i (s (158 + (q 3))) (by first | assumption | decide) (by omega)) rfl (fun _ h => h) ⟨by decide, by decide⟩ rfl rfl ⟨by decide, by decide⟩ (rest := []) rfl (Nat.le_of_ble_eq_true rfl) (fun u7 => [vI (zix i (s (158 + (q 3))))]) (fun _ => rfl) (fun u7 hu7 => ?_)
    have fu7 : -1 ≤ zix i (s (158 + (q 3))) ∧ zix i (s (158 + (q 3))) ≤ 16 := hu7
    refine v_goto (tgt := 29) hG dX6_readOneOf_25 (by decide) ?_
    refine v_istore_n (lo' := [(2, vI (zix i (s (158 + (q 3))))), (0, .ref (kP ad p)), (1, .ref (zK D i))]) hG dX6_readOneOf_29 rfl (by decide) rfl ?_
    refine v_iload_n hG dX6_readOneOf_30 rfl 0 rfl ?_
    refine v_if_lt (tgt := 44) hG dX6_readOneOf_31 (by decide) (by omega) (fun c8 => ?_) (fun c8 => ?_)
    · skip
      refine v_iload_n hG dX6_readOneOf_44 rfl 0 rfl ?_
      have e9 : q = sU q 3 ((if zix i (chT s pp) = -1 then pp else pp + 1 : Nat) : Int) := by first | (have hx : zix i (chT s pp) = zix i (s (158 + q 3)) := (by rw [chT_in (by omega), ← h3]); rw [hx, if_neg (by omega), h3]; rfl) | (have hx : zix i (chT s pp) = zix i (s (158 + q 3)) := (by rw [chT_in (by omega), ← h3]); rw [hx, if_pos (by omega)]; exact sU_at3 h3) | (have hx : zix i (chT s pp) = -1 := (by rw [chT_out (by omega)]; exact zix_end hi); rw [hx, if_pos rfl]; exact sU_at3 h3)
      have e10 : @Eq Int (zix i (chT s pp)) (zix i (s (158 + (q 3)))) := by first | (have hx : zix i (chT s pp) = zix i (s (158 + q 3)) := (by rw [chT_in (by omega), ← h3]); rw [hx]; done) | (have hx : zix i (chT s pp) = -1 := (by rw [chT_out (by omega)]; exact zix_end hi); rw [hx]; done)
      exact v_ireturn hG hR dX6_readOneOf_45 () (congrArg (fun z => some (vI z)) e10) (by exact zix_b hi _) (fun _ hM => by rw [← e9]; exact hM)
    · skip
      refine v_aload_n hG dX6_readOneOf_34 rfl 1 rfl ?_
      refine v_dup hG dX6_readOneOf_35 rfl ?_
      refine cq6 hp hG dX6_readOneOf_36 zf_X6_43 (k := 8) (by decide) (v := vI (q 3)) rfl ?_
      refine v_iconst hG dX6_readOneOf_39 ?_
      refine v_iadd hG dX6_readOneOf_40 ?_
      refine cp6_at hp hG dX6_readOneOf_41 zf_X6_43 ?_
      refine v_iload_n hG dX6_readOneOf_44 rfl 0 rfl ?_
      have e11 : sU q 3 ((q 3) + 1) = sU q 3 ((if zix i (chT s pp) = -1 then pp else pp + 1 : Nat) : Int) := by first | (have hx : zix i (chT s pp) = zix i (s (158 + q 3)) := (by rw [chT_in (by omega), ← h3]); rw [hx, if_neg (by omega), h3]; rfl) | (have hx : zix i (chT s pp) = zix i (s (158 + q 3)) := (by rw [chT_in (by omega), ← h3]); rw [hx, if_pos (by omega)]; exact sU_at3 h3) | (have hx : zix i (chT s pp) = -1 := (by rw [chT_out (by omega)]; exact zix_end hi); rw [hx, if_pos rfl]; exact sU_at3 h3)
      have e12 : @Eq Int (zix i (chT s pp)) (zix i (s (158 + (q 3)))) := by first | (have hx : zix i (chT s pp) = zix i (s (158 + q 3)) := (by rw [chT_in (by omega), ← h3]); rw [hx]; done) | (have hx : zix i (chT s pp) = -1 := (by rw [chT_out (by omega)]; exact zix_end hi); rw [hx]; done)
      exact v_ireturn hG hR dX6_readOneOf_45 () (congrArg (fun z => some (vI z)) e12) (by exact zix_b hi _) (fun _ hM => by rw [← e11]; exact hM)
