/-! THE JDK: walks -/
set_option maxHeartbeats 4000000 in
set_option maxRecDepth 100000 in
theorem k_coder_7d493 (l : Launch) (D : Dx) (A : Nat → Prop) (P : Heap → Prop) (i : Nat) (hi : i < 7) : CT l D A yJ0_coder_7d493 cJ0_coder_7d493 1 (some .byte) { frames := 0, cells := 0, slots := 0, locals := 0 } [.ref (zK D i)] P (fun _ : Unit => some (vI 0)) (fun _ => True) (fun _ => P) := by
  refine ct_of (lo0 := [(0, .ref (zK D i))]) (by decide) (Nat.le_of_ble_eq_true rfl) rfl ?_
  intro G hG hR
  refine v_strcmp hG dJ0_coder_7d493_0 ?_
  refine v_if_eq (tgt := 13) hG dJ0_coder_7d493_3 (by decide) (by omega) (fun c1 => ?_) (fun c1 => ?_)
  · skip
    refine v_iconst hG dJ0_coder_7d493_13 ?_
    have e2 : @Eq Int (0) (1) := by first | rfl | omega | (exact bi_congr (by omega)) | (simp [c1]; done)
    exact v_xreturn hG hR dJ0_coder_7d493_14 (by rfl) () (congrArg (fun z => some (vI z)) e2) (by trivial) (fun _ hM => hM)
  · skip
    refine v_aload_n hG dJ0_coder_7d493_6 rfl 0 rfl ?_
    refine v_strcod hG dJ0_coder_7d493_7 hi ?_
    refine v_goto (tgt := 14) hG dJ0_coder_7d493_10 (by decide) ?_
    exact v_xreturn hG hR dJ0_coder_7d493_14 (by rfl) () rfl (by trivial) (fun _ hM => hM)
set_option maxHeartbeats 4000000 in
set_option maxRecDepth 100000 in
theorem k_isLatin1_aae02 (l : Launch) (D : Dx) (A : Nat → Prop) (P : Heap → Prop) (i : Nat) (hi : i < 7) : CT l D A yJ0_isLatin1_aae02 cJ0_isLatin1_aae02 1 (some .boolean) { frames := 0, cells := 0, slots := 0, locals := 0 } [.ref (zK D i)] P (fun _ : Unit => some (vI 1)) (fun _ => True) (fun _ => P) := by
  refine ct_of (lo0 := [(0, .ref (zK D i))]) (by decide) (Nat.le_of_ble_eq_true rfl) rfl ?_
  intro G hG hR
  refine v_strcmp hG dJ0_isLatin1_aae02_0 ?_
  refine v_if_eq (tgt := 17) hG dJ0_isLatin1_aae02_3 (by decide) (by omega) (fun c1 => ?_) (fun c1 => ?_)
  · skip
    refine v_iconst hG dJ0_isLatin1_aae02_17 ?_
    have e2 : @Eq Int (1) (0) := by first | rfl | omega | (exact bi_congr (by omega)) | (simp [c1]; done)
    exact v_zreturn hG hR dJ0_isLatin1_aae02_18 (Or.inl rfl) () (congrArg (fun z => some (vI z)) e2) (by trivial) (fun _ hM => hM)
  · skip
    refine v_aload_n hG dJ0_isLatin1_aae02_6 rfl 0 rfl ?_
    refine v_strcod hG dJ0_isLatin1_aae02_7 hi ?_
    refine v_if_ne (tgt := 17) hG dJ0_isLatin1_aae02_10 (by decide) (by omega) (fun c3 => ?_) (fun c3 => ?_)
    · skip
      refine v_iconst hG dJ0_isLatin1_aae02_17 ?_
      have e4 : @Eq Int (1) (0) := by first | rfl | omega | (exact bi_congr (by omega)) | (simp [c1, c3]; done)
      exact v_zreturn hG hR dJ0_isLatin1_aae02_18 (Or.inl rfl) () (congrArg (fun z => some (vI z)) e4) (by trivial) (fun _ hM => hM)
    · skip
      refine v_iconst hG dJ0_isLatin1_aae02_13 ?_
      refine v_goto (tgt := 18) hG dJ0_isLatin1_aae02_14 (by decide) ?_
      exact v_zreturn hG hR dJ0_isLatin1_aae02_18 (Or.inr rfl) () rfl (by trivial) (fun _ hM => hM)
set_option maxHeartbeats 4000000 in
set_option maxRecDepth 100000 in
theorem k_length_8abf5 (l : Launch) (D : Dx) (A : Nat → Prop) (P : Heap → Prop) (i : Nat) (hi : i < 7) : CT l D A yJ0_length_8abf5 cJ0_length_8abf5 1 (some .int) { frames := 1, cells := 0, slots := 0, locals := 20 } [.ref (zK D i)] P (fun _ : Unit => some (vI (zn i))) (fun _ => True) (fun _ => P) := by
  refine ct_of (lo0 := [(0, .ref (zK D i))]) (by decide) (Nat.le_of_ble_eq_true rfl) rfl ?_
  intro G hG hR
  have hz := zn_rng i hi
  refine v_aload_n hG dJ0_length_8abf5_0 rfl 0 rfl ?_
  refine v_strval hG dJ0_length_8abf5_1 hi ?_
  refine v_strlen hG dJ0_length_8abf5_4 hi ?_
  refine v_aload_n hG dJ0_length_8abf5_5 rfl 0 rfl ?_
  refine v_callK hi rfl (k1' := 0) (k2' := 0) hG dJ0_length_8abf5_6 zc_J0_coder_7d493 ⟨zl_J0_335, zi_J0_coder_7d493, zs_J0_coder_7d493⟩ (fun l => k_coder_7d493 l D A (P) i (by first | assumption | decide)) rfl (fun _ h => h) ⟨by decide, by decide⟩ rfl rfl ⟨by decide, by decide⟩ (rest := [vI (zn i)]) rfl (Nat.le_of_ble_eq_true rfl) (fun u1 => [vI 0, vI (zn i)]) (fun _ => rfl) (fun u1 hu1 => ?_)
  refine v_ishr hG dJ0_length_8abf5_9 (by omega) (by omega) ?_
  have e2 : @Eq Int (zn i) ((zn i) / 2 ^ (0 : Int).toNat) := by rw [show (2 : Int) ^ (0 : Int).toNat = 1 from rfl, Int.ediv_one]
  exact v_ireturn hG hR dJ0_length_8abf5_10 () (congrArg (fun z => some (vI z)) e2) (by trivial) (fun _ hM => hM)
set_option maxHeartbeats 4000000 in
set_option maxRecDepth 100000 in
theorem k_checkIndex3N (l : Launch) (D : Dx) (A : Nat → Prop) (P : Heap → Prop) (k : Int) (n : Int) (hk : 0 ≤ k ∧ k < n) (hn : n ≤ 1000) : CT l D A yJ3_checkIndex_8e157 cJ3_checkIndex_8e157 3 (some .int) { frames := 0, cells := 0, slots := 0, locals := 0 } [vI k, vI n, .null] P (fun _ : Unit => some (vI k)) (fun _ => True) (fun _ => P) := by
  refine ct_of (lo0 := [(0, vI k), (1, vI n), (2, .null)]) (by decide) (Nat.le_of_ble_eq_true rfl) rfl ?_
  intro G hG hR
  refine v_iload_n hG dJ3_checkIndex_8e157_0 rfl 0 rfl ?_
  refine v_if_lt (tgt := 9) hG dJ3_checkIndex_8e157_1 (by decide) (by omega) (fun c1 => ?_) (fun c1 => ?_)
  · skip
    exfalso; omega
  · skip
    refine v_iload_n hG dJ3_checkIndex_8e157_4 rfl 0 rfl ?_
    refine v_iload_n hG dJ3_checkIndex_8e157_5 rfl 1 rfl ?_
    refine v_icmp_lt (tgt := 16) hG dJ3_checkIndex_8e157_6 (by decide) (by omega) (by omega) (fun c2 => ?_) (fun c2 => ?_)
    · skip
      refine v_iload_n hG dJ3_checkIndex_8e157_16 rfl 0 rfl ?_
      exact v_ireturn hG hR dJ3_checkIndex_8e157_17 () rfl (by trivial) (fun _ hM => hM)
    · skip
      exfalso; omega
set_option maxHeartbeats 4000000 in
set_option maxRecDepth 100000 in
theorem k_checkIndex3R (l : Launch) (D : Dx) (A : Nat → Prop) (P : Heap → Prop) (k : Int) (n : Int) (t : Nat) (hk : 0 ≤ k ∧ k < n) (hn : n ≤ 1000) : CT l D A yJ3_checkIndex_8e157 cJ3_checkIndex_8e157 3 (some .int) { frames := 0, cells := 0, slots := 0, locals := 0 } [vI k, vI n, .ref t] P (fun _ : Unit => some (vI k)) (fun _ => True) (fun _ => P) := by
  refine ct_of (lo0 := [(0, vI k), (1, vI n), (2, .ref t)]) (by decide) (Nat.le_of_ble_eq_true rfl) rfl ?_
  intro G hG hR
  refine v_iload_n hG dJ3_checkIndex_8e157_0 rfl 0 rfl ?_
  refine v_if_lt (tgt := 9) hG dJ3_checkIndex_8e157_1 (by decide) (by omega) (fun c1 => ?_) (fun c1 => ?_)
  · skip
    exfalso; omega
  · skip
    refine v_iload_n hG dJ3_checkIndex_8e157_4 rfl 0 rfl ?_
    refine v_iload_n hG dJ3_checkIndex_8e157_5 rfl 1 rfl ?_
    refine v_icmp_lt (tgt := 16) hG dJ3_checkIndex_8e157_6 (by decide) (by omega) (by omega) (fun c2 => ?_) (fun c2 => ?_)
    · skip
      refine v_iload_n hG dJ3_checkIndex_8e157_16 rfl 0 rfl ?_
      exact v_ireturn hG hR dJ3_checkIndex_8e157_17 () rfl (by trivial) (fun _ hM => hM)
    · skip
      exfalso; omega
set_option maxHeartbeats 4000000 in
set_option maxRecDepth 100000 in
theorem k_checkIndex_df160 (l : Launch) (D : Dx) (A : Nat → Prop) (P : Heap → Prop) (k : Int) (n : Int) (hk : 0 ≤ k ∧ k < n) (hn : n ≤ 1000) : CT l D A yJ0_checkIndex_df160 cJ0_checkIndex_df160 2 none { frames := 1, cells := 0, slots := 0, locals := 22 } [vI k, vI n] P (fun _ : Unit => none) (fun _ => True) (fun _ => P) := by
  refine ct_of (lo0 := [(0, vI k), (1, vI n)]) (by decide) (Nat.le_of_ble_eq_true rfl) rfl ?_
  intro G hG hR
  refine v_iload_n hG dJ0_checkIndex_df160_0 rfl 0 rfl ?_
  refine v_iload_n hG dJ0_checkIndex_df160_1 rfl 1 rfl ?_
  refine v_strfmt hG dJ0_checkIndex_df160_2 ?_ (fun t9 => ?_)
  · skip
    refine v_callS (k1' := 0) (k2' := 0) hG dJ0_checkIndex_df160_5 zc_J3_checkIndex_8e157 ⟨zl_J0_1059, zt_J3_checkIndex_8e157⟩ (fun l => k_checkIndex3N l D A (P) k n (by omega) (by omega)) rfl (fun _ h => h) ⟨by decide, by decide⟩ rfl rfl ⟨by decide, by decide⟩ (rest := []) rfl (Nat.le_of_ble_eq_true rfl) (fun u1 => [vI k]) (fun _ => rfl) (fun u1 hu1 => ?_)
    refine v_pop hG dJ0_checkIndex_df160_8 rfl ?_
    exact v_return hG hR dJ0_checkIndex_df160_9 () rfl (by trivial) (fun _ hM => hM)
  · skip
    refine v_callS (k1' := 0) (k2' := 0) hG dJ0_checkIndex_df160_5 zc_J3_checkIndex_8e157 ⟨zl_J0_1059, zt_J3_checkIndex_8e157⟩ (fun l => k_checkIndex3R l D A (P) k n t9 (by omega) (by omega)) rfl (fun _ h => h) ⟨by decide, by decide⟩ rfl rfl ⟨by decide, by decide⟩ (rest := []) rfl (Nat.le_of_ble_eq_true rfl) (fun u2 => [vI k]) (fun _ => rfl) (fun u2 hu2 => ?_)
    refine v_pop hG dJ0_checkIndex_df160_8 rfl ?_
    exact v_return hG hR dJ0_checkIndex_df160_9 () rfl (by trivial) (fun _ hM => hM)
set_option maxHeartbeats 4000000 in
set_option maxRecDepth 100000 in
theorem k_charAt_3b067 (l : Launch) (D : Dx) (A : Nat → Prop) (P : Heap → Prop) (k : Int) (i : Nat) (hi : i < 7) (hk : 0 ≤ k ∧ k < zn i) : CT l D A yJ1_charAt_3b067 cJ1_charAt_3b067 2 (some .char) { frames := 2, cells := 0, slots := 0, locals := 43 } [.ref (zV D i), vI k] P (fun _ : Unit => some (vI (zch i k))) (fun _ => True) (fun _ => P) := by
  refine ct_of (lo0 := [(0, .ref (zV D i)), (1, vI k)]) (by decide) (Nat.le_of_ble_eq_true rfl) rfl ?_
  intro G hG hR
  have hz := zn_rng i hi
  have hc := zch_rng i hi (k := k) (by omega)
  refine v_iload_n hG dJ1_charAt_3b067_0 rfl 1 rfl ?_
  refine v_aload_n hG dJ1_charAt_3b067_1 rfl 0 rfl ?_
  refine v_strlen hG dJ1_charAt_3b067_2 hi ?_
  refine v_callS (k1' := 0) (k2' := 0) hG dJ1_charAt_3b067_3 zc_J0_checkIndex_df160 ⟨zl_J1_9, zt_J0_checkIndex_df160⟩ (fun l => k_checkIndex_df160 l D A (P) k (zn i) (by omega) (by omega)) rfl (fun _ h => h) ⟨by decide, by decide⟩ rfl rfl ⟨by decide, by decide⟩ (rest := []) rfl (Nat.le_of_ble_eq_true rfl) (fun u1 => []) (fun _ => rfl) (fun u1 hu1 => ?_)
  refine v_aload_n hG dJ1_charAt_3b067_6 rfl 0 rfl ?_
  refine v_iload_n hG dJ1_charAt_3b067_7 rfl 1 rfl ?_
  refine v_strld hG dJ1_charAt_3b067_8 hi (by omega) ?_
  refine v_sipush hG dJ1_charAt_3b067_9 (by decide) ?_
  refine v_iand hG dJ1_charAt_3b067_12 ?_
  rw [iand_255 hc]
  refine v_i2c hG dJ1_charAt_3b067_13 (by omega) ?_
  exact v_xreturn hG hR dJ1_charAt_3b067_14 (nar_char hc) () rfl (by trivial) (fun _ hM => hM)
set_option maxHeartbeats 4000000 in
set_option maxRecDepth 100000 in
theorem k_charAt_5068e (l : Launch) (D : Dx) (A : Nat → Prop) (P : Heap → Prop) (k : Int) (i : Nat) (hi : i < 7) (hk : 0 ≤ k ∧ k < zn i) : CT l D A yJ0_charAt_5068e cJ0_charAt_5068e 2 (some .char) { frames := 3, cells := 0, slots := 0, locals := 80 } [.ref (zK D i), vI k] P (fun _ : Unit => some (vI (zch i k))) (fun _ => True) (fun _ => P) := by
  refine ct_of (lo0 := [(0, .ref (zK D i)), (1, vI k)]) (by decide) (Nat.le_of_ble_eq_true rfl) rfl ?_
  intro G hG hR
  have hz := zn_rng i hi
  have hc := zch_rng i hi (k := k) (by omega)
  refine v_aload_n hG dJ0_charAt_5068e_0 rfl 0 rfl ?_
  refine v_callK hi rfl (k1' := 0) (k2' := 0) hG dJ0_charAt_5068e_1 zc_J0_isLatin1_aae02 ⟨zl_J0_492, zi_J0_isLatin1_aae02, zs_J0_isLatin1_aae02⟩ (fun l => k_isLatin1_aae02 l D A (P) i (by first | assumption | decide)) rfl (fun _ h => h) ⟨by decide, by decide⟩ rfl rfl ⟨by decide, by decide⟩ (rest := []) rfl (Nat.le_of_ble_eq_true rfl) (fun u1 => [vI 1]) (fun _ => rfl) (fun u1 hu1 => ?_)
  refine v_if_eq (tgt := 16) hG dJ0_charAt_5068e_4 (by decide) (by omega) (fun c2 => ?_) (fun c2 => ?_)
  · skip
    exfalso; omega
  · skip
    refine v_aload_n hG dJ0_charAt_5068e_7 rfl 0 rfl ?_
    refine v_strval hG dJ0_charAt_5068e_8 hi ?_
    refine v_iload_n hG dJ0_charAt_5068e_11 rfl 1 rfl ?_
    refine v_callS (k1' := 0) (k2' := 0) hG dJ0_charAt_5068e_12 zc_J1_charAt_3b067 ⟨zl_J0_495, zt_J1_charAt_3b067⟩ (fun l => k_charAt_3b067 l D A (P) k i (by first | assumption | decide) (by omega)) rfl (fun _ h => h) ⟨by decide, by decide⟩ rfl rfl ⟨by decide, by decide⟩ (rest := []) rfl (Nat.le_of_ble_eq_true rfl) (fun u3 => [vI (zch i k)]) (fun _ => rfl) (fun u3 hu3 => ?_)
    exact v_xreturn hG hR dJ0_charAt_5068e_15 (nar_char hc) () rfl (by trivial) (fun _ hM => hM)
