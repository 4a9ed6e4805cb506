/-! THE MODEL: first walks -/
def clamp (v low high : Int) : Int := if v < low then low else if high < v then high else v
def f_feed (s : Int → Int) (x : Int) : Int → Int := if 0 ≤ x ∧ x ≤ 127 then (if s 48 = 100 then s else sU (sU s (158 + s 48) x) 48 (s 48 + 1)) else s
set_option maxHeartbeats 4000000 in
set_option maxRecDepth 100000 in
theorem k_in (l : Launch) (D : Dx) (A : Nat → Prop) (P : Heap → Prop) (v : Int) (low : Int) (high : Int) (h1 : -2147483648 ≤ v ∧ v < 2147483648) (h2 : -2147483648 ≤ low ∧ low < 2147483648) (h3 : -2147483648 ≤ high ∧ high < 2147483648) : CT l D A yX12_in cX12_in 3 (some .boolean) { frames := 0, cells := 0, slots := 0, locals := 0 } [vI v, vI low, vI high] P (fun _ : Unit => some (vI (bi (low ≤ v ∧ v ≤ high)))) (fun _ => True) (fun _ => P) := by
  refine ct_of (lo0 := [(0, vI v), (1, vI low), (2, vI high)]) (by decide) (Nat.le_of_ble_eq_true rfl) rfl ?_
  intro G hG hR
  refine v_iload_n hG dX12_in_0 rfl 0 rfl ?_
  refine v_iload_n hG dX12_in_1 rfl 1 rfl ?_
  have J2 : ∀ z1 : Int, z1 = (bi ((¬ (v < low)) ∧ (¬ (high < v)))) → V G 0 0 (P) 15 [(0, vI v), (1, vI low), (2, vI high)] [vI z1] := by
    intro z1 hz1
    subst hz1
    have e3 : @Eq Int (bi (low ≤ v ∧ v ≤ high)) (bi ((¬ (v < low)) ∧ (¬ (high < v)))) := by first | rfl | omega | (exact bi_congr (by omega)) | (simp []; done)
    exact v_zreturn hG hR dX12_in_15 (bi_01 _) () (congrArg (fun z => some (vI z)) e3) (by trivial) (fun _ hM => hM)
  refine v_icmp_lt (tgt := 14) hG dX12_in_2 (by decide) (by omega) (by omega) (fun c4 => ?_) (fun c4 => ?_)
  · skip
    refine v_iconst hG dX12_in_14 ?_
    exact J2 _ (by first | rfl | (simp only [if_pos c4]; done) | (simp [bi, c4]; done))
  · skip
    refine v_iload_n hG dX12_in_5 rfl 0 rfl ?_
    refine v_iload_n hG dX12_in_6 rfl 2 rfl ?_
    refine v_icmp_gt (tgt := 14) hG dX12_in_7 (by decide) (by omega) (by omega) (fun c5 => ?_) (fun c5 => ?_)
    · skip
      refine v_iconst hG dX12_in_14 ?_
      exact J2 _ (by first | rfl | (simp only [if_neg c4, if_pos c5]; done) | (simp [bi, c4, c5]; done))
    · skip
      refine v_iconst hG dX12_in_10 ?_
      refine v_goto (tgt := 15) hG dX12_in_11 (by decide) ?_
      exact J2 _ (by first | rfl | (simp only [if_neg c4, if_neg c5]; done) | (simp [bi, c4, c5]; done))
set_option maxHeartbeats 4000000 in
set_option maxRecDepth 100000 in
theorem k_within (l : Launch) (D : Dx) (A : Nat → Prop) (P : Heap → Prop) (v : Int) (low : Int) (high : Int) (h1 : -2147483648 ≤ v ∧ v < 2147483648) (h2 : -2147483648 ≤ low ∧ low < 2147483648) (h3 : -2147483648 ≤ high ∧ high < 2147483648) : CT l D A yX12_within cX12_within 3 (some .int) { frames := 0, cells := 0, slots := 0, locals := 0 } [vI v, vI low, vI high] P (fun _ : Unit => some (vI (clamp v low high))) (fun _ => True) (fun _ => P) := by
  refine ct_of (lo0 := [(0, vI v), (1, vI low), (2, vI high)]) (by decide) (Nat.le_of_ble_eq_true rfl) rfl ?_
  intro G hG hR
  refine v_iload_n hG dX12_within_0 rfl 0 rfl ?_
  refine v_iload_n hG dX12_within_1 rfl 1 rfl ?_
  refine v_icmp_ge (tgt := 9) hG dX12_within_2 (by decide) (by omega) (by omega) (fun c1 => ?_) (fun c1 => ?_)
  · skip
    refine v_iload_n hG dX12_within_9 rfl 0 rfl ?_
    refine v_iload_n hG dX12_within_10 rfl 2 rfl ?_
    refine v_icmp_le (tgt := 18) hG dX12_within_11 (by decide) (by omega) (by omega) (fun c2 => ?_) (fun c2 => ?_)
    · skip
      refine v_iload_n hG dX12_within_18 rfl 0 rfl ?_
      have e3 : @Eq Int (clamp v low high) (v) := by first | (unfold clamp; simp only [if_pos c1, if_pos c2]; done) | (unfold clamp; repeat' split <;> omega)
      exact v_ireturn hG hR dX12_within_19 () (congrArg (fun z => some (vI z)) e3) (by trivial) (fun _ hM => hM)
    · skip
      refine v_iload_n hG dX12_within_14 rfl 2 rfl ?_
      refine v_goto (tgt := 19) hG dX12_within_15 (by decide) ?_
      have e4 : @Eq Int (clamp v low high) (high) := by first | (unfold clamp; simp only [if_pos c1, if_neg c2]; done) | (unfold clamp; repeat' split <;> omega)
      exact v_ireturn hG hR dX12_within_19 () (congrArg (fun z => some (vI z)) e4) (by trivial) (fun _ hM => hM)
  · skip
    refine v_iload_n hG dX12_within_5 rfl 1 rfl ?_
    refine v_goto (tgt := 19) hG dX12_within_6 (by decide) ?_
    have e5 : @Eq Int (clamp v low high) (low) := by first | (unfold clamp; simp only [if_neg c1]; done) | (unfold clamp; repeat' split <;> omega)
    exact v_ireturn hG hR dX12_within_19 () (congrArg (fun z => some (vI z)) e5) (by trivial) (fun _ hM => hM)
set_option maxHeartbeats 4000000 in
set_option maxRecDepth 100000 in
theorem k_isMark (l : Launch) (D : Dx) (A : Nat → Prop) (a : Nat → Nat) (s im fr bY tr ln bl bo g lg : Int → Int) (m : Int) (h1 : -2147483648 ≤ m ∧ m < 2147483648) (h2 : 0 ≤ s 43 ∧ s 43 ≤ 8) : CT l D A yX12_isMark cX12_isMark 2 (some .boolean) { frames := 1, cells := 0, slots := 0, locals := 22 } [.ref (a 0), vI m] (MW D A a s im fr bY tr ln bl bo g lg) (fun _ : Unit => some (vI (bi (0 ≤ m ∧ m ≤ s 43 - 1)))) (fun _ => True) (fun _ => MW D A a s im fr bY tr ln bl bo g lg) := by
  refine ct_of (lo0 := [(0, .ref (a 0)), (1, vI m)]) (by decide) (Nat.le_of_ble_eq_true rfl) rfl ?_
  intro G hG hR
  refine v_iload_n hG dX12_isMark_0 rfl 1 rfl ?_
  refine v_iconst hG dX12_isMark_1 ?_
  refine v_aload_n hG dX12_isMark_2 rfl 0 rfl ?_
  refine mg_s hG dX12_isMark_3 ?_
  refine v_bipush hG dX12_isMark_6 (by decide) ?_
  refine ma_s (z := s 43) hG dX12_isMark_8 (by omega) rfl ?_
  refine v_iconst hG dX12_isMark_9 ?_
  refine v_isub hG dX12_isMark_10 ?_
  refine v_callS (k1' := 0) (k2' := 0) hG dX12_isMark_11 zc_X12_in ⟨zl_X12_41, zt_X12_in⟩ (fun l => k_in l D A (MW D A a s im fr bY tr ln bl bo g lg) m 0 ((s 43) - 1) (by omega) (by omega) (by omega)) rfl (fun _ h => h) ⟨by decide, by decide⟩ rfl rfl ⟨by decide, by decide⟩ (rest := []) rfl (Nat.le_of_ble_eq_true rfl) (fun u1 => [vI (bi (0 ≤ m ∧ m ≤ ((s 43) - 1)))]) (fun _ => rfl) (fun u1 hu1 => ?_)
  have e2 : @Eq Int (bi (0 ≤ m ∧ m ≤ s 43 - 1)) (bi (0 ≤ m ∧ m ≤ ((s 43) - 1))) := by first | rfl | omega | (exact bi_congr (by omega)) | (simp []; done)
  exact v_zreturn hG hR dX12_isMark_14 (bi_01 _) () (congrArg (fun z => some (vI z)) e2) (by trivial) (fun _ hM => hM)
set_option maxHeartbeats 4000000 in
set_option maxRecDepth 100000 in
theorem k_isCut (l : Launch) (D : Dx) (A : Nat → Prop) (a : Nat → Nat) (s im fr bY tr ln bl bo g lg : Int → Int) (m : Int) (h1 : 0 ≤ m ∧ m < 8) (h2 : -2147483648 ≤ s (11 + m) ∧ s (11 + m) < 2147483648) : CT l D A yX12_isCut cX12_isCut 2 (some .boolean) { frames := 0, cells := 0, slots := 0, locals := 0 } [.ref (a 0), vI m] (MW D A a s im fr bY tr ln bl bo g lg) (fun _ : Unit => some (vI (bi (s (11 + m) = 1)))) (fun _ => True) (fun _ => MW D A a s im fr bY tr ln bl bo g lg) := by
  refine ct_of (lo0 := [(0, .ref (a 0)), (1, vI m)]) (by decide) (Nat.le_of_ble_eq_true rfl) rfl ?_
  intro G hG hR
  refine v_aload_n hG dX12_isCut_0 rfl 0 rfl ?_
  refine mg_s hG dX12_isCut_1 ?_
  refine v_bipush hG dX12_isCut_4 (by decide) ?_
  refine v_iload_n hG dX12_isCut_6 rfl 1 rfl ?_
  refine v_iadd hG dX12_isCut_7 ?_
  refine ma_s (z := s (11 + m)) hG dX12_isCut_8 (by omega) rfl ?_
  refine v_iconst hG dX12_isCut_9 ?_
  have J2 : ∀ z1 : Int, z1 = (bi (s (11 + m) = 1)) → V G 0 0 (MW D A a s im fr bY tr ln bl bo g lg) 18 [(0, .ref (a 0)), (1, vI m)] [vI z1] := by
    intro z1 hz1
    subst hz1
    exact v_zreturn hG hR dX12_isCut_18 (bi_01 _) () rfl (by trivial) (fun _ hM => hM)
  refine v_icmp_ne (tgt := 17) hG dX12_isCut_10 (by decide) (by omega) (by omega) (fun c3 => ?_) (fun c3 => ?_)
  · skip
    refine v_iconst hG dX12_isCut_17 ?_
    exact J2 _ (by first | rfl | (simp only [if_neg c3]; done) | (simp [bi, c3]; done))
  · skip
    refine v_iconst hG dX12_isCut_13 ?_
    refine v_goto (tgt := 18) hG dX12_isCut_14 (by decide) ?_
    exact J2 _ (by first | rfl | (simp only [if_pos c3]; done) | (simp [bi, c3]; done))
set_option maxHeartbeats 4000000 in
set_option maxRecDepth 100000 in
theorem k_keeps (l : Launch) (D : Dx) (A : Nat → Prop) (a : Nat → Nat) (s im fr bY tr ln bl bo g lg : Int → Int) : CT l D A yX12_keeps cX12_keeps 2 none { frames := 0, cells := 0, slots := 0, locals := 0 } [.ref (a 0)] (MW D A a s im fr bY tr ln bl bo g lg) (fun _ : Unit => none) (fun _ => True) (fun _ => MW D A a s im (cpy 43 s fr) bY tr ln bl bo g lg) := by
  refine ct_of (lo0 := [(0, .ref (a 0))]) (by decide) (Nat.le_of_ble_eq_true rfl) rfl ?_
  intro G hG hR
  refine v_iconst hG dX12_keeps_0 ?_
  refine v_istore_n (lo' := [(1, vI 0), (0, .ref (a 0))]) hG dX12_keeps_1 rfl (by decide) rfl ?_
  refine v_lo [1, 0] (lo' := [(0, .ref (a 0)), (1, vI 0)]) rfl ?_
  have L3 : ∀ d : Nat, ∀ (k : Nat), ((k : Int) ≤ 43) → (43 - (k : Int)).toNat = d → ∀ x1 : Int, x1 = ((k : Int)) → ∀ x2 : Int → Int, x2 = (cpy k s fr) → V G 0 0 (MW D A a s im x2 bY tr ln bl bo g lg) 2 [(0, .ref (a 0)), (1, vI x1)] [] := by
    intro d
    induction d using Nat.strongRecOn with
    | ind d ih =>
      intro k h4 h5
      intro x1 hx1
      subst hx1
      intro x2 hx2
      subst hx2
      refine v_iload_n hG dX12_keeps_2 rfl 1 rfl ?_
      refine v_bipush hG dX12_keeps_3 (by decide) ?_
      refine v_icmp_ge (tgt := 26) hG dX12_keeps_5 (by decide) (by omega) (by omega) (fun c6 => ?_) (fun c6 => ?_)
      · skip
        have e7 : cpy k s fr = cpy 43 s fr := by rw [show (k : Int) = 43 by omega]
        exact v_return hG hR dX12_keeps_26 () rfl (by trivial) (fun _ hM => by rw [← e7]; exact hM)
      · skip
        refine v_aload_n hG dX12_keeps_8 rfl 0 rfl ?_
        refine mg_frame hG dX12_keeps_9 ?_
        refine v_iload_n hG dX12_keeps_12 rfl 1 rfl ?_
        refine v_aload_n hG dX12_keeps_13 rfl 0 rfl ?_
        refine mg_s hG dX12_keeps_14 ?_
        refine v_iload_n hG dX12_keeps_17 rfl 1 rfl ?_
        refine ma_s (z := s (k : Int)) hG dX12_keeps_18 (by omega) rfl ?_
        refine ms_frame hG dX12_keeps_19 (by omega) ?_
        refine v_iinc (lo' := [(1, vI ((k : Int) + 1)), (0, .ref (a 0))]) hG dX12_keeps_20 1 rfl (by decide) rfl ?_
        refine v_goto (tgt := 2) hG dX12_keeps_23 (by decide) ?_
        refine v_lo [1, 0] (lo' := [(0, .ref (a 0)), (1, vI ((k : Int) + 1))]) rfl ?_
        exact ih _ (by omega) (k + 1) (by omega) rfl _ (by first | omega | rfl | (simp [c6]; done)) _ (by exact cpy_step)
  exact L3 _ 0 (by omega) rfl _ (by first | omega | rfl | (simp []; done)) _ (by exact cpy_0.symm)
set_option maxHeartbeats 4000000 in
set_option maxRecDepth 100000 in
theorem k_goesBack (l : Launch) (D : Dx) (A : Nat → Prop) (a : Nat → Nat) (s im fr bY tr ln bl bo g lg : Int → Int) : CT l D A yX12_goesBack cX12_goesBack 2 none { frames := 0, cells := 0, slots := 0, locals := 0 } [.ref (a 0)] (MW D A a s im fr bY tr ln bl bo g lg) (fun _ : Unit => none) (fun _ => True) (fun _ => MW D A a (cpy 43 fr s) im fr bY tr ln bl bo g lg) := by
  refine ct_of (lo0 := [(0, .ref (a 0))]) (by decide) (Nat.le_of_ble_eq_true rfl) rfl ?_
  intro G hG hR
  refine v_iconst hG dX12_goesBack_0 ?_
  refine v_istore_n (lo' := [(1, vI 0), (0, .ref (a 0))]) hG dX12_goesBack_1 rfl (by decide) rfl ?_
  refine v_lo [1, 0] (lo' := [(0, .ref (a 0)), (1, vI 0)]) rfl ?_
  have L3 : ∀ d : Nat, ∀ (k : Nat), ((k : Int) ≤ 43) → (43 - (k : Int)).toNat = d → ∀ x1 : Int, x1 = ((k : Int)) → ∀ x2 : Int → Int, x2 = (cpy k fr s) → V G 0 0 (MW D A a x2 im fr bY tr ln bl bo g lg) 2 [(0, .ref (a 0)), (1, vI x1)] [] := by
    intro d
    induction d using Nat.strongRecOn with
    | ind d ih =>
      intro k h4 h5
      intro x1 hx1
      subst hx1
      intro x2 hx2
      subst hx2
      refine v_iload_n hG dX12_goesBack_2 rfl 1 rfl ?_
      refine v_bipush hG dX12_goesBack_3 (by decide) ?_
      refine v_icmp_ge (tgt := 26) hG dX12_goesBack_5 (by decide) (by omega) (by omega) (fun c6 => ?_) (fun c6 => ?_)
      · skip
        have e7 : cpy k fr s = cpy 43 fr s := by rw [show (k : Int) = 43 by omega]
        exact v_return hG hR dX12_goesBack_26 () rfl (by trivial) (fun _ hM => by rw [← e7]; exact hM)
      · skip
        refine v_aload_n hG dX12_goesBack_8 rfl 0 rfl ?_
        refine mg_s hG dX12_goesBack_9 ?_
        refine v_iload_n hG dX12_goesBack_12 rfl 1 rfl ?_
        refine v_aload_n hG dX12_goesBack_13 rfl 0 rfl ?_
        refine mg_frame hG dX12_goesBack_14 ?_
        refine v_iload_n hG dX12_goesBack_17 rfl 1 rfl ?_
        refine ma_frame (z := fr (k : Int)) hG dX12_goesBack_18 (by omega) rfl ?_
        refine ms_s hG dX12_goesBack_19 (by omega) ?_
        refine v_iinc (lo' := [(1, vI ((k : Int) + 1)), (0, .ref (a 0))]) hG dX12_goesBack_20 1 rfl (by decide) rfl ?_
        refine v_goto (tgt := 2) hG dX12_goesBack_23 (by decide) ?_
        refine v_lo [1, 0] (lo' := [(0, .ref (a 0)), (1, vI ((k : Int) + 1))]) rfl ?_
        exact ih _ (by omega) (k + 1) (by omega) rfl _ (by first | omega | rfl | (simp [c6]; done)) _ (by exact cpy_step)
  exact L3 _ 0 (by omega) rfl _ (by first | omega | rfl | (simp []; done)) _ (by exact cpy_0.symm)
set_option maxHeartbeats 4000000 in
set_option maxRecDepth 100000 in
theorem k_feed (l : Launch) (D : Dx) (A : Nat → Prop) (a : Nat → Nat) (s im fr bY tr ln bl bo g lg : Int → Int) (x : Int) (h1 : -2147483648 ≤ x ∧ x < 2147483648) (h2 : 0 ≤ s 48 ∧ s 48 ≤ 100) : CT l D A yX12_feed cX12_feed 2 (some .int) { frames := 1, cells := 0, slots := 0, locals := 22 } [.ref (a 0), vI x] (MW D A a s im fr bY tr ln bl bo g lg) (fun _ : Unit => some (vI (if 0 ≤ x ∧ x ≤ 127 then (if s 48 = 100 then -4 else s 48 + 1) else -2))) (fun _ => True) (fun _ => MW D A a (f_feed s x) im fr bY tr ln bl bo g lg) := by
  refine ct_of (lo0 := [(0, .ref (a 0)), (1, vI x)]) (by decide) (Nat.le_of_ble_eq_true rfl) rfl ?_
  intro G hG hR
  refine v_iload_n hG dX12_feed_0 rfl 1 rfl ?_
  refine v_iconst hG dX12_feed_1 ?_
  refine v_bipush hG dX12_feed_2 (by decide) ?_
  refine v_callS (k1' := 0) (k2' := 0) hG dX12_feed_4 zc_X12_in ⟨zl_X12_41, zt_X12_in⟩ (fun l => k_in l D A (MW D A a s im fr bY tr ln bl bo g lg) x 0 127 (by omega) (by omega) (by omega)) rfl (fun _ h => h) ⟨by decide, by decide⟩ rfl rfl ⟨by decide, by decide⟩ (rest := []) rfl (Nat.le_of_ble_eq_true rfl) (fun u1 => [vI (bi (0 ≤ x ∧ x ≤ 127))]) (fun _ => rfl) (fun u1 hu1 => ?_)
  refine v_ifb_ne (p := 0 ≤ x ∧ x ≤ 127) (tgt := 13) hG dX12_feed_7 (by decide) (fun c2 => ?_) (fun c2 => ?_)
  · skip
    refine v_aload_n hG dX12_feed_13 rfl 0 rfl ?_
    refine mg_s hG dX12_feed_14 ?_
    refine v_bipush hG dX12_feed_17 (by decide) ?_
    refine ma_s (z := s 48) hG dX12_feed_19 (by omega) rfl ?_
    refine v_bipush hG dX12_feed_20 (by decide) ?_
    refine v_icmp_ne (tgt := 28) hG dX12_feed_22 (by decide) (by omega) (by omega) (fun c3 => ?_) (fun c3 => ?_)
    · skip
      refine v_aload_n hG dX12_feed_28 rfl 0 rfl ?_
      refine mg_s hG dX12_feed_29 ?_
      refine v_sipush hG dX12_feed_32 (by decide) ?_
      refine v_aload_n hG dX12_feed_35 rfl 0 rfl ?_
      refine mg_s hG dX12_feed_36 ?_
      refine v_bipush hG dX12_feed_39 (by decide) ?_
      refine ma_s (z := s 48) hG dX12_feed_41 (by omega) rfl ?_
      refine v_iadd hG dX12_feed_42 ?_
      refine v_iload_n hG dX12_feed_43 rfl 1 rfl ?_
      refine ms_s hG dX12_feed_44 (by omega) ?_
      refine v_aload_n hG dX12_feed_45 rfl 0 rfl ?_
      refine mg_s hG dX12_feed_46 ?_
      refine v_bipush hG dX12_feed_49 (by decide) ?_
      refine v_dup2 hG dX12_feed_51 rfl rfl ?_
      refine ma_s (z := s 48) hG dX12_feed_52 (by omega) (by rw [sU_ne (by omega)]) ?_
      refine v_iconst hG dX12_feed_53 ?_
      refine v_iadd hG dX12_feed_54 ?_
      refine ms_s hG dX12_feed_55 (by omega) ?_
      refine v_aload_n hG dX12_feed_56 rfl 0 rfl ?_
      refine mg_s hG dX12_feed_57 ?_
      refine v_bipush hG dX12_feed_60 (by decide) ?_
      refine ma_s (z := (s 48) + 1) hG dX12_feed_62 (by omega) (by rw [sU_eq]) ?_
      have e4 : sU (sU s (158 + (s 48)) x) 48 ((s 48) + 1) = f_feed s x := by (unfold f_feed; simp [c2, c3])
      have e5 : @Eq Int (if 0 ≤ x ∧ x ≤ 127 then (if s 48 = 100 then -4 else s 48 + 1) else -2) ((s 48) + 1) := by simp [c2, c3]
      exact v_ireturn hG hR dX12_feed_63 () (congrArg (fun z => some (vI z)) e5) (by trivial) (fun _ hM => by rw [← e4]; exact hM)
    · skip
      refine v_bipush hG dX12_feed_25 (by decide) ?_
      have e6 : s = f_feed s x := by (unfold f_feed; simp [c2, c3])
      have e7 : @Eq Int (if 0 ≤ x ∧ x ≤ 127 then (if s 48 = 100 then -4 else s 48 + 1) else -2) (-4) := by simp [c2, c3]
      exact v_ireturn hG hR dX12_feed_27 () (congrArg (fun z => some (vI z)) e7) (by trivial) (fun _ hM => by rw [← e6]; exact hM)
  · skip
    refine v_bipush hG dX12_feed_10 (by decide) ?_
    have e8 : s = f_feed s x := by (unfold f_feed; simp [c2])
    have e9 : @Eq Int (if 0 ≤ x ∧ x ≤ 127 then (if s 48 = 100 then -4 else s 48 + 1) else -2) (-2) := by simp [c2]
    exact v_ireturn hG hR dX12_feed_12 () (congrArg (fun z => some (vI z)) e9) (by trivial) (fun _ hM => by rw [← e8]; exact hM)
