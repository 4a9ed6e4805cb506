/-! THE MODEL: first walks -/
def a_feed (s : Int → Int) (x : Int) : Int := if 0 ≤ x ∧ x ≤ 127 then (if s 48 = 100 then -4 else s 48 + 1) else -2
def f_feed (s : Int → Int) (x : Int) : Int → Int := if 0 ≤ x ∧ x ≤ 127 then (if s 48 = 100 then s else sU (sU s (158 + s 48) x) 48 (s 48 + 1)) else s
set_option maxHeartbeats 4000000 in
set_option maxRecDepth 100000 in
theorem k_isMark (l : Launch) (D : Dx) (A : Nat → Prop) (a : Nat → Nat) (s im fr bY tr ln bl bo g lg : Int → Int) (m : Int) (h1 : -2147483648 ≤ m ∧ m < 2147483648) (hN : NM s) : CT l D A yX12_isMark cX12_isMark 2 (some .boolean) { frames := 1, cells := 0, slots := 0, locals := 22 } [.ref (a 0), vI m] (MW D A a s im fr bY tr ln bl bo g lg) (fun _ : Unit => some (vI (bi (0 ≤ m ∧ m ≤ s 43 - 1)))) (fun _ => True) (fun _ => MW D A a s im fr bY tr ln bl bo g lg) := by
  refine ct_of (lo0 := [(0, .ref (a 0)), (1, vI m)]) (by decide) (Nat.le_of_ble_eq_true rfl) rfl ?_
  intro G hG hR
  have hN9 : 0 ≤ s 43 ∧ s 43 ≤ 8 := hN
  refine v_iload_n hG dX12_isMark_0 rfl 1 rfl ?_
  refine v_iconst hG dX12_isMark_1 ?_
  refine v_aload_n hG dX12_isMark_2 rfl 0 rfl ?_
  refine mg_s hG dX12_isMark_3 ?_
  refine v_bipush hG dX12_isMark_6 (by decide) ?_
  refine ma_s (z := s 43) hG dX12_isMark_8 (by omega) rfl ?_
  refine v_iconst hG dX12_isMark_9 ?_
  refine v_isub hG dX12_isMark_10 ?_
  refine v_callS (k1' := 0) (k2' := 0) hG dX12_isMark_11 zc_X12_in ⟨zl_X12_41, zt_X12_in⟩ (fun l => k_in l D A (MW D A a s im fr bY tr ln bl bo g lg) m 0 ((s 43) - 1) (by omega) (by omega) (by omega)) rfl (fun _ h => h) ⟨by decide, by decide⟩ rfl rfl ⟨by decide, by decide⟩ (rest := []) rfl (Nat.le_of_ble_eq_true rfl) (fun u1 => [vI (bi (0 ≤ m ∧ m ≤ ((s 43) - 1)))]) (fun _ => rfl) (fun u1 hu1 => ?_)
  have e2 : @Eq Int (bi (0 ≤ m ∧ m ≤ s 43 - 1)) (bi (0 ≤ m ∧ m ≤ ((s 43) - 1))) := by first | rfl | omega | (exact bi_congr (by omega)) | (simp []; done)
  exact v_zreturn hG hR dX12_isMark_14 (bi_01 _) () (congrArg (fun z => some (vI z)) e2) (by trivial) (fun _ hM => hM)
set_option maxHeartbeats 4000000 in
set_option maxRecDepth 100000 in
theorem k_isCut (l : Launch) (D : Dx) (A : Nat → Prop) (a : Nat → Nat) (s im fr bY tr ln bl bo g lg : Int → Int) (m : Int) (h8 : 0 ≤ m ∧ m < 8) (hc : 0 ≤ s (11 + m) ∧ s (11 + m) ≤ 1) : CT l D A yX12_isCut cX12_isCut 2 (some .boolean) { frames := 0, cells := 0, slots := 0, locals := 0 } [.ref (a 0), vI m] (MW D A a s im fr bY tr ln bl bo g lg) (fun _ : Unit => some (vI (bi (s (11 + m) = 1)))) (fun _ => True) (fun _ => MW D A a s im fr bY tr ln bl bo g lg) := by
  refine ct_of (lo0 := [(0, .ref (a 0)), (1, vI m)]) (by decide) (Nat.le_of_ble_eq_true rfl) rfl ?_
  intro G hG hR
  refine v_aload_n hG dX12_isCut_0 rfl 0 rfl ?_
  refine mg_s hG dX12_isCut_1 ?_
  refine v_bipush hG dX12_isCut_4 (by decide) ?_
  refine v_iload_n hG dX12_isCut_6 rfl 1 rfl ?_
  refine v_iadd hG dX12_isCut_7 ?_
  refine ma_s (z := s (11 + m)) hG dX12_isCut_8 (by omega) rfl ?_
  refine v_iconst hG dX12_isCut_9 ?_
  have J2 : ∀ z1 : Int, z1 = (bi (s (11 + m) = 1)) → V G 0 0 (MW D A a s im fr bY tr ln bl bo g lg) 18 [(0, .ref (a 0)), (1, vI m)] [vI z1] := by
    intro z1 hz1
    subst hz1
    exact v_zreturn hG hR dX12_isCut_18 (bi_01 _) () rfl (by trivial) (fun _ hM => hM)
  refine v_icmp_ne (tgt := 17) hG dX12_isCut_10 (by decide) (by omega) (by omega) (fun c3 => ?_) (fun c3 => ?_)
  · skip
    refine v_iconst hG dX12_isCut_17 ?_
    exact J2 _ (by first | rfl | (simp only [if_neg c3]; done) | (simp [bi, c3]; done))
  · skip
    refine v_iconst hG dX12_isCut_13 ?_
    refine v_goto (tgt := 18) hG dX12_isCut_14 (by decide) ?_
    exact J2 _ (by first | rfl | (simp only [if_pos c3]; done) | (simp [bi, c3]; done))
set_option maxHeartbeats 4000000 in
set_option maxRecDepth 100000 in
theorem k_keeps (l : Launch) (D : Dx) (A : Nat → Prop) (a : Nat → Nat) (s im fr bY tr ln bl bo g lg : Int → Int) : CT l D A yX12_keeps cX12_keeps 2 none { frames := 0, cells := 0, slots := 0, locals := 0 } [.ref (a 0)] (MW D A a s im fr bY tr ln bl bo g lg) (fun _ : Unit => none) (fun _ => True) (fun _ => MW D A a s im (cpy 43 s fr) bY tr ln bl bo g lg) := by
  refine ct_of (lo0 := [(0, .ref (a 0))]) (by decide) (Nat.le_of_ble_eq_true rfl) rfl ?_
  intro G hG hR
  refine v_iconst hG dX12_keeps_0 ?_
  refine v_istore_n (lo' := [(1, vI 0), (0, .ref (a 0))]) hG dX12_keeps_1 rfl (by decide) rfl ?_
  refine v_lo [1, 0] (lo' := [(0, .ref (a 0)), (1, vI 0)]) rfl ?_
  have L3 : ∀ mz : Nat, ∀ (k : Nat), ((k : Int) ≤ 43) → (43 - (k : Int)).toNat = mz → ∀ x1 : Int, x1 = ((k : Int)) → ∀ x2 : Int → Int, x2 = (cpy k s fr) → V G 0 0 (MW D A a s im x2 bY tr ln bl bo g lg) 2 [(0, .ref (a 0)), (1, vI x1)] [] := by
    intro dL3
    induction dL3 using Nat.strongRecOn with
    | ind dL3 ihL3 =>
      intro k h4 h5
      intro x1 hx1
      subst hx1
      intro x2 hx2
      subst hx2
      refine v_iload_n hG dX12_keeps_2 rfl 1 rfl ?_
      refine v_bipush hG dX12_keeps_3 (by decide) ?_
      refine v_icmp_ge (tgt := 26) hG dX12_keeps_5 (by decide) (by omega) (by omega) (fun c6 => ?_) (fun c6 => ?_)
      · skip
        have e7 : cpy k s fr = cpy 43 s fr := by rw [show (k : Int) = 43 by omega]
        exact v_return hG hR dX12_keeps_26 () rfl (by trivial) (fun _ hM => by rw [← e7]; exact hM)
      · skip
        refine v_aload_n hG dX12_keeps_8 rfl 0 rfl ?_
        refine mg_frame hG dX12_keeps_9 ?_
        refine v_iload_n hG dX12_keeps_12 rfl 1 rfl ?_
        refine v_aload_n hG dX12_keeps_13 rfl 0 rfl ?_
        refine mg_s hG dX12_keeps_14 ?_
        refine v_iload_n hG dX12_keeps_17 rfl 1 rfl ?_
        refine ma_s (z := s (k : Int)) hG dX12_keeps_18 (by omega) rfl ?_
        refine ms_frame hG dX12_keeps_19 (by omega) ?_
        refine v_iinc (lo' := [(1, vI ((k : Int) + 1)), (0, .ref (a 0))]) hG dX12_keeps_20 1 rfl (by decide) rfl ?_
        refine v_goto (tgt := 2) hG dX12_keeps_23 (by decide) ?_
        refine v_lo [1, 0] (lo' := [(0, .ref (a 0)), (1, vI ((k : Int) + 1))]) rfl ?_
        exact ihL3 _ (by omega) (k + 1) (by omega) rfl _ (by first | omega | rfl | (simp [c6]; done)) _ (by exact cpy_step)
  exact L3 _ 0 (by omega) rfl _ (by first | omega | rfl | (simp []; done)) _ (by exact cpy_0.symm)
set_option maxHeartbeats 4000000 in
set_option maxRecDepth 100000 in
theorem k_goesBack (l : Launch) (D : Dx) (A : Nat → Prop) (a : Nat → Nat) (s im fr bY tr ln bl bo g lg : Int → Int) : CT l D A yX12_goesBack cX12_goesBack 2 none { frames := 0, cells := 0, slots := 0, locals := 0 } [.ref (a 0)] (MW D A a s im fr bY tr ln bl bo g lg) (fun _ : Unit => none) (fun _ => True) (fun _ => MW D A a (cpy 43 fr s) im fr bY tr ln bl bo g lg) := by
  refine ct_of (lo0 := [(0, .ref (a 0))]) (by decide) (Nat.le_of_ble_eq_true rfl) rfl ?_
  intro G hG hR
  refine v_iconst hG dX12_goesBack_0 ?_
  refine v_istore_n (lo' := [(1, vI 0), (0, .ref (a 0))]) hG dX12_goesBack_1 rfl (by decide) rfl ?_
  refine v_lo [1, 0] (lo' := [(0, .ref (a 0)), (1, vI 0)]) rfl ?_
  have L3 : ∀ mz : Nat, ∀ (k : Nat), ((k : Int) ≤ 43) → (43 - (k : Int)).toNat = mz → ∀ x1 : Int, x1 = ((k : Int)) → ∀ x2 : Int → Int, x2 = (cpy k fr s) → V G 0 0 (MW D A a x2 im fr bY tr ln bl bo g lg) 2 [(0, .ref (a 0)), (1, vI x1)] [] := by
    intro dL3
    induction dL3 using Nat.strongRecOn with
    | ind dL3 ihL3 =>
      intro k h4 h5
      intro x1 hx1
      subst hx1
      intro x2 hx2
      subst hx2
      refine v_iload_n hG dX12_goesBack_2 rfl 1 rfl ?_
      refine v_bipush hG dX12_goesBack_3 (by decide) ?_
      refine v_icmp_ge (tgt := 26) hG dX12_goesBack_5 (by decide) (by omega) (by omega) (fun c6 => ?_) (fun c6 => ?_)
      · skip
        have e7 : cpy k fr s = cpy 43 fr s := by rw [show (k : Int) = 43 by omega]
        exact v_return hG hR dX12_goesBack_26 () rfl (by trivial) (fun _ hM => by rw [← e7]; exact hM)
      · skip
        refine v_aload_n hG dX12_goesBack_8 rfl 0 rfl ?_
        refine mg_s hG dX12_goesBack_9 ?_
        refine v_iload_n hG dX12_goesBack_12 rfl 1 rfl ?_
        refine v_aload_n hG dX12_goesBack_13 rfl 0 rfl ?_
        refine mg_frame hG dX12_goesBack_14 ?_
        refine v_iload_n hG dX12_goesBack_17 rfl 1 rfl ?_
        refine ma_frame (z := fr (k : Int)) hG dX12_goesBack_18 (by omega) rfl ?_
        refine ms_s hG dX12_goesBack_19 (by omega) ?_
        refine v_iinc (lo' := [(1, vI ((k : Int) + 1)), (0, .ref (a 0))]) hG dX12_goesBack_20 1 rfl (by decide) rfl ?_
        refine v_goto (tgt := 2) hG dX12_goesBack_23 (by decide) ?_
        refine v_lo [1, 0] (lo' := [(0, .ref (a 0)), (1, vI ((k : Int) + 1))]) rfl ?_
        exact ihL3 _ (by omega) (k + 1) (by omega) rfl _ (by first | omega | rfl | (simp [c6]; done)) _ (by exact cpy_step)
  exact L3 _ 0 (by omega) rfl _ (by first | omega | rfl | (simp []; done)) _ (by exact cpy_0.symm)
set_option maxHeartbeats 4000000 in
set_option maxRecDepth 100000 in
theorem k_feed (l : Launch) (D : Dx) (A : Nat → Prop) (a : Nat → Nat) (s im fr bY tr ln bl bo g lg : Int → Int) (x : Int) (h1 : -2147483648 ≤ x ∧ x < 2147483648) (h2 : 0 ≤ s 48 ∧ s 48 ≤ 100) : CT l D A yX12_feed cX12_feed 2 (some .int) { frames := 1, cells := 0, slots := 0, locals := 22 } [.ref (a 0), vI x] (MW D A a s im fr bY tr ln bl bo g lg) (fun _ : Unit => some (vI (a_feed s x))) (fun _ => True) (fun _ => MW D A a (f_feed s x) im fr bY tr ln bl bo g lg) := by
  refine ct_of (lo0 := [(0, .ref (a 0)), (1, vI x)]) (by decide) (Nat.le_of_ble_eq_true rfl) rfl ?_
  intro G hG hR
  refine v_iload_n hG dX12_feed_0 rfl 1 rfl ?_
  refine v_iconst hG dX12_feed_1 ?_
  refine v_bipush hG dX12_feed_2 (by decide) ?_
  refine v_callS (k1' := 0) (k2' := 0) hG dX12_feed_4 zc_X12_in ⟨zl_X12_41, zt_X12_in⟩ (fun l => k_in l D A (MW D A a s im fr bY tr ln bl bo g lg) x 0 127 (by omega) (by omega) (by omega)) rfl (fun _ h => h) ⟨by decide, by decide⟩ rfl rfl ⟨by decide, by decide⟩ (rest := []) rfl (Nat.le_of_ble_eq_true rfl) (fun u1 => [vI (bi (0 ≤ x ∧ x ≤ 127))]) (fun _ => rfl) (fun u1 hu1 => ?_)
  refine v_ifb_ne (p := 0 ≤ x ∧ x ≤ 127) (tgt := 13) hG dX12_feed_7 (by decide) (fun c2 => ?_) (fun c2 => ?_)
  · skip
    refine v_aload_n hG dX12_feed_13 rfl 0 rfl ?_
    refine mg_s hG dX12_feed_14 ?_
    refine v_bipush hG dX12_feed_17 (by decide) ?_
    refine ma_s (z := s 48) hG dX12_feed_19 (by omega) rfl ?_
    refine v_bipush hG dX12_feed_20 (by decide) ?_
    refine v_icmp_ne (tgt := 28) hG dX12_feed_22 (by decide) (by omega) (by omega) (fun c3 => ?_) (fun c3 => ?_)
    · skip
      refine v_aload_n hG dX12_feed_28 rfl 0 rfl ?_
      refine mg_s hG dX12_feed_29 ?_
      refine v_sipush hG dX12_feed_32 (by decide) ?_
      refine v_aload_n hG dX12_feed_35 rfl 0 rfl ?_
      refine mg_s hG dX12_feed_36 ?_
      refine v_bipush hG dX12_feed_39 (by decide) ?_
      refine ma_s (z := s 48) hG dX12_feed_41 (by omega) rfl ?_
      refine v_iadd hG dX12_feed_42 ?_
      refine v_iload_n hG dX12_feed_43 rfl 1 rfl ?_
      refine ms_s hG dX12_feed_44 (by omega) ?_
      refine v_aload_n hG dX12_feed_45 rfl 0 rfl ?_
      refine mg_s hG dX12_feed_46 ?_
      refine v_bipush hG dX12_feed_49 (by decide) ?_
      refine v_dup2 hG dX12_feed_51 rfl rfl ?_
      refine ma_s (z := s 48) hG dX12_feed_52 (by omega) (by rw [sU_ne (by omega)]) ?_
      refine v_iconst hG dX12_feed_53 ?_
      refine v_iadd hG dX12_feed_54 ?_
      refine ms_s hG dX12_feed_55 (by omega) ?_
      refine v_aload_n hG dX12_feed_56 rfl 0 rfl ?_
      refine mg_s hG dX12_feed_57 ?_
      refine v_bipush hG dX12_feed_60 (by decide) ?_
      refine ma_s (z := (s 48) + 1) hG dX12_feed_62 (by omega) (by rw [sU_eq]) ?_
      have e4 : sU (sU s (158 + (s 48)) x) 48 ((s 48) + 1) = f_feed s x := by first | rfl | (simp only [a_feed, f_feed, if_pos c2, if_neg c3]; done) | (simp only [a_feed, f_feed, if_pos c2, if_neg c3]; done) | (simp only [a_feed, f_feed, if_pos c2, if_neg c3]; rfl) | (simp only [a_feed, f_feed, if_pos c2, if_neg c3]; omega)
      have e5 : @Eq Int (a_feed s x) ((s 48) + 1) := by first | rfl | (simp only [a_feed, f_feed, if_pos c2, if_neg c3]; done) | (simp only [a_feed, f_feed, if_pos c2, if_neg c3]; done) | (simp only [a_feed, f_feed, if_pos c2, if_neg c3]; rfl) | (simp only [a_feed, f_feed, if_pos c2, if_neg c3]; omega)
      exact v_ireturn hG hR dX12_feed_63 () (congrArg (fun z => some (vI z)) e5) (by trivial) (fun _ hM => by rw [← e4]; exact hM)
    · skip
      refine v_bipush hG dX12_feed_25 (by decide) ?_
      have e6 : s = f_feed s x := by first | rfl | (simp only [a_feed, f_feed, if_pos c2, if_pos c3]; done) | (simp only [a_feed, f_feed, if_pos c2, if_pos c3]; done) | (simp only [a_feed, f_feed, if_pos c2, if_pos c3]; rfl) | (simp only [a_feed, f_feed, if_pos c2, if_pos c3]; omega)
      have e7 : @Eq Int (a_feed s x) (-4) := by first | rfl | (simp only [a_feed, f_feed, if_pos c2, if_pos c3]; done) | (simp only [a_feed, f_feed, if_pos c2, if_pos c3]; done) | (simp only [a_feed, f_feed, if_pos c2, if_pos c3]; rfl) | (simp only [a_feed, f_feed, if_pos c2, if_pos c3]; omega)
      exact v_ireturn hG hR dX12_feed_27 () (congrArg (fun z => some (vI z)) e7) (by trivial) (fun _ hM => by rw [← e6]; exact hM)
  · skip
    refine v_bipush hG dX12_feed_10 (by decide) ?_
    have e8 : s = f_feed s x := by first | rfl | (simp only [a_feed, f_feed, if_neg c2]; done) | (simp only [a_feed, f_feed, if_neg c2]; done) | (simp only [a_feed, f_feed, if_neg c2]; rfl) | (simp only [a_feed, f_feed, if_neg c2]; omega)
    have e9 : @Eq Int (a_feed s x) (-2) := by first | rfl | (simp only [a_feed, f_feed, if_neg c2]; done) | (simp only [a_feed, f_feed, if_neg c2]; done) | (simp only [a_feed, f_feed, if_neg c2]; rfl) | (simp only [a_feed, f_feed, if_neg c2]; omega)
    exact v_ireturn hG hR dX12_feed_12 () (congrArg (fun z => some (vI z)) e9) (by trivial) (fun _ hM => by rw [← e8]; exact hM)
set_option maxHeartbeats 4000000 in
set_option maxRecDepth 100000 in
theorem k_wearNow (l : Launch) (D : Dx) (A : Nat → Prop) (a : Nat → Nat) (s im fr bY tr ln bl bo g lg : Int → Int) (hP : PL s) : CT l D A yX12_wearNow cX12_wearNow 2 (some .int) { frames := 1, cells := 0, slots := 0, locals := 22 } [.ref (a 0)] (MW D A a s im fr bY tr ln bl bo g lg) (fun _ : Unit => some (vI (q_wear s))) (fun _ => 1 ≤ q_wear s ∧ q_wear s ≤ 99) (fun _ => MW D A a s im fr bY tr ln bl bo g lg) := by
  refine ct_of (lo0 := [(0, .ref (a 0))]) (by decide) (Nat.le_of_ble_eq_true rfl) rfl ?_
  intro G hG hR
  have hP1 := hP.1
  have hq : -1000 ≤ (if s 49 = -1 then 20 else s (258 + s 49)) ∧ (if s 49 = -1 then 20 else s (258 + s 49)) ≤ 1000 := by
    by_cases h9 : s 49 = -1
    · simp [h9]
    · have := (hP.2 (s 49) (by omega) (by omega)).1; rw [if_neg h9]; omega
  refine v_aload_n hG dX12_wearNow_0 rfl 0 rfl ?_
  refine v_sipush hG dX12_wearNow_1 (by decide) ?_
  refine v_bipush hG dX12_wearNow_4 (by decide) ?_
  refine v_callV (k1' := 0) (k2' := 0) hG dX12_wearNow_6 zc_X12_tellsOf ⟨zl_X12_123, zi_X12_tellsOf, zs_X12_tellsOf⟩ (fun l => k_tellsOf l D A a s im fr bY tr ln bl bo g lg 258 20 (by first | exact hP.1 | omega) (by omega)) rfl mw_recv (fun _ h => h) ⟨by decide, by decide⟩ rfl rfl ⟨by decide, by decide⟩ (rest := []) rfl (Nat.le_of_ble_eq_true rfl) (fun u1 => [vI (if s 49 = -1 then 20 else s (258 + s 49))]) (fun _ => rfl) (fun u1 hu1 => ?_)
  refine v_istore_n (lo' := [(1, vI (if s 49 = -1 then 20 else s (258 + s 49))), (0, .ref (a 0))]) hG dX12_wearNow_9 rfl (by decide) rfl ?_
  refine v_iload_n hG dX12_wearNow_10 rfl 0 rfl ?_
  refine v_iconst hG dX12_wearNow_11 ?_
  refine v_icmp_ge (tgt := 19) hG dX12_wearNow_12 (by decide) (by omega) (by omega) (fun c2 => ?_) (fun c2 => ?_)
  · skip
    refine v_iload_n hG dX12_wearNow_19 rfl 0 rfl ?_
    have e3 : @Eq Int (q_wear s) (if s 49 = -1 then 20 else s (258 + s 49)) := by first | rfl | (simp only [q_wear, if_pos c2]; done) | (simp only [q_wear, if_pos c2]; done) | (simp only [q_wear, if_pos c2]; rfl) | (simp only [q_wear, if_pos c2]; omega)
    exact v_ireturn hG hR dX12_wearNow_20 () (congrArg (fun z => some (vI z)) e3) (by exact q_wear_rng hP) (fun _ hM => hM)
  · skip
    refine v_iconst hG dX12_wearNow_15 ?_
    refine v_goto (tgt := 20) hG dX12_wearNow_16 (by decide) ?_
    have e4 : @Eq Int (q_wear s) (1) := by first | rfl | (simp only [q_wear, if_neg c2]; done) | (simp only [q_wear, if_neg c2]; done) | (simp only [q_wear, if_neg c2]; rfl) | (simp only [q_wear, if_neg c2]; omega)
    exact v_ireturn hG hR dX12_wearNow_20 () (congrArg (fun z => some (vI z)) e4) (by exact q_wear_rng hP) (fun _ hM => hM)
set_option maxHeartbeats 4000000 in
set_option maxRecDepth 100000 in
theorem k_mendNow (l : Launch) (D : Dx) (A : Nat → Prop) (a : Nat → Nat) (s im fr bY tr ln bl bo g lg : Int → Int) (hP : PL s) : CT l D A yX12_mendNow cX12_mendNow 1 (some .int) { frames := 1, cells := 0, slots := 0, locals := 22 } [.ref (a 0)] (MW D A a s im fr bY tr ln bl bo g lg) (fun _ : Unit => some (vI (q_mend s))) (fun _ => 0 ≤ q_mend s ∧ q_mend s ≤ 99) (fun _ => MW D A a s im fr bY tr ln bl bo g lg) := by
  refine ct_of (lo0 := [(0, .ref (a 0))]) (by decide) (Nat.le_of_ble_eq_true rfl) rfl ?_
  intro G hG hR
  refine v_aload_n hG dX12_mendNow_0 rfl 0 rfl ?_
  refine v_sipush hG dX12_mendNow_1 (by decide) ?_
  refine v_bipush hG dX12_mendNow_4 (by decide) ?_
  refine v_callV (k1' := 0) (k2' := 0) hG dX12_mendNow_6 zc_X12_tellsOf ⟨zl_X12_123, zi_X12_tellsOf, zs_X12_tellsOf⟩ (fun l => k_tellsOf l D A a s im fr bY tr ln bl bo g lg 263 8 (by first | exact hP.1 | omega) (by omega)) rfl mw_recv (fun _ h => h) ⟨by decide, by decide⟩ rfl rfl ⟨by decide, by decide⟩ (rest := []) rfl (Nat.le_of_ble_eq_true rfl) (fun u1 => [vI (if s 49 = -1 then 8 else s (263 + s 49))]) (fun _ => rfl) (fun u1 hu1 => ?_)
  have e2 : @Eq Int (q_mend s) (if s 49 = -1 then 8 else s (263 + s 49)) := by first | rfl | (simp only [q_mend, ]; done) | (simp only [q_mend, ]; done) | (simp only [q_mend, ]; rfl) | (simp only [q_mend, ]; omega)
  exact v_ireturn hG hR dX12_mendNow_9 () (congrArg (fun z => some (vI z)) e2) (by exact q_mend_rng hP) (fun _ hM => hM)
set_option maxHeartbeats 4000000 in
set_option maxRecDepth 100000 in
theorem k_needsOf (l : Launch) (D : Dx) (A : Nat → Prop) (a : Nat → Nat) (s im fr bY tr ln bl bo g lg : Int → Int) (m : Int) (h8 : 0 ≤ m ∧ m < 8) (hm : MK s m) : CT l D A yX12_needsOf cX12_needsOf 3 (some .int) { frames := 0, cells := 0, slots := 0, locals := 0 } [.ref (a 0), vI m] (MW D A a s im fr bY tr ln bl bo g lg) (fun _ : Unit => some (vI (q_needs s m))) (fun _ => 0 ≤ q_needs s m ∧ q_needs s m ≤ 180) (fun _ => MW D A a s im fr bY tr ln bl bo g lg) := by
  refine ct_of (lo0 := [(0, .ref (a 0)), (1, vI m)]) (by decide) (Nat.le_of_ble_eq_true rfl) rfl ?_
  intro G hG hR
  have hm1 := hm.1; have hm2 := hm.2.1; have hm4 := hm.2.2.2.1
  refine v_aload_n hG dX12_needsOf_0 rfl 0 rfl ?_
  refine mg_s hG dX12_needsOf_1 ?_
  refine v_iconst hG dX12_needsOf_4 ?_
  refine v_iload_n hG dX12_needsOf_5 rfl 1 rfl ?_
  refine v_iadd hG dX12_needsOf_6 ?_
  refine ma_s (z := s (3 + m)) hG dX12_needsOf_7 (by omega) rfl ?_
  refine v_istore_n (lo' := [(2, vI (s (3 + m))), (0, .ref (a 0)), (1, vI m)]) hG dX12_needsOf_8 rfl (by decide) rfl ?_
  refine v_aload_n hG dX12_needsOf_9 rfl 1 rfl ?_
  refine mg_s hG dX12_needsOf_10 ?_
  refine v_bipush hG dX12_needsOf_13 (by decide) ?_
  refine v_iload_n hG dX12_needsOf_15 rfl 2 rfl ?_
  refine v_iadd hG dX12_needsOf_16 ?_
  refine ma_s (z := s (50 + m)) hG dX12_needsOf_17 (by omega) rfl ?_
  by_cases c1 : s (50 + m) = 1
  · refine v_tabIn (tgt := 56) hG dX12_needsOf_18 1 c1 (by decide) (by decide) (by decide) rfl (by decide) ?_
    refine v_iconst hG dX12_needsOf_56 ?_
    refine v_iload_n hG dX12_needsOf_57 rfl 0 rfl ?_
    refine v_imul hG dX12_needsOf_58 ?_
    have e2 : @Eq Int (q_needs s m) (2 * (s (3 + m))) := by (simp [q_needs, needsF, c1])
    exact v_ireturn hG hR dX12_needsOf_59 () (congrArg (fun z => some (vI z)) e2) (by exact q_needs_rng hm) (fun _ hM => hM)
  by_cases c3 : s (50 + m) = 2
  · refine v_tabIn (tgt := 60) hG dX12_needsOf_18 2 c3 (by decide) (by decide) (by decide) rfl (by decide) ?_
    refine v_iconst hG dX12_needsOf_60 ?_
    refine v_iload_n hG dX12_needsOf_61 rfl 0 rfl ?_
    refine v_imul hG dX12_needsOf_62 ?_
    refine v_aload_n hG dX12_needsOf_63 rfl 1 rfl ?_
    refine mg_s hG dX12_needsOf_64 ?_
    refine v_bipush hG dX12_needsOf_67 (by decide) ?_
    refine v_iload_n hG dX12_needsOf_69 rfl 2 rfl ?_
    refine v_iadd hG dX12_needsOf_70 ?_
    refine ma_s (z := s (58 + m)) hG dX12_needsOf_71 (by omega) rfl ?_
    refine v_iadd hG dX12_needsOf_72 ?_
    have e4 : @Eq Int (q_needs s m) ((3 * (s (3 + m))) + (s (58 + m))) := by (simp [q_needs, needsF, c1, c3])
    exact v_ireturn hG hR dX12_needsOf_73 () (congrArg (fun z => some (vI z)) e4) (by exact q_needs_rng hm) (fun _ hM => hM)
  by_cases c5 : s (50 + m) = 3
  · refine v_tabIn (tgt := 74) hG dX12_needsOf_18 3 c5 (by decide) (by decide) (by decide) rfl (by decide) ?_
    refine v_iconst hG dX12_needsOf_74 ?_
    refine v_iload_n hG dX12_needsOf_75 rfl 0 rfl ?_
    refine v_imul hG dX12_needsOf_76 ?_
    refine v_iconst hG dX12_needsOf_77 ?_
    refine v_iadd hG dX12_needsOf_78 ?_
    have e6 : @Eq Int (q_needs s m) ((3 * (s (3 + m))) + 4) := by (simp [q_needs, needsF, c1, c3, c5])
    exact v_ireturn hG hR dX12_needsOf_79 () (congrArg (fun z => some (vI z)) e6) (by exact q_needs_rng hm) (fun _ hM => hM)
  by_cases c7 : s (50 + m) = 4
  · refine v_tabIn (tgt := 80) hG dX12_needsOf_18 4 c7 (by decide) (by decide) (by decide) rfl (by decide) ?_
    refine v_iconst hG dX12_needsOf_80 ?_
    refine v_iload_n hG dX12_needsOf_81 rfl 0 rfl ?_
    refine v_imul hG dX12_needsOf_82 ?_
    refine v_aload_n hG dX12_needsOf_83 rfl 1 rfl ?_
    refine mg_s hG dX12_needsOf_84 ?_
    refine v_bipush hG dX12_needsOf_87 (by decide) ?_
    refine v_iload_n hG dX12_needsOf_89 rfl 2 rfl ?_
    refine v_iadd hG dX12_needsOf_90 ?_
    refine ma_s (z := s (58 + m)) hG dX12_needsOf_91 (by omega) rfl ?_
    refine v_iconst hG dX12_needsOf_92 ?_
    refine v_iadd hG dX12_needsOf_93 ?_
    refine v_imul hG dX12_needsOf_94 ?_
    have e8 : @Eq Int (q_needs s m) ((2 * (s (3 + m))) * ((s (58 + m)) + 1)) := by (simp [q_needs, needsF, c1, c3, c5, c7])
    exact v_ireturn hG hR dX12_needsOf_95 () (congrArg (fun z => some (vI z)) e8) (by exact q_needs_rng hm) (fun _ hM => hM)
  by_cases c9 : s (50 + m) = 5
  · refine v_tabIn (tgt := 60) hG dX12_needsOf_18 5 c9 (by decide) (by decide) (by decide) rfl (by decide) ?_
    refine v_iconst hG dX12_needsOf_60 ?_
    refine v_iload_n hG dX12_needsOf_61 rfl 0 rfl ?_
    refine v_imul hG dX12_needsOf_62 ?_
    refine v_aload_n hG dX12_needsOf_63 rfl 1 rfl ?_
    refine mg_s hG dX12_needsOf_64 ?_
    refine v_bipush hG dX12_needsOf_67 (by decide) ?_
    refine v_iload_n hG dX12_needsOf_69 rfl 2 rfl ?_
    refine v_iadd hG dX12_needsOf_70 ?_
    refine ma_s (z := s (58 + m)) hG dX12_needsOf_71 (by omega) rfl ?_
    refine v_iadd hG dX12_needsOf_72 ?_
    have e10 : @Eq Int (q_needs s m) ((3 * (s (3 + m))) + (s (58 + m))) := by (simp [q_needs, needsF, c1, c3, c5, c7, c9])
    exact v_ireturn hG hR dX12_needsOf_73 () (congrArg (fun z => some (vI z)) e10) (by exact q_needs_rng hm) (fun _ hM => hM)
  by_cases c11 : s (50 + m) = 6
  · refine v_tabIn (tgt := 74) hG dX12_needsOf_18 6 c11 (by decide) (by decide) (by decide) rfl (by decide) ?_
    refine v_iconst hG dX12_needsOf_74 ?_
    refine v_iload_n hG dX12_needsOf_75 rfl 0 rfl ?_
    refine v_imul hG dX12_needsOf_76 ?_
    refine v_iconst hG dX12_needsOf_77 ?_
    refine v_iadd hG dX12_needsOf_78 ?_
    have e12 : @Eq Int (q_needs s m) ((3 * (s (3 + m))) + 4) := by (simp [q_needs, needsF, c1, c3, c5, c7, c9, c11])
    exact v_ireturn hG hR dX12_needsOf_79 () (congrArg (fun z => some (vI z)) e12) (by exact q_needs_rng hm) (fun _ hM => hM)
  refine v_tabOut (tgt := 96) hG dX12_needsOf_18 (by omega) (by omega) (by decide) ?_
  refine v_iconst hG dX12_needsOf_96 ?_
  refine v_iload_n hG dX12_needsOf_97 rfl 0 rfl ?_
  refine v_imul hG dX12_needsOf_98 ?_
  have e14 : @Eq Int (q_needs s m) (3 * (s (3 + m))) := by (simp [q_needs, needsF, c1, c3, c5, c7, c9, c11])
  exact v_ireturn hG hR dX12_needsOf_99 () (congrArg (fun z => some (vI z)) e14) (by exact q_needs_rng hm) (fun _ hM => hM)
set_option maxHeartbeats 4000000 in
set_option maxRecDepth 100000 in
theorem k_darkOf (l : Launch) (D : Dx) (A : Nat → Prop) (a : Nat → Nat) (s im fr bY tr ln bl bo g lg : Int → Int) (m : Int) (w : Int) (h8 : 0 ≤ m ∧ m < 8) (hm : MK s m) (hP : PL s) (hw : 0 ≤ w ∧ w ≤ 100000) : CT l D A yX12_darkOf cX12_darkOf 7 (some .int) { frames := 2, cells := 0, slots := 0, locals := 43 } [.ref (a 0), vI m, vI w] (MW D A a s im fr bY tr ln bl bo g lg) (fun _ : Unit => some (vI (q_dark s m w))) (fun _ => 0 ≤ q_dark s m w ∧ q_dark s m w ≤ 30) (fun _ => MW D A a s im fr bY tr ln bl bo g lg) := by
  refine ct_of (lo0 := [(0, .ref (a 0)), (1, vI m), (2, vI w)]) (by decide) (Nat.le_of_ble_eq_true rfl) rfl ?_
  intro G hG hR
  have hm1 := hm.1; have hm2 := hm.2.1; have hm4 := hm.2.2.2.1; have hm6 := hm.2.2.2.2.2.1; have hm8 := hm.2.2.2.2.2.2.2.1; have hr := hm.2.2.2.2.2.2.2.2 (w % 4) (by omega) (by omega)
  have hwe := q_wear_rng hP
  have hdv : 0 ≤ w / q_wear s ∧ w / q_wear s ≤ w := ⟨Int.ediv_nonneg (by omega) (by omega), Int.ediv_le_self _ (by omega)⟩
  refine v_aload_n hG dX12_darkOf_0 rfl 0 rfl ?_
  refine v_iload_n hG dX12_darkOf_1 rfl 1 rfl ?_
  refine v_callV (k1' := 0) (k2' := 0) hG dX12_darkOf_2 zc_X12_isCut ⟨zl_X12_137, zi_X12_isCut, zs_X12_isCut⟩ (fun l => k_isCut l D A a s im fr bY tr ln bl bo g lg m (by omega) (by first | exact hm.2.2.2.2.1 | exact (hM _ (by omega) (by omega)).2.2.2.2.1 | omega)) rfl mw_recv (fun _ h => h) ⟨by decide, by decide⟩ rfl rfl ⟨by decide, by decide⟩ (rest := []) rfl (Nat.le_of_ble_eq_true rfl) (fun u1 => [vI (bi (s (11 + m) = 1))]) (fun _ => rfl) (fun u1 hu1 => ?_)
  refine v_ifb_ne (p := s (11 + m) = 1) (tgt := 10) hG dX12_darkOf_5 (by decide) (fun c2 => ?_) (fun c2 => ?_)
  · skip
    refine v_aload_n hG dX12_darkOf_10 rfl 0 rfl ?_
    refine mg_s hG dX12_darkOf_11 ?_
    refine v_bipush hG dX12_darkOf_14 (by decide) ?_
    refine v_iload_n hG dX12_darkOf_16 rfl 1 rfl ?_
    refine v_iadd hG dX12_darkOf_17 ?_
    refine ma_s (z := s (50 + m)) hG dX12_darkOf_18 (by omega) rfl ?_
    refine v_istore_n (lo' := [(3, vI (s (50 + m))), (0, .ref (a 0)), (1, vI m), (2, vI w)]) hG dX12_darkOf_19 rfl (by decide) rfl ?_
    refine v_aload_n hG dX12_darkOf_20 rfl 1 rfl ?_
    refine mg_s hG dX12_darkOf_21 ?_
    refine v_iconst hG dX12_darkOf_24 ?_
    refine v_iload_n hG dX12_darkOf_25 rfl 2 rfl ?_
    refine v_iadd hG dX12_darkOf_26 ?_
    refine ma_s (z := s (3 + m)) hG dX12_darkOf_27 (by omega) rfl ?_
    refine v_istore (lo' := [(4, vI (s (3 + m))), (3, vI (s (50 + m))), (0, .ref (a 0)), (1, vI m), (2, vI w)]) hG dX12_darkOf_28 (by decide) rfl ?_
    refine v_iload_n hG dX12_darkOf_30 rfl 4 rfl ?_
    refine v_aload_n hG dX12_darkOf_31 rfl 2 rfl ?_
    refine v_callV (k1' := 0) (k2' := 0) hG dX12_darkOf_32 zc_X12_wearNow ⟨zl_X12_141, zi_X12_wearNow, zs_X12_wearNow⟩ (fun l => k_wearNow l D A a s im fr bY tr ln bl bo g lg (by assumption)) rfl mw_recv (fun _ h => h) ⟨by decide, by decide⟩ rfl rfl ⟨by decide, by decide⟩ (rest := [vI w]) rfl (Nat.le_of_ble_eq_true rfl) (fun u3 => [vI (q_wear s), vI w]) (fun _ => rfl) (fun u3 hu3 => ?_)
    have fu3 : 1 ≤ q_wear s ∧ q_wear s ≤ 99 := hu3
    refine v_idiv hG dX12_darkOf_35 (by omega) (by omega) ?_
    refine v_aload_n hG dX12_darkOf_36 rfl 2 rfl ?_
    refine mg_s hG dX12_darkOf_37 ?_
    refine v_bipush hG dX12_darkOf_40 (by decide) ?_
    refine v_iload_n hG dX12_darkOf_42 rfl 3 rfl ?_
    refine v_iadd hG dX12_darkOf_43 ?_
    refine ma_s (z := s (35 + m)) hG dX12_darkOf_44 (by omega) rfl ?_
    refine v_iadd hG dX12_darkOf_45 ?_
    refine v_istore (lo' := [(5, vI ((w / (q_wear s)) + (s (35 + m)))), (4, vI (s (3 + m))), (3, vI (s (50 + m))), (0, .ref (a 0)), (1, vI m), (2, vI w)]) hG dX12_darkOf_46 (by decide) rfl ?_
    refine v_iload_n hG dX12_darkOf_48 rfl 2 rfl ?_
    refine v_iconst hG dX12_darkOf_49 ?_
    have J5 : ∀ z4 : Int, z4 = (if s (50 + m) = 2 then 2 * (s (3 + m)) else if s (50 + m) = 5 then 2 * (s (3 + m)) else s (3 + m)) → V G 0 0 (MW D A a s im fr bY tr ln bl bo g lg) 67 [(0, .ref (a 0)), (1, vI m), (2, vI w), (3, vI (s (50 + m))), (4, vI (s (3 + m))), (5, vI ((w / (q_wear s)) + (s (35 + m))))] [vI z4] := by
      intro z4 hz4
      have bz4 : 1 ≤ z4 ∧ z4 ≤ 18 := by rw [hz4]; (repeat' split) <;> omega
      refine v_iload hG dX12_darkOf_67 5 rfl ?_
      refine v_isub hG dX12_darkOf_69 ?_
      refine v_istore (lo' := [(6, vI (z4 - ((w / (q_wear s)) + (s (35 + m))))), (0, .ref (a 0)), (1, vI m), (2, vI w), (3, vI (s (50 + m))), (4, vI (s (3 + m))), (5, vI ((w / (q_wear s)) + (s (35 + m))))]) hG dX12_darkOf_70 (by decide) rfl ?_
      refine v_iload hG dX12_darkOf_72 0 rfl ?_
      refine v_iload_n hG dX12_darkOf_74 rfl 4 rfl ?_
      refine v_iconst hG dX12_darkOf_75 ?_
      have J7 : ∀ z6 : Int, z6 = (if s (50 + m) = 1 then 1 else if s (50 + m) = 4 then 1 else 0) → V G 0 0 (MW D A a s im fr bY tr ln bl bo g lg) 89 [(0, .ref (a 0)), (1, vI m), (2, vI w), (3, vI (s (50 + m))), (4, vI (s (3 + m))), (5, vI ((w / (q_wear s)) + (s (35 + m)))), (6, vI (z4 - ((w / (q_wear s)) + (s (35 + m)))))] [vI z6, vI (z4 - ((w / (q_wear s)) + (s (35 + m))))] := by
        intro z6 hz6
        have bz6 : 0 ≤ z6 ∧ z6 ≤ 1 := by rw [hz6]; (repeat' split) <;> omega
        refine v_iadd hG dX12_darkOf_89 ?_
        refine v_istore (lo' := [(6, vI ((z4 - ((w / (q_wear s)) + (s (35 + m)))) + z6)), (0, .ref (a 0)), (1, vI m), (2, vI w), (3, vI (s (50 + m))), (4, vI (s (3 + m))), (5, vI ((w / (q_wear s)) + (s (35 + m))))]) hG dX12_darkOf_90 (by decide) rfl ?_
        refine v_iload_n hG dX12_darkOf_92 rfl 4 rfl ?_
        refine v_iconst hG dX12_darkOf_93 ?_
        have J9 : ∀ z8 : Int, z8 = (if s (50 + m) = 4 then (((z4 - ((w / (q_wear s)) + (s (35 + m)))) + z6).tdiv 2) - 1 else (z4 - ((w / (q_wear s)) + (s (35 + m)))) + z6) → V G 0 0 (MW D A a s im fr bY tr ln bl bo g lg) 108 [(0, .ref (a 0)), (1, vI m), (2, vI w), (3, vI (s (50 + m))), (4, vI (s (3 + m))), (5, vI ((w / (q_wear s)) + (s (35 + m)))), (6, vI ((z4 - ((w / (q_wear s)) + (s (35 + m)))) + z6))] [vI z8] := by
          intro z8 hz8
          have bz8 : -200000 ≤ z8 ∧ z8 ≤ 200000 := by rw [hz8]; exact ite_tdiv_b (by omega)
          refine v_istore (lo' := [(6, vI z8), (0, .ref (a 0)), (1, vI m), (2, vI w), (3, vI (s (50 + m))), (4, vI (s (3 + m))), (5, vI ((w / (q_wear s)) + (s (35 + m))))]) hG dX12_darkOf_108 (by decide) rfl ?_
          refine v_iload hG dX12_darkOf_110 0 rfl ?_
          refine v_iload_n hG dX12_darkOf_112 rfl 4 rfl ?_
          refine v_iconst hG dX12_darkOf_113 ?_
          have J11 : ∀ z10 : Int, z10 = (if s (50 + m) = 5 then if s (19 + m) = 1 then 2 else 0 else 0) → V G 0 0 (MW D A a s im fr bY tr ln bl bo g lg) 135 [(0, .ref (a 0)), (1, vI m), (2, vI w), (3, vI (s (50 + m))), (4, vI (s (3 + m))), (5, vI ((w / (q_wear s)) + (s (35 + m)))), (6, vI z8)] [vI z10, vI z8] := by
            intro z10 hz10
            have bz10 : 0 ≤ z10 ∧ z10 ≤ 2 := by rw [hz10]; (repeat' split) <;> omega
            refine v_iadd hG dX12_darkOf_135 ?_
            refine v_istore (lo' := [(6, vI (z8 + z10)), (0, .ref (a 0)), (1, vI m), (2, vI w), (3, vI (s (50 + m))), (4, vI (s (3 + m))), (5, vI ((w / (q_wear s)) + (s (35 + m))))]) hG dX12_darkOf_136 (by decide) rfl ?_
            refine v_iload hG dX12_darkOf_138 0 rfl ?_
            refine v_iload_n hG dX12_darkOf_140 rfl 4 rfl ?_
            refine v_bipush hG dX12_darkOf_141 (by decide) ?_
            have J13 : ∀ z12 : Int, z12 = (if s (50 + m) = 6 then s ((74 + (4 * m)) + (w % 4)) else 0) → V G 0 0 (MW D A a s im fr bY tr ln bl bo g lg) 165 [(0, .ref (a 0)), (1, vI m), (2, vI w), (3, vI (s (50 + m))), (4, vI (s (3 + m))), (5, vI ((w / (q_wear s)) + (s (35 + m)))), (6, vI (z8 + z10))] [vI z12, vI (z8 + z10)] := by
              intro z12 hz12
              have bz12 : 0 ≤ z12 ∧ z12 ≤ 9 := by rw [hz12]; (repeat' split) <;> omega
              refine v_iadd hG dX12_darkOf_165 ?_
              refine v_istore (lo' := [(6, vI ((z8 + z10) + z12)), (0, .ref (a 0)), (1, vI m), (2, vI w), (3, vI (s (50 + m))), (4, vI (s (3 + m))), (5, vI ((w / (q_wear s)) + (s (35 + m))))]) hG dX12_darkOf_166 (by decide) rfl ?_
              refine v_iload hG dX12_darkOf_168 0 rfl ?_
              refine v_aload_n hG dX12_darkOf_170 rfl 1 rfl ?_
              refine mg_s hG dX12_darkOf_171 ?_
              refine v_bipush hG dX12_darkOf_174 (by decide) ?_
              refine v_iload_n hG dX12_darkOf_176 rfl 2 rfl ?_
              refine v_iadd hG dX12_darkOf_177 ?_
              refine ma_s (z := s (19 + m)) hG dX12_darkOf_178 (by omega) rfl ?_
              refine v_iconst hG dX12_darkOf_179 ?_
              have J15 : ∀ z14 : Int, z14 = (if s (19 + m) = 3 then 2 else 0) → V G 0 0 (MW D A a s im fr bY tr ln bl bo g lg) 188 [(0, .ref (a 0)), (1, vI m), (2, vI w), (3, vI (s (50 + m))), (4, vI (s (3 + m))), (5, vI ((w / (q_wear s)) + (s (35 + m)))), (6, vI ((z8 + z10) + z12))] [vI z14, vI ((z8 + z10) + z12)] := by
                intro z14 hz14
                have bz14 : 0 ≤ z14 ∧ z14 ≤ 2 := by rw [hz14]; (repeat' split) <;> omega
                refine v_isub hG dX12_darkOf_188 ?_
                refine v_istore (lo' := [(6, vI (((z8 + z10) + z12) - z14)), (0, .ref (a 0)), (1, vI m), (2, vI w), (3, vI (s (50 + m))), (4, vI (s (3 + m))), (5, vI ((w / (q_wear s)) + (s (35 + m))))]) hG dX12_darkOf_189 (by decide) rfl ?_
                refine v_iload hG dX12_darkOf_191 0 rfl ?_
                have J17 : ∀ z16 : Int, z16 = (if 0 ≤ ((z8 + z10) + z12) - z14 then ((z8 + z10) + z12) - z14 else 0) → V G 0 0 (MW D A a s im fr bY tr ln bl bo g lg) 202 [(0, .ref (a 0)), (1, vI m), (2, vI w), (3, vI (s (50 + m))), (4, vI (s (3 + m))), (5, vI ((w / (q_wear s)) + (s (35 + m)))), (6, vI (((z8 + z10) + z12) - z14))] [vI z16] := by
                  intro z16 hz16
                  have e18 : @Eq Int (q_dark s m w) (z16) := by first | rfl | (simp only [q_dark, darkF, if_pos c2]; done) | (subst hz4 hz6 hz8 hz10 hz12 hz14 hz16; simp only [q_dark, darkF, if_pos c2]; done) | (subst hz4 hz6 hz8 hz10 hz12 hz14 hz16; simp only [q_dark, darkF, if_pos c2]; rfl) | (subst hz4 hz6 hz8 hz10 hz12 hz14 hz16; simp only [q_dark, darkF, if_pos c2]; omega)
                  exact v_ireturn hG hR dX12_darkOf_202 () (congrArg (fun z => some (vI z)) e18) (by exact q_dark_rng hm hP (by omega)) (fun _ hM => hM)
                refine v_if_ge (tgt := 200) hG dX12_darkOf_193 (by decide) (by omega) (fun c19 => ?_) (fun c19 => ?_)
                · skip
                  refine v_iload hG dX12_darkOf_200 0 rfl ?_
                  refine v_lo [1, 2, 3, 4, 5, 6, 0] (lo' := [(0, .ref (a 0)), (1, vI m), (2, vI w), (3, vI (s (50 + m))), (4, vI (s (3 + m))), (5, vI ((w / (q_wear s)) + (s (35 + m)))), (6, vI (((z8 + z10) + z12) - z14))]) rfl ?_
                  exact J17 _ (by first | rfl | (simp only [if_pos c2, if_pos c19]; done) | (simp [bi, c2, hz4, hz6, hz8, hz10, hz12, hz14, c19]; done))
                · skip
                  refine v_iconst hG dX12_darkOf_196 ?_
                  refine v_goto (tgt := 202) hG dX12_darkOf_197 (by decide) ?_
                  refine v_lo [1, 2, 3, 4, 5, 6, 0] (lo' := [(0, .ref (a 0)), (1, vI m), (2, vI w), (3, vI (s (50 + m))), (4, vI (s (3 + m))), (5, vI ((w / (q_wear s)) + (s (35 + m)))), (6, vI (((z8 + z10) + z12) - z14))]) rfl ?_
                  exact J17 _ (by first | rfl | (simp only [if_pos c2, if_neg c19]; done) | (simp [bi, c2, hz4, hz6, hz8, hz10, hz12, hz14, c19]; done))
              refine v_icmp_ne (tgt := 187) hG dX12_darkOf_180 (by decide) (by omega) (by omega) (fun c20 => ?_) (fun c20 => ?_)
              · skip
                refine v_iconst hG dX12_darkOf_187 ?_
                refine v_lo [1, 2, 3, 4, 5, 6, 0] (lo' := [(0, .ref (a 0)), (1, vI m), (2, vI w), (3, vI (s (50 + m))), (4, vI (s (3 + m))), (5, vI ((w / (q_wear s)) + (s (35 + m)))), (6, vI ((z8 + z10) + z12))]) rfl ?_
                exact J15 _ (by first | rfl | (simp only [if_pos c2, if_neg c20]; done) | (simp [bi, c2, hz4, hz6, hz8, hz10, hz12, c20]; done))
              · skip
                refine v_iconst hG dX12_darkOf_183 ?_
                refine v_goto (tgt := 188) hG dX12_darkOf_184 (by decide) ?_
                refine v_lo [1, 2, 3, 4, 5, 6, 0] (lo' := [(0, .ref (a 0)), (1, vI m), (2, vI w), (3, vI (s (50 + m))), (4, vI (s (3 + m))), (5, vI ((w / (q_wear s)) + (s (35 + m)))), (6, vI ((z8 + z10) + z12))]) rfl ?_
                exact J15 _ (by first | rfl | (simp only [if_pos c2, if_pos c20]; done) | (simp [bi, c2, hz4, hz6, hz8, hz10, hz12, c20]; done))
            refine v_icmp_ne (tgt := 164) hG dX12_darkOf_143 (by decide) (by omega) (by omega) (fun c21 => ?_) (fun c21 => ?_)
            · skip
              refine v_iconst hG dX12_darkOf_164 ?_
              refine v_lo [1, 2, 3, 4, 5, 6, 0] (lo' := [(0, .ref (a 0)), (1, vI m), (2, vI w), (3, vI (s (50 + m))), (4, vI (s (3 + m))), (5, vI ((w / (q_wear s)) + (s (35 + m)))), (6, vI (z8 + z10))]) rfl ?_
              exact J13 _ (by first | rfl | (simp only [if_pos c2, if_neg c21]; done) | (simp [bi, c2, hz4, hz6, hz8, hz10, c21]; done))
            · skip
              refine v_aload_n hG dX12_darkOf_146 rfl 1 rfl ?_
              refine mg_s hG dX12_darkOf_147 ?_
              refine v_bipush hG dX12_darkOf_150 (by decide) ?_
              refine v_iconst hG dX12_darkOf_152 ?_
              refine v_iload_n hG dX12_darkOf_153 rfl 2 rfl ?_
              refine v_imul hG dX12_darkOf_154 ?_
              refine v_iadd hG dX12_darkOf_155 ?_
              refine v_iload_n hG dX12_darkOf_156 rfl 3 rfl ?_
              refine v_iconst hG dX12_darkOf_157 ?_
              refine v_irem hG dX12_darkOf_158 (by omega) (by omega) ?_
              refine v_iadd hG dX12_darkOf_159 ?_
              refine ma_s (z := s ((74 + (4 * m)) + (w % 4))) hG dX12_darkOf_160 (by omega) rfl ?_
              refine v_goto (tgt := 165) hG dX12_darkOf_161 (by decide) ?_
              refine v_lo [1, 2, 3, 4, 5, 6, 0] (lo' := [(0, .ref (a 0)), (1, vI m), (2, vI w), (3, vI (s (50 + m))), (4, vI (s (3 + m))), (5, vI ((w / (q_wear s)) + (s (35 + m)))), (6, vI (z8 + z10))]) rfl ?_
              exact J13 _ (by first | rfl | (simp only [if_pos c2, if_pos c21]; done) | (simp [bi, c2, hz4, hz6, hz8, hz10, c21]; done))
          refine v_icmp_ne (tgt := 134) hG dX12_darkOf_114 (by decide) (by omega) (by omega) (fun c22 => ?_) (fun c22 => ?_)
          · skip
            refine v_iconst hG dX12_darkOf_134 ?_
            refine v_lo [1, 2, 3, 4, 5, 6, 0] (lo' := [(0, .ref (a 0)), (1, vI m), (2, vI w), (3, vI (s (50 + m))), (4, vI (s (3 + m))), (5, vI ((w / (q_wear s)) + (s (35 + m)))), (6, vI z8)]) rfl ?_
            exact J11 _ (by first | rfl | (simp only [if_pos c2, if_neg c22]; done) | (simp [bi, c2, hz4, hz6, hz8, c22]; done))
          · skip
            refine v_aload_n hG dX12_darkOf_117 rfl 1 rfl ?_
            refine mg_s hG dX12_darkOf_118 ?_
            refine v_bipush hG dX12_darkOf_121 (by decide) ?_
            refine v_iload_n hG dX12_darkOf_123 rfl 2 rfl ?_
            refine v_iadd hG dX12_darkOf_124 ?_
            refine ma_s (z := s (19 + m)) hG dX12_darkOf_125 (by omega) rfl ?_
            refine v_iconst hG dX12_darkOf_126 ?_
            refine v_icmp_ne (tgt := 134) hG dX12_darkOf_127 (by decide) (by omega) (by omega) (fun c23 => ?_) (fun c23 => ?_)
            · skip
              refine v_iconst hG dX12_darkOf_134 ?_
              refine v_lo [1, 2, 3, 4, 5, 6, 0] (lo' := [(0, .ref (a 0)), (1, vI m), (2, vI w), (3, vI (s (50 + m))), (4, vI (s (3 + m))), (5, vI ((w / (q_wear s)) + (s (35 + m)))), (6, vI z8)]) rfl ?_
              exact J11 _ (by first | rfl | (simp only [if_pos c2, if_pos c22, if_neg c23]; done) | (simp [bi, c2, hz4, hz6, hz8, c22, c23]; done))
            · skip
              refine v_iconst hG dX12_darkOf_130 ?_
              refine v_goto (tgt := 135) hG dX12_darkOf_131 (by decide) ?_
              refine v_lo [1, 2, 3, 4, 5, 6, 0] (lo' := [(0, .ref (a 0)), (1, vI m), (2, vI w), (3, vI (s (50 + m))), (4, vI (s (3 + m))), (5, vI ((w / (q_wear s)) + (s (35 + m)))), (6, vI z8)]) rfl ?_
              exact J11 _ (by first | rfl | (simp only [if_pos c2, if_pos c22, if_pos c23]; done) | (simp [bi, c2, hz4, hz6, hz8, c22, c23]; done))
        refine v_icmp_ne (tgt := 106) hG dX12_darkOf_94 (by decide) (by omega) (by omega) (fun c24 => ?_) (fun c24 => ?_)
        · skip
          refine v_iload hG dX12_darkOf_106 0 rfl ?_
          refine v_lo [1, 2, 3, 4, 5, 6, 0] (lo' := [(0, .ref (a 0)), (1, vI m), (2, vI w), (3, vI (s (50 + m))), (4, vI (s (3 + m))), (5, vI ((w / (q_wear s)) + (s (35 + m)))), (6, vI ((z4 - ((w / (q_wear s)) + (s (35 + m)))) + z6))]) rfl ?_
          exact J9 _ (by first | rfl | (simp only [if_pos c2, if_neg c24]; done) | (simp [bi, c2, hz4, hz6, c24]; done))
        · skip
          refine v_iload hG dX12_darkOf_97 0 rfl ?_
          refine v_iconst hG dX12_darkOf_99 ?_
          have ht2 := tdiv2_b (x := (z4 - ((w / (q_wear s)) + (s (35 + m)))) + z6) (by omega)
          refine v_idivT hG dX12_darkOf_100 (by omega) (by omega) ?_
          refine v_iconst hG dX12_darkOf_101 ?_
          refine v_isub hG dX12_darkOf_102 ?_
          refine v_goto (tgt := 108) hG dX12_darkOf_103 (by decide) ?_
          refine v_lo [1, 2, 3, 4, 5, 6, 0] (lo' := [(0, .ref (a 0)), (1, vI m), (2, vI w), (3, vI (s (50 + m))), (4, vI (s (3 + m))), (5, vI ((w / (q_wear s)) + (s (35 + m)))), (6, vI ((z4 - ((w / (q_wear s)) + (s (35 + m)))) + z6))]) rfl ?_
          exact J9 _ (by first | rfl | (simp only [if_pos c2, if_pos c24]; done) | (simp [bi, c2, hz4, hz6, c24]; done))
      refine v_icmp_eq (tgt := 84) hG dX12_darkOf_76 (by decide) (by omega) (by omega) (fun c25 => ?_) (fun c25 => ?_)
      · skip
        refine v_iconst hG dX12_darkOf_84 ?_
        refine v_goto (tgt := 89) hG dX12_darkOf_85 (by decide) ?_
        refine v_lo [1, 2, 3, 4, 5, 6, 0] (lo' := [(0, .ref (a 0)), (1, vI m), (2, vI w), (3, vI (s (50 + m))), (4, vI (s (3 + m))), (5, vI ((w / (q_wear s)) + (s (35 + m)))), (6, vI (z4 - ((w / (q_wear s)) + (s (35 + m)))))]) rfl ?_
        exact J7 _ (by first | rfl | (simp only [if_pos c2, if_pos c25]; done) | (simp [bi, c2, hz4, c25]; done))
      · skip
        refine v_iload_n hG dX12_darkOf_79 rfl 4 rfl ?_
        refine v_iconst hG dX12_darkOf_80 ?_
        refine v_icmp_ne (tgt := 88) hG dX12_darkOf_81 (by decide) (by omega) (by omega) (fun c26 => ?_) (fun c26 => ?_)
        · skip
          refine v_iconst hG dX12_darkOf_88 ?_
          refine v_lo [1, 2, 3, 4, 5, 6, 0] (lo' := [(0, .ref (a 0)), (1, vI m), (2, vI w), (3, vI (s (50 + m))), (4, vI (s (3 + m))), (5, vI ((w / (q_wear s)) + (s (35 + m)))), (6, vI (z4 - ((w / (q_wear s)) + (s (35 + m)))))]) rfl ?_
          exact J7 _ (by first | rfl | (simp only [if_pos c2, if_neg c25, if_neg c26]; done) | (simp [bi, c2, hz4, c25, c26]; done))
        · skip
          refine v_iconst hG dX12_darkOf_84 ?_
          refine v_goto (tgt := 89) hG dX12_darkOf_85 (by decide) ?_
          refine v_lo [1, 2, 3, 4, 5, 6, 0] (lo' := [(0, .ref (a 0)), (1, vI m), (2, vI w), (3, vI (s (50 + m))), (4, vI (s (3 + m))), (5, vI ((w / (q_wear s)) + (s (35 + m)))), (6, vI (z4 - ((w / (q_wear s)) + (s (35 + m)))))]) rfl ?_
          exact J7 _ (by first | rfl | (simp only [if_pos c2, if_neg c25, if_pos c26]; done) | (simp [bi, c2, hz4, c25, c26]; done))
    refine v_icmp_eq (tgt := 58) hG dX12_darkOf_50 (by decide) (by omega) (by omega) (fun c27 => ?_) (fun c27 => ?_)
    · skip
      refine v_iconst hG dX12_darkOf_58 ?_
      refine v_iload hG dX12_darkOf_59 1 rfl ?_
      refine v_imul hG dX12_darkOf_61 ?_
      refine v_goto (tgt := 67) hG dX12_darkOf_62 (by decide) ?_
      refine v_lo [3, 4, 5, 2, 1, 0] (lo' := [(0, .ref (a 0)), (1, vI m), (2, vI w), (3, vI (s (50 + m))), (4, vI (s (3 + m))), (5, vI ((w / (q_wear s)) + (s (35 + m))))]) rfl ?_
      exact J5 _ (by first | rfl | (simp only [if_pos c2, if_pos c27]; done) | (simp [bi, c2, c27]; done))
    · skip
      refine v_iload_n hG dX12_darkOf_53 rfl 2 rfl ?_
      refine v_iconst hG dX12_darkOf_54 ?_
      refine v_icmp_ne (tgt := 65) hG dX12_darkOf_55 (by decide) (by omega) (by omega) (fun c28 => ?_) (fun c28 => ?_)
      · skip
        refine v_iload hG dX12_darkOf_65 1 rfl ?_
        refine v_lo [3, 4, 5, 2, 1, 0] (lo' := [(0, .ref (a 0)), (1, vI m), (2, vI w), (3, vI (s (50 + m))), (4, vI (s (3 + m))), (5, vI ((w / (q_wear s)) + (s (35 + m))))]) rfl ?_
        exact J5 _ (by first | rfl | (simp only [if_pos c2, if_neg c27, if_neg c28]; done) | (simp [bi, c2, c27, c28]; done))
      · skip
        refine v_iconst hG dX12_darkOf_58 ?_
        refine v_iload hG dX12_darkOf_59 1 rfl ?_
        refine v_imul hG dX12_darkOf_61 ?_
        refine v_goto (tgt := 67) hG dX12_darkOf_62 (by decide) ?_
        refine v_lo [3, 4, 5, 2, 1, 0] (lo' := [(0, .ref (a 0)), (1, vI m), (2, vI w), (3, vI (s (50 + m))), (4, vI (s (3 + m))), (5, vI ((w / (q_wear s)) + (s (35 + m))))]) rfl ?_
        exact J5 _ (by first | rfl | (simp only [if_pos c2, if_neg c27, if_pos c28]; done) | (simp [bi, c2, c27, c28]; done))
  · skip
    refine v_iconst hG dX12_darkOf_8 ?_
    have e29 : @Eq Int (q_dark s m w) (0) := by first | rfl | (simp only [q_dark, darkF, if_neg c2]; done) | (simp only [q_dark, darkF, if_neg c2]; done) | (simp only [q_dark, darkF, if_neg c2]; rfl) | (simp only [q_dark, darkF, if_neg c2]; omega)
    exact v_ireturn hG hR dX12_darkOf_9 () (congrArg (fun z => some (vI z)) e29) (by exact q_dark_rng hm hP (by omega)) (fun _ hM => hM)
set_option maxHeartbeats 4000000 in
set_option maxRecDepth 100000 in
theorem k_darkBy (l : Launch) (D : Dx) (A : Nat → Prop) (a : Nat → Nat) (s im fr bY tr ln bl bo g lg : Int → Int) (m : Int) (n : Int) (h8 : 0 ≤ m ∧ m < 8) (hm : MK s m) (hP : PL s) (hn : 0 ≤ n ∧ n ≤ 10000) : CT l D A yX12_darkBy cX12_darkBy 3 (some .int) { frames := 3, cells := 0, slots := 0, locals := 69 } [.ref (a 0), vI m, vI n] (MW D A a s im fr bY tr ln bl bo g lg) (fun _ : Unit => some (vI (q_dk s m n))) (fun _ => 0 ≤ q_dk s m n ∧ q_dk s m n ≤ 30) (fun _ => MW D A a s im fr bY tr ln bl bo g lg) := by
  refine ct_of (lo0 := [(0, .ref (a 0)), (1, vI m), (2, vI n)]) (by decide) (Nat.le_of_ble_eq_true rfl) rfl ?_
  intro G hG hR
  have hm7 := hm.2.2.2.2.2.2.1
  refine v_aload_n hG dX12_darkBy_0 rfl 0 rfl ?_
  refine v_iload_n hG dX12_darkBy_1 rfl 1 rfl ?_
  refine v_aload_n hG dX12_darkBy_2 rfl 0 rfl ?_
  refine mg_s hG dX12_darkBy_3 ?_
  refine v_bipush hG dX12_darkBy_6 (by decide) ?_
  refine v_iload_n hG dX12_darkBy_8 rfl 1 rfl ?_
  refine v_iadd hG dX12_darkBy_9 ?_
  refine ma_s (z := s (27 + m)) hG dX12_darkBy_10 (by omega) rfl ?_
  refine v_iload_n hG dX12_darkBy_11 rfl 2 rfl ?_
  refine v_iadd hG dX12_darkBy_12 ?_
  refine v_callV (k1' := 0) (k2' := 0) hG dX12_darkBy_13 zc_X12_darkOf ⟨zl_X12_144, zi_X12_darkOf, zs_X12_darkOf⟩ (fun l => k_darkOf l D A a s im fr bY tr ln bl bo g lg m ((s (27 + m)) + n) (by omega) (by first | assumption | (exact hM _ (by omega) (by omega))) (by assumption) (by omega)) rfl mw_recv (fun _ h => h) ⟨by decide, by decide⟩ rfl rfl ⟨by decide, by decide⟩ (rest := []) rfl (Nat.le_of_ble_eq_true rfl) (fun u1 => [vI (q_dark s m ((s (27 + m)) + n))]) (fun _ => rfl) (fun u1 hu1 => ?_)
  have fu1 : 0 ≤ q_dark s m ((s (27 + m)) + n) ∧ q_dark s m ((s (27 + m)) + n) ≤ 30 := hu1
  have e2 : @Eq Int (q_dk s m n) (q_dark s m ((s (27 + m)) + n)) := by first | rfl | omega | (exact bi_congr (by omega)) | (simp []; done)
  exact v_ireturn hG hR dX12_darkBy_16 () (congrArg (fun z => some (vI z)) e2) (by exact q_dk_rng hm hP (by omega)) (fun _ hM => hM)
set_option maxHeartbeats 4000000 in
set_option maxRecDepth 100000 in
theorem k_doesPrint (l : Launch) (D : Dx) (A : Nat → Prop) (a : Nat → Nat) (s im fr bY tr ln bl bo g lg : Int → Int) (m : Int) (n : Int) (h8 : 0 ≤ m ∧ m < 8) (hm : MK s m) (hP : PL s) (hn : 0 ≤ n ∧ n ≤ 10000) : CT l D A yX12_doesPrint cX12_doesPrint 3 (some .boolean) { frames := 4, cells := 0, slots := 0, locals := 91 } [.ref (a 0), vI m, vI n] (MW D A a s im fr bY tr ln bl bo g lg) (fun _ : Unit => some (vI (bi (0 < q_dk s m n)))) (fun _ => True) (fun _ => MW D A a s im fr bY tr ln bl bo g lg) := by
  refine ct_of (lo0 := [(0, .ref (a 0)), (1, vI m), (2, vI n)]) (by decide) (Nat.le_of_ble_eq_true rfl) rfl ?_
  intro G hG hR
  refine v_aload_n hG dX12_doesPrint_0 rfl 0 rfl ?_
  refine v_iload_n hG dX12_doesPrint_1 rfl 1 rfl ?_
  refine v_iload_n hG dX12_doesPrint_2 rfl 2 rfl ?_
  refine v_callV (k1' := 0) (k2' := 0) hG dX12_doesPrint_3 zc_X12_darkBy ⟨zl_X12_147, zi_X12_darkBy, zs_X12_darkBy⟩ (fun l => k_darkBy l D A a s im fr bY tr ln bl bo g lg m n (by omega) (by first | assumption | (exact hM _ (by omega) (by omega))) (by assumption) (by omega)) rfl mw_recv (fun _ h => h) ⟨by decide, by decide⟩ rfl rfl ⟨by decide, by decide⟩ (rest := []) rfl (Nat.le_of_ble_eq_true rfl) (fun u1 => [vI (q_dk s m n)]) (fun _ => rfl) (fun u1 hu1 => ?_)
  have fu1 : 0 ≤ q_dk s m n ∧ q_dk s m n ≤ 30 := hu1
  have J3 : ∀ z2 : Int, z2 = (bi (¬ (q_dk s m n ≤ 0))) → V G 0 0 (MW D A a s im fr bY tr ln bl bo g lg) 14 [(0, .ref (a 0)), (1, vI m), (2, vI n)] [vI z2] := by
    intro z2 hz2
    subst hz2
    have e4 : @Eq Int (bi (0 < q_dk s m n)) (bi (¬ (q_dk s m n ≤ 0))) := by first | rfl | omega | (exact bi_congr (by omega)) | (simp []; done)
    exact v_zreturn hG hR dX12_doesPrint_14 (bi_01 _) () (congrArg (fun z => some (vI z)) e4) (by trivial) (fun _ hM => hM)
  refine v_if_le (tgt := 13) hG dX12_doesPrint_6 (by decide) (by omega) (fun c5 => ?_) (fun c5 => ?_)
  · skip
    refine v_iconst hG dX12_doesPrint_13 ?_
    exact J3 _ (by first | rfl | (simp only [if_pos c5]; done) | (simp [bi, c5]; done))
  · skip
    refine v_iconst hG dX12_doesPrint_9 ?_
    refine v_goto (tgt := 14) hG dX12_doesPrint_10 (by decide) ?_
    exact J3 _ (by first | rfl | (simp only [if_neg c5]; done) | (simp [bi, c5]; done))
set_option maxHeartbeats 4000000 in
set_option maxRecDepth 100000 in
theorem k_riskBy (l : Launch) (D : Dx) (A : Nat → Prop) (a : Nat → Nat) (s im fr bY tr ln bl bo g lg : Int → Int) (m : Int) (t : Int) (SL : List Int) (h8 : 0 ≤ m ∧ m < 8) (hm : MK s m) (hE : HE s SL) (ht : 0 ≤ t ∧ t ≤ 1000) : CT l D A yX12_riskBy cX12_riskBy 3 (some .int) { frames := 2, cells := 0, slots := 0, locals := 53 } [.ref (a 0), vI m, vI t] (MW D A a s im fr bY tr ln bl bo g lg) (fun u : (Int → Int) × (Int → Int) => some (vI (q_risk s SL m t))) (fun u => 0 ≤ q_risk s SL m t ∧ q_risk s SL m t ≤ 99) (fun u => MW D A a s im fr u.1 u.2 ln bl bo g lg) := by
  refine ct_of (lo0 := [(0, .ref (a 0)), (1, vI m), (2, vI t)]) (by decide) (Nat.le_of_ble_eq_true rfl) rfl ?_
  intro G hG hR
  refine v_aload_n hG dX12_riskBy_0 rfl 0 rfl ?_
  refine v_iload_n hG dX12_riskBy_1 rfl 1 rfl ?_
  refine v_iload_n hG dX12_riskBy_2 rfl 2 rfl ?_
  refine v_callV (k1' := 0) (k2' := 0) hG dX12_riskBy_3 zc_X12_looks ⟨zl_X12_127, zi_X12_looks, zs_X12_looks⟩ (fun l => k_looks l D A a s im fr bY tr ln bl bo g lg m t SL (by omega) (by first | assumption | (exact hM _ (by omega) (by omega))) (by assumption) (by omega)) rfl mw_recv (fun _ h => h) ⟨by decide, by decide⟩ rfl rfl ⟨by decide, by decide⟩ (rest := []) rfl (Nat.le_of_ble_eq_true rfl) (fun u1 => [vI (q_look s SL m t)]) (fun _ => rfl) (fun u1 hu1 => ?_)
  have fu1 : -42000 ≤ q_look s SL m t ∧ q_look s SL m t ≤ 42000 := hu1
  refine v_iload_n hG dX12_riskBy_6 rfl 2 rfl ?_
  refine v_iconst hG dX12_riskBy_7 ?_
  refine v_idiv hG dX12_riskBy_8 (by omega) (by omega) ?_
  refine v_iadd hG dX12_riskBy_9 ?_
  refine v_iconst hG dX12_riskBy_10 ?_
  refine v_bipush hG dX12_riskBy_11 (by decide) ?_
  refine v_callS (k1' := 0) (k2' := 0) hG dX12_riskBy_13 zc_X12_within ⟨zl_X12_130, zt_X12_within⟩ (fun l => k_within l D A (MW D A a s im fr u1.1 u1.2 ln bl bo g lg) ((q_look s SL m t) + (t / 5)) 0 99 (by omega) (by omega) (by omega)) rfl (fun _ h => h) ⟨by decide, by decide⟩ rfl rfl ⟨by decide, by decide⟩ (rest := []) rfl (Nat.le_of_ble_eq_true rfl) (fun u2 => [vI (clamp ((q_look s SL m t) + (t / 5)) 0 99)]) (fun _ => rfl) (fun u2 hu2 => ?_)
  have e3 : @Eq Int (q_risk s SL m t) (clamp ((q_look s SL m t) + (t / 5)) 0 99) := by first | rfl | omega | (exact bi_congr (by omega)) | (simp []; done)
  exact v_ireturn hG hR dX12_riskBy_16 (u1.1, u1.2) (congrArg (fun z => some (vI z)) e3) (by exact q_risk_rng s SL m t) (fun _ hM => hM)
set_option maxHeartbeats 4000000 in
set_option maxRecDepth 100000 in
theorem k_riskOf (l : Launch) (D : Dx) (A : Nat → Prop) (a : Nat → Nat) (s im fr bY tr ln bl bo g lg : Int → Int) (m : Int) (SL : List Int) (h8 : 0 ≤ m ∧ m < 8) (hm : MK s m) (hE : HE s SL) (hT : 0 ≤ s 2 ∧ s 2 ≤ 99) : CT l D A yX12_riskOf cX12_riskOf 2 (some .int) { frames := 3, cells := 0, slots := 0, locals := 75 } [.ref (a 0), vI m] (MW D A a s im fr bY tr ln bl bo g lg) (fun u : (Int → Int) × (Int → Int) => some (vI (q_risk s SL m (s 2)))) (fun u => 0 ≤ q_risk s SL m (s 2) ∧ q_risk s SL m (s 2) ≤ 99) (fun u => MW D A a s im fr u.1 u.2 ln bl bo g lg) := by
  refine ct_of (lo0 := [(0, .ref (a 0)), (1, vI m)]) (by decide) (Nat.le_of_ble_eq_true rfl) rfl ?_
  intro G hG hR
  refine v_aload_n hG dX12_riskOf_0 rfl 0 rfl ?_
  refine v_iload_n hG dX12_riskOf_1 rfl 1 rfl ?_
  refine v_aload_n hG dX12_riskOf_2 rfl 0 rfl ?_
  refine mg_s hG dX12_riskOf_3 ?_
  refine v_iconst hG dX12_riskOf_6 ?_
  refine ma_s (z := s 2) hG dX12_riskOf_7 (by omega) rfl ?_
  refine v_callV (k1' := 0) (k2' := 0) hG dX12_riskOf_8 zc_X12_riskBy ⟨zl_X12_134, zi_X12_riskBy, zs_X12_riskBy⟩ (fun l => k_riskBy l D A a s im fr bY tr ln bl bo g lg m (s 2) SL (by omega) (by first | assumption | (exact hM _ (by omega) (by omega))) (by assumption) (by omega)) rfl mw_recv (fun _ h => h) ⟨by decide, by decide⟩ rfl rfl ⟨by decide, by decide⟩ (rest := []) rfl (Nat.le_of_ble_eq_true rfl) (fun u1 => [vI (q_risk s SL m (s 2))]) (fun _ => rfl) (fun u1 hu1 => ?_)
  have fu1 : 0 ≤ q_risk s SL m (s 2) ∧ q_risk s SL m (s 2) ≤ 99 := hu1
  exact v_ireturn hG hR dX12_riskOf_11 (u1.1, u1.2) rfl (by exact q_risk_rng s SL m _) (fun _ hM => hM)
set_option maxHeartbeats 4000000 in
set_option maxRecDepth 100000 in
theorem k_tires (l : Launch) (D : Dx) (A : Nat → Prop) (a : Nat → Nat) (s im fr bY tr ln bl bo g lg : Int → Int) (n : Int) (hT : 0 ≤ s 2 ∧ s 2 ≤ 99) (hn : -1000 ≤ n ∧ n ≤ 1000) : CT l D A yX12_tires cX12_tires 2 none { frames := 1, cells := 0, slots := 0, locals := 22 } [.ref (a 0), vI n] (MW D A a s im fr bY tr ln bl bo g lg) (fun _ : Unit => none) (fun _ => True) (fun _ => MW D A a (p_tire s n) im fr bY tr ln bl bo g lg) := by
  refine ct_of (lo0 := [(0, .ref (a 0)), (1, vI n)]) (by decide) (Nat.le_of_ble_eq_true rfl) rfl ?_
  intro G hG hR
  refine v_aload_n hG dX12_tires_0 rfl 0 rfl ?_
  refine mg_s hG dX12_tires_1 ?_
  refine v_iconst hG dX12_tires_4 ?_
  refine v_aload_n hG dX12_tires_5 rfl 0 rfl ?_
  refine mg_s hG dX12_tires_6 ?_
  refine v_iconst hG dX12_tires_9 ?_
  refine ma_s (z := s 2) hG dX12_tires_10 (by omega) rfl ?_
  refine v_iload_n hG dX12_tires_11 rfl 1 rfl ?_
  refine v_iadd hG dX12_tires_12 ?_
  refine v_iconst hG dX12_tires_13 ?_
  refine v_bipush hG dX12_tires_14 (by decide) ?_
  refine v_callS (k1' := 0) (k2' := 0) hG dX12_tires_16 zc_X12_within ⟨zl_X12_130, zt_X12_within⟩ (fun l => k_within l D A (MW D A a s im fr bY tr ln bl bo g lg) ((s 2) + n) 0 99 (by omega) (by omega) (by omega)) rfl (fun _ h => h) ⟨by decide, by decide⟩ rfl rfl ⟨by decide, by decide⟩ (rest := [vI 2, .ref (a 1)]) rfl (Nat.le_of_ble_eq_true rfl) (fun u1 => [vI (clamp ((s 2) + n) 0 99), vI 2, .ref (a 1)]) (fun _ => rfl) (fun u1 hu1 => ?_)
  refine ms_s hG dX12_tires_19 (by omega) ?_
  have e2 : sU s 2 (clamp ((s 2) + n) 0 99) = p_tire s n := by first | rfl | (simp only [p_tire, ]; done) | (simp only [p_tire, ]; done) | (simp only [p_tire, ]; rfl) | (simp only [p_tire, ]; omega)
  exact v_return hG hR dX12_tires_20 () rfl (by trivial) (fun _ hM => by rw [← e2]; exact hM)
set_option maxHeartbeats 4000000 in
set_option maxRecDepth 100000 in
theorem k_isLate (l : Launch) (D : Dx) (A : Nat → Prop) (a : Nat → Nat) (s im fr bY tr ln bl bo g lg : Int → Int) (h0 : 0 ≤ s 0 ∧ s 0 ≤ 1000000) : CT l D A yX12_isLate cX12_isLate 1 (some .boolean) { frames := 0, cells := 0, slots := 0, locals := 0 } [.ref (a 0)] (MW D A a s im fr bY tr ln bl bo g lg) (fun _ : Unit => some (vI (bi (99000 < s 0)))) (fun _ => True) (fun _ => MW D A a s im fr bY tr ln bl bo g lg) := by
  refine ct_of (lo0 := [(0, .ref (a 0))]) (by decide) (Nat.le_of_ble_eq_true rfl) rfl ?_
  intro G hG hR
  refine v_aload_n hG dX12_isLate_0 rfl 0 rfl ?_
  refine mg_s hG dX12_isLate_1 ?_
  refine v_iconst hG dX12_isLate_4 ?_
  refine ma_s (z := s 0) hG dX12_isLate_5 (by omega) rfl ?_
  refine v_ldc (n := 99000) hG dX12_isLate_6 (ztb 1268 (by decide +kernel) (by decide +kernel)) rfl ?_
  have J2 : ∀ z1 : Int, z1 = (bi (¬ (s 0 ≤ 99000))) → V G 0 0 (MW D A a s im fr bY tr ln bl bo g lg) 16 [(0, .ref (a 0))] [vI z1] := by
    intro z1 hz1
    subst hz1
    have e3 : @Eq Int (bi (99000 < s 0)) (bi (¬ (s 0 ≤ 99000))) := by first | rfl | omega | (exact bi_congr (by omega)) | (simp []; done)
    exact v_zreturn hG hR dX12_isLate_16 (bi_01 _) () (congrArg (fun z => some (vI z)) e3) (by trivial) (fun _ hM => hM)
  refine v_icmp_le (tgt := 15) hG dX12_isLate_8 (by decide) (by omega) (by omega) (fun c4 => ?_) (fun c4 => ?_)
  · skip
    refine v_iconst hG dX12_isLate_15 ?_
    exact J2 _ (by first | rfl | (simp only [if_pos c4]; done) | (simp [bi, c4]; done))
  · skip
    refine v_iconst hG dX12_isLate_11 ?_
    refine v_goto (tgt := 16) hG dX12_isLate_12 (by decide) ?_
    exact J2 _ (by first | rfl | (simp only [if_neg c4]; done) | (simp [bi, c4]; done))
set_option maxHeartbeats 4000000 in
set_option maxRecDepth 100000 in
theorem k_flawBy (l : Launch) (D : Dx) (A : Nat → Prop) (a : Nat → Nat) (s im fr bY tr ln bl bo g lg : Int → Int) (m : Int) (d : Int) (SL : List Int) (h8 : 0 ≤ m ∧ m < 8) (hm : MK s m) (hE : HE s SL) (hT : 0 ≤ s 2 ∧ s 2 ≤ 99) (hd : 0 ≤ d ∧ d ≤ 99) : CT l D A yX12_flawBy cX12_flawBy 4 (some .int) { frames := 4, cells := 0, slots := 0, locals := 96 } [.ref (a 0), vI m, vI d] (MW D A a s im fr bY tr ln bl bo g lg) (fun u : (Int → Int) × (Int → Int) => some (vI (flawF (s (50 + m)) (q_risk s SL m (s 2)) d))) (fun u => 0 ≤ flawF (s (50 + m)) (q_risk s SL m (s 2)) d ∧ flawF (s (50 + m)) (q_risk s SL m (s 2)) d ≤ 3) (fun u => MW D A a s im fr u.1 u.2 ln bl bo g lg) := by
  refine ct_of (lo0 := [(0, .ref (a 0)), (1, vI m), (2, vI d)]) (by decide) (Nat.le_of_ble_eq_true rfl) rfl ?_
  intro G hG hR
  have hm1 := hm.1
  refine v_iload_n hG dX12_flawBy_0 rfl 2 rfl ?_
  refine v_aload_n hG dX12_flawBy_1 rfl 0 rfl ?_
  refine v_iload_n hG dX12_flawBy_2 rfl 1 rfl ?_
  refine v_callV (k1' := 0) (k2' := 0) hG dX12_flawBy_3 zc_X12_riskOf ⟨zl_X12_153, zi_X12_riskOf, zs_X12_riskOf⟩ (fun l => k_riskOf l D A a s im fr bY tr ln bl bo g lg m SL (by omega) (by first | assumption | (exact hM _ (by omega) (by omega))) (by assumption) (by omega)) rfl mw_recv (fun _ h => h) ⟨by decide, by decide⟩ rfl rfl ⟨by decide, by decide⟩ (rest := [vI d]) rfl (Nat.le_of_ble_eq_true rfl) (fun u1 => [vI (q_risk s SL m (s 2)), vI d]) (fun _ => rfl) (fun u1 hu1 => ?_)
  have fu1 : 0 ≤ q_risk s SL m (s 2) ∧ q_risk s SL m (s 2) ≤ 99 := hu1
  refine v_icmp_ge (tgt := 17) hG dX12_flawBy_6 (by decide) (by omega) (by omega) (fun c2 => ?_) (fun c2 => ?_)
  · skip
    refine v_iconst hG dX12_flawBy_17 ?_
    refine v_istore_n (lo' := [(3, vI 0), (0, .ref (a 0)), (1, vI m), (2, vI d)]) hG dX12_flawBy_18 rfl (by decide) rfl ?_
    refine v_iload_n hG dX12_flawBy_19 rfl 0 rfl ?_
    refine v_iconst hG dX12_flawBy_20 ?_
    refine v_icmp_ne (tgt := 41) hG dX12_flawBy_21 (by decide) (by omega) (by omega) (fun c3 => ?_) (fun c3 => ?_)
    · skip
      refine v_iload_n hG dX12_flawBy_41 rfl 0 rfl ?_
      have e4 : @Eq Int (flawF (s (50 + m)) (q_risk s SL m (s 2)) d) (0) := by first | (simp [flawF, c2, c3]; done) | (unfold flawF; repeat' split <;> omega)
      exact v_ireturn hG hR dX12_flawBy_42 (u1.1, u1.2) (congrArg (fun z => some (vI z)) e4) (by unfold flawF; repeat' split <;> omega) (fun _ hM => hM)
    · skip
      refine v_aload_n hG dX12_flawBy_24 rfl 1 rfl ?_
      refine mg_s hG dX12_flawBy_25 ?_
      refine v_bipush hG dX12_flawBy_28 (by decide) ?_
      refine v_iload_n hG dX12_flawBy_30 rfl 2 rfl ?_
      refine v_iadd hG dX12_flawBy_31 ?_
      refine ma_s (z := s (50 + m)) hG dX12_flawBy_32 (by omega) rfl ?_
      refine v_iconst hG dX12_flawBy_33 ?_
      refine v_icmp_ne (tgt := 41) hG dX12_flawBy_34 (by decide) (by omega) (by omega) (fun c5 => ?_) (fun c5 => ?_)
      · skip
        refine v_iload_n hG dX12_flawBy_41 rfl 0 rfl ?_
        have e6 : @Eq Int (flawF (s (50 + m)) (q_risk s SL m (s 2)) d) (0) := by first | (simp [flawF, c2, c3, c5]; done) | (unfold flawF; repeat' split <;> omega)
        exact v_ireturn hG hR dX12_flawBy_42 (u1.1, u1.2) (congrArg (fun z => some (vI z)) e6) (by unfold flawF; repeat' split <;> omega) (fun _ hM => hM)
      · skip
        refine v_iconst hG dX12_flawBy_37 ?_
        refine v_goto (tgt := 42) hG dX12_flawBy_38 (by decide) ?_
        have e7 : @Eq Int (flawF (s (50 + m)) (q_risk s SL m (s 2)) d) (1) := by first | (simp [flawF, c2, c3, c5]; done) | (unfold flawF; repeat' split <;> omega)
        exact v_ireturn hG hR dX12_flawBy_42 (u1.1, u1.2) (congrArg (fun z => some (vI z)) e7) (by unfold flawF; repeat' split <;> omega) (fun _ hM => hM)
  · skip
    refine v_iload_n hG dX12_flawBy_9 rfl 2 rfl ?_
    refine v_iconst hG dX12_flawBy_10 ?_
    refine v_irem hG dX12_flawBy_11 (by omega) (by omega) ?_
    refine v_iconst hG dX12_flawBy_12 ?_
    refine v_iadd hG dX12_flawBy_13 ?_
    refine v_goto (tgt := 18) hG dX12_flawBy_14 (by decide) ?_
    refine v_istore_n (lo' := [(3, vI ((d % 3) + 1)), (0, .ref (a 0)), (1, vI m), (2, vI d)]) hG dX12_flawBy_18 rfl (by decide) rfl ?_
    refine v_iload_n hG dX12_flawBy_19 rfl 0 rfl ?_
    refine v_iconst hG dX12_flawBy_20 ?_
    refine v_icmp_ne (tgt := 41) hG dX12_flawBy_21 (by decide) (by omega) (by omega) (fun c8 => ?_) (fun c8 => ?_)
    · skip
      refine v_iload_n hG dX12_flawBy_41 rfl 0 rfl ?_
      have e9 : @Eq Int (flawF (s (50 + m)) (q_risk s SL m (s 2)) d) ((d % 3) + 1) := by first | (simp [flawF, c2, c8]; done) | (unfold flawF; repeat' split <;> omega)
      exact v_ireturn hG hR dX12_flawBy_42 (u1.1, u1.2) (congrArg (fun z => some (vI z)) e9) (by unfold flawF; repeat' split <;> omega) (fun _ hM => hM)
    · skip
      refine v_aload_n hG dX12_flawBy_24 rfl 1 rfl ?_
      refine mg_s hG dX12_flawBy_25 ?_
      refine v_bipush hG dX12_flawBy_28 (by decide) ?_
      refine v_iload_n hG dX12_flawBy_30 rfl 2 rfl ?_
      refine v_iadd hG dX12_flawBy_31 ?_
      refine ma_s (z := s (50 + m)) hG dX12_flawBy_32 (by omega) rfl ?_
      refine v_iconst hG dX12_flawBy_33 ?_
      refine v_icmp_ne (tgt := 41) hG dX12_flawBy_34 (by decide) (by omega) (by omega) (fun c10 => ?_) (fun c10 => ?_)
      · skip
        refine v_iload_n hG dX12_flawBy_41 rfl 0 rfl ?_
        have e11 : @Eq Int (flawF (s (50 + m)) (q_risk s SL m (s 2)) d) ((d % 3) + 1) := by first | (simp [flawF, c2, c8, c10]; done) | (unfold flawF; repeat' split <;> omega)
        exact v_ireturn hG hR dX12_flawBy_42 (u1.1, u1.2) (congrArg (fun z => some (vI z)) e11) (by unfold flawF; repeat' split <;> omega) (fun _ hM => hM)
      · skip
        refine v_iconst hG dX12_flawBy_37 ?_
        refine v_goto (tgt := 42) hG dX12_flawBy_38 (by decide) ?_
        have e12 : @Eq Int (flawF (s (50 + m)) (q_risk s SL m (s 2)) d) (1) := by first | (simp [flawF, c2, c8, c10]; done) | (unfold flawF; repeat' split <;> omega)
        exact v_ireturn hG hR dX12_flawBy_42 (u1.1, u1.2) (congrArg (fun z => some (vI z)) e12) (by unfold flawF; repeat' split <;> omega) (fun _ hM => hM)
