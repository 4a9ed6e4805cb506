/-! THE MODEL: second walks -/
def a_cut (s : Int → Int) (SL : List Int) (m d : Int) : Int := if 0 ≤ m ∧ m ≤ s 43 - 1 then (if 0 ≤ d ∧ d ≤ 99 then (if s (11 + m) = 1 then -3 else if 99000 < s 0 then -3 else p_cut s (flawF (s (50 + m)) (q_risk s SL m (s 2)) d) m (19 + m)) else -2) else -1
def f_cut (s : Int → Int) (SL : List Int) (m d : Int) : Int → Int := if 0 ≤ m ∧ m ≤ s 43 - 1 then (if 0 ≤ d ∧ d ≤ 99 then (if s (11 + m) = 1 then s else if 99000 < s 0 then s else p_cut s (flawF (s (50 + m)) (q_risk s SL m (s 2)) d) m) else s) else s
def a_rest (s : Int → Int) (n : Int) : Int := if 0 ≤ n ∧ n ≤ 60 then (if 99000 < s 0 then -3 else p_rest s n 2) else -2
def f_rest (s : Int → Int) (n : Int) : Int → Int := if 0 ≤ n ∧ n ≤ 60 then (if 99000 < s 0 then s else p_rest s n) else s
def a_mend (s : Int → Int) (m : Int) : Int := if 0 ≤ m ∧ m ≤ s 43 - 1 then (if s (11 + m) = 1 then (if s (35 + m) = 9 then -3 else if 99000 < s 0 then -3 else q_dk (p_mend s m) m 0) else -3) else -1
def f_mend (s : Int → Int) (m : Int) : Int → Int := if 0 ≤ m ∧ m ≤ s 43 - 1 then (if s (11 + m) = 1 then (if s (35 + m) = 9 then s else if 99000 < s 0 then s else p_mend s m) else s) else s
def a_over (s : Int → Int) (m : Int) : Int := if 0 ≤ m ∧ m ≤ s 43 - 1 then (if s (11 + m) = 1 then (if 99000 < s 0 then -3 else q_dk (p_over s m) m 0) else -3) else -1
def f_over (s : Int → Int) (m : Int) : Int → Int := if 0 ≤ m ∧ m ≤ s 43 - 1 then (if s (11 + m) = 1 then (if 99000 < s 0 then s else p_over s m) else s) else s
def a_print (s : Int → Int) (n : Int) : Int := if 0 ≤ n ∧ n ≤ 999 then cntB (prt (p_print s n) 0) (s 43).toNat else -2
def f_print (s : Int → Int) (n : Int) : Int → Int := if 0 ≤ n ∧ n ≤ 999 then p_print s n else s
def a_dark (s : Int → Int) (m n : Int) : Int := if 0 ≤ m ∧ m ≤ s 43 - 1 then (if 0 ≤ n ∧ n ≤ 999 then q_dk s m n else -2) else -1
set_option maxHeartbeats 4000000 in
set_option maxRecDepth 100000 in
theorem k_cutsOne (l : Launch) (D : Dx) (A : Nat → Prop) (a : Nat → Nat) (s im fr bY tr ln bl bo g lg : Int → Int) (m : Int) (d : Int) (SL : List Int) (h8 : 0 ≤ m ∧ m < 8) (hm : MK s m) (hE : HE s SL) (hT : 0 ≤ s 2 ∧ s 2 ≤ 99) (hD : 0 ≤ d ∧ d ≤ 99) : CT l D A yX12_cutsOne cX12_cutsOne 3 none { frames := 5, cells := 0, slots := 0, locals := 119 } [.ref (a 0), vI m, vI d] (MW D A a s im fr bY tr ln bl bo g lg) (fun u : (Int → Int) × (Int → Int) => none) (fun _ => True) (fun u => MW D A a (p_cut s (flawF (s (50 + m)) (q_risk s SL m (s 2)) d) m) im fr u.1 u.2 ln bl bo g lg) := by
  refine ct_of (lo0 := [(0, .ref (a 0)), (1, vI m), (2, vI d)]) (by decide) (Nat.le_of_ble_eq_true rfl) rfl ?_
  intro G hG hR
  refine v_aload_n hG dX12_cutsOne_0 rfl 0 rfl ?_
  refine mg_s hG dX12_cutsOne_1 ?_
  refine v_bipush hG dX12_cutsOne_4 (by decide) ?_
  refine v_iload_n hG dX12_cutsOne_6 rfl 1 rfl ?_
  refine v_iadd hG dX12_cutsOne_7 ?_
  refine v_aload_n hG dX12_cutsOne_8 rfl 0 rfl ?_
  refine v_iload_n hG dX12_cutsOne_9 rfl 1 rfl ?_
  refine v_iload_n hG dX12_cutsOne_10 rfl 2 rfl ?_
  refine v_callV (k1' := 0) (k2' := 0) hG dX12_cutsOne_11 zc_X12_flawBy ⟨zl_X12_164, zi_X12_flawBy, zs_X12_flawBy⟩ (fun l => k_flawBy l D A a s im fr bY tr ln bl bo g lg m d SL (by omega) (by first | assumption | (exact hM _ (by omega) (by omega))) (by assumption) (by omega) (by omega)) rfl mw_recv (fun _ h => h) ⟨by decide, by decide⟩ rfl rfl ⟨by decide, by decide⟩ (rest := [vI (19 + m), .ref (a 1)]) rfl (Nat.le_of_ble_eq_true rfl) (fun u1 => [vI (flawF (s (50 + m)) (q_risk s SL m (s 2)) d), vI (19 + m), .ref (a 1)]) (fun _ => rfl) (fun u1 hu1 => ?_)
  have fu1 : 0 ≤ flawF (s (50 + m)) (q_risk s SL m (s 2)) d ∧ flawF (s (50 + m)) (q_risk s SL m (s 2)) d ≤ 3 := hu1
  refine ms_s hG dX12_cutsOne_14 (by omega) ?_
  refine v_aload_n hG dX12_cutsOne_15 rfl 0 rfl ?_
  refine mg_s hG dX12_cutsOne_16 ?_
  refine v_bipush hG dX12_cutsOne_19 (by decide) ?_
  refine v_iload_n hG dX12_cutsOne_21 rfl 1 rfl ?_
  refine v_iadd hG dX12_cutsOne_22 ?_
  refine v_iconst hG dX12_cutsOne_23 ?_
  refine ms_s hG dX12_cutsOne_24 (by omega) ?_
  refine v_aload_n hG dX12_cutsOne_25 rfl 0 rfl ?_
  refine mg_s hG dX12_cutsOne_26 ?_
  refine v_bipush hG dX12_cutsOne_29 (by decide) ?_
  refine v_iload_n hG dX12_cutsOne_31 rfl 1 rfl ?_
  refine v_iadd hG dX12_cutsOne_32 ?_
  refine v_iconst hG dX12_cutsOne_33 ?_
  refine ms_s hG dX12_cutsOne_34 (by omega) ?_
  refine v_aload_n hG dX12_cutsOne_35 rfl 0 rfl ?_
  refine mg_s hG dX12_cutsOne_36 ?_
  refine v_bipush hG dX12_cutsOne_39 (by decide) ?_
  refine v_iload_n hG dX12_cutsOne_41 rfl 1 rfl ?_
  refine v_iadd hG dX12_cutsOne_42 ?_
  refine v_iconst hG dX12_cutsOne_43 ?_
  refine ms_s hG dX12_cutsOne_44 (by omega) ?_
  refine v_aload_n hG dX12_cutsOne_45 rfl 0 rfl ?_
  refine mg_s hG dX12_cutsOne_46 ?_
  refine v_iconst hG dX12_cutsOne_49 ?_
  refine v_dup2 hG dX12_cutsOne_50 rfl rfl ?_
  refine ma_s (z := s 0) hG dX12_cutsOne_51 (by omega) (by rw [sU_ne (by omega), sU_ne (by omega), sU_ne (by omega), sU_ne (by omega)]) ?_
  refine v_aload_n hG dX12_cutsOne_52 rfl 0 rfl ?_
  refine v_iload_n hG dX12_cutsOne_53 rfl 1 rfl ?_
  refine v_callV (k1' := 0) (k2' := 0) hG dX12_cutsOne_54 zc_X12_needsOf ⟨zl_X12_157, zi_X12_needsOf, zs_X12_needsOf⟩ (fun l => k_needsOf l D A a (sU (sU (sU (sU s (19 + m) (flawF (s (50 + m)) (q_risk s SL m (s 2)) d)) (11 + m) 1) (27 + m) 0) (35 + m) 0) im fr u1.1 u1.2 ln bl bo g lg m (by omega) (by exact MK_cut4 h8 (by omega) hm)) rfl mw_recv (fun _ h => h) ⟨by decide, by decide⟩ rfl rfl ⟨by decide, by decide⟩ (rest := [vI (s 0), vI 0, .ref (a 1)]) rfl (Nat.le_of_ble_eq_true rfl) (fun u2 => [vI (q_needs (sU (sU (sU (sU s (19 + m) (flawF (s (50 + m)) (q_risk s SL m (s 2)) d)) (11 + m) 1) (27 + m) 0) (35 + m) 0) m), vI (s 0), vI 0, .ref (a 1)]) (fun _ => rfl) (fun u2 hu2 => ?_)
  have fu2 : 0 ≤ q_needs (sU (sU (sU (sU s (19 + m) (flawF (s (50 + m)) (q_risk s SL m (s 2)) d)) (11 + m) 1) (27 + m) 0) (35 + m) 0) m ∧ q_needs (sU (sU (sU (sU s (19 + m) (flawF (s (50 + m)) (q_risk s SL m (s 2)) d)) (11 + m) 1) (27 + m) 0) (35 + m) 0) m ≤ 180 := hu2
  refine v_iadd hG dX12_cutsOne_57 ?_
  refine ms_s hG dX12_cutsOne_58 (by omega) ?_
  refine v_aload_n hG dX12_cutsOne_59 rfl 0 rfl ?_
  refine v_aload_n hG dX12_cutsOne_60 rfl 0 rfl ?_
  refine v_iload_n hG dX12_cutsOne_61 rfl 1 rfl ?_
  refine v_callV (k1' := 0) (k2' := 0) hG dX12_cutsOne_62 zc_X12_needsOf ⟨zl_X12_157, zi_X12_needsOf, zs_X12_needsOf⟩ (fun l => k_needsOf l D A a (sU (sU (sU (sU (sU s (19 + m) (flawF (s (50 + m)) (q_risk s SL m (s 2)) d)) (11 + m) 1) (27 + m) 0) (35 + m) 0) 0 ((s 0) + (q_needs (sU (sU (sU (sU s (19 + m) (flawF (s (50 + m)) (q_risk s SL m (s 2)) d)) (11 + m) 1) (27 + m) 0) (35 + m) 0) m))) im fr u1.1 u1.2 ln bl bo g lg m (by omega) (by exact MK_cut5 h8 (by omega) hm)) rfl mw_recv (fun _ h => h) ⟨by decide, by decide⟩ rfl rfl ⟨by decide, by decide⟩ (rest := [.ref (a 0)]) rfl (Nat.le_of_ble_eq_true rfl) (fun u3 => [vI (q_needs (sU (sU (sU (sU (sU s (19 + m) (flawF (s (50 + m)) (q_risk s SL m (s 2)) d)) (11 + m) 1) (27 + m) 0) (35 + m) 0) 0 ((s 0) + (q_needs (sU (sU (sU (sU s (19 + m) (flawF (s (50 + m)) (q_risk s SL m (s 2)) d)) (11 + m) 1) (27 + m) 0) (35 + m) 0) m))) m), .ref (a 0)]) (fun _ => rfl) (fun u3 hu3 => ?_)
  have fu3 : 0 ≤ q_needs (sU (sU (sU (sU (sU s (19 + m) (flawF (s (50 + m)) (q_risk s SL m (s 2)) d)) (11 + m) 1) (27 + m) 0) (35 + m) 0) 0 ((s 0) + (q_needs (sU (sU (sU (sU s (19 + m) (flawF (s (50 + m)) (q_risk s SL m (s 2)) d)) (11 + m) 1) (27 + m) 0) (35 + m) 0) m))) m ∧ q_needs (sU (sU (sU (sU (sU s (19 + m) (flawF (s (50 + m)) (q_risk s SL m (s 2)) d)) (11 + m) 1) (27 + m) 0) (35 + m) 0) 0 ((s 0) + (q_needs (sU (sU (sU (sU s (19 + m) (flawF (s (50 + m)) (q_risk s SL m (s 2)) d)) (11 + m) 1) (27 + m) 0) (35 + m) 0) m))) m ≤ 180 := hu3
  refine v_iconst hG dX12_cutsOne_65 ?_
  refine v_idiv hG dX12_cutsOne_66 (by omega) (by omega) ?_
  refine v_callV (k1' := 0) (k2' := 0) hG dX12_cutsOne_67 zc_X12_tires ⟨zl_X12_167, zi_X12_tires, zs_X12_tires⟩ (fun l => k_tires l D A a (sU (sU (sU (sU (sU s (19 + m) (flawF (s (50 + m)) (q_risk s SL m (s 2)) d)) (11 + m) 1) (27 + m) 0) (35 + m) 0) 0 ((s 0) + (q_needs (sU (sU (sU (sU s (19 + m) (flawF (s (50 + m)) (q_risk s SL m (s 2)) d)) (11 + m) 1) (27 + m) 0) (35 + m) 0) m))) im fr u1.1 u1.2 ln bl bo g lg ((q_needs (sU (sU (sU (sU (sU s (19 + m) (flawF (s (50 + m)) (q_risk s SL m (s 2)) d)) (11 + m) 1) (27 + m) 0) (35 + m) 0) 0 ((s 0) + (q_needs (sU (sU (sU (sU s (19 + m) (flawF (s (50 + m)) (q_risk s SL m (s 2)) d)) (11 + m) 1) (27 + m) 0) (35 + m) 0) m))) m) / 2) (by rw [show (sU (sU (sU (sU (sU s (19 + m) (flawF (s (50 + m)) (q_risk s SL m (s 2)) d)) (11 + m) 1) (27 + m) 0) (35 + m) 0) 0 ((s 0) + (q_needs (sU (sU (sU (sU s (19 + m) (flawF (s (50 + m)) (q_risk s SL m (s 2)) d)) (11 + m) 1) (27 + m) 0) (35 + m) 0) m))) 2 = s 2 from by rw [sU_ne (by omega), sU_ne (by omega), sU_ne (by omega), sU_ne (by omega), sU_ne (by omega)]]; omega) (by omega)) rfl mw_recv (fun _ h => h) ⟨by decide, by decide⟩ rfl rfl ⟨by decide, by decide⟩ (rest := []) rfl (Nat.le_of_ble_eq_true rfl) (fun u4 => []) (fun _ => rfl) (fun u4 hu4 => ?_)
  have e5 : p_tire (sU (sU (sU (sU (sU s (19 + m) (flawF (s (50 + m)) (q_risk s SL m (s 2)) d)) (11 + m) 1) (27 + m) 0) (35 + m) 0) 0 ((s 0) + (q_needs (sU (sU (sU (sU s (19 + m) (flawF (s (50 + m)) (q_risk s SL m (s 2)) d)) (11 + m) 1) (27 + m) 0) (35 + m) 0) m))) ((q_needs (sU (sU (sU (sU (sU s (19 + m) (flawF (s (50 + m)) (q_risk s SL m (s 2)) d)) (11 + m) 1) (27 + m) 0) (35 + m) 0) 0 ((s 0) + (q_needs (sU (sU (sU (sU s (19 + m) (flawF (s (50 + m)) (q_risk s SL m (s 2)) d)) (11 + m) 1) (27 + m) 0) (35 + m) 0) m))) m) / 2) = p_cut s (flawF (s (50 + m)) (q_risk s SL m (s 2)) d) m := by first | rfl | omega | (exact bi_congr (by omega)) | (simp []; done)
  exact v_return hG hR dX12_cutsOne_70 (u1.1, u1.2) rfl (by trivial) (fun _ hM => by rw [← e5]; exact hM)
set_option maxHeartbeats 4000000 in
set_option maxRecDepth 100000 in
theorem k_mendsOne (l : Launch) (D : Dx) (A : Nat → Prop) (a : Nat → Nat) (s im fr bY tr ln bl bo g lg : Int → Int) (m : Int) (h8 : 0 ≤ m ∧ m < 8) (hm : MK s m) (hP : PL s) (hT : 0 ≤ s 2 ∧ s 2 ≤ 99) : CT l D A yX12_mendsOne cX12_mendsOne 2 none { frames := 2, cells := 0, slots := 0, locals := 43 } [.ref (a 0), vI m] (MW D A a s im fr bY tr ln bl bo g lg) (fun _ : Unit => none) (fun _ => True) (fun _ => MW D A a (p_mend s m) im fr bY tr ln bl bo g lg) := by
  refine ct_of (lo0 := [(0, .ref (a 0)), (1, vI m)]) (by decide) (Nat.le_of_ble_eq_true rfl) rfl ?_
  intro G hG hR
  have hm8 := hm.2.2.2.2.2.2.2.1
  refine v_aload_n hG dX12_mendsOne_0 rfl 0 rfl ?_
  refine mg_s hG dX12_mendsOne_1 ?_
  refine v_iconst hG dX12_mendsOne_4 ?_
  refine v_dup2 hG dX12_mendsOne_5 rfl rfl ?_
  refine ma_s (z := s 0) hG dX12_mendsOne_6 (by omega) rfl ?_
  refine v_aload_n hG dX12_mendsOne_7 rfl 0 rfl ?_
  refine v_callV (k1' := 0) (k2' := 0) hG dX12_mendsOne_8 zc_X12_mendNow ⟨zl_X12_160, zi_X12_mendNow, zs_X12_mendNow⟩ (fun l => k_mendNow l D A a s im fr bY tr ln bl bo g lg (by assumption)) rfl mw_recv (fun _ h => h) ⟨by decide, by decide⟩ rfl rfl ⟨by decide, by decide⟩ (rest := [vI (s 0), vI 0, .ref (a 1)]) rfl (Nat.le_of_ble_eq_true rfl) (fun u1 => [vI (q_mend s), vI (s 0), vI 0, .ref (a 1)]) (fun _ => rfl) (fun u1 hu1 => ?_)
  have fu1 : 0 ≤ q_mend s ∧ q_mend s ≤ 99 := hu1
  refine v_iadd hG dX12_mendsOne_11 ?_
  refine ms_s hG dX12_mendsOne_12 (by omega) ?_
  refine v_aload_n hG dX12_mendsOne_13 rfl 0 rfl ?_
  refine mg_s hG dX12_mendsOne_14 ?_
  refine v_bipush hG dX12_mendsOne_17 (by decide) ?_
  refine v_iload_n hG dX12_mendsOne_19 rfl 1 rfl ?_
  refine v_iadd hG dX12_mendsOne_20 ?_
  refine v_iconst hG dX12_mendsOne_21 ?_
  refine ms_s hG dX12_mendsOne_22 (by omega) ?_
  refine v_aload_n hG dX12_mendsOne_23 rfl 0 rfl ?_
  refine mg_s hG dX12_mendsOne_24 ?_
  refine v_bipush hG dX12_mendsOne_27 (by decide) ?_
  refine v_iload_n hG dX12_mendsOne_29 rfl 1 rfl ?_
  refine v_iadd hG dX12_mendsOne_30 ?_
  refine v_dup2 hG dX12_mendsOne_31 rfl rfl ?_
  refine ma_s (z := s (35 + m)) hG dX12_mendsOne_32 (by omega) (by rw [sU_ne (by omega), sU_ne (by omega)]) ?_
  refine v_aload_n hG dX12_mendsOne_33 rfl 0 rfl ?_
  refine mg_s hG dX12_mendsOne_34 ?_
  refine v_bipush hG dX12_mendsOne_37 (by decide) ?_
  refine v_iload_n hG dX12_mendsOne_39 rfl 1 rfl ?_
  refine v_iadd hG dX12_mendsOne_40 ?_
  refine ma_s (z := s (35 + m)) hG dX12_mendsOne_41 (by omega) (by rw [sU_ne (by omega), sU_ne (by omega)]) ?_
  refine v_bipush hG dX12_mendsOne_42 (by decide) ?_
  have J3 : ∀ z2 : Int, z2 = (if 9 ≤ s (35 + m) then 0 else 1) → V G 0 0 (MW D A a (sU (sU s 0 ((s 0) + (q_mend s))) (19 + m) 0) im fr bY tr ln bl bo g lg) 52 [(0, .ref (a 0)), (1, vI m)] [vI z2, vI (s (35 + m)), vI (35 + m), .ref (a 1)] := by
    intro z2 hz2
    have bz2 : 0 ≤ z2 ∧ z2 ≤ 1 := by rw [hz2]; (repeat' split) <;> omega
    refine v_iadd hG dX12_mendsOne_52 ?_
    refine ms_s hG dX12_mendsOne_53 (by omega) ?_
    refine v_aload_n hG dX12_mendsOne_54 rfl 0 rfl ?_
    refine mg_s hG dX12_mendsOne_55 ?_
    refine v_bipush hG dX12_mendsOne_58 (by decide) ?_
    refine v_iload_n hG dX12_mendsOne_60 rfl 1 rfl ?_
    refine v_iadd hG dX12_mendsOne_61 ?_
    refine v_iconst hG dX12_mendsOne_62 ?_
    refine ms_s hG dX12_mendsOne_63 (by omega) ?_
    refine v_aload_n hG dX12_mendsOne_64 rfl 0 rfl ?_
    refine v_iconst hG dX12_mendsOne_65 ?_
    refine v_callV (k1' := 0) (k2' := 0) hG dX12_mendsOne_66 zc_X12_tires ⟨zl_X12_167, zi_X12_tires, zs_X12_tires⟩ (fun l => k_tires l D A a (sU (sU (sU (sU s 0 ((s 0) + (q_mend s))) (19 + m) 0) (35 + m) ((s (35 + m)) + z2)) (27 + m) 0) im fr bY tr ln bl bo g lg 5 (by rw [show (sU (sU (sU (sU s 0 ((s 0) + (q_mend s))) (19 + m) 0) (35 + m) ((s (35 + m)) + z2)) (27 + m) 0) 2 = s 2 from by rw [sU_ne (by omega), sU_ne (by omega), sU_ne (by omega), sU_ne (by omega)]]; omega) (by omega)) rfl mw_recv (fun _ h => h) ⟨by decide, by decide⟩ rfl rfl ⟨by decide, by decide⟩ (rest := []) rfl (Nat.le_of_ble_eq_true rfl) (fun u4 => []) (fun _ => rfl) (fun u4 hu4 => ?_)
    have e5 : p_tire (sU (sU (sU (sU s 0 ((s 0) + (q_mend s))) (19 + m) 0) (35 + m) ((s (35 + m)) + z2)) (27 + m) 0) 5 = p_mend s m := by subst hz2; rfl
    exact v_return hG hR dX12_mendsOne_69 () rfl (by trivial) (fun _ hM => by rw [← e5]; exact hM)
  refine v_icmp_ge (tgt := 51) hG dX12_mendsOne_44 (by decide) (by omega) (by omega) (fun c6 => ?_) (fun c6 => ?_)
  · skip
    refine v_iconst hG dX12_mendsOne_51 ?_
    exact J3 _ (by first | rfl | (simp only [if_pos c6]; done) | (simp [bi, c6]; done))
  · skip
    refine v_iconst hG dX12_mendsOne_47 ?_
    refine v_goto (tgt := 52) hG dX12_mendsOne_48 (by decide) ?_
    exact J3 _ (by first | rfl | (simp only [if_neg c6]; done) | (simp [bi, c6]; done))
set_option maxHeartbeats 4000000 in
set_option maxRecDepth 100000 in
theorem k_goesOver (l : Launch) (D : Dx) (A : Nat → Prop) (a : Nat → Nat) (s im fr bY tr ln bl bo g lg : Int → Int) (m : Int) (h8 : 0 ≤ m ∧ m < 8) (hm : MK s m) (hT : 0 ≤ s 2 ∧ s 2 ≤ 99) : CT l D A yX12_goesOver cX12_goesOver 2 none { frames := 2, cells := 0, slots := 0, locals := 43 } [.ref (a 0), vI m] (MW D A a s im fr bY tr ln bl bo g lg) (fun _ : Unit => none) (fun _ => True) (fun _ => MW D A a (p_over s m) im fr bY tr ln bl bo g lg) := by
  refine ct_of (lo0 := [(0, .ref (a 0)), (1, vI m)]) (by decide) (Nat.le_of_ble_eq_true rfl) rfl ?_
  intro G hG hR
  have hm4 := hm.2.2.2.1
  refine v_aload_n hG dX12_goesOver_0 rfl 0 rfl ?_
  refine mg_s hG dX12_goesOver_1 ?_
  refine v_iconst hG dX12_goesOver_4 ?_
  refine v_dup2 hG dX12_goesOver_5 rfl rfl ?_
  refine ma_s (z := s 0) hG dX12_goesOver_6 (by omega) rfl ?_
  refine v_aload_n hG dX12_goesOver_7 rfl 0 rfl ?_
  refine v_iload_n hG dX12_goesOver_8 rfl 1 rfl ?_
  refine v_callV (k1' := 0) (k2' := 0) hG dX12_goesOver_9 zc_X12_needsOf ⟨zl_X12_157, zi_X12_needsOf, zs_X12_needsOf⟩ (fun l => k_needsOf l D A a s im fr bY tr ln bl bo g lg m (by omega) (by first | assumption | (exact hM _ (by omega) (by omega)))) rfl mw_recv (fun _ h => h) ⟨by decide, by decide⟩ rfl rfl ⟨by decide, by decide⟩ (rest := [vI (s 0), vI 0, .ref (a 1)]) rfl (Nat.le_of_ble_eq_true rfl) (fun u1 => [vI (q_needs s m), vI (s 0), vI 0, .ref (a 1)]) (fun _ => rfl) (fun u1 hu1 => ?_)
  have fu1 : 0 ≤ q_needs s m ∧ q_needs s m ≤ 180 := hu1
  refine v_iconst hG dX12_goesOver_12 ?_
  refine v_idiv hG dX12_goesOver_13 (by omega) (by omega) ?_
  refine v_iadd hG dX12_goesOver_14 ?_
  refine ms_s hG dX12_goesOver_15 (by omega) ?_
  refine v_aload_n hG dX12_goesOver_16 rfl 0 rfl ?_
  refine mg_s hG dX12_goesOver_17 ?_
  refine v_bipush hG dX12_goesOver_20 (by decide) ?_
  refine v_iload_n hG dX12_goesOver_22 rfl 1 rfl ?_
  refine v_iadd hG dX12_goesOver_23 ?_
  refine v_iconst hG dX12_goesOver_24 ?_
  refine ms_s hG dX12_goesOver_25 (by omega) ?_
  refine v_aload_n hG dX12_goesOver_26 rfl 0 rfl ?_
  refine mg_s hG dX12_goesOver_27 ?_
  refine v_iconst hG dX12_goesOver_30 ?_
  refine v_iload_n hG dX12_goesOver_31 rfl 1 rfl ?_
  refine v_iadd hG dX12_goesOver_32 ?_
  refine v_dup2 hG dX12_goesOver_33 rfl rfl ?_
  refine ma_s (z := s (3 + m)) hG dX12_goesOver_34 (by omega) (by rw [sU_ne (by omega), sU_ne (by omega)]) ?_
  refine v_aload_n hG dX12_goesOver_35 rfl 0 rfl ?_
  refine mg_s hG dX12_goesOver_36 ?_
  refine v_iconst hG dX12_goesOver_39 ?_
  refine v_iload_n hG dX12_goesOver_40 rfl 1 rfl ?_
  refine v_iadd hG dX12_goesOver_41 ?_
  refine ma_s (z := s (3 + m)) hG dX12_goesOver_42 (by omega) (by rw [sU_ne (by omega), sU_ne (by omega)]) ?_
  refine v_bipush hG dX12_goesOver_43 (by decide) ?_
  have J3 : ∀ z2 : Int, z2 = (if 9 ≤ s (3 + m) then 0 else 1) → V G 0 0 (MW D A a (sU (sU s 0 ((s 0) + ((q_needs s m) / 2))) (27 + m) 0) im fr bY tr ln bl bo g lg) 53 [(0, .ref (a 0)), (1, vI m)] [vI z2, vI (s (3 + m)), vI (3 + m), .ref (a 1)] := by
    intro z2 hz2
    have bz2 : 0 ≤ z2 ∧ z2 ≤ 1 := by rw [hz2]; (repeat' split) <;> omega
    refine v_iadd hG dX12_goesOver_53 ?_
    refine ms_s hG dX12_goesOver_54 (by omega) ?_
    refine v_aload_n hG dX12_goesOver_55 rfl 0 rfl ?_
    refine v_iconst hG dX12_goesOver_56 ?_
    refine v_callV (k1' := 0) (k2' := 0) hG dX12_goesOver_57 zc_X12_tires ⟨zl_X12_167, zi_X12_tires, zs_X12_tires⟩ (fun l => k_tires l D A a (sU (sU (sU s 0 ((s 0) + ((q_needs s m) / 2))) (27 + m) 0) (3 + m) ((s (3 + m)) + z2)) im fr bY tr ln bl bo g lg 3 (by rw [show (sU (sU (sU s 0 ((s 0) + ((q_needs s m) / 2))) (27 + m) 0) (3 + m) ((s (3 + m)) + z2)) 2 = s 2 from by rw [sU_ne (by omega), sU_ne (by omega), sU_ne (by omega)]]; omega) (by omega)) rfl mw_recv (fun _ h => h) ⟨by decide, by decide⟩ rfl rfl ⟨by decide, by decide⟩ (rest := []) rfl (Nat.le_of_ble_eq_true rfl) (fun u4 => []) (fun _ => rfl) (fun u4 hu4 => ?_)
    have e5 : p_tire (sU (sU (sU s 0 ((s 0) + ((q_needs s m) / 2))) (27 + m) 0) (3 + m) ((s (3 + m)) + z2)) 3 = p_over s m := by subst hz2; rfl
    exact v_return hG hR dX12_goesOver_60 () rfl (by trivial) (fun _ hM => by rw [← e5]; exact hM)
  refine v_icmp_ge (tgt := 52) hG dX12_goesOver_45 (by decide) (by omega) (by omega) (fun c6 => ?_) (fun c6 => ?_)
  · skip
    refine v_iconst hG dX12_goesOver_52 ?_
    exact J3 _ (by first | rfl | (simp only [if_pos c6]; done) | (simp [bi, c6]; done))
  · skip
    refine v_iconst hG dX12_goesOver_48 ?_
    refine v_goto (tgt := 53) hG dX12_goesOver_49 (by decide) ?_
    exact J3 _ (by first | rfl | (simp only [if_neg c6]; done) | (simp [bi, c6]; done))
set_option maxHeartbeats 4000000 in
set_option maxRecDepth 100000 in
theorem k_rests (l : Launch) (D : Dx) (A : Nat → Prop) (a : Nat → Nat) (s im fr bY tr ln bl bo g lg : Int → Int) (n : Int) (hT : 0 ≤ s 2 ∧ s 2 ≤ 99) (hn : 0 ≤ n ∧ n ≤ 100) : CT l D A yX12_rests cX12_rests 2 none { frames := 2, cells := 0, slots := 0, locals := 43 } [.ref (a 0), vI n] (MW D A a s im fr bY tr ln bl bo g lg) (fun _ : Unit => none) (fun _ => True) (fun _ => MW D A a (p_rest s n) im fr bY tr ln bl bo g lg) := by
  refine ct_of (lo0 := [(0, .ref (a 0)), (1, vI n)]) (by decide) (Nat.le_of_ble_eq_true rfl) rfl ?_
  intro G hG hR
  refine v_aload_n hG dX12_rests_0 rfl 0 rfl ?_
  refine mg_s hG dX12_rests_1 ?_
  refine v_iconst hG dX12_rests_4 ?_
  refine v_dup2 hG dX12_rests_5 rfl rfl ?_
  refine ma_s (z := s 0) hG dX12_rests_6 (by omega) rfl ?_
  refine v_iload_n hG dX12_rests_7 rfl 1 rfl ?_
  refine v_iadd hG dX12_rests_8 ?_
  refine ms_s hG dX12_rests_9 (by omega) ?_
  refine v_aload_n hG dX12_rests_10 rfl 0 rfl ?_
  refine v_bipush hG dX12_rests_11 (by decide) ?_
  refine v_iload_n hG dX12_rests_13 rfl 1 rfl ?_
  refine v_imul hG dX12_rests_14 ?_
  refine v_callV (k1' := 0) (k2' := 0) hG dX12_rests_15 zc_X12_tires ⟨zl_X12_167, zi_X12_tires, zs_X12_tires⟩ (fun l => k_tires l D A a (sU s 0 ((s 0) + n)) im fr bY tr ln bl bo g lg ((-2) * n) (by rw [show (sU s 0 ((s 0) + n)) 2 = s 2 from by rw [sU_ne (by omega)]]; omega) (by omega)) rfl mw_recv (fun _ h => h) ⟨by decide, by decide⟩ rfl rfl ⟨by decide, by decide⟩ (rest := []) rfl (Nat.le_of_ble_eq_true rfl) (fun u1 => []) (fun _ => rfl) (fun u1 hu1 => ?_)
  have e2 : p_tire (sU s 0 ((s 0) + n)) ((-2) * n) = p_rest s n := by first | rfl | omega | (exact bi_congr (by omega)) | (simp []; done)
  exact v_return hG hR dX12_rests_18 () rfl (by trivial) (fun _ hM => by rw [← e2]; exact hM)
set_option maxHeartbeats 4000000 in
set_option maxRecDepth 100000 in
theorem k_prints (l : Launch) (D : Dx) (A : Nat → Prop) (a : Nat → Nat) (s im fr bY tr ln bl bo g lg : Int → Int) (n : Int) (hN : NM s) (hM : GM s) (hn : 0 ≤ n ∧ n ≤ 999) : CT l D A yX12_prints cX12_prints 3 none { frames := 1, cells := 0, slots := 0, locals := 21 } [.ref (a 0), vI n] (MW D A a s im fr bY tr ln bl bo g lg) (fun _ : Unit => none) (fun _ => True) (fun _ => MW D A a (p_prints s n) im fr bY tr ln bl bo g lg) := by
  refine ct_of (lo0 := [(0, .ref (a 0)), (1, vI n)]) (by decide) (Nat.le_of_ble_eq_true rfl) rfl ?_
  intro G hG hR
  have hN9 : 0 ≤ s 43 ∧ s 43 ≤ 8 := hN
  refine v_aload_n hG dX12_prints_0 rfl 0 rfl ?_
  refine mg_s hG dX12_prints_1 ?_
  refine v_iconst hG dX12_prints_4 ?_
  refine v_dup2 hG dX12_prints_5 rfl rfl ?_
  refine ma_s (z := s 1) hG dX12_prints_6 (by omega) rfl ?_
  refine v_iload_n hG dX12_prints_7 rfl 1 rfl ?_
  refine v_iadd hG dX12_prints_8 ?_
  refine ms_s hG dX12_prints_9 (by omega) ?_
  refine v_iconst hG dX12_prints_10 ?_
  refine v_istore_n (lo' := [(2, vI 0), (0, .ref (a 0)), (1, vI n)]) hG dX12_prints_11 rfl (by decide) rfl ?_
  refine v_lo [1, 2, 0] (lo' := [(0, .ref (a 0)), (1, vI n), (2, vI 0)]) rfl ?_
  have L3 : ∀ mz : Nat, ∀ (k : Nat), ((k : Int) ≤ s 43) → (s 43 - (k : Int)).toNat = mz → ∀ x1 : Int, x1 = ((k : Int)) → ∀ x2 : Int → Int, x2 = (prk (sU s 1 (s 1 + n)) n (k : Int)) → V G 0 0 (MW D A a x2 im fr bY tr ln bl bo g lg) 12 [(0, .ref (a 0)), (1, vI n), (2, vI x1)] [] := by
    intro dL3
    induction dL3 using Nat.strongRecOn with
    | ind dL3 ihL3 =>
      intro k h4 h5
      intro x1 hx1
      subst hx1
      intro x2 hx2
      subst hx2
      have q43 : prk (sU s 1 (s 1 + n)) n (k : Int) 43 = s 43 := (prk_43 (by omega)).trans (sU_ne (by omega))
      have q11 : prk (sU s 1 (s 1 + n)) n (k : Int) (11 + (k : Int)) = s (11 + (k : Int)) ∨ (8 : Int) ≤ k := by
        by_cases q : (k : Int) < 8
        · exact Or.inl ((prk_11 q).trans (sU_ne (by omega)))
        · exact Or.inr (by omega)
      refine v_iload_n hG dX12_prints_12 rfl 2 rfl ?_
      refine v_aload_n hG dX12_prints_13 rfl 0 rfl ?_
      refine mg_s hG dX12_prints_14 ?_
      refine v_bipush hG dX12_prints_17 (by decide) ?_
      refine ma_s (z := (prk (sU s 1 (s 1 + n)) n (k : Int)) 43) hG dX12_prints_19 (by omega) rfl ?_
      refine v_icmp_ge (tgt := 54) hG dX12_prints_20 (by decide) (by omega) (by omega) (fun c6 => ?_) (fun c6 => ?_)
      · skip
        have e7 : prk (sU s 1 (s 1 + n)) n (k : Int) = p_prints s n := by rw [show (k : Int) = s 43 by omega]; rfl
        exact v_return hG hR dX12_prints_54 () rfl (by trivial) (fun _ hM => by rw [← e7]; exact hM)
      · skip
        refine v_aload_n hG dX12_prints_23 rfl 0 rfl ?_
        refine mg_s hG dX12_prints_24 ?_
        refine v_bipush hG dX12_prints_27 (by decide) ?_
        refine v_iload_n hG dX12_prints_29 rfl 2 rfl ?_
        refine v_iadd hG dX12_prints_30 ?_
        refine v_dup2 hG dX12_prints_31 rfl rfl ?_
        refine ma_s (z := (prk (sU s 1 (s 1 + n)) n (k : Int)) (27 + (k : Int))) hG dX12_prints_32 (by omega) rfl ?_
        refine v_aload_n hG dX12_prints_33 rfl 0 rfl ?_
        refine v_iload_n hG dX12_prints_34 rfl 2 rfl ?_
        refine v_callV (k1' := 0) (k2' := 0) hG dX12_prints_35 zc_X12_isCut ⟨zl_X12_137, zi_X12_isCut, zs_X12_isCut⟩ (fun l => k_isCut l D A a (prk (sU s 1 (s 1 + n)) n (k : Int)) im fr bY tr ln bl bo g lg (k : Int) (by omega) (by have := (hM _ (show 0 ≤ (k : Int) by omega) (by omega)).2.2.2.2.1; omega)) rfl mw_recv (fun _ h => h) ⟨by decide, by decide⟩ rfl rfl ⟨by decide, by decide⟩ (rest := [vI ((prk (sU s 1 (s 1 + n)) n (k : Int)) (27 + (k : Int))), vI (27 + (k : Int)), .ref (a 1)]) rfl (Nat.le_of_ble_eq_true rfl) (fun u8 => [vI (bi ((prk (sU s 1 (s 1 + n)) n (k : Int)) (11 + (k : Int)) = 1)), vI ((prk (sU s 1 (s 1 + n)) n (k : Int)) (27 + (k : Int))), vI (27 + (k : Int)), .ref (a 1)]) (fun _ => rfl) (fun u8 hu8 => ?_)
        have J10 : ∀ z9 : Int, z9 = (if (prk (sU s 1 (s 1 + n)) n (k : Int)) (11 + (k : Int)) = 1 then n else 0) → V G 0 0 (MW D A a (prk (sU s 1 (s 1 + n)) n (k : Int)) im fr bY tr ln bl bo g lg) 46 [(0, .ref (a 0)), (1, vI n), (2, vI (k : Int))] [vI z9, vI ((prk (sU s 1 (s 1 + n)) n (k : Int)) (27 + (k : Int))), vI (27 + (k : Int)), .ref (a 1)] := by
          intro z9 hz9
          refine v_iadd hG dX12_prints_46 ?_
          refine ms_s hG dX12_prints_47 (by omega) ?_
          refine v_iinc (lo' := [(2, vI ((k : Int) + 1)), (0, .ref (a 0)), (1, vI n)]) hG dX12_prints_48 2 rfl (by decide) rfl ?_
          refine v_goto (tgt := 12) hG dX12_prints_51 (by decide) ?_
          refine v_lo [1, 2, 0] (lo' := [(0, .ref (a 0)), (1, vI n), (2, vI ((k : Int) + 1))]) rfl ?_
          exact ihL3 _ (by omega) (k + 1) (by omega) rfl _ (by first | omega | rfl | (simp [c6, hz9]; done)) _ (by subst hz9; exact prk_step (by omega))
        refine v_ifb_eq (p := (prk (sU s 1 (s 1 + n)) n (k : Int)) (11 + (k : Int)) = 1) (tgt := 45) hG dX12_prints_38 (by decide) (fun c11 => ?_) (fun c11 => ?_)
        · skip
          refine v_iconst hG dX12_prints_45 ?_
          exact J10 _ (by first | rfl | (simp only [if_neg c6, if_neg c11]; done) | (simp [bi, c6, c11]; done))
        · skip
          refine v_iload_n hG dX12_prints_41 rfl 1 rfl ?_
          refine v_goto (tgt := 46) hG dX12_prints_42 (by decide) ?_
          exact J10 _ (by first | rfl | (simp only [if_neg c6, if_pos c11]; done) | (simp [bi, c6, c11]; done))
  exact L3 _ 0 (by omega) rfl _ (by first | omega | rfl | (simp []; done)) _ (by exact prk_0.symm)
set_option maxHeartbeats 4000000 in
set_option maxRecDepth 100000 in
theorem k_printing (l : Launch) (D : Dx) (A : Nat → Prop) (a : Nat → Nat) (s im fr bY tr ln bl bo g lg : Int → Int) (hN : NM s) (hM : GM s) (hP : PL s) : CT l D A yX12_printing cX12_printing 3 (some .int) { frames := 5, cells := 0, slots := 0, locals := 113 } [.ref (a 0)] (MW D A a s im fr bY tr ln bl bo g lg) (fun _ : Unit => some (vI (cntB (prt s 0) (s 43).toNat))) (fun _ => True) (fun _ => MW D A a s im fr bY tr ln bl bo g lg) := by
  refine ct_of (lo0 := [(0, .ref (a 0))]) (by decide) (Nat.le_of_ble_eq_true rfl) rfl ?_
  intro G hG hR
  have hN9 : 0 ≤ s 43 ∧ s 43 ≤ 8 := hN
  refine v_iconst hG dX12_printing_0 ?_
  refine v_istore_n (lo' := [(1, vI 0), (0, .ref (a 0))]) hG dX12_printing_1 rfl (by decide) rfl ?_
  refine v_iconst hG dX12_printing_2 ?_
  refine v_istore_n (lo' := [(2, vI 0), (1, vI 0), (0, .ref (a 0))]) hG dX12_printing_3 rfl (by decide) rfl ?_
  refine v_lo [2, 1, 0] (lo' := [(0, .ref (a 0)), (1, vI 0), (2, vI 0)]) rfl ?_
  have L3 : ∀ mz : Nat, ∀ (k : Nat), ((k : Int) ≤ s 43) → (s 43 - (k : Int)).toNat = mz → ∀ x1 : Int, x1 = ((k : Int)) → ∀ x2 : Int, x2 = (cntB (prt s 0) k) → V G 0 0 (MW D A a s im fr bY tr ln bl bo g lg) 4 [(0, .ref (a 0)), (1, vI x2), (2, vI x1)] [] := by
    intro dL3
    induction dL3 using Nat.strongRecOn with
    | ind dL3 ihL3 =>
      intro k h4 h5
      intro x1 hx1
      subst hx1
      intro x2 hx2
      subst hx2
      refine v_iload_n hG dX12_printing_4 rfl 2 rfl ?_
      refine v_aload_n hG dX12_printing_5 rfl 0 rfl ?_
      refine mg_s hG dX12_printing_6 ?_
      refine v_bipush hG dX12_printing_9 (by decide) ?_
      refine ma_s (z := s 43) hG dX12_printing_11 (by omega) rfl ?_
      refine v_icmp_ge (tgt := 38) hG dX12_printing_12 (by decide) (by omega) (by omega) (fun c6 => ?_) (fun c6 => ?_)
      · skip
        refine v_iload_n hG dX12_printing_38 rfl 1 rfl ?_
        have e7 : @Eq Int (cntB (prt s 0) (s 43).toNat) (cntB (prt s 0) k) := by rw [show k = (s 43).toNat by omega]
        exact v_ireturn hG hR dX12_printing_39 () (congrArg (fun z => some (vI z)) e7) (by trivial) (fun _ hM => hM)
      · skip
        refine v_iload_n hG dX12_printing_15 rfl 1 rfl ?_
        refine v_aload_n hG dX12_printing_16 rfl 0 rfl ?_
        refine v_iload_n hG dX12_printing_17 rfl 2 rfl ?_
        refine v_iconst hG dX12_printing_18 ?_
        refine v_callV (k1' := 0) (k2' := 0) hG dX12_printing_19 zc_X12_doesPrint ⟨zl_X12_187, zi_X12_doesPrint, zs_X12_doesPrint⟩ (fun l => k_doesPrint l D A a s im fr bY tr ln bl bo g lg (k : Int) 0 (by omega) (by first | assumption | (exact hM _ (by omega) (by omega))) (by assumption) (by omega)) rfl mw_recv (fun _ h => h) ⟨by decide, by decide⟩ rfl rfl ⟨by decide, by decide⟩ (rest := [vI (cntB (prt s 0) k)]) rfl (Nat.le_of_ble_eq_true rfl) (fun u8 => [vI (bi (0 < q_dk s (k : Int) 0)), vI (cntB (prt s 0) k)]) (fun _ => rfl) (fun u8 hu8 => ?_)
        refine v_ifb_eq (p := 0 < q_dk s (k : Int) 0) (tgt := 29) hG dX12_printing_22 (by decide) (fun c9 => ?_) (fun c9 => ?_)
        · skip
          refine v_iconst hG dX12_printing_29 ?_
          refine v_iadd hG dX12_printing_30 ?_
          refine v_istore_n (lo' := [(1, vI ((cntB (prt s 0) k) + 0)), (0, .ref (a 0)), (2, vI (k : Int))]) hG dX12_printing_31 rfl (by decide) rfl ?_
          refine v_iinc (lo' := [(2, vI ((k : Int) + 1)), (1, vI ((cntB (prt s 0) k) + 0)), (0, .ref (a 0))]) hG dX12_printing_32 2 rfl (by decide) rfl ?_
          refine v_goto (tgt := 4) hG dX12_printing_35 (by decide) ?_
          refine v_lo [2, 1, 0] (lo' := [(0, .ref (a 0)), (1, vI ((cntB (prt s 0) k) + 0)), (2, vI ((k : Int) + 1))]) rfl ?_
          exact ihL3 _ (by omega) (k + 1) (by omega) rfl _ (by first | omega | rfl | (simp [c6, c9]; done)) _ (by simp [cntB, prt, c6, c9])
        · skip
          refine v_iconst hG dX12_printing_25 ?_
          refine v_goto (tgt := 30) hG dX12_printing_26 (by decide) ?_
          refine v_iadd hG dX12_printing_30 ?_
          refine v_istore_n (lo' := [(1, vI ((cntB (prt s 0) k) + 1)), (0, .ref (a 0)), (2, vI (k : Int))]) hG dX12_printing_31 rfl (by decide) rfl ?_
          refine v_iinc (lo' := [(2, vI ((k : Int) + 1)), (1, vI ((cntB (prt s 0) k) + 1)), (0, .ref (a 0))]) hG dX12_printing_32 2 rfl (by decide) rfl ?_
          refine v_goto (tgt := 4) hG dX12_printing_35 (by decide) ?_
          refine v_lo [2, 1, 0] (lo' := [(0, .ref (a 0)), (1, vI ((cntB (prt s 0) k) + 1)), (2, vI ((k : Int) + 1))]) rfl ?_
          exact ihL3 _ (by omega) (k + 1) (by omega) rfl _ (by first | omega | rfl | (simp [c6, c9]; done)) _ (by simp [cntB, prt, c6, c9])
  exact L3 _ 0 (by omega) rfl _ (by first | omega | rfl | (simp []; done)) _ (by first | omega | rfl | (simp []; done))
set_option maxHeartbeats 4000000 in
set_option maxRecDepth 100000 in
theorem k_cut (l : Launch) (D : Dx) (A : Nat → Prop) (a : Nat → Nat) (s im fr bY tr ln bl bo g lg : Int → Int) (m : Int) (d : Int) (SL : List Int) (hr : -2147483648 ≤ m ∧ m < 2147483648) (hr2 : -2147483648 ≤ d ∧ d < 2147483648) (hN : NM s) (hM : GM s) (hE : HE s SL) (hT : 0 ≤ s 2 ∧ s 2 ≤ 99) (h0 : 0 ≤ s 0 ∧ s 0 ≤ 1000000) : CT l D A yX12_cut cX12_cut 3 (some .int) { frames := 6, cells := 0, slots := 0, locals := 141 } [.ref (a 0), vI m, vI d] (MW D A a s im fr bY tr ln bl bo g lg) (fun u : (Int → Int) × (Int → Int) => some (vI (a_cut s SL m d))) (fun _ => True) (fun u => MW D A a (f_cut s SL m d) im fr u.1 u.2 ln bl bo g lg) := by
  refine ct_of (lo0 := [(0, .ref (a 0)), (1, vI m), (2, vI d)]) (by decide) (Nat.le_of_ble_eq_true rfl) rfl ?_
  intro G hG hR
  have hN9 : 0 ≤ s 43 ∧ s 43 ≤ 8 := hN
  refine v_aload_n hG dX12_cut_0 rfl 0 rfl ?_
  refine v_iload_n hG dX12_cut_1 rfl 1 rfl ?_
  refine v_callV (k1' := 0) (k2' := 0) hG dX12_cut_2 zc_X12_isMark ⟨zl_X12_150, zi_X12_isMark, zs_X12_isMark⟩ (fun l => k_isMark l D A a s im fr bY tr ln bl bo g lg m (by omega) (by assumption)) rfl mw_recv (fun _ h => h) ⟨by decide, by decide⟩ rfl rfl ⟨by decide, by decide⟩ (rest := []) rfl (Nat.le_of_ble_eq_true rfl) (fun u1 => [vI (bi (0 ≤ m ∧ m ≤ s 43 - 1))]) (fun _ => rfl) (fun u1 hu1 => ?_)
  refine v_ifb_ne (p := 0 ≤ m ∧ m ≤ s 43 - 1) (tgt := 10) hG dX12_cut_5 (by decide) (fun c2 => ?_) (fun c2 => ?_)
  · skip
    refine v_iload_n hG dX12_cut_10 rfl 2 rfl ?_
    refine v_iconst hG dX12_cut_11 ?_
    refine v_bipush hG dX12_cut_12 (by decide) ?_
    refine v_callS (k1' := 0) (k2' := 0) hG dX12_cut_14 zc_X12_in ⟨zl_X12_41, zt_X12_in⟩ (fun l => k_in l D A (MW D A a s im fr bY tr ln bl bo g lg) d 0 99 (by omega) (by omega) (by omega)) rfl (fun _ h => h) ⟨by decide, by decide⟩ rfl rfl ⟨by decide, by decide⟩ (rest := []) rfl (Nat.le_of_ble_eq_true rfl) (fun u3 => [vI (bi (0 ≤ d ∧ d ≤ 99))]) (fun _ => rfl) (fun u3 hu3 => ?_)
    refine v_ifb_ne (p := 0 ≤ d ∧ d ≤ 99) (tgt := 23) hG dX12_cut_17 (by decide) (fun c4 => ?_) (fun c4 => ?_)
    · skip
      refine v_aload_n hG dX12_cut_23 rfl 0 rfl ?_
      refine v_iload_n hG dX12_cut_24 rfl 1 rfl ?_
      refine v_callV (k1' := 0) (k2' := 0) hG dX12_cut_25 zc_X12_isCut ⟨zl_X12_137, zi_X12_isCut, zs_X12_isCut⟩ (fun l => k_isCut l D A a s im fr bY tr ln bl bo g lg m (by omega) (by first | exact hm.2.2.2.2.1 | exact (hM _ (by omega) (by omega)).2.2.2.2.1 | omega)) rfl mw_recv (fun _ h => h) ⟨by decide, by decide⟩ rfl rfl ⟨by decide, by decide⟩ (rest := []) rfl (Nat.le_of_ble_eq_true rfl) (fun u5 => [vI (bi (s (11 + m) = 1))]) (fun _ => rfl) (fun u5 hu5 => ?_)
      refine v_ifb_ne (p := s (11 + m) = 1) (tgt := 38) hG dX12_cut_28 (by decide) (fun c6 => ?_) (fun c6 => ?_)
      · skip
        refine v_bipush hG dX12_cut_38 (by decide) ?_
        have e7 : s = f_cut s SL m d := by first | rfl | (simp only [a_cut, f_cut, if_pos c2, if_pos c4, if_pos c6]; done) | (simp only [a_cut, f_cut, if_pos c2, if_pos c4, if_pos c6]; done) | (simp only [a_cut, f_cut, if_pos c2, if_pos c4, if_pos c6]; rfl) | (simp only [a_cut, f_cut, if_pos c2, if_pos c4, if_pos c6]; omega)
        have e8 : @Eq Int (a_cut s SL m d) (-3) := by first | rfl | (simp only [a_cut, f_cut, if_pos c2, if_pos c4, if_pos c6]; done) | (simp only [a_cut, f_cut, if_pos c2, if_pos c4, if_pos c6]; done) | (simp only [a_cut, f_cut, if_pos c2, if_pos c4, if_pos c6]; rfl) | (simp only [a_cut, f_cut, if_pos c2, if_pos c4, if_pos c6]; omega)
        exact v_ireturn hG hR dX12_cut_40 (bY, tr) (congrArg (fun z => some (vI z)) e8) (by trivial) (fun _ hM => by rw [← e7]; exact hM)
      · skip
        refine v_aload_n hG dX12_cut_31 rfl 0 rfl ?_
        refine v_callV (k1' := 0) (k2' := 0) hG dX12_cut_32 zc_X12_isLate ⟨zl_X12_170, zi_X12_isLate, zs_X12_isLate⟩ (fun l => k_isLate l D A a s im fr bY tr ln bl bo g lg (by omega)) rfl mw_recv (fun _ h => h) ⟨by decide, by decide⟩ rfl rfl ⟨by decide, by decide⟩ (rest := []) rfl (Nat.le_of_ble_eq_true rfl) (fun u9 => [vI (bi (99000 < s 0))]) (fun _ => rfl) (fun u9 hu9 => ?_)
        refine v_ifb_eq (p := 99000 < s 0) (tgt := 41) hG dX12_cut_35 (by decide) (fun c10 => ?_) (fun c10 => ?_)
        · skip
          refine v_aload_n hG dX12_cut_41 rfl 0 rfl ?_
          refine v_iload_n hG dX12_cut_42 rfl 1 rfl ?_
          refine v_iload_n hG dX12_cut_43 rfl 2 rfl ?_
          refine v_callV (k1' := 0) (k2' := 0) hG dX12_cut_44 zc_X12_cutsOne ⟨zl_X12_174, zi_X12_cutsOne, zs_X12_cutsOne⟩ (fun l => k_cutsOne l D A a s im fr bY tr ln bl bo g lg m d SL (by omega) (by first | assumption | (exact hM _ (by omega) (by omega))) (by assumption) (by omega) (by omega)) rfl mw_recv (fun _ h => h) ⟨by decide, by decide⟩ rfl rfl ⟨by decide, by decide⟩ (rest := []) rfl (Nat.le_of_ble_eq_true rfl) (fun u11 => []) (fun _ => rfl) (fun u11 hu11 => ?_)
          refine v_aload_n hG dX12_cut_47 rfl 0 rfl ?_
          refine mg_s hG dX12_cut_48 ?_
          refine v_bipush hG dX12_cut_51 (by decide) ?_
          refine v_iload_n hG dX12_cut_53 rfl 1 rfl ?_
          refine v_iadd hG dX12_cut_54 ?_
          refine ma_s (z := (p_cut s (flawF (s (50 + m)) (q_risk s SL m (s 2)) d) m) (19 + m)) hG dX12_cut_55 (by omega) rfl ?_
          have e12 : p_cut s (flawF (s (50 + m)) (q_risk s SL m (s 2)) d) m = f_cut s SL m d := by first | rfl | (simp only [a_cut, f_cut, if_pos c2, if_pos c4, if_neg c6, if_neg c10]; done) | (simp only [a_cut, f_cut, if_pos c2, if_pos c4, if_neg c6, if_neg c10]; done) | (simp only [a_cut, f_cut, if_pos c2, if_pos c4, if_neg c6, if_neg c10]; rfl) | (simp only [a_cut, f_cut, if_pos c2, if_pos c4, if_neg c6, if_neg c10]; omega)
          have e13 : @Eq Int (a_cut s SL m d) ((p_cut s (flawF (s (50 + m)) (q_risk s SL m (s 2)) d) m) (19 + m)) := by first | rfl | (simp only [a_cut, f_cut, if_pos c2, if_pos c4, if_neg c6, if_neg c10]; done) | (simp only [a_cut, f_cut, if_pos c2, if_pos c4, if_neg c6, if_neg c10]; done) | (simp only [a_cut, f_cut, if_pos c2, if_pos c4, if_neg c6, if_neg c10]; rfl) | (simp only [a_cut, f_cut, if_pos c2, if_pos c4, if_neg c6, if_neg c10]; omega)
          exact v_ireturn hG hR dX12_cut_56 (u11.1, u11.2) (congrArg (fun z => some (vI z)) e13) (by trivial) (fun _ hM => by rw [← e12]; exact hM)
        · skip
          refine v_bipush hG dX12_cut_38 (by decide) ?_
          have e14 : s = f_cut s SL m d := by first | rfl | (simp only [a_cut, f_cut, if_pos c2, if_pos c4, if_neg c6, if_pos c10]; done) | (simp only [a_cut, f_cut, if_pos c2, if_pos c4, if_neg c6, if_pos c10]; done) | (simp only [a_cut, f_cut, if_pos c2, if_pos c4, if_neg c6, if_pos c10]; rfl) | (simp only [a_cut, f_cut, if_pos c2, if_pos c4, if_neg c6, if_pos c10]; omega)
          have e15 : @Eq Int (a_cut s SL m d) (-3) := by first | rfl | (simp only [a_cut, f_cut, if_pos c2, if_pos c4, if_neg c6, if_pos c10]; done) | (simp only [a_cut, f_cut, if_pos c2, if_pos c4, if_neg c6, if_pos c10]; done) | (simp only [a_cut, f_cut, if_pos c2, if_pos c4, if_neg c6, if_pos c10]; rfl) | (simp only [a_cut, f_cut, if_pos c2, if_pos c4, if_neg c6, if_pos c10]; omega)
          exact v_ireturn hG hR dX12_cut_40 (bY, tr) (congrArg (fun z => some (vI z)) e15) (by trivial) (fun _ hM => by rw [← e14]; exact hM)
    · skip
      refine v_bipush hG dX12_cut_20 (by decide) ?_
      have e16 : s = f_cut s SL m d := by first | rfl | (simp only [a_cut, f_cut, if_pos c2, if_neg c4]; done) | (simp only [a_cut, f_cut, if_pos c2, if_neg c4]; done) | (simp only [a_cut, f_cut, if_pos c2, if_neg c4]; rfl) | (simp only [a_cut, f_cut, if_pos c2, if_neg c4]; omega)
      have e17 : @Eq Int (a_cut s SL m d) (-2) := by first | rfl | (simp only [a_cut, f_cut, if_pos c2, if_neg c4]; done) | (simp only [a_cut, f_cut, if_pos c2, if_neg c4]; done) | (simp only [a_cut, f_cut, if_pos c2, if_neg c4]; rfl) | (simp only [a_cut, f_cut, if_pos c2, if_neg c4]; omega)
      exact v_ireturn hG hR dX12_cut_22 (bY, tr) (congrArg (fun z => some (vI z)) e17) (by trivial) (fun _ hM => by rw [← e16]; exact hM)
  · skip
    refine v_iconst hG dX12_cut_8 ?_
    have e18 : s = f_cut s SL m d := by first | rfl | (simp only [a_cut, f_cut, if_neg c2]; done) | (simp only [a_cut, f_cut, if_neg c2]; done) | (simp only [a_cut, f_cut, if_neg c2]; rfl) | (simp only [a_cut, f_cut, if_neg c2]; omega)
    have e19 : @Eq Int (a_cut s SL m d) (-1) := by first | rfl | (simp only [a_cut, f_cut, if_neg c2]; done) | (simp only [a_cut, f_cut, if_neg c2]; done) | (simp only [a_cut, f_cut, if_neg c2]; rfl) | (simp only [a_cut, f_cut, if_neg c2]; omega)
    exact v_ireturn hG hR dX12_cut_9 (bY, tr) (congrArg (fun z => some (vI z)) e19) (by trivial) (fun _ hM => by rw [← e18]; exact hM)
set_option maxHeartbeats 4000000 in
set_option maxRecDepth 100000 in
theorem k_rest (l : Launch) (D : Dx) (A : Nat → Prop) (a : Nat → Nat) (s im fr bY tr ln bl bo g lg : Int → Int) (n : Int) (hr : -2147483648 ≤ n ∧ n < 2147483648) (hT : 0 ≤ s 2 ∧ s 2 ≤ 99) (h0 : 0 ≤ s 0 ∧ s 0 ≤ 1000000) : CT l D A yX12_rest cX12_rest 2 (some .int) { frames := 3, cells := 0, slots := 0, locals := 64 } [.ref (a 0), vI n] (MW D A a s im fr bY tr ln bl bo g lg) (fun _ : Unit => some (vI (a_rest s n))) (fun _ => True) (fun _ => MW D A a (f_rest s n) im fr bY tr ln bl bo g lg) := by
  refine ct_of (lo0 := [(0, .ref (a 0)), (1, vI n)]) (by decide) (Nat.le_of_ble_eq_true rfl) rfl ?_
  intro G hG hR
  refine v_iload_n hG dX12_rest_0 rfl 1 rfl ?_
  refine v_iconst hG dX12_rest_1 ?_
  refine v_bipush hG dX12_rest_2 (by decide) ?_
  refine v_callS (k1' := 0) (k2' := 0) hG dX12_rest_4 zc_X12_in ⟨zl_X12_41, zt_X12_in⟩ (fun l => k_in l D A (MW D A a s im fr bY tr ln bl bo g lg) n 0 60 (by omega) (by omega) (by omega)) rfl (fun _ h => h) ⟨by decide, by decide⟩ rfl rfl ⟨by decide, by decide⟩ (rest := []) rfl (Nat.le_of_ble_eq_true rfl) (fun u1 => [vI (bi (0 ≤ n ∧ n ≤ 60))]) (fun _ => rfl) (fun u1 hu1 => ?_)
  refine v_ifb_ne (p := 0 ≤ n ∧ n ≤ 60) (tgt := 13) hG dX12_rest_7 (by decide) (fun c2 => ?_) (fun c2 => ?_)
  · skip
    refine v_aload_n hG dX12_rest_13 rfl 0 rfl ?_
    refine v_callV (k1' := 0) (k2' := 0) hG dX12_rest_14 zc_X12_isLate ⟨zl_X12_170, zi_X12_isLate, zs_X12_isLate⟩ (fun l => k_isLate l D A a s im fr bY tr ln bl bo g lg (by omega)) rfl mw_recv (fun _ h => h) ⟨by decide, by decide⟩ rfl rfl ⟨by decide, by decide⟩ (rest := []) rfl (Nat.le_of_ble_eq_true rfl) (fun u3 => [vI (bi (99000 < s 0))]) (fun _ => rfl) (fun u3 hu3 => ?_)
    refine v_ifb_eq (p := 99000 < s 0) (tgt := 23) hG dX12_rest_17 (by decide) (fun c4 => ?_) (fun c4 => ?_)
    · skip
      refine v_aload_n hG dX12_rest_23 rfl 0 rfl ?_
      refine v_iload_n hG dX12_rest_24 rfl 1 rfl ?_
      refine v_callV (k1' := 0) (k2' := 0) hG dX12_rest_25 zc_X12_rests ⟨zl_X12_178, zi_X12_rests, zs_X12_rests⟩ (fun l => k_rests l D A a s im fr bY tr ln bl bo g lg n (by omega) (by omega)) rfl mw_recv (fun _ h => h) ⟨by decide, by decide⟩ rfl rfl ⟨by decide, by decide⟩ (rest := []) rfl (Nat.le_of_ble_eq_true rfl) (fun u5 => []) (fun _ => rfl) (fun u5 hu5 => ?_)
      refine v_aload_n hG dX12_rest_28 rfl 0 rfl ?_
      refine mg_s hG dX12_rest_29 ?_
      refine v_iconst hG dX12_rest_32 ?_
      refine ma_s (z := (p_rest s n) 2) hG dX12_rest_33 (by omega) rfl ?_
      have e6 : p_rest s n = f_rest s n := by first | rfl | (simp only [a_rest, f_rest, if_pos c2, if_neg c4]; done) | (simp only [a_rest, f_rest, if_pos c2, if_neg c4]; done) | (simp only [a_rest, f_rest, if_pos c2, if_neg c4]; rfl) | (simp only [a_rest, f_rest, if_pos c2, if_neg c4]; omega)
      have e7 : @Eq Int (a_rest s n) ((p_rest s n) 2) := by first | rfl | (simp only [a_rest, f_rest, if_pos c2, if_neg c4]; done) | (simp only [a_rest, f_rest, if_pos c2, if_neg c4]; done) | (simp only [a_rest, f_rest, if_pos c2, if_neg c4]; rfl) | (simp only [a_rest, f_rest, if_pos c2, if_neg c4]; omega)
      exact v_ireturn hG hR dX12_rest_34 () (congrArg (fun z => some (vI z)) e7) (by trivial) (fun _ hM => by rw [← e6]; exact hM)
    · skip
      refine v_bipush hG dX12_rest_20 (by decide) ?_
      have e8 : s = f_rest s n := by first | rfl | (simp only [a_rest, f_rest, if_pos c2, if_pos c4]; done) | (simp only [a_rest, f_rest, if_pos c2, if_pos c4]; done) | (simp only [a_rest, f_rest, if_pos c2, if_pos c4]; rfl) | (simp only [a_rest, f_rest, if_pos c2, if_pos c4]; omega)
      have e9 : @Eq Int (a_rest s n) (-3) := by first | rfl | (simp only [a_rest, f_rest, if_pos c2, if_pos c4]; done) | (simp only [a_rest, f_rest, if_pos c2, if_pos c4]; done) | (simp only [a_rest, f_rest, if_pos c2, if_pos c4]; rfl) | (simp only [a_rest, f_rest, if_pos c2, if_pos c4]; omega)
      exact v_ireturn hG hR dX12_rest_22 () (congrArg (fun z => some (vI z)) e9) (by trivial) (fun _ hM => by rw [← e8]; exact hM)
  · skip
    refine v_bipush hG dX12_rest_10 (by decide) ?_
    have e10 : s = f_rest s n := by first | rfl | (simp only [a_rest, f_rest, if_neg c2]; done) | (simp only [a_rest, f_rest, if_neg c2]; done) | (simp only [a_rest, f_rest, if_neg c2]; rfl) | (simp only [a_rest, f_rest, if_neg c2]; omega)
    have e11 : @Eq Int (a_rest s n) (-2) := by first | rfl | (simp only [a_rest, f_rest, if_neg c2]; done) | (simp only [a_rest, f_rest, if_neg c2]; done) | (simp only [a_rest, f_rest, if_neg c2]; rfl) | (simp only [a_rest, f_rest, if_neg c2]; omega)
    exact v_ireturn hG hR dX12_rest_12 () (congrArg (fun z => some (vI z)) e11) (by trivial) (fun _ hM => by rw [← e10]; exact hM)
set_option maxHeartbeats 4000000 in
set_option maxRecDepth 100000 in
theorem k_mend (l : Launch) (D : Dx) (A : Nat → Prop) (a : Nat → Nat) (s im fr bY tr ln bl bo g lg : Int → Int) (m : Int) (hr : -2147483648 ≤ m ∧ m < 2147483648) (hN : NM s) (hM : GM s) (hP : PL s) (hT : 0 ≤ s 2 ∧ s 2 ≤ 99) (h0 : 0 ≤ s 0 ∧ s 0 ≤ 1000000) : CT l D A yX12_mend cX12_mend 2 (some .int) { frames := 4, cells := 0, slots := 0, locals := 91 } [.ref (a 0), vI m] (MW D A a s im fr bY tr ln bl bo g lg) (fun _ : Unit => some (vI (a_mend s m))) (fun _ => True) (fun _ => MW D A a (f_mend s m) im fr bY tr ln bl bo g lg) := by
  refine ct_of (lo0 := [(0, .ref (a 0)), (1, vI m)]) (by decide) (Nat.le_of_ble_eq_true rfl) rfl ?_
  intro G hG hR
  have hN9 : 0 ≤ s 43 ∧ s 43 ≤ 8 := hN
  refine v_aload_n hG dX12_mend_0 rfl 0 rfl ?_
  refine v_iload_n hG dX12_mend_1 rfl 1 rfl ?_
  refine v_callV (k1' := 0) (k2' := 0) hG dX12_mend_2 zc_X12_isMark ⟨zl_X12_150, zi_X12_isMark, zs_X12_isMark⟩ (fun l => k_isMark l D A a s im fr bY tr ln bl bo g lg m (by omega) (by assumption)) rfl mw_recv (fun _ h => h) ⟨by decide, by decide⟩ rfl rfl ⟨by decide, by decide⟩ (rest := []) rfl (Nat.le_of_ble_eq_true rfl) (fun u1 => [vI (bi (0 ≤ m ∧ m ≤ s 43 - 1))]) (fun _ => rfl) (fun u1 hu1 => ?_)
  refine v_ifb_ne (p := 0 ≤ m ∧ m ≤ s 43 - 1) (tgt := 10) hG dX12_mend_5 (by decide) (fun c2 => ?_) (fun c2 => ?_)
  · skip
    refine v_aload_n hG dX12_mend_10 rfl 0 rfl ?_
    refine v_iload_n hG dX12_mend_11 rfl 1 rfl ?_
    refine v_callV (k1' := 0) (k2' := 0) hG dX12_mend_12 zc_X12_isCut ⟨zl_X12_137, zi_X12_isCut, zs_X12_isCut⟩ (fun l => k_isCut l D A a s im fr bY tr ln bl bo g lg m (by omega) (by first | exact hm.2.2.2.2.1 | exact (hM _ (by omega) (by omega)).2.2.2.2.1 | omega)) rfl mw_recv (fun _ h => h) ⟨by decide, by decide⟩ rfl rfl ⟨by decide, by decide⟩ (rest := []) rfl (Nat.le_of_ble_eq_true rfl) (fun u3 => [vI (bi (s (11 + m) = 1))]) (fun _ => rfl) (fun u3 hu3 => ?_)
    refine v_ifb_eq (p := s (11 + m) = 1) (tgt := 39) hG dX12_mend_15 (by decide) (fun c4 => ?_) (fun c4 => ?_)
    · skip
      refine v_bipush hG dX12_mend_39 (by decide) ?_
      have e5 : s = f_mend s m := by first | rfl | (simp only [a_mend, f_mend, if_pos c2, if_neg c4]; done) | (simp only [a_mend, f_mend, if_pos c2, if_neg c4]; done) | (simp only [a_mend, f_mend, if_pos c2, if_neg c4]; rfl) | (simp only [a_mend, f_mend, if_pos c2, if_neg c4]; omega)
      have e6 : @Eq Int (a_mend s m) (-3) := by first | rfl | (simp only [a_mend, f_mend, if_pos c2, if_neg c4]; done) | (simp only [a_mend, f_mend, if_pos c2, if_neg c4]; done) | (simp only [a_mend, f_mend, if_pos c2, if_neg c4]; rfl) | (simp only [a_mend, f_mend, if_pos c2, if_neg c4]; omega)
      exact v_ireturn hG hR dX12_mend_41 () (congrArg (fun z => some (vI z)) e6) (by trivial) (fun _ hM => by rw [← e5]; exact hM)
    · skip
      refine v_aload_n hG dX12_mend_18 rfl 0 rfl ?_
      have hm8 := (hM m (by omega) (by omega)).2.2.2.2.2.2.2.1
      refine mg_s hG dX12_mend_19 ?_
      refine v_bipush hG dX12_mend_22 (by decide) ?_
      refine v_iload_n hG dX12_mend_24 rfl 1 rfl ?_
      refine v_iadd hG dX12_mend_25 ?_
      refine ma_s (z := s (35 + m)) hG dX12_mend_26 (by omega) rfl ?_
      refine v_bipush hG dX12_mend_27 (by decide) ?_
      refine v_icmp_eq (tgt := 39) hG dX12_mend_29 (by decide) (by omega) (by omega) (fun c7 => ?_) (fun c7 => ?_)
      · skip
        refine v_bipush hG dX12_mend_39 (by decide) ?_
        have e8 : s = f_mend s m := by first | rfl | (simp only [a_mend, f_mend, if_pos c2, if_pos c4, if_pos c7]; done) | (simp only [a_mend, f_mend, if_pos c2, if_pos c4, if_pos c7]; done) | (simp only [a_mend, f_mend, if_pos c2, if_pos c4, if_pos c7]; rfl) | (simp only [a_mend, f_mend, if_pos c2, if_pos c4, if_pos c7]; omega)
        have e9 : @Eq Int (a_mend s m) (-3) := by first | rfl | (simp only [a_mend, f_mend, if_pos c2, if_pos c4, if_pos c7]; done) | (simp only [a_mend, f_mend, if_pos c2, if_pos c4, if_pos c7]; done) | (simp only [a_mend, f_mend, if_pos c2, if_pos c4, if_pos c7]; rfl) | (simp only [a_mend, f_mend, if_pos c2, if_pos c4, if_pos c7]; omega)
        exact v_ireturn hG hR dX12_mend_41 () (congrArg (fun z => some (vI z)) e9) (by trivial) (fun _ hM => by rw [← e8]; exact hM)
      · skip
        refine v_aload_n hG dX12_mend_32 rfl 0 rfl ?_
        refine v_callV (k1' := 0) (k2' := 0) hG dX12_mend_33 zc_X12_isLate ⟨zl_X12_170, zi_X12_isLate, zs_X12_isLate⟩ (fun l => k_isLate l D A a s im fr bY tr ln bl bo g lg (by omega)) rfl mw_recv (fun _ h => h) ⟨by decide, by decide⟩ rfl rfl ⟨by decide, by decide⟩ (rest := []) rfl (Nat.le_of_ble_eq_true rfl) (fun u10 => [vI (bi (99000 < s 0))]) (fun _ => rfl) (fun u10 hu10 => ?_)
        refine v_ifb_eq (p := 99000 < s 0) (tgt := 42) hG dX12_mend_36 (by decide) (fun c11 => ?_) (fun c11 => ?_)
        · skip
          refine v_aload_n hG dX12_mend_42 rfl 0 rfl ?_
          refine v_iload_n hG dX12_mend_43 rfl 1 rfl ?_
          refine v_callV (k1' := 0) (k2' := 0) hG dX12_mend_44 zc_X12_mendsOne ⟨zl_X12_181, zi_X12_mendsOne, zs_X12_mendsOne⟩ (fun l => k_mendsOne l D A a s im fr bY tr ln bl bo g lg m (by omega) (by first | assumption | (exact hM _ (by omega) (by omega))) (by assumption) (by omega)) rfl mw_recv (fun _ h => h) ⟨by decide, by decide⟩ rfl rfl ⟨by decide, by decide⟩ (rest := []) rfl (Nat.le_of_ble_eq_true rfl) (fun u12 => []) (fun _ => rfl) (fun u12 hu12 => ?_)
          refine v_aload_n hG dX12_mend_47 rfl 0 rfl ?_
          refine v_iload_n hG dX12_mend_48 rfl 1 rfl ?_
          refine v_iconst hG dX12_mend_49 ?_
          refine v_callV (k1' := 0) (k2' := 0) hG dX12_mend_50 zc_X12_darkBy ⟨zl_X12_147, zi_X12_darkBy, zs_X12_darkBy⟩ (fun l => k_darkBy l D A a (p_mend s m) im fr bY tr ln bl bo g lg m 0 (by omega) (by exact MK_mend (by omega) (by omega) (hM _ (by omega) (by omega))) (by exact lo_PL (p_mend_lo (by omega)) hP) (by omega)) rfl mw_recv (fun _ h => h) ⟨by decide, by decide⟩ rfl rfl ⟨by decide, by decide⟩ (rest := []) rfl (Nat.le_of_ble_eq_true rfl) (fun u13 => [vI (q_dk (p_mend s m) m 0)]) (fun _ => rfl) (fun u13 hu13 => ?_)
          have fu13 : 0 ≤ q_dk (p_mend s m) m 0 ∧ q_dk (p_mend s m) m 0 ≤ 30 := hu13
          have e14 : p_mend s m = f_mend s m := by first | rfl | (simp only [a_mend, f_mend, if_pos c2, if_pos c4, if_neg c7, if_neg c11]; done) | (simp only [a_mend, f_mend, if_pos c2, if_pos c4, if_neg c7, if_neg c11]; done) | (simp only [a_mend, f_mend, if_pos c2, if_pos c4, if_neg c7, if_neg c11]; rfl) | (simp only [a_mend, f_mend, if_pos c2, if_pos c4, if_neg c7, if_neg c11]; omega)
          have e15 : @Eq Int (a_mend s m) (q_dk (p_mend s m) m 0) := by first | rfl | (simp only [a_mend, f_mend, if_pos c2, if_pos c4, if_neg c7, if_neg c11]; done) | (simp only [a_mend, f_mend, if_pos c2, if_pos c4, if_neg c7, if_neg c11]; done) | (simp only [a_mend, f_mend, if_pos c2, if_pos c4, if_neg c7, if_neg c11]; rfl) | (simp only [a_mend, f_mend, if_pos c2, if_pos c4, if_neg c7, if_neg c11]; omega)
          exact v_ireturn hG hR dX12_mend_53 () (congrArg (fun z => some (vI z)) e15) (by trivial) (fun _ hM => by rw [← e14]; exact hM)
        · skip
          refine v_bipush hG dX12_mend_39 (by decide) ?_
          have e16 : s = f_mend s m := by first | rfl | (simp only [a_mend, f_mend, if_pos c2, if_pos c4, if_neg c7, if_pos c11]; done) | (simp only [a_mend, f_mend, if_pos c2, if_pos c4, if_neg c7, if_pos c11]; done) | (simp only [a_mend, f_mend, if_pos c2, if_pos c4, if_neg c7, if_pos c11]; rfl) | (simp only [a_mend, f_mend, if_pos c2, if_pos c4, if_neg c7, if_pos c11]; omega)
          have e17 : @Eq Int (a_mend s m) (-3) := by first | rfl | (simp only [a_mend, f_mend, if_pos c2, if_pos c4, if_neg c7, if_pos c11]; done) | (simp only [a_mend, f_mend, if_pos c2, if_pos c4, if_neg c7, if_pos c11]; done) | (simp only [a_mend, f_mend, if_pos c2, if_pos c4, if_neg c7, if_pos c11]; rfl) | (simp only [a_mend, f_mend, if_pos c2, if_pos c4, if_neg c7, if_pos c11]; omega)
          exact v_ireturn hG hR dX12_mend_41 () (congrArg (fun z => some (vI z)) e17) (by trivial) (fun _ hM => by rw [← e16]; exact hM)
  · skip
    refine v_iconst hG dX12_mend_8 ?_
    have e18 : s = f_mend s m := by first | rfl | (simp only [a_mend, f_mend, if_neg c2]; done) | (simp only [a_mend, f_mend, if_neg c2]; done) | (simp only [a_mend, f_mend, if_neg c2]; rfl) | (simp only [a_mend, f_mend, if_neg c2]; omega)
    have e19 : @Eq Int (a_mend s m) (-1) := by first | rfl | (simp only [a_mend, f_mend, if_neg c2]; done) | (simp only [a_mend, f_mend, if_neg c2]; done) | (simp only [a_mend, f_mend, if_neg c2]; rfl) | (simp only [a_mend, f_mend, if_neg c2]; omega)
    exact v_ireturn hG hR dX12_mend_9 () (congrArg (fun z => some (vI z)) e19) (by trivial) (fun _ hM => by rw [← e18]; exact hM)
set_option maxHeartbeats 4000000 in
set_option maxRecDepth 100000 in
theorem k_over (l : Launch) (D : Dx) (A : Nat → Prop) (a : Nat → Nat) (s im fr bY tr ln bl bo g lg : Int → Int) (m : Int) (hr : -2147483648 ≤ m ∧ m < 2147483648) (hN : NM s) (hM : GM s) (hP : PL s) (hT : 0 ≤ s 2 ∧ s 2 ≤ 99) (h0 : 0 ≤ s 0 ∧ s 0 ≤ 1000000) : CT l D A yX12_over cX12_over 2 (some .int) { frames := 4, cells := 0, slots := 0, locals := 91 } [.ref (a 0), vI m] (MW D A a s im fr bY tr ln bl bo g lg) (fun _ : Unit => some (vI (a_over s m))) (fun _ => True) (fun _ => MW D A a (f_over s m) im fr bY tr ln bl bo g lg) := by
  refine ct_of (lo0 := [(0, .ref (a 0)), (1, vI m)]) (by decide) (Nat.le_of_ble_eq_true rfl) rfl ?_
  intro G hG hR
  have hN9 : 0 ≤ s 43 ∧ s 43 ≤ 8 := hN
  refine v_aload_n hG dX12_over_0 rfl 0 rfl ?_
  refine v_iload_n hG dX12_over_1 rfl 1 rfl ?_
  refine v_callV (k1' := 0) (k2' := 0) hG dX12_over_2 zc_X12_isMark ⟨zl_X12_150, zi_X12_isMark, zs_X12_isMark⟩ (fun l => k_isMark l D A a s im fr bY tr ln bl bo g lg m (by omega) (by assumption)) rfl mw_recv (fun _ h => h) ⟨by decide, by decide⟩ rfl rfl ⟨by decide, by decide⟩ (rest := []) rfl (Nat.le_of_ble_eq_true rfl) (fun u1 => [vI (bi (0 ≤ m ∧ m ≤ s 43 - 1))]) (fun _ => rfl) (fun u1 hu1 => ?_)
  refine v_ifb_ne (p := 0 ≤ m ∧ m ≤ s 43 - 1) (tgt := 10) hG dX12_over_5 (by decide) (fun c2 => ?_) (fun c2 => ?_)
  · skip
    refine v_aload_n hG dX12_over_10 rfl 0 rfl ?_
    refine v_iload_n hG dX12_over_11 rfl 1 rfl ?_
    refine v_callV (k1' := 0) (k2' := 0) hG dX12_over_12 zc_X12_isCut ⟨zl_X12_137, zi_X12_isCut, zs_X12_isCut⟩ (fun l => k_isCut l D A a s im fr bY tr ln bl bo g lg m (by omega) (by first | exact hm.2.2.2.2.1 | exact (hM _ (by omega) (by omega)).2.2.2.2.1 | omega)) rfl mw_recv (fun _ h => h) ⟨by decide, by decide⟩ rfl rfl ⟨by decide, by decide⟩ (rest := []) rfl (Nat.le_of_ble_eq_true rfl) (fun u3 => [vI (bi (s (11 + m) = 1))]) (fun _ => rfl) (fun u3 hu3 => ?_)
    refine v_ifb_eq (p := s (11 + m) = 1) (tgt := 25) hG dX12_over_15 (by decide) (fun c4 => ?_) (fun c4 => ?_)
    · skip
      refine v_bipush hG dX12_over_25 (by decide) ?_
      have e5 : s = f_over s m := by first | rfl | (simp only [a_over, f_over, if_pos c2, if_neg c4]; done) | (simp only [a_over, f_over, if_pos c2, if_neg c4]; done) | (simp only [a_over, f_over, if_pos c2, if_neg c4]; rfl) | (simp only [a_over, f_over, if_pos c2, if_neg c4]; omega)
      have e6 : @Eq Int (a_over s m) (-3) := by first | rfl | (simp only [a_over, f_over, if_pos c2, if_neg c4]; done) | (simp only [a_over, f_over, if_pos c2, if_neg c4]; done) | (simp only [a_over, f_over, if_pos c2, if_neg c4]; rfl) | (simp only [a_over, f_over, if_pos c2, if_neg c4]; omega)
      exact v_ireturn hG hR dX12_over_27 () (congrArg (fun z => some (vI z)) e6) (by trivial) (fun _ hM => by rw [← e5]; exact hM)
    · skip
      refine v_aload_n hG dX12_over_18 rfl 0 rfl ?_
      refine v_callV (k1' := 0) (k2' := 0) hG dX12_over_19 zc_X12_isLate ⟨zl_X12_170, zi_X12_isLate, zs_X12_isLate⟩ (fun l => k_isLate l D A a s im fr bY tr ln bl bo g lg (by omega)) rfl mw_recv (fun _ h => h) ⟨by decide, by decide⟩ rfl rfl ⟨by decide, by decide⟩ (rest := []) rfl (Nat.le_of_ble_eq_true rfl) (fun u7 => [vI (bi (99000 < s 0))]) (fun _ => rfl) (fun u7 hu7 => ?_)
      refine v_ifb_eq (p := 99000 < s 0) (tgt := 28) hG dX12_over_22 (by decide) (fun c8 => ?_) (fun c8 => ?_)
      · skip
        refine v_aload_n hG dX12_over_28 rfl 0 rfl ?_
        refine v_iload_n hG dX12_over_29 rfl 1 rfl ?_
        refine v_callV (k1' := 0) (k2' := 0) hG dX12_over_30 zc_X12_goesOver ⟨zl_X12_184, zi_X12_goesOver, zs_X12_goesOver⟩ (fun l => k_goesOver l D A a s im fr bY tr ln bl bo g lg m (by omega) (by first | assumption | (exact hM _ (by omega) (by omega))) (by omega)) rfl mw_recv (fun _ h => h) ⟨by decide, by decide⟩ rfl rfl ⟨by decide, by decide⟩ (rest := []) rfl (Nat.le_of_ble_eq_true rfl) (fun u9 => []) (fun _ => rfl) (fun u9 hu9 => ?_)
        refine v_aload_n hG dX12_over_33 rfl 0 rfl ?_
        refine v_iload_n hG dX12_over_34 rfl 1 rfl ?_
        refine v_iconst hG dX12_over_35 ?_
        refine v_callV (k1' := 0) (k2' := 0) hG dX12_over_36 zc_X12_darkBy ⟨zl_X12_147, zi_X12_darkBy, zs_X12_darkBy⟩ (fun l => k_darkBy l D A a (p_over s m) im fr bY tr ln bl bo g lg m 0 (by omega) (by exact MK_over (by omega) (by omega) (hM _ (by omega) (by omega))) (by exact lo_PL (p_over_lo (by omega)) hP) (by omega)) rfl mw_recv (fun _ h => h) ⟨by decide, by decide⟩ rfl rfl ⟨by decide, by decide⟩ (rest := []) rfl (Nat.le_of_ble_eq_true rfl) (fun u10 => [vI (q_dk (p_over s m) m 0)]) (fun _ => rfl) (fun u10 hu10 => ?_)
        have fu10 : 0 ≤ q_dk (p_over s m) m 0 ∧ q_dk (p_over s m) m 0 ≤ 30 := hu10
        have e11 : p_over s m = f_over s m := by first | rfl | (simp only [a_over, f_over, if_pos c2, if_pos c4, if_neg c8]; done) | (simp only [a_over, f_over, if_pos c2, if_pos c4, if_neg c8]; done) | (simp only [a_over, f_over, if_pos c2, if_pos c4, if_neg c8]; rfl) | (simp only [a_over, f_over, if_pos c2, if_pos c4, if_neg c8]; omega)
        have e12 : @Eq Int (a_over s m) (q_dk (p_over s m) m 0) := by first | rfl | (simp only [a_over, f_over, if_pos c2, if_pos c4, if_neg c8]; done) | (simp only [a_over, f_over, if_pos c2, if_pos c4, if_neg c8]; done) | (simp only [a_over, f_over, if_pos c2, if_pos c4, if_neg c8]; rfl) | (simp only [a_over, f_over, if_pos c2, if_pos c4, if_neg c8]; omega)
        exact v_ireturn hG hR dX12_over_39 () (congrArg (fun z => some (vI z)) e12) (by trivial) (fun _ hM => by rw [← e11]; exact hM)
      · skip
        refine v_bipush hG dX12_over_25 (by decide) ?_
        have e13 : s = f_over s m := by first | rfl | (simp only [a_over, f_over, if_pos c2, if_pos c4, if_pos c8]; done) | (simp only [a_over, f_over, if_pos c2, if_pos c4, if_pos c8]; done) | (simp only [a_over, f_over, if_pos c2, if_pos c4, if_pos c8]; rfl) | (simp only [a_over, f_over, if_pos c2, if_pos c4, if_pos c8]; omega)
        have e14 : @Eq Int (a_over s m) (-3) := by first | rfl | (simp only [a_over, f_over, if_pos c2, if_pos c4, if_pos c8]; done) | (simp only [a_over, f_over, if_pos c2, if_pos c4, if_pos c8]; done) | (simp only [a_over, f_over, if_pos c2, if_pos c4, if_pos c8]; rfl) | (simp only [a_over, f_over, if_pos c2, if_pos c4, if_pos c8]; omega)
        exact v_ireturn hG hR dX12_over_27 () (congrArg (fun z => some (vI z)) e14) (by trivial) (fun _ hM => by rw [← e13]; exact hM)
  · skip
    refine v_iconst hG dX12_over_8 ?_
    have e15 : s = f_over s m := by first | rfl | (simp only [a_over, f_over, if_neg c2]; done) | (simp only [a_over, f_over, if_neg c2]; done) | (simp only [a_over, f_over, if_neg c2]; rfl) | (simp only [a_over, f_over, if_neg c2]; omega)
    have e16 : @Eq Int (a_over s m) (-1) := by first | rfl | (simp only [a_over, f_over, if_neg c2]; done) | (simp only [a_over, f_over, if_neg c2]; done) | (simp only [a_over, f_over, if_neg c2]; rfl) | (simp only [a_over, f_over, if_neg c2]; omega)
    exact v_ireturn hG hR dX12_over_9 () (congrArg (fun z => some (vI z)) e16) (by trivial) (fun _ hM => by rw [← e15]; exact hM)
set_option maxHeartbeats 4000000 in
set_option maxRecDepth 100000 in
theorem k_print (l : Launch) (D : Dx) (A : Nat → Prop) (a : Nat → Nat) (s im fr bY tr ln bl bo g lg : Int → Int) (n : Int) (hr : -2147483648 ≤ n ∧ n < 2147483648) (hN : NM s) (hM : GM s) (hP : PL s) (hW : WW s) (h1p : 0 ≤ s 1 ∧ s 1 ≤ 9999) : CT l D A yX12_print cX12_print 3 (some .int) { frames := 6, cells := 0, slots := 0, locals := 135 } [.ref (a 0), vI n] (MW D A a s im fr bY tr ln bl bo g lg) (fun _ : Unit => some (vI (a_print s n))) (fun _ => True) (fun _ => MW D A a (f_print s n) im fr bY tr ln bl bo g lg) := by
  refine ct_of (lo0 := [(0, .ref (a 0)), (1, vI n)]) (by decide) (Nat.le_of_ble_eq_true rfl) rfl ?_
  intro G hG hR
  have hN9 : 0 ≤ s 43 ∧ s 43 ≤ 8 := hN
  have q1 : p_prints s n 1 = s 1 + n := by
    rw [p_prints_at, if_neg (by omega), sU_eq]
  refine v_iload_n hG dX12_print_0 rfl 1 rfl ?_
  refine v_iconst hG dX12_print_1 ?_
  refine v_sipush hG dX12_print_2 (by decide) ?_
  refine v_callS (k1' := 0) (k2' := 0) hG dX12_print_5 zc_X12_in ⟨zl_X12_41, zt_X12_in⟩ (fun l => k_in l D A (MW D A a s im fr bY tr ln bl bo g lg) n 0 999 (by omega) (by omega) (by omega)) rfl (fun _ h => h) ⟨by decide, by decide⟩ rfl rfl ⟨by decide, by decide⟩ (rest := []) rfl (Nat.le_of_ble_eq_true rfl) (fun u1 => [vI (bi (0 ≤ n ∧ n ≤ 999))]) (fun _ => rfl) (fun u1 hu1 => ?_)
  refine v_ifb_ne (p := 0 ≤ n ∧ n ≤ 999) (tgt := 14) hG dX12_print_8 (by decide) (fun c2 => ?_) (fun c2 => ?_)
  · skip
    refine v_aload_n hG dX12_print_14 rfl 0 rfl ?_
    refine v_iload_n hG dX12_print_15 rfl 1 rfl ?_
    refine v_callV (k1' := 0) (k2' := 0) hG dX12_print_16 zc_X12_prints ⟨zl_X12_191, zi_X12_prints, zs_X12_prints⟩ (fun l => k_prints l D A a s im fr bY tr ln bl bo g lg n (by assumption) (by assumption) (by omega)) rfl mw_recv (fun _ h => h) ⟨by decide, by decide⟩ rfl rfl ⟨by decide, by decide⟩ (rest := []) rfl (Nat.le_of_ble_eq_true rfl) (fun u3 => []) (fun _ => rfl) (fun u3 hu3 => ?_)
    refine v_aload_n hG dX12_print_19 rfl 0 rfl ?_
    refine mg_s hG dX12_print_20 ?_
    refine v_iconst hG dX12_print_23 ?_
    refine v_aload_n hG dX12_print_24 rfl 0 rfl ?_
    refine mg_s hG dX12_print_25 ?_
    refine v_iconst hG dX12_print_28 ?_
    refine ma_s (z := (p_prints s n) 1) hG dX12_print_29 (by omega) rfl ?_
    refine v_iconst hG dX12_print_30 ?_
    refine v_sipush hG dX12_print_31 (by decide) ?_
    refine v_callS (k1' := 0) (k2' := 0) hG dX12_print_34 zc_X12_within ⟨zl_X12_130, zt_X12_within⟩ (fun l => k_within l D A (MW D A a (p_prints s n) im fr bY tr ln bl bo g lg) ((p_prints s n) 1) 0 9999 (by omega) (by omega) (by omega)) rfl (fun _ h => h) ⟨by decide, by decide⟩ rfl rfl ⟨by decide, by decide⟩ (rest := [vI 1, .ref (a 1)]) rfl (Nat.le_of_ble_eq_true rfl) (fun u4 => [vI (clamp ((p_prints s n) 1) 0 9999), vI 1, .ref (a 1)]) (fun _ => rfl) (fun u4 hu4 => ?_)
    refine ms_s hG dX12_print_37 (by omega) ?_
    refine v_iconst hG dX12_print_38 ?_
    refine v_istore_n (lo' := [(2, vI 0), (0, .ref (a 0)), (1, vI n)]) hG dX12_print_39 rfl (by decide) rfl ?_
    refine v_lo [1, 2, 0] (lo' := [(0, .ref (a 0)), (1, vI n), (2, vI 0)]) rfl ?_
    have L7 : ∀ mz : Nat, ∀ (k : Nat), ((k : Int) ≤ s 43) → (s 43 - (k : Int)).toNat = mz → ∀ x5 : Int, x5 = ((k : Int)) → ∀ x6 : Int → Int, x6 = (capk (sU (p_prints s n) 1 (clamp (p_prints s n 1) 0 9999)) (k : Int)) → V G 0 0 (MW D A a x6 im fr bY tr ln bl bo g lg) 40 [(0, .ref (a 0)), (1, vI n), (2, vI x5)] [] := by
      intro dL7
      induction dL7 using Nat.strongRecOn with
      | ind dL7 ihL7 =>
        intro k h8 h9
        intro x5 hx5
        subst hx5
        intro x6 hx6
        subst hx6
        have q43 : capk (sU (p_prints s n) 1 (clamp (p_prints s n 1) 0 9999)) (k : Int) 43 = s 43 := ((capk_43 (by omega)).trans (sU_ne (by omega))).trans (p_prints_lo (by omega) 43 (by omega))
        have q27 : capk (sU (p_prints s n) 1 (clamp (p_prints s n 1) 0 9999)) (k : Int) (27 + (k : Int)) = p_prints s n (27 + (k : Int)) := capk_27.trans (sU_ne (by omega))
        refine v_iload_n hG dX12_print_40 rfl 2 rfl ?_
        refine v_aload_n hG dX12_print_41 rfl 0 rfl ?_
        refine mg_s hG dX12_print_42 ?_
        refine v_bipush hG dX12_print_45 (by decide) ?_
        refine ma_s (z := (capk (sU (p_prints s n) 1 (clamp (p_prints s n 1) 0 9999)) (k : Int)) 43) hG dX12_print_47 (by omega) rfl ?_
        refine v_icmp_ge (tgt := 82) hG dX12_print_48 (by decide) (by omega) (by omega) (fun c10 => ?_) (fun c10 => ?_)
        · skip
          rw [show capk (sU (p_prints s n) 1 (clamp (p_prints s n 1) 0 9999)) (k : Int) = p_print s n from by rw [show (k : Int) = s 43 by omega]; rfl]
          have hlo : LoEq s (p_print s n) := p_print_lo (by omega)
          refine v_aload_n hG dX12_print_82 rfl 0 rfl ?_
          refine v_callV (k1' := 0) (k2' := 0) hG dX12_print_83 zc_X12_printing ⟨zl_X12_194, zi_X12_printing, zs_X12_printing⟩ (fun l => k_printing l D A a (p_print s n) im fr bY tr ln bl bo g lg (by exact lo_NM hlo hN) (by exact GM_print hN hM hW (by omega)) (by exact lo_PL hlo hP)) rfl mw_recv (fun _ h => h) ⟨by decide, by decide⟩ rfl rfl ⟨by decide, by decide⟩ (rest := []) rfl (Nat.le_of_ble_eq_true rfl) (fun u11 => [vI (cntB (prt (p_print s n) 0) ((p_print s n) 43).toNat)]) (fun _ => rfl) (fun u11 hu11 => ?_)
          have e12 : p_print s n = f_print s n := by first | rfl | (simp only [a_print, f_print, if_pos c2, if_pos c10]; done) | (simp only [a_print, f_print, if_pos c2, if_pos c10]; done) | (simp only [a_print, f_print, if_pos c2, if_pos c10]; rfl) | (simp only [a_print, f_print, if_pos c2, if_pos c10]; omega)
          have e13 : @Eq Int (a_print s n) (cntB (prt (p_print s n) 0) ((p_print s n) 43).toNat) := by rw [hlo 43 (by omega)]; simp only [a_print, if_pos c2, if_pos c10]
          exact v_ireturn hG hR dX12_print_86 () (congrArg (fun z => some (vI z)) e13) (by trivial) (fun _ hM => by rw [← e12]; exact hM)
        · skip
          have hk7 := (MK_prints (n := n) (by omega) (show 0 ≤ (k : Int) ∧ (k : Int) < s 43 by omega) (hM _ (by omega) (by omega)) (by have := hW (k : Int) (by omega) (by omega); omega)).2.2.2.2.2.2.1
          refine v_aload_n hG dX12_print_51 rfl 0 rfl ?_
          refine mg_s hG dX12_print_52 ?_
          refine v_bipush hG dX12_print_55 (by decide) ?_
          refine v_iload_n hG dX12_print_57 rfl 2 rfl ?_
          refine v_iadd hG dX12_print_58 ?_
          refine v_aload_n hG dX12_print_59 rfl 0 rfl ?_
          refine mg_s hG dX12_print_60 ?_
          refine v_bipush hG dX12_print_63 (by decide) ?_
          refine v_iload_n hG dX12_print_65 rfl 2 rfl ?_
          refine v_iadd hG dX12_print_66 ?_
          refine ma_s (z := (capk (sU (p_prints s n) 1 (clamp (p_prints s n 1) 0 9999)) (k : Int)) (27 + (k : Int))) hG dX12_print_67 (by omega) rfl ?_
          refine v_iconst hG dX12_print_68 ?_
          refine v_sipush hG dX12_print_69 (by decide) ?_
          refine v_callS (k1' := 0) (k2' := 0) hG dX12_print_72 zc_X12_within ⟨zl_X12_130, zt_X12_within⟩ (fun l => k_within l D A (MW D A a (capk (sU (p_prints s n) 1 (clamp (p_prints s n 1) 0 9999)) (k : Int)) im fr bY tr ln bl bo g lg) ((capk (sU (p_prints s n) 1 (clamp (p_prints s n 1) 0 9999)) (k : Int)) (27 + (k : Int))) 0 9999 (by omega) (by omega) (by omega)) rfl (fun _ h => h) ⟨by decide, by decide⟩ rfl rfl ⟨by decide, by decide⟩ (rest := [vI (27 + (k : Int)), .ref (a 1)]) rfl (Nat.le_of_ble_eq_true rfl) (fun u14 => [vI (clamp ((capk (sU (p_prints s n) 1 (clamp (p_prints s n 1) 0 9999)) (k : Int)) (27 + (k : Int))) 0 9999), vI (27 + (k : Int)), .ref (a 1)]) (fun _ => rfl) (fun u14 hu14 => ?_)
          refine ms_s hG dX12_print_75 (by omega) ?_
          refine v_iinc (lo' := [(2, vI ((k : Int) + 1)), (0, .ref (a 0)), (1, vI n)]) hG dX12_print_76 2 rfl (by decide) rfl ?_
          refine v_goto (tgt := 40) hG dX12_print_79 (by decide) ?_
          refine v_lo [1, 2, 0] (lo' := [(0, .ref (a 0)), (1, vI n), (2, vI ((k : Int) + 1))]) rfl ?_
          exact ihL7 _ (by omega) (k + 1) (by omega) rfl _ (by first | omega | rfl | (simp [c2, c10]; done)) _ (by exact capk_step)
    exact L7 _ 0 (by omega) rfl _ (by first | omega | rfl | (simp [c2]; done)) _ (by exact capk_0.symm)
  · skip
    refine v_bipush hG dX12_print_11 (by decide) ?_
    have e15 : s = f_print s n := by first | rfl | (simp only [a_print, f_print, if_neg c2]; done) | (simp only [a_print, f_print, if_neg c2]; done) | (simp only [a_print, f_print, if_neg c2]; rfl) | (simp only [a_print, f_print, if_neg c2]; omega)
    have e16 : @Eq Int (a_print s n) (-2) := by first | rfl | (simp only [a_print, f_print, if_neg c2]; done) | (simp only [a_print, f_print, if_neg c2]; done) | (simp only [a_print, f_print, if_neg c2]; rfl) | (simp only [a_print, f_print, if_neg c2]; omega)
    exact v_ireturn hG hR dX12_print_13 () (congrArg (fun z => some (vI z)) e16) (by trivial) (fun _ hM => by rw [← e15]; exact hM)
set_option maxHeartbeats 4000000 in
set_option maxRecDepth 100000 in
theorem k_dark (l : Launch) (D : Dx) (A : Nat → Prop) (a : Nat → Nat) (s im fr bY tr ln bl bo g lg : Int → Int) (m : Int) (n : Int) (hr : -2147483648 ≤ m ∧ m < 2147483648) (hr2 : -2147483648 ≤ n ∧ n < 2147483648) (hN : NM s) (hM : GM s) (hP : PL s) : CT l D A yX12_dark cX12_dark 3 (some .int) { frames := 4, cells := 0, slots := 0, locals := 91 } [.ref (a 0), vI m, vI n] (MW D A a s im fr bY tr ln bl bo g lg) (fun _ : Unit => some (vI (a_dark s m n))) (fun _ => True) (fun _ => MW D A a s im fr bY tr ln bl bo g lg) := by
  refine ct_of (lo0 := [(0, .ref (a 0)), (1, vI m), (2, vI n)]) (by decide) (Nat.le_of_ble_eq_true rfl) rfl ?_
  intro G hG hR
  have hN9 : 0 ≤ s 43 ∧ s 43 ≤ 8 := hN
  refine v_aload_n hG dX12_dark_0 rfl 0 rfl ?_
  refine v_iload_n hG dX12_dark_1 rfl 1 rfl ?_
  refine v_callV (k1' := 0) (k2' := 0) hG dX12_dark_2 zc_X12_isMark ⟨zl_X12_150, zi_X12_isMark, zs_X12_isMark⟩ (fun l => k_isMark l D A a s im fr bY tr ln bl bo g lg m (by omega) (by assumption)) rfl mw_recv (fun _ h => h) ⟨by decide, by decide⟩ rfl rfl ⟨by decide, by decide⟩ (rest := []) rfl (Nat.le_of_ble_eq_true rfl) (fun u1 => [vI (bi (0 ≤ m ∧ m ≤ s 43 - 1))]) (fun _ => rfl) (fun u1 hu1 => ?_)
  refine v_ifb_ne (p := 0 ≤ m ∧ m ≤ s 43 - 1) (tgt := 10) hG dX12_dark_5 (by decide) (fun c2 => ?_) (fun c2 => ?_)
  · skip
    refine v_iload_n hG dX12_dark_10 rfl 2 rfl ?_
    refine v_iconst hG dX12_dark_11 ?_
    refine v_sipush hG dX12_dark_12 (by decide) ?_
    refine v_callS (k1' := 0) (k2' := 0) hG dX12_dark_15 zc_X12_in ⟨zl_X12_41, zt_X12_in⟩ (fun l => k_in l D A (MW D A a s im fr bY tr ln bl bo g lg) n 0 999 (by omega) (by omega) (by omega)) rfl (fun _ h => h) ⟨by decide, by decide⟩ rfl rfl ⟨by decide, by decide⟩ (rest := []) rfl (Nat.le_of_ble_eq_true rfl) (fun u3 => [vI (bi (0 ≤ n ∧ n ≤ 999))]) (fun _ => rfl) (fun u3 hu3 => ?_)
    refine v_ifb_eq (p := 0 ≤ n ∧ n ≤ 999) (tgt := 30) hG dX12_dark_18 (by decide) (fun c4 => ?_) (fun c4 => ?_)
    · skip
      refine v_bipush hG dX12_dark_30 (by decide) ?_
      have e5 : @Eq Int (a_dark s m n) (-2) := by first | rfl | (simp only [a_dark, if_pos c2, if_neg c4]; done) | (simp only [a_dark, if_pos c2, if_neg c4]; done) | (simp only [a_dark, if_pos c2, if_neg c4]; rfl) | (simp only [a_dark, if_pos c2, if_neg c4]; omega)
      exact v_ireturn hG hR dX12_dark_32 () (congrArg (fun z => some (vI z)) e5) (by trivial) (fun _ hM => hM)
    · skip
      refine v_aload_n hG dX12_dark_21 rfl 0 rfl ?_
      refine v_iload_n hG dX12_dark_22 rfl 1 rfl ?_
      refine v_iload_n hG dX12_dark_23 rfl 2 rfl ?_
      refine v_callV (k1' := 0) (k2' := 0) hG dX12_dark_24 zc_X12_darkBy ⟨zl_X12_147, zi_X12_darkBy, zs_X12_darkBy⟩ (fun l => k_darkBy l D A a s im fr bY tr ln bl bo g lg m n (by omega) (by first | assumption | (exact hM _ (by omega) (by omega))) (by assumption) (by omega)) rfl mw_recv (fun _ h => h) ⟨by decide, by decide⟩ rfl rfl ⟨by decide, by decide⟩ (rest := []) rfl (Nat.le_of_ble_eq_true rfl) (fun u6 => [vI (q_dk s m n)]) (fun _ => rfl) (fun u6 hu6 => ?_)
      have fu6 : 0 ≤ q_dk s m n ∧ q_dk s m n ≤ 30 := hu6
      refine v_goto (tgt := 32) hG dX12_dark_27 (by decide) ?_
      have e7 : @Eq Int (a_dark s m n) (q_dk s m n) := by first | rfl | (simp only [a_dark, if_pos c2, if_pos c4]; done) | (simp only [a_dark, if_pos c2, if_pos c4]; done) | (simp only [a_dark, if_pos c2, if_pos c4]; rfl) | (simp only [a_dark, if_pos c2, if_pos c4]; omega)
      exact v_ireturn hG hR dX12_dark_32 () (congrArg (fun z => some (vI z)) e7) (by trivial) (fun _ hM => hM)
  · skip
    refine v_iconst hG dX12_dark_8 ?_
    have e8 : @Eq Int (a_dark s m n) (-1) := by first | rfl | (simp only [a_dark, if_neg c2]; done) | (simp only [a_dark, if_neg c2]; done) | (simp only [a_dark, if_neg c2]; rfl) | (simp only [a_dark, if_neg c2]; omega)
    exact v_ireturn hG hR dX12_dark_9 () (congrArg (fun z => some (vI z)) e8) (by trivial) (fun _ hM => hM)
set_option maxHeartbeats 4000000 in
set_option maxRecDepth 100000 in
theorem k_printsNow (l : Launch) (D : Dx) (A : Nat → Prop) (a : Nat → Nat) (s im fr bY tr ln bl bo g lg : Int → Int) (hN : NM s) (hM : GM s) (hP : PL s) : CT l D A yX12_printsNow cX12_printsNow 3 (some .int) { frames := 5, cells := 0, slots := 0, locals := 113 } [.ref (a 0)] (MW D A a s im fr bY tr ln bl bo g lg) (fun _ : Unit => some (vI (q_now s))) (fun _ => 0 ≤ q_now s ∧ q_now s < 256) (fun _ => MW D A a s im fr bY tr ln bl bo g lg) := by
  refine ct_of (lo0 := [(0, .ref (a 0))]) (by decide) (Nat.le_of_ble_eq_true rfl) rfl ?_
  intro G hG hR
  have hN9 : 0 ≤ s 43 ∧ s 43 ≤ 8 := hN
  refine v_iconst hG dX12_printsNow_0 ?_
  refine v_istore_n (lo' := [(1, vI 0), (0, .ref (a 0))]) hG dX12_printsNow_1 rfl (by decide) rfl ?_
  refine v_iconst hG dX12_printsNow_2 ?_
  refine v_istore_n (lo' := [(2, vI 0), (1, vI 0), (0, .ref (a 0))]) hG dX12_printsNow_3 rfl (by decide) rfl ?_
  refine v_lo [2, 1, 0] (lo' := [(0, .ref (a 0)), (1, vI 0), (2, vI 0)]) rfl ?_
  have L3 : ∀ mz : Nat, ∀ (k : Nat), ((k : Int) ≤ s 43) → (s 43 - (k : Int)).toNat = mz → ∀ x1 : Int, x1 = ((k : Int)) → ∀ x2 : Int, x2 = (bset (prt s 0) k) → V G 0 0 (MW D A a s im fr bY tr ln bl bo g lg) 4 [(0, .ref (a 0)), (1, vI x2), (2, vI x1)] [] := by
    intro dL3
    induction dL3 using Nat.strongRecOn with
    | ind dL3 ihL3 =>
      intro k h4 h5
      intro x1 hx1
      subst hx1
      intro x2 hx2
      subst hx2
      refine v_iload_n hG dX12_printsNow_4 rfl 2 rfl ?_
      refine v_aload_n hG dX12_printsNow_5 rfl 0 rfl ?_
      refine mg_s hG dX12_printsNow_6 ?_
      refine v_bipush hG dX12_printsNow_9 (by decide) ?_
      refine ma_s (z := s 43) hG dX12_printsNow_11 (by omega) rfl ?_
      refine v_icmp_ge (tgt := 40) hG dX12_printsNow_12 (by decide) (by omega) (by omega) (fun c6 => ?_) (fun c6 => ?_)
      · skip
        refine v_iload_n hG dX12_printsNow_40 rfl 1 rfl ?_
        have e7 : @Eq Int (q_now s) (bset (prt s 0) k) := by unfold q_now; rw [show k = (s 43).toNat by omega]
        exact v_ireturn hG hR dX12_printsNow_41 () (congrArg (fun z => some (vI z)) e7) (by exact q_now_rng hN) (fun _ hM => hM)
      · skip
        refine v_iload_n hG dX12_printsNow_15 rfl 1 rfl ?_
        refine v_aload_n hG dX12_printsNow_16 rfl 0 rfl ?_
        refine v_iload_n hG dX12_printsNow_17 rfl 2 rfl ?_
        refine v_iconst hG dX12_printsNow_18 ?_
        refine v_callV (k1' := 0) (k2' := 0) hG dX12_printsNow_19 zc_X12_doesPrint ⟨zl_X12_187, zi_X12_doesPrint, zs_X12_doesPrint⟩ (fun l => k_doesPrint l D A a s im fr bY tr ln bl bo g lg (k : Int) 0 (by omega) (by first | assumption | (exact hM _ (by omega) (by omega))) (by assumption) (by omega)) rfl mw_recv (fun _ h => h) ⟨by decide, by decide⟩ rfl rfl ⟨by decide, by decide⟩ (rest := [vI (bset (prt s 0) k)]) rfl (Nat.le_of_ble_eq_true rfl) (fun u8 => [vI (bi (0 < q_dk s (k : Int) 0)), vI (bset (prt s 0) k)]) (fun _ => rfl) (fun u8 hu8 => ?_)
        refine v_ifb_eq (p := 0 < q_dk s (k : Int) 0) (tgt := 31) hG dX12_printsNow_22 (by decide) (fun c9 => ?_) (fun c9 => ?_)
        · skip
          refine v_iconst hG dX12_printsNow_31 ?_
          refine v_ior hG dX12_printsNow_32 ?_
          refine v_istore_n (lo' := [(1, vI (ior (bset (prt s 0) k) 0)), (0, .ref (a 0)), (2, vI (k : Int))]) hG dX12_printsNow_33 rfl (by decide) rfl ?_
          refine v_iinc (lo' := [(2, vI ((k : Int) + 1)), (1, vI (ior (bset (prt s 0) k) 0)), (0, .ref (a 0))]) hG dX12_printsNow_34 2 rfl (by decide) rfl ?_
          refine v_goto (tgt := 4) hG dX12_printsNow_37 (by decide) ?_
          refine v_lo [2, 1, 0] (lo' := [(0, .ref (a 0)), (1, vI (ior (bset (prt s 0) k) 0)), (2, vI ((k : Int) + 1))]) rfl ?_
          exact ihL3 _ (by omega) (k + 1) (by omega) rfl _ (by first | omega | rfl | (simp [c6, c9]; done)) _ (by first | exact bset_step (by simp only [prt, decide_eq_false c6, decide_eq_false c9, Bool.not_false, Bool.and_true, Bool.true_and]) (by omega) | exact bset_stay (by simp only [prt, decide_eq_false c6, decide_eq_false c9, Bool.not_true, Bool.and_false, Bool.false_and]) (by omega))
        · skip
          refine v_iconst hG dX12_printsNow_25 ?_
          refine v_iload_n hG dX12_printsNow_26 rfl 2 rfl ?_
          refine v_ishl hG dX12_printsNow_27 (by omega) ?_
          refine v_goto (tgt := 32) hG dX12_printsNow_28 (by decide) ?_
          refine v_ior hG dX12_printsNow_32 ?_
          refine v_istore_n (lo' := [(1, vI (ior (bset (prt s 0) k) (1 * 2 ^ (k : Int).toNat))), (0, .ref (a 0)), (2, vI (k : Int))]) hG dX12_printsNow_33 rfl (by decide) rfl ?_
          refine v_iinc (lo' := [(2, vI ((k : Int) + 1)), (1, vI (ior (bset (prt s 0) k) (1 * 2 ^ (k : Int).toNat))), (0, .ref (a 0))]) hG dX12_printsNow_34 2 rfl (by decide) rfl ?_
          refine v_goto (tgt := 4) hG dX12_printsNow_37 (by decide) ?_
          refine v_lo [2, 1, 0] (lo' := [(0, .ref (a 0)), (1, vI (ior (bset (prt s 0) k) (1 * 2 ^ (k : Int).toNat))), (2, vI ((k : Int) + 1))]) rfl ?_
          exact ihL3 _ (by omega) (k + 1) (by omega) rfl _ (by first | omega | rfl | (simp [c6, c9]; done)) _ (by first | exact bset_step (by simp only [prt, decide_eq_false c6, decide_eq_true c9, Bool.not_false, Bool.and_true, Bool.true_and]) (by omega) | exact bset_stay (by simp only [prt, decide_eq_false c6, decide_eq_true c9, Bool.not_true, Bool.and_false, Bool.false_and]) (by omega))
  exact L3 _ 0 (by omega) rfl _ (by first | omega | rfl | (simp []; done)) _ (by first | omega | rfl | (simp []; done))
set_option maxHeartbeats 4000000 in
set_option maxRecDepth 100000 in
theorem k_goodOf (l : Launch) (D : Dx) (A : Nat → Prop) (a : Nat → Nat) (s im fr bY tr ln bl bo g lg : Int → Int) (x : Int) (hN : NM s) (hM : GM s) (hP : PL s) (hx : 0 ≤ x ∧ x < 256) : CT l D A yX12_goodOf cX12_goodOf 5 (some .int) { frames := 5, cells := 0, slots := 0, locals := 113 } [.ref (a 0), vI x] (MW D A a s im fr bY tr ln bl bo g lg) (fun _ : Unit => some (vI (q_goodOf s x))) (fun _ => -5 ≤ q_goodOf s x ∧ q_goodOf s x ≤ 999) (fun _ => MW D A a s im fr bY tr ln bl bo g lg) := by
  refine ct_of (lo0 := [(0, .ref (a 0)), (1, vI x)]) (by decide) (Nat.le_of_ble_eq_true rfl) rfl ?_
  intro G hG hR
  have hN9 : 0 ≤ s 43 ∧ s 43 ≤ 8 := hN
  refine v_sipush hG dX12_goodOf_0 (by decide) ?_
  refine v_istore_n (lo' := [(2, vI 999), (0, .ref (a 0)), (1, vI x)]) hG dX12_goodOf_3 rfl (by decide) rfl ?_
  refine v_lo [1, 2, 0] (lo' := [(0, .ref (a 0)), (1, vI x), (2, vI 999)]) rfl ?_
  have L2 : ∀ mz : Nat, ∀ (j : Nat), ((j : Int) ≤ 1000) → (gdown (okF s x) 1000 = gdown (okF s x) j) → j = mz → ∀ x1 : Int, x1 = ((j : Int) - 1) → V G 0 0 (MW D A a s im fr bY tr ln bl bo g lg) 4 [(0, .ref (a 0)), (1, vI x), (2, vI x1)] [] := by
    intro dL2
    induction dL2 using Nat.strongRecOn with
    | ind dL2 ihL2 =>
      intro j h3 h4 h5
      intro x1 hx1
      subst hx1
      refine v_iload_n hG dX12_goodOf_4 rfl 2 rfl ?_
      refine v_if_lt (tgt := 76) hG dX12_goodOf_5 (by decide) (by omega) (fun c6 => ?_) (fun c6 => ?_)
      · skip
        refine v_bipush hG dX12_goodOf_76 (by decide) ?_
        have e7 : @Eq Int (q_goodOf s x) (-5) := by first | exact goodOf_0 (by assumption) | exact goodOf_none (by assumption) (by omega)
        exact v_ireturn hG hR dX12_goodOf_78 () (congrArg (fun z => some (vI z)) e7) (by exact q_goodOf_rng s x) (fun _ hM => hM)
      · skip
        refine v_iload_n hG dX12_goodOf_8 rfl 1 rfl ?_
        refine v_if_eq (tgt := 76) hG dX12_goodOf_9 (by decide) (by omega) (fun c8 => ?_) (fun c8 => ?_)
        · skip
          refine v_bipush hG dX12_goodOf_76 (by decide) ?_
          have e9 : @Eq Int (q_goodOf s x) (-5) := by first | exact goodOf_0 (by assumption) | exact goodOf_none (by assumption) (by omega)
          exact v_ireturn hG hR dX12_goodOf_78 () (congrArg (fun z => some (vI z)) e9) (by exact q_goodOf_rng s x) (fun _ hM => hM)
        · skip
          refine v_iconst hG dX12_goodOf_12 ?_
          refine v_istore_n (lo' := [(3, vI 1), (0, .ref (a 0)), (1, vI x), (2, vI ((j : Int) - 1))]) hG dX12_goodOf_13 rfl (by decide) rfl ?_
          refine v_iconst hG dX12_goodOf_14 ?_
          refine v_istore (lo' := [(4, vI 0), (3, vI 1), (0, .ref (a 0)), (1, vI x), (2, vI ((j : Int) - 1))]) hG dX12_goodOf_15 (by decide) rfl ?_
          refine v_lo [2, 3, 4, 1, 0] (lo' := [(0, .ref (a 0)), (1, vI x), (2, vI ((j : Int) - 1)), (3, vI 1), (4, vI 0)]) rfl ?_
          have L12 : ∀ mz : Nat, ∀ (k : Nat), ((k : Int) ≤ s 43) → (s 43 - (k : Int)).toNat = mz → ∀ x10 : Int, x10 = ((k : Int)) → ∀ x11 : Int, x11 = (bi (allM (goodF s x ((j : Int) - 1)) k = true)) → V G 0 0 (MW D A a s im fr bY tr ln bl bo g lg) 17 [(0, .ref (a 0)), (1, vI x), (2, vI ((j : Int) - 1)), (3, vI x11), (4, vI x10)] [] := by
            intro dL12
            induction dL12 using Nat.strongRecOn with
            | ind dL12 ihL12 =>
              intro k h13 h14
              intro x10 hx10
              subst hx10
              intro x11 hx11
              subst hx11
              refine v_iload hG dX12_goodOf_17 4 rfl ?_
              refine v_aload_n hG dX12_goodOf_19 rfl 0 rfl ?_
              refine mg_s hG dX12_goodOf_20 ?_
              refine v_bipush hG dX12_goodOf_23 (by decide) ?_
              refine ma_s (z := s 43) hG dX12_goodOf_25 (by omega) rfl ?_
              refine v_icmp_ge (tgt := 64) hG dX12_goodOf_26 (by decide) (by omega) (by omega) (fun c15 => ?_) (fun c15 => ?_)
              · skip
                refine v_iload_n hG dX12_goodOf_64 rfl 3 rfl ?_
                refine v_ifb_eq (p := allM (goodF s x ((j : Int) - 1)) k = true) (tgt := 70) hG dX12_goodOf_65 (by decide) (fun c16 => ?_) (fun c16 => ?_)
                · skip
                  refine v_iinc (lo' := [(2, vI (((j : Int) - 1) + (-1))), (0, .ref (a 0)), (1, vI x), (3, vI (bi (allM (goodF s x ((j : Int) - 1)) k = true))), (4, vI (k : Int))]) hG dX12_goodOf_70 2 rfl (by decide) rfl ?_
                  refine v_goto (tgt := 4) hG dX12_goodOf_73 (by decide) ?_
                  refine v_lo [1, 2, 0] (lo' := [(0, .ref (a 0)), (1, vI x), (2, vI (((j : Int) - 1) + (-1)))]) rfl ?_
                  exact ihL2 _ (by omega) (j - 1) (by omega) (by exact goodOf_back (by assumption) (by omega) (by assumption) (by omega)) rfl _ (by omega)
                · skip
                  refine v_iload_n hG dX12_goodOf_68 rfl 2 rfl ?_
                  have e17 : @Eq Int (q_goodOf s x) ((j : Int) - 1) := by first | exact goodOf_hit (by assumption) (by assumption) (by omega) (by assumption) (by omega) | exact absurd (by assumption) (by assumption)
                  exact v_ireturn hG hR dX12_goodOf_69 () (congrArg (fun z => some (vI z)) e17) (by exact q_goodOf_rng s x) (fun _ hM => hM)
              · skip
                refine v_iload_n hG dX12_goodOf_29 rfl 3 rfl ?_
                refine v_ifb_eq (p := allM (goodF s x ((j : Int) - 1)) k = true) (tgt := 64) hG dX12_goodOf_30 (by decide) (fun c18 => ?_) (fun c18 => ?_)
                · skip
                  refine v_iload_n hG dX12_goodOf_64 rfl 3 rfl ?_
                  refine v_ifb_eq (p := allM (goodF s x ((j : Int) - 1)) k = true) (tgt := 70) hG dX12_goodOf_65 (by decide) (fun c19 => ?_) (fun c19 => ?_)
                  · skip
                    refine v_iinc (lo' := [(2, vI (((j : Int) - 1) + (-1))), (0, .ref (a 0)), (1, vI x), (3, vI (bi (allM (goodF s x ((j : Int) - 1)) k = true))), (4, vI (k : Int))]) hG dX12_goodOf_70 2 rfl (by decide) rfl ?_
                    refine v_goto (tgt := 4) hG dX12_goodOf_73 (by decide) ?_
                    refine v_lo [1, 2, 0] (lo' := [(0, .ref (a 0)), (1, vI x), (2, vI (((j : Int) - 1) + (-1)))]) rfl ?_
                    exact ihL2 _ (by omega) (j - 1) (by omega) (by exact goodOf_back (by assumption) (by omega) (by assumption) (by omega)) rfl _ (by omega)
                  · skip
                    refine v_iload_n hG dX12_goodOf_68 rfl 2 rfl ?_
                    have e20 : @Eq Int (q_goodOf s x) ((j : Int) - 1) := by first | exact goodOf_hit (by assumption) (by assumption) (by omega) (by assumption) (by omega) | exact absurd (by assumption) (by assumption)
                    exact v_ireturn hG hR dX12_goodOf_69 () (congrArg (fun z => some (vI z)) e20) (by exact q_goodOf_rng s x) (fun _ hM => hM)
                · skip
                  refine v_iload_n hG dX12_goodOf_33 rfl 1 rfl ?_
                  refine v_iload hG dX12_goodOf_34 4 rfl ?_
                  have hsh := sh_rng (x := x) (k := k) (by omega)
                  have hi1 := iand1_rng hsh
                  refine v_ishr hG dX12_goodOf_36 (by omega) (by omega) ?_
                  refine v_iconst hG dX12_goodOf_37 ?_
                  refine v_iand hG dX12_goodOf_38 ?_
                  refine v_if_eq (tgt := 52) hG dX12_goodOf_39 (by decide) (by omega) (fun c21 => ?_) (fun c21 => ?_)
                  · skip
                    refine v_iconst hG dX12_goodOf_52 ?_
                    refine v_goto (tgt := 57) hG dX12_goodOf_53 (by decide) ?_
                    refine v_istore_n (lo' := [(3, vI 1), (0, .ref (a 0)), (1, vI x), (2, vI ((j : Int) - 1)), (4, vI (k : Int))]) hG dX12_goodOf_57 rfl (by decide) rfl ?_
                    refine v_iinc (lo' := [(4, vI ((k : Int) + 1)), (3, vI 1), (0, .ref (a 0)), (1, vI x), (2, vI ((j : Int) - 1))]) hG dX12_goodOf_58 4 rfl (by decide) rfl ?_
                    refine v_goto (tgt := 17) hG dX12_goodOf_61 (by decide) ?_
                    refine v_lo [2, 3, 4, 1, 0] (lo' := [(0, .ref (a 0)), (1, vI x), (2, vI ((j : Int) - 1)), (3, vI 1), (4, vI ((k : Int) + 1))]) rfl ?_
                    exact ihL12 _ (by omega) (k + 1) (by omega) rfl _ (by first | omega | rfl | (simp [c6, c8, c15, c18, c21]; done)) _ (by first | exact allM_t (by assumption) (goodF_t1 (by assumption)) | exact allM_t (by assumption) (goodF_t2 (by assumption)) | exact allM_f (goodF_f (by assumption) (by assumption)))
                  · skip
                    refine v_aload_n hG dX12_goodOf_42 rfl 0 rfl ?_
                    refine v_iload hG dX12_goodOf_43 4 rfl ?_
                    refine v_iload_n hG dX12_goodOf_45 rfl 2 rfl ?_
                    refine v_callV (k1' := 0) (k2' := 0) hG dX12_goodOf_46 zc_X12_doesPrint ⟨zl_X12_187, zi_X12_doesPrint, zs_X12_doesPrint⟩ (fun l => k_doesPrint l D A a s im fr bY tr ln bl bo g lg (k : Int) ((j : Int) - 1) (by omega) (by first | assumption | (exact hM _ (by omega) (by omega))) (by assumption) (by omega)) rfl mw_recv (fun _ h => h) ⟨by decide, by decide⟩ rfl rfl ⟨by decide, by decide⟩ (rest := []) rfl (Nat.le_of_ble_eq_true rfl) (fun u22 => [vI (bi (0 < q_dk s (k : Int) ((j : Int) - 1)))]) (fun _ => rfl) (fun u22 hu22 => ?_)
                    refine v_ifb_eq (p := 0 < q_dk s (k : Int) ((j : Int) - 1)) (tgt := 56) hG dX12_goodOf_49 (by decide) (fun c23 => ?_) (fun c23 => ?_)
                    · skip
                      refine v_iconst hG dX12_goodOf_56 ?_
                      refine v_istore_n (lo' := [(3, vI 0), (0, .ref (a 0)), (1, vI x), (2, vI ((j : Int) - 1)), (4, vI (k : Int))]) hG dX12_goodOf_57 rfl (by decide) rfl ?_
                      refine v_iinc (lo' := [(4, vI ((k : Int) + 1)), (3, vI 0), (0, .ref (a 0)), (1, vI x), (2, vI ((j : Int) - 1))]) hG dX12_goodOf_58 4 rfl (by decide) rfl ?_
                      refine v_goto (tgt := 17) hG dX12_goodOf_61 (by decide) ?_
                      refine v_lo [2, 3, 4, 1, 0] (lo' := [(0, .ref (a 0)), (1, vI x), (2, vI ((j : Int) - 1)), (3, vI 0), (4, vI ((k : Int) + 1))]) rfl ?_
                      exact ihL12 _ (by omega) (k + 1) (by omega) rfl _ (by first | omega | rfl | (simp [c6, c8, c15, c18, c21, c23]; done)) _ (by first | exact allM_t (by assumption) (goodF_t1 (by assumption)) | exact allM_t (by assumption) (goodF_t2 (by assumption)) | exact allM_f (goodF_f (by assumption) (by assumption)))
                    · skip
                      refine v_iconst hG dX12_goodOf_52 ?_
                      refine v_goto (tgt := 57) hG dX12_goodOf_53 (by decide) ?_
                      refine v_istore_n (lo' := [(3, vI 1), (0, .ref (a 0)), (1, vI x), (2, vI ((j : Int) - 1)), (4, vI (k : Int))]) hG dX12_goodOf_57 rfl (by decide) rfl ?_
                      refine v_iinc (lo' := [(4, vI ((k : Int) + 1)), (3, vI 1), (0, .ref (a 0)), (1, vI x), (2, vI ((j : Int) - 1))]) hG dX12_goodOf_58 4 rfl (by decide) rfl ?_
                      refine v_goto (tgt := 17) hG dX12_goodOf_61 (by decide) ?_
                      refine v_lo [2, 3, 4, 1, 0] (lo' := [(0, .ref (a 0)), (1, vI x), (2, vI ((j : Int) - 1)), (3, vI 1), (4, vI ((k : Int) + 1))]) rfl ?_
                      exact ihL12 _ (by omega) (k + 1) (by omega) rfl _ (by first | omega | rfl | (simp [c6, c8, c15, c18, c21, c23]; done)) _ (by first | exact allM_t (by assumption) (goodF_t1 (by assumption)) | exact allM_t (by assumption) (goodF_t2 (by assumption)) | exact allM_f (goodF_f (by assumption) (by assumption)))
          exact L12 _ 0 (by omega) rfl _ (by first | omega | rfl | (simp [c6, c8]; done)) _ (by exact (bi_pos rfl).symm)
  exact L2 _ 1000 (by omega) (by rfl) rfl _ (by first | omega | rfl | (simp []; done))
