/-! A NEW MARK -/
set_option maxHeartbeats 4000000 in
set_option maxRecDepth 100000 in
theorem knew_0 (l : Launch) (D : Dx) (a : Nat) (nu : Int) (vv : Int) (pl : Int) (dp : Int) : CT l D (fun q => a ≤ q) yX11_newMark cX11_newMark 5 (some (.object "MirrorPlate$Mark")) { frames := 4, cells := 2, slots := 14, locals := 96 } [vI 0, vI nu, vI vv, vI pl, vI dp] (FZ D a []) (fun _ : Unit => some (.ref (a + 0))) (fun _ => True) (fun _ => FZ D a [.inr (4, [vI 0, vI nu, vI vv, vI pl, vI dp, vI 0, vI 0, vI 0, vI 0])]) := by
  refine ct_of (lo0 := [(0, vI 0), (1, vI nu), (2, vI vv), (3, vI pl), (4, vI dp)]) (by decide) (Nat.le_of_ble_eq_true rfl) rfl ?_
  intro G hG hR
  have hA : ∀ q, a ≤ q → a ≤ q := fun q h => h
  refine v_iload_n hG dX11_newMark_0 rfl 0 rfl ?_
  refine v_tabOut (tgt := 124) hG dX11_newMark_1 (by decide) (by decide) (by decide) ?_
  refine fz_new (n := a + 0) (fs := [vI 0, vI 0, vI 0, vI 0, vI 0, vI 0, vI 0, vI 0, vI 0]) (L' := [.inr (4, [vI 0, vI 0, vI 0, vI 0, vI 0, vI 0, vI 0, vI 0, vI 0])]) hG dX11_newMark_124 zcl4 ⟨ztb 539 (by decide +kernel) (by decide +kernel), ztb 82 (by decide +kernel) (by decide +kernel), ztb 4 (by decide +kernel) (by decide +kernel)⟩ (fun j hj => match j, hj with | 0, _ => rfl | 1, _ => rfl | 2, _ => rfl | 3, _ => rfl | 4, _ => rfl | 5, _ => rfl | 6, _ => rfl | 7, _ => rfl | 8, _ => rfl | q + 9, h => absurd h (by omega)) ⟨by decide, by decide⟩ rfl rfl ?_
  refine v_dup hG dX11_newMark_127 rfl ?_
  refine v_iload_n hG dX11_newMark_128 rfl 0 rfl ?_
  refine v_iload_n hG dX11_newMark_129 rfl 1 rfl ?_
  refine v_iload_n hG dX11_newMark_130 rfl 2 rfl ?_
  refine v_iload_n hG dX11_newMark_131 rfl 3 rfl ?_
  refine v_iload hG dX11_newMark_132 4 rfl ?_
  refine v_callI (k1' := 1) (k2' := 9) hG dX11_newMark_134 zc_X4_init ⟨zl_X11_313, zi_X4_init⟩ rfl (fun l => CT_fz (a := a) (n := 0) (L := []) (X := [.inr (4, [vI 0, vI 0, vI 0, vI 0, vI 0, vI 0, vI 0, vI 0, vI 0])]) (X' := [.inr (4, [vI 0, vI nu, vI vv, vI pl, vI dp, vI 0, vI 0, vI 0, vI 0])]) hA rfl rfl rfl (kn4_4 l D (a + 0) 0 nu vv pl dp)) rfl (fun _ h => h) ⟨by decide, by decide⟩ rfl rfl ⟨by decide, by decide⟩ (rest := [.ref (a + 0)]) rfl (Nat.le_of_ble_eq_true rfl) (fun _ => [.ref (a + 0)]) (fun _ => rfl) (fun _ _ => ?_)
  refine v_widen (k1' := 2) (k2' := 14) (by decide) (by decide) ?_
  exact v_areturn hG hR dX11_newMark_137 (Or.inr ⟨_, rfl⟩) () rfl trivial (fun _ h => h)
set_option maxHeartbeats 4000000 in
set_option maxRecDepth 100000 in
theorem knew_1 (l : Launch) (D : Dx) (a : Nat) (nu : Int) (vv : Int) (pl : Int) (dp : Int) : CT l D (fun q => a ≤ q) yX11_newMark cX11_newMark 5 (some (.object "MirrorPlate$Mark")) { frames := 4, cells := 2, slots := 14, locals := 96 } [vI 1, vI nu, vI vv, vI pl, vI dp] (FZ D a []) (fun _ : Unit => some (.ref (a + 0))) (fun _ => True) (fun _ => FZ D a [.inr (3, [vI 1, vI nu, vI vv, vI pl, vI dp, vI 0, vI 0, vI 0, vI 0])]) := by
  refine ct_of (lo0 := [(0, vI 1), (1, vI nu), (2, vI vv), (3, vI pl), (4, vI dp)]) (by decide) (Nat.le_of_ble_eq_true rfl) rfl ?_
  intro G hG hR
  have hA : ∀ q, a ≤ q → a ≤ q := fun q h => h
  refine v_iload_n hG dX11_newMark_0 rfl 0 rfl ?_
  refine v_tabIn (tgt := 40) hG dX11_newMark_1 1 rfl (by decide) (by decide) (by decide) rfl (by decide) ?_
  refine fz_new (n := a + 0) (fs := [vI 0, vI 0, vI 0, vI 0, vI 0, vI 0, vI 0, vI 0, vI 0]) (L' := [.inr (3, [vI 0, vI 0, vI 0, vI 0, vI 0, vI 0, vI 0, vI 0, vI 0])]) hG dX11_newMark_40 zcl3 ⟨ztb 440 (by decide +kernel) (by decide +kernel), ztb 441 (by decide +kernel) (by decide +kernel), ztb 14 (by decide +kernel) (by decide +kernel)⟩ (fun j hj => match j, hj with | 0, _ => rfl | 1, _ => rfl | 2, _ => rfl | 3, _ => rfl | 4, _ => rfl | 5, _ => rfl | 6, _ => rfl | 7, _ => rfl | 8, _ => rfl | q + 9, h => absurd h (by omega)) ⟨by decide, by decide⟩ rfl rfl ?_
  refine v_dup hG dX11_newMark_43 rfl ?_
  refine v_iload_n hG dX11_newMark_44 rfl 0 rfl ?_
  refine v_iload_n hG dX11_newMark_45 rfl 1 rfl ?_
  refine v_iload_n hG dX11_newMark_46 rfl 2 rfl ?_
  refine v_iload_n hG dX11_newMark_47 rfl 3 rfl ?_
  refine v_iload hG dX11_newMark_48 4 rfl ?_
  refine v_callI (k1' := 1) (k2' := 9) hG dX11_newMark_50 zc_X3_init ⟨zl_X11_297, zi_X3_init⟩ rfl (fun l => CT_fz (a := a) (n := 0) (L := []) (X := [.inr (3, [vI 0, vI 0, vI 0, vI 0, vI 0, vI 0, vI 0, vI 0, vI 0])]) (X' := [.inr (3, [vI 1, vI nu, vI vv, vI pl, vI dp, vI 0, vI 0, vI 0, vI 0])]) hA rfl rfl rfl (kn3_3 l D (a + 0) 1 nu vv pl dp)) rfl (fun _ h => h) ⟨by decide, by decide⟩ rfl rfl ⟨by decide, by decide⟩ (rest := [.ref (a + 0)]) rfl (Nat.le_of_ble_eq_true rfl) (fun _ => [.ref (a + 0)]) (fun _ => rfl) (fun _ _ => ?_)
  refine v_widen (k1' := 2) (k2' := 14) (by decide) (by decide) ?_
  exact v_areturn hG hR dX11_newMark_53 (Or.inr ⟨_, rfl⟩) () rfl trivial (fun _ h => h)
set_option maxHeartbeats 4000000 in
set_option maxRecDepth 100000 in
theorem knew_2 (l : Launch) (D : Dx) (a : Nat) (nu : Int) (vv : Int) (pl : Int) (dp : Int) : CT l D (fun q => a ≤ q) yX11_newMark cX11_newMark 5 (some (.object "MirrorPlate$Mark")) { frames := 4, cells := 2, slots := 14, locals := 96 } [vI 2, vI nu, vI vv, vI pl, vI dp] (FZ D a []) (fun _ : Unit => some (.ref (a + 0))) (fun _ => True) (fun _ => FZ D a [.inr (2, [vI 2, vI nu, vI vv, vI pl, vI dp, vI 0, vI 0, vI 0, vI 0])]) := by
  refine ct_of (lo0 := [(0, vI 2), (1, vI nu), (2, vI vv), (3, vI pl), (4, vI dp)]) (by decide) (Nat.le_of_ble_eq_true rfl) rfl ?_
  intro G hG hR
  have hA : ∀ q, a ≤ q → a ≤ q := fun q h => h
  refine v_iload_n hG dX11_newMark_0 rfl 0 rfl ?_
  refine v_tabIn (tgt := 54) hG dX11_newMark_1 2 rfl (by decide) (by decide) (by decide) rfl (by decide) ?_
  refine fz_new (n := a + 0) (fs := [vI 0, vI 0, vI 0, vI 0, vI 0, vI 0, vI 0, vI 0, vI 0]) (L' := [.inr (2, [vI 0, vI 0, vI 0, vI 0, vI 0, vI 0, vI 0, vI 0, vI 0])]) hG dX11_newMark_54 zcl2 ⟨ztb 456 (by decide +kernel) (by decide +kernel), ztb 457 (by decide +kernel) (by decide +kernel), ztb 15 (by decide +kernel) (by decide +kernel)⟩ (fun j hj => match j, hj with | 0, _ => rfl | 1, _ => rfl | 2, _ => rfl | 3, _ => rfl | 4, _ => rfl | 5, _ => rfl | 6, _ => rfl | 7, _ => rfl | 8, _ => rfl | q + 9, h => absurd h (by omega)) ⟨by decide, by decide⟩ rfl rfl ?_
  refine v_dup hG dX11_newMark_57 rfl ?_
  refine v_iload_n hG dX11_newMark_58 rfl 0 rfl ?_
  refine v_iload_n hG dX11_newMark_59 rfl 1 rfl ?_
  refine v_iload_n hG dX11_newMark_60 rfl 2 rfl ?_
  refine v_iload_n hG dX11_newMark_61 rfl 3 rfl ?_
  refine v_iload hG dX11_newMark_62 4 rfl ?_
  refine v_callI (k1' := 1) (k2' := 9) hG dX11_newMark_64 zc_X2_init ⟨zl_X11_302, zi_X2_init⟩ rfl (fun l => CT_fz (a := a) (n := 0) (L := []) (X := [.inr (2, [vI 0, vI 0, vI 0, vI 0, vI 0, vI 0, vI 0, vI 0, vI 0])]) (X' := [.inr (2, [vI 2, vI nu, vI vv, vI pl, vI dp, vI 0, vI 0, vI 0, vI 0])]) hA rfl rfl rfl (kn2_2 l D (a + 0) 2 nu vv pl dp)) rfl (fun _ h => h) ⟨by decide, by decide⟩ rfl rfl ⟨by decide, by decide⟩ (rest := [.ref (a + 0)]) rfl (Nat.le_of_ble_eq_true rfl) (fun _ => [.ref (a + 0)]) (fun _ => rfl) (fun _ _ => ?_)
  refine v_widen (k1' := 2) (k2' := 14) (by decide) (by decide) ?_
  exact v_areturn hG hR dX11_newMark_67 (Or.inr ⟨_, rfl⟩) () rfl trivial (fun _ h => h)
set_option maxHeartbeats 4000000 in
set_option maxRecDepth 100000 in
theorem knew_3 (l : Launch) (D : Dx) (a : Nat) (nu : Int) (vv : Int) (pl : Int) (dp : Int) : CT l D (fun q => a ≤ q) yX11_newMark cX11_newMark 5 (some (.object "MirrorPlate$Mark")) { frames := 4, cells := 2, slots := 14, locals := 96 } [vI 3, vI nu, vI vv, vI pl, vI dp] (FZ D a []) (fun _ : Unit => some (.ref (a + 0))) (fun _ => True) (fun _ => FZ D a [.inr (5, [vI 3, vI nu, vI vv, vI pl, vI dp, vI 0, vI 0, vI 0, vI 0])]) := by
  refine ct_of (lo0 := [(0, vI 3), (1, vI nu), (2, vI vv), (3, vI pl), (4, vI dp)]) (by decide) (Nat.le_of_ble_eq_true rfl) rfl ?_
  intro G hG hR
  have hA : ∀ q, a ≤ q → a ≤ q := fun q h => h
  refine v_iload_n hG dX11_newMark_0 rfl 0 rfl ?_
  refine v_tabIn (tgt := 68) hG dX11_newMark_1 3 rfl (by decide) (by decide) (by decide) rfl (by decide) ?_
  refine fz_new (n := a + 0) (fs := [vI 0, vI 0, vI 0, vI 0, vI 0, vI 0, vI 0, vI 0, vI 0]) (L' := [.inr (5, [vI 0, vI 0, vI 0, vI 0, vI 0, vI 0, vI 0, vI 0, vI 0])]) hG dX11_newMark_68 zcl5 ⟨ztb 472 (by decide +kernel) (by decide +kernel), ztb 473 (by decide +kernel) (by decide +kernel), ztb 16 (by decide +kernel) (by decide +kernel)⟩ (fun j hj => match j, hj with | 0, _ => rfl | 1, _ => rfl | 2, _ => rfl | 3, _ => rfl | 4, _ => rfl | 5, _ => rfl | 6, _ => rfl | 7, _ => rfl | 8, _ => rfl | q + 9, h => absurd h (by omega)) ⟨by decide, by decide⟩ rfl rfl ?_
  refine v_dup hG dX11_newMark_71 rfl ?_
  refine v_iload_n hG dX11_newMark_72 rfl 0 rfl ?_
  refine v_iload_n hG dX11_newMark_73 rfl 1 rfl ?_
  refine v_iload_n hG dX11_newMark_74 rfl 2 rfl ?_
  refine v_iload_n hG dX11_newMark_75 rfl 3 rfl ?_
  refine v_iload hG dX11_newMark_76 4 rfl ?_
  refine v_callI (k1' := 1) (k2' := 9) hG dX11_newMark_78 zc_X5_init ⟨zl_X11_305, zi_X5_init⟩ rfl (fun l => CT_fz (a := a) (n := 0) (L := []) (X := [.inr (5, [vI 0, vI 0, vI 0, vI 0, vI 0, vI 0, vI 0, vI 0, vI 0])]) (X' := [.inr (5, [vI 3, vI nu, vI vv, vI pl, vI dp, vI 0, vI 0, vI 0, vI 0])]) hA rfl rfl rfl (kn5_5 l D (a + 0) 3 nu vv pl dp)) rfl (fun _ h => h) ⟨by decide, by decide⟩ rfl rfl ⟨by decide, by decide⟩ (rest := [.ref (a + 0)]) rfl (Nat.le_of_ble_eq_true rfl) (fun _ => [.ref (a + 0)]) (fun _ => rfl) (fun _ _ => ?_)
  refine v_widen (k1' := 2) (k2' := 14) (by decide) (by decide) ?_
  exact v_areturn hG hR dX11_newMark_81 (Or.inr ⟨_, rfl⟩) () rfl trivial (fun _ h => h)
set_option maxHeartbeats 4000000 in
set_option maxRecDepth 100000 in
theorem knew_4 (l : Launch) (D : Dx) (a : Nat) (nu : Int) (vv : Int) (pl : Int) (dp : Int) : CT l D (fun q => a ≤ q) yX11_newMark cX11_newMark 5 (some (.object "MirrorPlate$Mark")) { frames := 4, cells := 2, slots := 14, locals := 96 } [vI 4, vI nu, vI vv, vI pl, vI dp] (FZ D a []) (fun _ : Unit => some (.ref (a + 0))) (fun _ => True) (fun _ => FZ D a [.inr (1, [vI 4, vI nu, vI vv, vI pl, vI dp, vI 0, vI 0, vI 0, vI 0])]) := by
  refine ct_of (lo0 := [(0, vI 4), (1, vI nu), (2, vI vv), (3, vI pl), (4, vI dp)]) (by decide) (Nat.le_of_ble_eq_true rfl) rfl ?_
  intro G hG hR
  have hA : ∀ q, a ≤ q → a ≤ q := fun q h => h
  refine v_iload_n hG dX11_newMark_0 rfl 0 rfl ?_
  refine v_tabIn (tgt := 82) hG dX11_newMark_1 4 rfl (by decide) (by decide) (by decide) rfl (by decide) ?_
  refine fz_new (n := a + 0) (fs := [vI 0, vI 0, vI 0, vI 0, vI 0, vI 0, vI 0, vI 0, vI 0]) (L' := [.inr (1, [vI 0, vI 0, vI 0, vI 0, vI 0, vI 0, vI 0, vI 0, vI 0])]) hG dX11_newMark_82 zcl1 ⟨ztb 488 (by decide +kernel) (by decide +kernel), ztb 489 (by decide +kernel) (by decide +kernel), ztb 17 (by decide +kernel) (by decide +kernel)⟩ (fun j hj => match j, hj with | 0, _ => rfl | 1, _ => rfl | 2, _ => rfl | 3, _ => rfl | 4, _ => rfl | 5, _ => rfl | 6, _ => rfl | 7, _ => rfl | 8, _ => rfl | q + 9, h => absurd h (by omega)) ⟨by decide, by decide⟩ rfl rfl ?_
  refine v_dup hG dX11_newMark_85 rfl ?_
  refine v_iload_n hG dX11_newMark_86 rfl 0 rfl ?_
  refine v_iload_n hG dX11_newMark_87 rfl 1 rfl ?_
  refine v_iload_n hG dX11_newMark_88 rfl 2 rfl ?_
  refine v_iload_n hG dX11_newMark_89 rfl 3 rfl ?_
  refine v_iload hG dX11_newMark_90 4 rfl ?_
  refine v_callI (k1' := 1) (k2' := 9) hG dX11_newMark_92 zc_X1_init ⟨zl_X11_308, zi_X1_init⟩ rfl (fun l => CT_fz (a := a) (n := 0) (L := []) (X := [.inr (1, [vI 0, vI 0, vI 0, vI 0, vI 0, vI 0, vI 0, vI 0, vI 0])]) (X' := [.inr (1, [vI 4, vI nu, vI vv, vI pl, vI dp, vI 0, vI 0, vI 0, vI 0])]) hA rfl rfl rfl (kn1_1 l D (a + 0) 4 nu vv pl dp)) rfl (fun _ h => h) ⟨by decide, by decide⟩ rfl rfl ⟨by decide, by decide⟩ (rest := [.ref (a + 0)]) rfl (Nat.le_of_ble_eq_true rfl) (fun _ => [.ref (a + 0)]) (fun _ => rfl) (fun _ _ => ?_)
  refine v_widen (k1' := 2) (k2' := 14) (by decide) (by decide) ?_
  exact v_areturn hG hR dX11_newMark_95 (Or.inr ⟨_, rfl⟩) () rfl trivial (fun _ h => h)
set_option maxHeartbeats 4000000 in
set_option maxRecDepth 100000 in
theorem knew_5 (l : Launch) (D : Dx) (a : Nat) (nu : Int) (vv : Int) (pl : Int) (dp : Int) : CT l D (fun q => a ≤ q) yX11_newMark cX11_newMark 5 (some (.object "MirrorPlate$Mark")) { frames := 4, cells := 2, slots := 14, locals := 96 } [vI 5, vI nu, vI vv, vI pl, vI dp] (FZ D a []) (fun _ : Unit => some (.ref (a + 0))) (fun _ => True) (fun _ => FZ D a [.inr (10, [vI 5, vI nu, vI vv, vI pl, vI dp, vI 0, vI 0, vI 0, vI 0])]) := by
  refine ct_of (lo0 := [(0, vI 5), (1, vI nu), (2, vI vv), (3, vI pl), (4, vI dp)]) (by decide) (Nat.le_of_ble_eq_true rfl) rfl ?_
  intro G hG hR
  have hA : ∀ q, a ≤ q → a ≤ q := fun q h => h
  refine v_iload_n hG dX11_newMark_0 rfl 0 rfl ?_
  refine v_tabIn (tgt := 96) hG dX11_newMark_1 5 rfl (by decide) (by decide) (by decide) rfl (by decide) ?_
  refine fz_new (n := a + 0) (fs := [vI 0, vI 0, vI 0, vI 0, vI 0, vI 0, vI 0, vI 0, vI 0]) (L' := [.inr (10, [vI 0, vI 0, vI 0, vI 0, vI 0, vI 0, vI 0, vI 0, vI 0])]) hG dX11_newMark_96 zcl10 ⟨ztb 504 (by decide +kernel) (by decide +kernel), ztb 505 (by decide +kernel) (by decide +kernel), ztb 18 (by decide +kernel) (by decide +kernel)⟩ (fun j hj => match j, hj with | 0, _ => rfl | 1, _ => rfl | 2, _ => rfl | 3, _ => rfl | 4, _ => rfl | 5, _ => rfl | 6, _ => rfl | 7, _ => rfl | 8, _ => rfl | q + 9, h => absurd h (by omega)) ⟨by decide, by decide⟩ rfl rfl ?_
  refine v_dup hG dX11_newMark_99 rfl ?_
  refine v_iload_n hG dX11_newMark_100 rfl 0 rfl ?_
  refine v_iload_n hG dX11_newMark_101 rfl 1 rfl ?_
  refine v_iload_n hG dX11_newMark_102 rfl 2 rfl ?_
  refine v_iload_n hG dX11_newMark_103 rfl 3 rfl ?_
  refine v_iload hG dX11_newMark_104 4 rfl ?_
  refine v_callI (k1' := 1) (k2' := 9) hG dX11_newMark_106 zc_X10_init ⟨zl_X11_311, zi_X10_init⟩ rfl (fun l => CT_fz (a := a) (n := 0) (L := []) (X := [.inr (10, [vI 0, vI 0, vI 0, vI 0, vI 0, vI 0, vI 0, vI 0, vI 0])]) (X' := [.inr (10, [vI 5, vI nu, vI vv, vI pl, vI dp, vI 0, vI 0, vI 0, vI 0])]) hA rfl rfl rfl (kn10_10 l D (a + 0) 5 nu vv pl dp)) rfl (fun _ h => h) ⟨by decide, by decide⟩ rfl rfl ⟨by decide, by decide⟩ (rest := [.ref (a + 0)]) rfl (Nat.le_of_ble_eq_true rfl) (fun _ => [.ref (a + 0)]) (fun _ => rfl) (fun _ _ => ?_)
  refine v_widen (k1' := 2) (k2' := 14) (by decide) (by decide) ?_
  exact v_areturn hG hR dX11_newMark_109 (Or.inr ⟨_, rfl⟩) () rfl trivial (fun _ h => h)
set_option maxHeartbeats 4000000 in
set_option maxRecDepth 100000 in
theorem knew_6 (l : Launch) (D : Dx) (a : Nat) (nu : Int) (vv : Int) (pl : Int) (dp : Int) : CT l D (fun q => a ≤ q) yX11_newMark cX11_newMark 5 (some (.object "MirrorPlate$Mark")) { frames := 4, cells := 2, slots := 14, locals := 96 } [vI 6, vI nu, vI vv, vI pl, vI dp] (FZ D a []) (fun _ : Unit => some (.ref (a + 0))) (fun _ => True) (fun _ => FZ D a [.inr (8, [vI 6, vI nu, vI vv, vI pl, vI dp, vI 0, vI 0, vI 0, vI 0, .ref (a + 1)]), .inl (D.2.1, ra 4 (fun _ => 0))]) := by
  refine ct_of (lo0 := [(0, vI 6), (1, vI nu), (2, vI vv), (3, vI pl), (4, vI dp)]) (by decide) (Nat.le_of_ble_eq_true rfl) rfl ?_
  intro G hG hR
  have hA : ∀ q, a ≤ q → a ≤ q := fun q h => h
  refine v_iload_n hG dX11_newMark_0 rfl 0 rfl ?_
  refine v_tabIn (tgt := 110) hG dX11_newMark_1 6 rfl (by decide) (by decide) (by decide) rfl (by decide) ?_
  refine fz_new (n := a + 0) (fs := [vI 0, vI 0, vI 0, vI 0, vI 0, vI 0, vI 0, vI 0, vI 0, .null]) (L' := [.inr (8, [vI 0, vI 0, vI 0, vI 0, vI 0, vI 0, vI 0, vI 0, vI 0, .null])]) hG dX11_newMark_110 zcl8 ⟨ztb 520 (by decide +kernel) (by decide +kernel), ztb 521 (by decide +kernel) (by decide +kernel), ztb 19 (by decide +kernel) (by decide +kernel)⟩ (fun j hj => match j, hj with | 0, _ => rfl | 1, _ => rfl | 2, _ => rfl | 3, _ => rfl | 4, _ => rfl | 5, _ => rfl | 6, _ => rfl | 7, _ => rfl | 8, _ => rfl | 9, _ => rfl | q + 10, h => absurd h (by omega)) ⟨by decide, by decide⟩ rfl rfl ?_
  refine v_dup hG dX11_newMark_113 rfl ?_
  refine v_iload_n hG dX11_newMark_114 rfl 0 rfl ?_
  refine v_iload_n hG dX11_newMark_115 rfl 1 rfl ?_
  refine v_iload_n hG dX11_newMark_116 rfl 2 rfl ?_
  refine v_iload_n hG dX11_newMark_117 rfl 3 rfl ?_
  refine v_iload hG dX11_newMark_118 4 rfl ?_
  refine v_callI (k1' := 2) (k2' := 14) hG dX11_newMark_120 zc_X8_init ⟨zl_X11_312, zi_X8_init⟩ rfl (fun l => CT_fz (a := a) (n := 0) (L := []) (X := [.inr (8, [vI 0, vI 0, vI 0, vI 0, vI 0, vI 0, vI 0, vI 0, vI 0, .null])]) (X' := [.inr (8, [vI 6, vI nu, vI vv, vI pl, vI dp, vI 0, vI 0, vI 0, vI 0, .ref (a + 1)]), .inl (D.2.1, ra 4 (fun _ => 0))]) hA rfl rfl rfl (kn8_8 l D (a + 0) 6 nu vv pl dp)) rfl (fun _ h => h) ⟨by decide, by decide⟩ rfl rfl ⟨by decide, by decide⟩ (rest := [.ref (a + 0)]) rfl (Nat.le_of_ble_eq_true rfl) (fun _ => [.ref (a + 0)]) (fun _ => rfl) (fun _ _ => ?_)
  refine v_widen (k1' := 2) (k2' := 14) (by decide) (by decide) ?_
  exact v_areturn hG hR dX11_newMark_123 (Or.inr ⟨_, rfl⟩) () rfl trivial (fun _ h => h)
def nwd (kd : Int) : Nat := if kd = 6 then 2 else 1
/-- a new mark at n -/
def NMO (D : Dx) (n : Nat) (kd nu vv pl dp : Int) (H : Heap) : Prop := va_at D.1 vwCl (n, .inr (kcl kd, [vI kd, vI nu, vI vv, vI pl, vI dp, vI 0, vI 0, vI 0, vI 0] ++ (if kd = 6 then [.ref (n + 1)] else []))) H ∧ (kd = 6 → va_at D.1 vwCl (n + 1, .inl (D.2.1, ra 4 (fun _ => 0))) H)
theorem NMO.kept {D : Dx} {n : Nat} {kd nu vv pl dp : Int} {H H' : Heap} (h : NMO D n kd nu vv pl dp H) (ho : ∀ q, n ≤ q → q < n + nwd kd → H'[q]? = H[q]?) : NMO D n kd nu vv pl dp H' := by
  unfold nwd at ho
  refine ⟨h.1.kept (ho n (Nat.le_refl _) (by split <;> omega)), fun h6 => (h.2 h6).kept (ho (n + 1) (by omega) (by rw [if_pos h6]; omega))⟩
theorem knewM (l : Launch) (D : Dx) (a : Nat) (kd nu vv pl dp : Int) (hk : 0 ≤ kd ∧ kd ≤ 6) : CT l D (fun q => a ≤ q) yX11_newMark cX11_newMark 5 (some (.object "MirrorPlate$Mark")) { frames := 4, cells := 2, slots := 14, locals := 96 } [vI kd, vI nu, vI vv, vI pl, vI dp] (fun H => H.size = a) (fun _ : Unit => some (.ref a)) (fun _ => True) (fun _ H => H.size = a + nwd kd ∧ NMO D a kd nu vv pl dp H) := by
  rcases (show kd = 0 ∨ kd = 1 ∨ kd = 2 ∨ kd = 3 ∨ kd = 4 ∨ kd = 5 ∨ kd = 6 by omega) with rfl | rfl | rfl | rfl | rfl | rfl | rfl
  · exact CT_map (I := Unit) (P := fun _ => _) (rv := fun _ => _) (φ := fun _ => _) (P1 := fun _ => _) (fun H hH => ⟨(), hH, fun k x hx => by simp at hx⟩) (fun _ => knew_0 l D a nu vv pl dp) (fun _ u hu => ⟨u, rfl, hu, fun H hH => ⟨hH.1, hH.2 0 _ rfl, fun h6 => absurd h6 (by decide)⟩⟩)
  · exact CT_map (I := Unit) (P := fun _ => _) (rv := fun _ => _) (φ := fun _ => _) (P1 := fun _ => _) (fun H hH => ⟨(), hH, fun k x hx => by simp at hx⟩) (fun _ => knew_1 l D a nu vv pl dp) (fun _ u hu => ⟨u, rfl, hu, fun H hH => ⟨hH.1, hH.2 0 _ rfl, fun h6 => absurd h6 (by decide)⟩⟩)
  · exact CT_map (I := Unit) (P := fun _ => _) (rv := fun _ => _) (φ := fun _ => _) (P1 := fun _ => _) (fun H hH => ⟨(), hH, fun k x hx => by simp at hx⟩) (fun _ => knew_2 l D a nu vv pl dp) (fun _ u hu => ⟨u, rfl, hu, fun H hH => ⟨hH.1, hH.2 0 _ rfl, fun h6 => absurd h6 (by decide)⟩⟩)
  · exact CT_map (I := Unit) (P := fun _ => _) (rv := fun _ => _) (φ := fun _ => _) (P1 := fun _ => _) (fun H hH => ⟨(), hH, fun k x hx => by simp at hx⟩) (fun _ => knew_3 l D a nu vv pl dp) (fun _ u hu => ⟨u, rfl, hu, fun H hH => ⟨hH.1, hH.2 0 _ rfl, fun h6 => absurd h6 (by decide)⟩⟩)
  · exact CT_map (I := Unit) (P := fun _ => _) (rv := fun _ => _) (φ := fun _ => _) (P1 := fun _ => _) (fun H hH => ⟨(), hH, fun k x hx => by simp at hx⟩) (fun _ => knew_4 l D a nu vv pl dp) (fun _ u hu => ⟨u, rfl, hu, fun H hH => ⟨hH.1, hH.2 0 _ rfl, fun h6 => absurd h6 (by decide)⟩⟩)
  · exact CT_map (I := Unit) (P := fun _ => _) (rv := fun _ => _) (φ := fun _ => _) (P1 := fun _ => _) (fun H hH => ⟨(), hH, fun k x hx => by simp at hx⟩) (fun _ => knew_5 l D a nu vv pl dp) (fun _ u hu => ⟨u, rfl, hu, fun H hH => ⟨hH.1, hH.2 0 _ rfl, fun h6 => absurd h6 (by decide)⟩⟩)
  · exact CT_map (I := Unit) (P := fun _ => _) (rv := fun _ => _) (φ := fun _ => _) (P1 := fun _ => _) (fun H hH => ⟨(), hH, fun k x hx => by simp at hx⟩) (fun _ => knew_6 l D a nu vv pl dp) (fun _ u hu => ⟨u, rfl, hu, fun H hH => ⟨hH.1, hH.2 0 _ rfl, fun h6 => hH.2 1 _ rfl⟩⟩)
