/-! THE CLASS: marks -/
def flG (k d : Int) : Int := if d % 3 + 1 = 2 then (if k = 5 then 1 else d % 3 + 1) else d % 3 + 1
theorem strF_rng {k d fl lost row : Int} (hd : 0 ≤ d ∧ d ≤ 9) (hl : 0 ≤ lost ∧ lost ≤ 200000) (hr : 0 ≤ row ∧ row ≤ 9) : -1000000 ≤ strF k d fl lost row ∧ strF k d fl lost row ≤ 1000000 := by
  have h := ite_tdiv_b (c := k = 4) (x := d - lost + 1) 
  have h1 := tdiv_rng (x := d - lost + 1) (y := 2) (by omega)
  unfold strF
  rcases Int.le_total 0 (d - lost + 1) with q | q
  · have := h1.1 q
    (repeat' split) <;> omega
  · have := h1.2 q
    (repeat' split) <;> omega
set_option maxHeartbeats 4000000 in
set_option maxRecDepth 100000 in
theorem kc4_needs (l : Launch) (D : Dx) (A : Nat → Prop) (ad : Nat → Nat) (K : Int → Int) (S Q qa : Nat → Int → Int) (tp : Nat → Nat) (s bo e uc lr nx : Int → Int) (b : Nat) (hb : b < 3) (m : Int) (h8 : 0 ≤ m ∧ m < 8) (h43 : m < s 43) (hm : MK s m) : CT l D A yX4_needs cX4_needs 1 (some .int) { frames := 0, cells := 0, slots := 0, locals := 0 } [.ref (kM ad b m)] (CW D A ad K (uS S b s) Q qa tp bo e uc lr nx) (fun _ : Unit => some (vI (3 * s (3 + m)))) (fun _ => True) (fun _ => CW D A ad K (uS S b s) Q qa tp bo e uc lr nx) := by
  refine ct_of (lo0 := [(0, .ref (kM ad b m))]) (by decide) (Nat.le_of_ble_eq_true rfl) rfl ?_
  intro G hG hR
  have hm1 := hm.1; have hm2 := hm.2.1; have hm3 := hm.2.2.1; have hm4 := hm.2.2.2.1; have hm5 := hm.2.2.2.2.1; have hm6 := hm.2.2.2.2.2.1; have hm7 := hm.2.2.2.2.2.2.1; have hm8 := hm.2.2.2.2.2.2.2.1
  refine v_iconst hG dX4_needs_0 ?_
  refine v_aload_n hG dX4_needs_1 rfl 0 rfl ?_
  refine cgM hb (by omega) (by omega) hG dX4_needs_2 zf_X4_22 (k := 4) (by decide) (v := vI (s (3 + m))) rfl ?_
  refine v_imul hG dX4_needs_5 ?_
  have e1 : @Eq Int (3 * s (3 + m)) (3 * (s (3 + m))) := by first | rfl | omega | (exact bi_congr (by omega)) | (simp []; done)
  exact v_ireturn hG hR dX4_needs_6 () (congrArg (fun z => some (vI z)) e1) (by trivial) (fun _ hM => hM)
set_option maxHeartbeats 4000000 in
set_option maxRecDepth 100000 in
theorem kc3_needs (l : Launch) (D : Dx) (A : Nat → Prop) (ad : Nat → Nat) (K : Int → Int) (S Q qa : Nat → Int → Int) (tp : Nat → Nat) (s bo e uc lr nx : Int → Int) (b : Nat) (hb : b < 3) (m : Int) (h8 : 0 ≤ m ∧ m < 8) (h43 : m < s 43) (hm : MK s m) : CT l D A yX3_needs cX3_needs 1 (some .int) { frames := 0, cells := 0, slots := 0, locals := 0 } [.ref (kM ad b m)] (CW D A ad K (uS S b s) Q qa tp bo e uc lr nx) (fun _ : Unit => some (vI (2 * s (3 + m)))) (fun _ => True) (fun _ => CW D A ad K (uS S b s) Q qa tp bo e uc lr nx) := by
  refine ct_of (lo0 := [(0, .ref (kM ad b m))]) (by decide) (Nat.le_of_ble_eq_true rfl) rfl ?_
  intro G hG hR
  have hm1 := hm.1; have hm2 := hm.2.1; have hm3 := hm.2.2.1; have hm4 := hm.2.2.2.1; have hm5 := hm.2.2.2.2.1; have hm6 := hm.2.2.2.2.2.1; have hm7 := hm.2.2.2.2.2.2.1; have hm8 := hm.2.2.2.2.2.2.2.1
  refine v_iconst hG dX3_needs_0 ?_
  refine v_aload_n hG dX3_needs_1 rfl 0 rfl ?_
  refine cgM hb (by omega) (by omega) hG dX3_needs_2 zf_X3_7 (k := 4) (by decide) (v := vI (s (3 + m))) rfl ?_
  refine v_imul hG dX3_needs_5 ?_
  have e1 : @Eq Int (2 * s (3 + m)) (2 * (s (3 + m))) := by first | rfl | omega | (exact bi_congr (by omega)) | (simp []; done)
  exact v_ireturn hG hR dX3_needs_6 () (congrArg (fun z => some (vI z)) e1) (by trivial) (fun _ hM => hM)
set_option maxHeartbeats 4000000 in
set_option maxRecDepth 100000 in
theorem kc2_needs (l : Launch) (D : Dx) (A : Nat → Prop) (ad : Nat → Nat) (K : Int → Int) (S Q qa : Nat → Int → Int) (tp : Nat → Nat) (s bo e uc lr nx : Int → Int) (b : Nat) (hb : b < 3) (m : Int) (h8 : 0 ≤ m ∧ m < 8) (h43 : m < s 43) (hm : MK s m) : CT l D A yX2_needs cX2_needs 1 (some .int) { frames := 1, cells := 0, slots := 0, locals := 20 } [.ref (kM ad b m)] (CW D A ad K (uS S b s) Q qa tp bo e uc lr nx) (fun _ : Unit => some (vI (3 * s (3 + m) + s (58 + m)))) (fun _ => True) (fun _ => CW D A ad K (uS S b s) Q qa tp bo e uc lr nx) := by
  refine ct_of (lo0 := [(0, .ref (kM ad b m))]) (by decide) (Nat.le_of_ble_eq_true rfl) rfl ?_
  intro G hG hR
  have hm1 := hm.1; have hm2 := hm.2.1; have hm3 := hm.2.2.1; have hm4 := hm.2.2.2.1; have hm5 := hm.2.2.2.2.1; have hm6 := hm.2.2.2.2.2.1; have hm7 := hm.2.2.2.2.2.2.1; have hm8 := hm.2.2.2.2.2.2.2.1
  refine v_aload_n hG dX2_needs_0 rfl 0 rfl ?_
  obtain ⟨cir2, qr2, Cr2, ar2, br2, gr2⟩ := cRMx (s := s) (x := m) hb (by omega) (by omega) (by omega) (D := D) (A := A) (ad := ad) (K := K) (S := S) (Q := Q) (qa := qa) (tp := tp) (bo := bo) (e := e) (uc := uc) (lr := lr) (nx := nx)
  refine v_callSU (k1' := 0) (k2' := 0) hG dX2_needs_1 zc_X4_needs ⟨zl_X2_7, (ztb 567 (by decide +kernel) (by decide +kernel)), (ztb 471 (by decide +kernel) (by decide +kernel)), zi_X4_needs⟩ (by decide) ar2 br2 (fun l => kc4_needs l D A ad K S Q qa tp s bo e uc lr nx b hb m (by omega) (by first | assumption | omega) (by first | assumption | exact hM _ (by omega) (by omega))) rfl gr2 (fun _ h => h) ⟨by decide, by decide⟩ rfl rfl ⟨by decide, by decide⟩ (rest := []) rfl (Nat.le_of_ble_eq_true rfl) (fun u1 => [vI (3 * s (3 + m))]) (fun _ => rfl) (fun u1 hu1 => ?_)
  refine v_aload_n hG dX2_needs_4 rfl 0 rfl ?_
  refine cgM hb (by omega) (by omega) hG dX2_needs_5 zf_X2_11 (k := 2) (by decide) (v := vI (s (58 + m))) rfl ?_
  refine v_iadd hG dX2_needs_8 ?_
  have e3 : @Eq Int (3 * s (3 + m) + s (58 + m)) ((3 * s (3 + m)) + (s (58 + m))) := by first | rfl | omega | (exact bi_congr (by omega)) | (simp []; done)
  exact v_ireturn hG hR dX2_needs_9 () (congrArg (fun z => some (vI z)) e3) (by trivial) (fun _ hM => hM)
set_option maxHeartbeats 4000000 in
set_option maxRecDepth 100000 in
theorem kc5_needs (l : Launch) (D : Dx) (A : Nat → Prop) (ad : Nat → Nat) (K : Int → Int) (S Q qa : Nat → Int → Int) (tp : Nat → Nat) (s bo e uc lr nx : Int → Int) (b : Nat) (hb : b < 3) (m : Int) (h8 : 0 ≤ m ∧ m < 8) (h43 : m < s 43) (hm : MK s m) : CT l D A yX5_needs cX5_needs 1 (some .int) { frames := 1, cells := 0, slots := 0, locals := 20 } [.ref (kM ad b m)] (CW D A ad K (uS S b s) Q qa tp bo e uc lr nx) (fun _ : Unit => some (vI (3 * s (3 + m) + 4))) (fun _ => True) (fun _ => CW D A ad K (uS S b s) Q qa tp bo e uc lr nx) := by
  refine ct_of (lo0 := [(0, .ref (kM ad b m))]) (by decide) (Nat.le_of_ble_eq_true rfl) rfl ?_
  intro G hG hR
  have hm1 := hm.1; have hm2 := hm.2.1; have hm3 := hm.2.2.1; have hm4 := hm.2.2.2.1; have hm5 := hm.2.2.2.2.1; have hm6 := hm.2.2.2.2.2.1; have hm7 := hm.2.2.2.2.2.2.1; have hm8 := hm.2.2.2.2.2.2.2.1
  refine v_aload_n hG dX5_needs_0 rfl 0 rfl ?_
  obtain ⟨cir2, qr2, Cr2, ar2, br2, gr2⟩ := cRMx (s := s) (x := m) hb (by omega) (by omega) (by omega) (D := D) (A := A) (ad := ad) (K := K) (S := S) (Q := Q) (qa := qa) (tp := tp) (bo := bo) (e := e) (uc := uc) (lr := lr) (nx := nx)
  refine v_callSU (k1' := 0) (k2' := 0) hG dX5_needs_1 zc_X4_needs ⟨zl_X5_7, (ztb 567 (by decide +kernel) (by decide +kernel)), (ztb 487 (by decide +kernel) (by decide +kernel)), zi_X4_needs⟩ (by decide) ar2 br2 (fun l => kc4_needs l D A ad K S Q qa tp s bo e uc lr nx b hb m (by omega) (by first | assumption | omega) (by first | assumption | exact hM _ (by omega) (by omega))) rfl gr2 (fun _ h => h) ⟨by decide, by decide⟩ rfl rfl ⟨by decide, by decide⟩ (rest := []) rfl (Nat.le_of_ble_eq_true rfl) (fun u1 => [vI (3 * s (3 + m))]) (fun _ => rfl) (fun u1 hu1 => ?_)
  refine v_iconst hG dX5_needs_4 ?_
  refine v_iadd hG dX5_needs_5 ?_
  have e3 : @Eq Int (3 * s (3 + m) + 4) ((3 * s (3 + m)) + 4) := by first | rfl | omega | (exact bi_congr (by omega)) | (simp []; done)
  exact v_ireturn hG hR dX5_needs_6 () (congrArg (fun z => some (vI z)) e3) (by trivial) (fun _ hM => hM)
set_option maxHeartbeats 4000000 in
set_option maxRecDepth 100000 in
theorem kc1_needs (l : Launch) (D : Dx) (A : Nat → Prop) (ad : Nat → Nat) (K : Int → Int) (S Q qa : Nat → Int → Int) (tp : Nat → Nat) (s bo e uc lr nx : Int → Int) (b : Nat) (hb : b < 3) (m : Int) (h8 : 0 ≤ m ∧ m < 8) (h43 : m < s 43) (hm : MK s m) : CT l D A yX1_needs cX1_needs 1 (some .int) { frames := 1, cells := 0, slots := 0, locals := 20 } [.ref (kM ad b m)] (CW D A ad K (uS S b s) Q qa tp bo e uc lr nx) (fun _ : Unit => some (vI (2 * s (3 + m) * (s (58 + m) + 1)))) (fun _ => True) (fun _ => CW D A ad K (uS S b s) Q qa tp bo e uc lr nx) := by
  refine ct_of (lo0 := [(0, .ref (kM ad b m))]) (by decide) (Nat.le_of_ble_eq_true rfl) rfl ?_
  intro G hG hR
  have hm1 := hm.1; have hm2 := hm.2.1; have hm3 := hm.2.2.1; have hm4 := hm.2.2.2.1; have hm5 := hm.2.2.2.2.1; have hm6 := hm.2.2.2.2.2.1; have hm7 := hm.2.2.2.2.2.2.1; have hm8 := hm.2.2.2.2.2.2.2.1
  refine v_aload_n hG dX1_needs_0 rfl 0 rfl ?_
  obtain ⟨cir2, qr2, Cr2, ar2, br2, gr2⟩ := cRMx (s := s) (x := m) hb (by omega) (by omega) (by omega) (D := D) (A := A) (ad := ad) (K := K) (S := S) (Q := Q) (qa := qa) (tp := tp) (bo := bo) (e := e) (uc := uc) (lr := lr) (nx := nx)
  refine v_callSU (k1' := 0) (k2' := 0) hG dX1_needs_1 zc_X3_needs ⟨zl_X1_7, (ztb 1557 (by decide +kernel) (by decide +kernel)), (ztb 503 (by decide +kernel) (by decide +kernel)), zi_X3_needs⟩ (by decide) ar2 br2 (fun l => kc3_needs l D A ad K S Q qa tp s bo e uc lr nx b hb m (by omega) (by first | assumption | omega) (by first | assumption | exact hM _ (by omega) (by omega))) rfl gr2 (fun _ h => h) ⟨by decide, by decide⟩ rfl rfl ⟨by decide, by decide⟩ (rest := []) rfl (Nat.le_of_ble_eq_true rfl) (fun u1 => [vI (2 * s (3 + m))]) (fun _ => rfl) (fun u1 hu1 => ?_)
  refine v_aload_n hG dX1_needs_4 rfl 0 rfl ?_
  refine cgM hb (by omega) (by omega) hG dX1_needs_5 zf_X1_11 (k := 2) (by decide) (v := vI (s (58 + m))) rfl ?_
  refine v_iconst hG dX1_needs_8 ?_
  refine v_iadd hG dX1_needs_9 ?_
  refine v_imul hG dX1_needs_10 ?_
  have e3 : @Eq Int (2 * s (3 + m) * (s (58 + m) + 1)) ((2 * s (3 + m)) * ((s (58 + m)) + 1)) := by first | rfl | omega | (exact bi_congr (by omega)) | (simp []; done)
  exact v_ireturn hG hR dX1_needs_11 () (congrArg (fun z => some (vI z)) e3) (by trivial) (fun _ hM => hM)
set_option maxHeartbeats 1000000 in
theorem cv_needs {D : Dx} {A : Nat → Prop} {G : Gx} {cc : ByteArray} {nL : Nat} {own : String} {rm : Room} {pc idx : Nat} {lo : List (Nat × Value)} {st : List Value} {ad : Nat → Nat} {K s : Int → Int} {S Q qa : Nat → Int → Int} {tp : Nat → Nat} {bo e uc lr nx : Int → Int} {b : Nat} {m : Int} (hb : b < 3) (h8 : 0 ≤ m ∧ m < 8) (h43 : m < s 43) (hm : MK s m) (hG : Ok D A G cc nL own rm) (hd : decode cc pc = .ok (.invokevirtual idx, 3)) (hl : Cond.methodLink own idx yX4_needs ∈ zTB) (hroom : 2 ≤ rm.frames ∧ 40 ≤ rm.locals) (hw : (st.map fun v => v.category).sum ≤ 8) (kk : V G 0 0 (CW D A ad K (uS S b s) Q qa tp bo e uc lr nx) (pc + 3) lo (vI (q_needs s m) :: st)) : V G 0 0 (CW D A ad K (uS S b s) Q qa tp bo e uc lr nx) pc lo (.ref (kM ad b m) :: st) := by
  rcases (show s (50 + m) = 0 ∨ s (50 + m) = 1 ∨ s (50 + m) = 2 ∨ s (50 + m) = 3 ∨ s (50 + m) = 4 ∨ s (50 + m) = 5 ∨ s (50 + m) = 6 by have := hm.1; omega) with hk | hk | hk | hk | hk | hk | hk
  · refine v_callU (k1' := 0) (k2' := 0) (As := []) (C := RX4) (owner := RX4) (x := yX4_needs) hG hd zc_X4_needs ⟨hl, (ztb 567 (by decide +kernel) (by decide +kernel)), (ztb 566 (by decide +kernel) (by decide +kernel)), zi_X4_needs, zi_X4_needs, ⟨_, _, _, zc_X4_needs.1⟩, ⟨by decide, by decide⟩, rfl⟩ (fun l => kc4_needs l D A ad K S Q qa tp s bo e uc lr nx b hb m h8 h43 hm) rfl (cRM0 hb h8 h43 hk) (fun _ h => h) ⟨Nat.le_trans (by decide) hroom.1, Nat.le_trans (by decide) hroom.2⟩ rfl rfl ⟨Nat.zero_le _, Nat.zero_le _⟩ rfl hw (fun _ => vI (3 * s (3 + m)) :: st) (fun _ => rfl) (fun _ _ => by rw [show q_needs s m = 3 * s (3 + m) from by simp [q_needs, needsF, hk]] at kk; exact kk)
  · refine v_callU (k1' := 0) (k2' := 0) (As := []) (C := RX3) (owner := RX4) (x := yX4_needs) hG hd zc_X3_needs ⟨hl, (ztb 567 (by decide +kernel) (by decide +kernel)), (ztb 578 (by decide +kernel) (by decide +kernel)), zi_X3_needs, zi_X4_needs, ⟨_, _, _, zc_X4_needs.1⟩, ⟨by decide, by decide⟩, rfl⟩ (fun l => kc3_needs l D A ad K S Q qa tp s bo e uc lr nx b hb m h8 h43 hm) rfl (cRM1 hb h8 h43 hk) (fun _ h => h) ⟨Nat.le_trans (by decide) hroom.1, Nat.le_trans (by decide) hroom.2⟩ rfl rfl ⟨Nat.zero_le _, Nat.zero_le _⟩ rfl hw (fun _ => vI (2 * s (3 + m)) :: st) (fun _ => rfl) (fun _ _ => by rw [show q_needs s m = 2 * s (3 + m) from by simp [q_needs, needsF, hk]] at kk; exact kk)
  · refine v_callU (k1' := 0) (k2' := 0) (As := []) (C := RX2) (owner := RX4) (x := yX4_needs) hG hd zc_X2_needs ⟨hl, (ztb 567 (by decide +kernel) (by decide +kernel)), (ztb 574 (by decide +kernel) (by decide +kernel)), zi_X2_needs, zi_X4_needs, ⟨_, _, _, zc_X4_needs.1⟩, ⟨by decide, by decide⟩, rfl⟩ (fun l => kc2_needs l D A ad K S Q qa tp s bo e uc lr nx b hb m h8 h43 hm) rfl (cRM2 hb h8 h43 hk) (fun _ h => h) ⟨Nat.le_trans (by decide) hroom.1, Nat.le_trans (by decide) hroom.2⟩ rfl rfl ⟨Nat.zero_le _, Nat.zero_le _⟩ rfl hw (fun _ => vI (3 * s (3 + m) + s (58 + m)) :: st) (fun _ => rfl) (fun _ _ => by rw [show q_needs s m = 3 * s (3 + m) + s (58 + m) from by simp [q_needs, needsF, hk]] at kk; exact kk)
  · refine v_callU (k1' := 0) (k2' := 0) (As := []) (C := RX5) (owner := RX4) (x := yX4_needs) hG hd zc_X5_needs ⟨hl, (ztb 567 (by decide +kernel) (by decide +kernel)), (ztb 579 (by decide +kernel) (by decide +kernel)), zi_X5_needs, zi_X4_needs, ⟨_, _, _, zc_X4_needs.1⟩, ⟨by decide, by decide⟩, rfl⟩ (fun l => kc5_needs l D A ad K S Q qa tp s bo e uc lr nx b hb m h8 h43 hm) rfl (cRM3 hb h8 h43 hk) (fun _ h => h) ⟨Nat.le_trans (by decide) hroom.1, Nat.le_trans (by decide) hroom.2⟩ rfl rfl ⟨Nat.zero_le _, Nat.zero_le _⟩ rfl hw (fun _ => vI (3 * s (3 + m) + 4) :: st) (fun _ => rfl) (fun _ _ => by rw [show q_needs s m = 3 * s (3 + m) + 4 from by simp [q_needs, needsF, hk]] at kk; exact kk)
  · refine v_callU (k1' := 0) (k2' := 0) (As := []) (C := RX1) (owner := RX4) (x := yX4_needs) hG hd zc_X1_needs ⟨hl, (ztb 567 (by decide +kernel) (by decide +kernel)), (ztb 568 (by decide +kernel) (by decide +kernel)), zi_X1_needs, zi_X4_needs, ⟨_, _, _, zc_X4_needs.1⟩, ⟨by decide, by decide⟩, rfl⟩ (fun l => kc1_needs l D A ad K S Q qa tp s bo e uc lr nx b hb m h8 h43 hm) rfl (cRM4 hb h8 h43 hk) (fun _ h => h) ⟨Nat.le_trans (by decide) hroom.1, Nat.le_trans (by decide) hroom.2⟩ rfl rfl ⟨Nat.zero_le _, Nat.zero_le _⟩ rfl hw (fun _ => vI (2 * s (3 + m) * (s (58 + m) + 1)) :: st) (fun _ => rfl) (fun _ _ => by rw [show q_needs s m = 2 * s (3 + m) * (s (58 + m) + 1) from by simp [q_needs, needsF, hk]] at kk; exact kk)
  · refine v_callU (k1' := 0) (k2' := 0) (As := []) (C := RX10) (owner := RX4) (x := yX4_needs) hG hd zc_X2_needs ⟨hl, (ztb 567 (by decide +kernel) (by decide +kernel)), (ztb 584 (by decide +kernel) (by decide +kernel)), zi_X2_needs, zi_X4_needs, ⟨_, _, _, zc_X4_needs.1⟩, ⟨by decide, by decide⟩, rfl⟩ (fun l => kc2_needs l D A ad K S Q qa tp s bo e uc lr nx b hb m h8 h43 hm) rfl (cRM5 hb h8 h43 hk) (fun _ h => h) ⟨Nat.le_trans (by decide) hroom.1, Nat.le_trans (by decide) hroom.2⟩ rfl rfl ⟨Nat.zero_le _, Nat.zero_le _⟩ rfl hw (fun _ => vI (3 * s (3 + m) + s (58 + m)) :: st) (fun _ => rfl) (fun _ _ => by rw [show q_needs s m = 3 * s (3 + m) + s (58 + m) from by simp [q_needs, needsF, hk]] at kk; exact kk)
  · refine v_callU (k1' := 0) (k2' := 0) (As := []) (C := RX8) (owner := RX4) (x := yX4_needs) hG hd zc_X5_needs ⟨hl, (ztb 567 (by decide +kernel) (by decide +kernel)), (ztb 583 (by decide +kernel) (by decide +kernel)), zi_X5_needs, zi_X4_needs, ⟨_, _, _, zc_X4_needs.1⟩, ⟨by decide, by decide⟩, rfl⟩ (fun l => kc5_needs l D A ad K S Q qa tp s bo e uc lr nx b hb m h8 h43 hm) rfl (cRM6 hb h8 h43 hk) (fun _ h => h) ⟨Nat.le_trans (by decide) hroom.1, Nat.le_trans (by decide) hroom.2⟩ rfl rfl ⟨Nat.zero_le _, Nat.zero_le _⟩ rfl hw (fun _ => vI (3 * s (3 + m) + 4) :: st) (fun _ => rfl) (fun _ _ => by rw [show q_needs s m = 3 * s (3 + m) + 4 from by simp [q_needs, needsF, hk]] at kk; exact kk)
set_option maxHeartbeats 4000000 in
set_option maxRecDepth 100000 in
theorem kc4_tiredBehindCut (l : Launch) (D : Dx) (A : Nat → Prop) (ad : Nat → Nat) (K : Int → Int) (S Q qa : Nat → Int → Int) (tp : Nat → Nat) (s bo e uc lr nx : Int → Int) (b : Nat) (hb : b < 3) (m : Int) (t : Int) (h8 : 0 ≤ m ∧ m < 8) (h43 : m < s 43) (hm : MK s m) (ht : 0 ≤ t ∧ t ≤ 99) : CT l D A yX4_tiredBehindCut cX4_tiredBehindCut 2 (some .int) { frames := 2, cells := 0, slots := 0, locals := 42 } [.ref (kM ad b m), vI t] (CW D A ad K (uS S b s) Q qa tp bo e uc lr nx) (fun _ : Unit => some (vI (clamp (t + q_needs s m / 2) 0 99))) (fun _ => 0 ≤ clamp (t + q_needs s m / 2) 0 99 ∧ clamp (t + q_needs s m / 2) 0 99 ≤ 99) (fun _ => CW D A ad K (uS S b s) Q qa tp bo e uc lr nx) := by
  refine ct_of (lo0 := [(0, .ref (kM ad b m)), (1, vI t)]) (by decide) (Nat.le_of_ble_eq_true rfl) rfl ?_
  intro G hG hR
  have hm1 := hm.1; have hm2 := hm.2.1; have hm3 := hm.2.2.1; have hm4 := hm.2.2.2.1; have hm5 := hm.2.2.2.2.1; have hm6 := hm.2.2.2.2.2.1; have hm7 := hm.2.2.2.2.2.2.1; have hm8 := hm.2.2.2.2.2.2.2.1
  refine v_iload_n hG dX4_tiredBehindCut_0 rfl 1 rfl ?_
  refine v_aload_n hG dX4_tiredBehindCut_1 rfl 0 rfl ?_
  refine cv_needs hb (by omega) (by omega) (by first | assumption | exact hM _ (by omega) (by omega)) hG dX4_tiredBehindCut_2 zl_X4_38 ⟨by decide, by decide⟩ (Nat.le_of_ble_eq_true rfl) ?_
  have hnr := q_needs_rng hm
  refine v_iconst hG dX4_tiredBehindCut_5 ?_
  refine v_idiv hG dX4_tiredBehindCut_6 (by omega) (by omega) ?_
  refine v_callSN (k1' := 0) (k2' := 0) hG dX4_tiredBehindCut_7 zc_X11_moreTired ⟨zl_X4_42, zt_X11_moreTired⟩ (fun l => kc11_moreTired l D A (CW D A ad K (uS S b s) Q qa tp bo e uc lr nx) t ((q_needs s m) / 2) (by omega) (by omega)) rfl (fun _ h => h) ⟨by decide, by decide⟩ rfl rfl ⟨by decide, by decide⟩ (rest := []) rfl (Nat.le_of_ble_eq_true rfl) (fun u1 => [vI (clamp (t + ((q_needs s m) / 2)) 0 99)]) (fun _ => rfl) (fun u1 hu1 => ?_)
  have fu1 : 0 ≤ clamp (t + ((q_needs s m) / 2)) 0 99 ∧ clamp (t + ((q_needs s m) / 2)) 0 99 ≤ 99 := hu1
  have e2 : @Eq Int (clamp (t + q_needs s m / 2) 0 99) (clamp (t + ((q_needs s m) / 2)) 0 99) := by first | rfl | omega | (exact bi_congr (by omega)) | (simp []; done)
  exact v_ireturn hG hR dX4_tiredBehindCut_10 () (congrArg (fun z => some (vI z)) e2) (by exact clamp_rng _ (by omega)) (fun _ hM => hM)
set_option maxHeartbeats 4000000 in
set_option maxRecDepth 100000 in
theorem kc4_flawBy (l : Launch) (D : Dx) (A : Nat → Prop) (ad : Nat → Nat) (K : Int → Int) (S Q qa : Nat → Int → Int) (tp : Nat → Nat) (s bo e uc lr nx : Int → Int) (b : Nat) (hb : b < 3) (m : Int) (d : Int) (h8 : 0 ≤ m ∧ m < 8) (h43 : m < s 43) (hm : MK s m) (hD : 0 ≤ d ∧ d ≤ 99) : CT l D A yX4_flawBy cX4_flawBy 2 (some .int) { frames := 1, cells := 0, slots := 0, locals := 22 } [.ref (kM ad b m), vI d] (CW D A ad K (uS S b s) Q qa tp bo e uc lr nx) (fun _ : Unit => some (vI (d % 3 + 1))) (fun _ => True) (fun _ => CW D A ad K (uS S b s) Q qa tp bo e uc lr nx) := by
  refine ct_of (lo0 := [(0, .ref (kM ad b m)), (1, vI d)]) (by decide) (Nat.le_of_ble_eq_true rfl) rfl ?_
  intro G hG hR
  have hm1 := hm.1; have hm2 := hm.2.1; have hm3 := hm.2.2.1; have hm4 := hm.2.2.2.1; have hm5 := hm.2.2.2.2.1; have hm6 := hm.2.2.2.2.2.1; have hm7 := hm.2.2.2.2.2.2.1; have hm8 := hm.2.2.2.2.2.2.2.1
  refine v_iconst hG dX4_flawBy_0 ?_
  refine v_iload_n hG dX4_flawBy_1 rfl 1 rfl ?_
  refine v_iconst hG dX4_flawBy_2 ?_
  refine v_callS (k1' := 0) (k2' := 0) hG dX4_flawBy_3 zc_J9_floorMod_7cf53 ⟨zl_X4_48, zt_J9_floorMod_7cf53⟩ (fun l => k_floorMod l D A (CW D A ad K (uS S b s) Q qa tp bo e uc lr nx) d 3 (by omega) (by omega)) rfl (fun _ h => h) ⟨by decide, by decide⟩ rfl rfl ⟨by decide, by decide⟩ (rest := [vI 1]) rfl (Nat.le_of_ble_eq_true rfl) (fun u1 => [vI (d % 3), vI 1]) (fun _ => rfl) (fun u1 hu1 => ?_)
  have fu1 : 0 ≤ d % 3 ∧ d % 3 < 3 := hu1
  refine v_iadd hG dX4_flawBy_6 ?_
  have e2 : @Eq Int (d % 3 + 1) (1 + (d % 3)) := by omega
  exact v_ireturn hG hR dX4_flawBy_7 () (congrArg (fun z => some (vI z)) e2) (by trivial) (fun _ hM => hM)
set_option maxHeartbeats 4000000 in
set_option maxRecDepth 100000 in
theorem kc10_flawBy (l : Launch) (D : Dx) (A : Nat → Prop) (ad : Nat → Nat) (K : Int → Int) (S Q qa : Nat → Int → Int) (tp : Nat → Nat) (s bo e uc lr nx : Int → Int) (b : Nat) (hb : b < 3) (m : Int) (d : Int) (h8 : 0 ≤ m ∧ m < 8) (h43 : m < s 43) (hm : MK s m) (hD : 0 ≤ d ∧ d ≤ 99) : CT l D A yX10_flawBy cX10_flawBy 3 (some .int) { frames := 2, cells := 0, slots := 0, locals := 43 } [.ref (kM ad b m), vI d] (CW D A ad K (uS S b s) Q qa tp bo e uc lr nx) (fun _ : Unit => some (vI (if d % 3 + 1 = 2 then 1 else d % 3 + 1))) (fun _ => True) (fun _ => CW D A ad K (uS S b s) Q qa tp bo e uc lr nx) := by
  refine ct_of (lo0 := [(0, .ref (kM ad b m)), (1, vI d)]) (by decide) (Nat.le_of_ble_eq_true rfl) rfl ?_
  intro G hG hR
  have hm1 := hm.1; have hm2 := hm.2.1; have hm3 := hm.2.2.1; have hm4 := hm.2.2.2.1; have hm5 := hm.2.2.2.2.1; have hm6 := hm.2.2.2.2.2.1; have hm7 := hm.2.2.2.2.2.2.1; have hm8 := hm.2.2.2.2.2.2.2.1
  refine v_aload_n hG dX10_flawBy_0 rfl 0 rfl ?_
  refine v_iload_n hG dX10_flawBy_1 rfl 1 rfl ?_
  obtain ⟨cir2, qr2, Cr2, ar2, br2, gr2⟩ := cRMx (s := s) (x := m) hb (by omega) (by omega) (by omega) (D := D) (A := A) (ad := ad) (K := K) (S := S) (Q := Q) (qa := qa) (tp := tp) (bo := bo) (e := e) (uc := uc) (lr := lr) (nx := nx)
  refine v_callSX (x := ⟨"MirrorPlate$Letter", "flawBy", "(I)I"⟩) (k1' := 0) (k2' := 0) hG dX10_flawBy_2 zc_X4_flawBy ⟨zl_X10_7, (ztb 668 (by decide +kernel) (by decide +kernel)), (ztb 519 (by decide +kernel) (by decide +kernel)), (ztb 471 (by decide +kernel) (by decide +kernel)), zi_X4_flawBy⟩ rfl (by decide) ar2 br2 (fun l => kc4_flawBy l D A ad K S Q qa tp s bo e uc lr nx b hb m d (by omega) (by first | assumption | omega) (by first | assumption | exact hM _ (by omega) (by omega)) (by omega)) rfl gr2 (fun _ h => h) ⟨by decide, by decide⟩ rfl rfl ⟨by decide, by decide⟩ (rest := []) rfl (Nat.le_of_ble_eq_true rfl) (fun u1 => [vI (d % 3 + 1)]) (fun _ => rfl) (fun u1 hu1 => ?_)
  refine v_istore_n (lo' := [(2, vI (d % 3 + 1)), (0, .ref (kM ad b m)), (1, vI d)]) hG dX10_flawBy_5 rfl (by decide) rfl ?_
  refine v_iload_n hG dX10_flawBy_6 rfl 0 rfl ?_
  refine v_iconst hG dX10_flawBy_7 ?_
  have J4 : ∀ z3 : Int, z3 = (if d % 3 + 1 = 2 then 1 else d % 3 + 1) → V G 0 0 (CW D A ad K (uS S b s) Q qa tp bo e uc lr nx) 16 [(0, .ref (kM ad b m)), (1, vI d), (2, vI (d % 3 + 1))] [vI z3] := by
    intro z3 hz3
    have e5 : @Eq Int (if d % 3 + 1 = 2 then 1 else d % 3 + 1) (z3) := by first | rfl | (simp only []; done) | (subst hz3; rfl)
    exact v_ireturn hG hR dX10_flawBy_16 () (congrArg (fun z => some (vI z)) e5) (by trivial) (fun _ hM => hM)
  refine v_icmp_ne (tgt := 15) hG dX10_flawBy_8 (by decide) (by omega) (by omega) (fun c6 => ?_) (fun c6 => ?_)
  · skip
    refine v_iload_n hG dX10_flawBy_15 rfl 0 rfl ?_
    refine v_lo [1, 2, 0] (lo' := [(0, .ref (kM ad b m)), (1, vI d), (2, vI (d % 3 + 1))]) rfl ?_
    exact J4 _ (by first | rfl | (simp only [if_neg c6]; done) | (simp [bi, c6]; done))
  · skip
    refine v_iconst hG dX10_flawBy_11 ?_
    refine v_goto (tgt := 16) hG dX10_flawBy_12 (by decide) ?_
    refine v_lo [1, 2, 0] (lo' := [(0, .ref (kM ad b m)), (1, vI d), (2, vI (d % 3 + 1))]) rfl ?_
    exact J4 _ (by first | rfl | (simp only [if_pos c6]; done) | (simp [bi, c6]; done))
set_option maxHeartbeats 1000000 in
theorem cv_flawBy {D : Dx} {A : Nat → Prop} {G : Gx} {cc : ByteArray} {nL : Nat} {own : String} {rm : Room} {pc idx : Nat} {lo : List (Nat × Value)} {st : List Value} {ad : Nat → Nat} {K s : Int → Int} {S Q qa : Nat → Int → Int} {tp : Nat → Nat} {bo e uc lr nx : Int → Int} {b : Nat} {m : Int} {d : Int} (hb : b < 3) (h8 : 0 ≤ m ∧ m < 8) (h43 : m < s 43) (hm : MK s m) (hD : 0 ≤ d ∧ d ≤ 99) (hG : Ok D A G cc nL own rm) (hd : decode cc pc = .ok (.invokevirtual idx, 3)) (hl : Cond.methodLink own idx yX4_flawBy ∈ zTB) (hroom : 3 ≤ rm.frames ∧ 65 ≤ rm.locals) (hw : (st.map fun v => v.category).sum ≤ 8) (kk : V G 0 0 (CW D A ad K (uS S b s) Q qa tp bo e uc lr nx) (pc + 3) lo (vI (flG (s (50 + m)) d) :: st)) : V G 0 0 (CW D A ad K (uS S b s) Q qa tp bo e uc lr nx) pc lo (vI d :: .ref (kM ad b m) :: st) := by
  rcases (show s (50 + m) = 0 ∨ s (50 + m) = 1 ∨ s (50 + m) = 2 ∨ s (50 + m) = 3 ∨ s (50 + m) = 4 ∨ s (50 + m) = 5 ∨ s (50 + m) = 6 by have := hm.1; omega) with hk | hk | hk | hk | hk | hk | hk
  · refine v_callU (k1' := 0) (k2' := 0) (As := [vI d]) (C := RX4) (owner := RX4) (x := yX4_flawBy) hG hd zc_X4_flawBy ⟨hl, (ztb 658 (by decide +kernel) (by decide +kernel)), (ztb 657 (by decide +kernel) (by decide +kernel)), zi_X4_flawBy, zi_X4_flawBy, ⟨_, _, _, zc_X4_flawBy.1⟩, ⟨by decide, by decide⟩, rfl⟩ (fun l => kc4_flawBy l D A ad K S Q qa tp s bo e uc lr nx b hb m d h8 h43 hm hD) rfl (cRM0 hb h8 h43 hk) (fun _ h => h) ⟨Nat.le_trans (by decide) hroom.1, Nat.le_trans (by decide) hroom.2⟩ rfl rfl ⟨Nat.zero_le _, Nat.zero_le _⟩ rfl hw (fun _ => vI (d % 3 + 1) :: st) (fun _ => rfl) (fun _ _ => by rw [show flG (s (50 + m)) d = d % 3 + 1 from by simp [flG, hk]] at kk; exact kk)
  · refine v_callU (k1' := 0) (k2' := 0) (As := [vI d]) (C := RX3) (owner := RX4) (x := yX4_flawBy) hG hd zc_X4_flawBy ⟨hl, (ztb 658 (by decide +kernel) (by decide +kernel)), (ztb 661 (by decide +kernel) (by decide +kernel)), zi_X4_flawBy, zi_X4_flawBy, ⟨_, _, _, zc_X4_flawBy.1⟩, ⟨by decide, by decide⟩, rfl⟩ (fun l => kc4_flawBy l D A ad K S Q qa tp s bo e uc lr nx b hb m d h8 h43 hm hD) rfl (cRM1 hb h8 h43 hk) (fun _ h => h) ⟨Nat.le_trans (by decide) hroom.1, Nat.le_trans (by decide) hroom.2⟩ rfl rfl ⟨Nat.zero_le _, Nat.zero_le _⟩ rfl hw (fun _ => vI (d % 3 + 1) :: st) (fun _ => rfl) (fun _ _ => by rw [show flG (s (50 + m)) d = d % 3 + 1 from by simp [flG, hk]] at kk; exact kk)
  · refine v_callU (k1' := 0) (k2' := 0) (As := [vI d]) (C := RX2) (owner := RX4) (x := yX4_flawBy) hG hd zc_X4_flawBy ⟨hl, (ztb 658 (by decide +kernel) (by decide +kernel)), (ztb 660 (by decide +kernel) (by decide +kernel)), zi_X4_flawBy, zi_X4_flawBy, ⟨_, _, _, zc_X4_flawBy.1⟩, ⟨by decide, by decide⟩, rfl⟩ (fun l => kc4_flawBy l D A ad K S Q qa tp s bo e uc lr nx b hb m d h8 h43 hm hD) rfl (cRM2 hb h8 h43 hk) (fun _ h => h) ⟨Nat.le_trans (by decide) hroom.1, Nat.le_trans (by decide) hroom.2⟩ rfl rfl ⟨Nat.zero_le _, Nat.zero_le _⟩ rfl hw (fun _ => vI (d % 3 + 1) :: st) (fun _ => rfl) (fun _ _ => by rw [show flG (s (50 + m)) d = d % 3 + 1 from by simp [flG, hk]] at kk; exact kk)
  · refine v_callU (k1' := 0) (k2' := 0) (As := [vI d]) (C := RX5) (owner := RX4) (x := yX4_flawBy) hG hd zc_X4_flawBy ⟨hl, (ztb 658 (by decide +kernel) (by decide +kernel)), (ztb 662 (by decide +kernel) (by decide +kernel)), zi_X4_flawBy, zi_X4_flawBy, ⟨_, _, _, zc_X4_flawBy.1⟩, ⟨by decide, by decide⟩, rfl⟩ (fun l => kc4_flawBy l D A ad K S Q qa tp s bo e uc lr nx b hb m d h8 h43 hm hD) rfl (cRM3 hb h8 h43 hk) (fun _ h => h) ⟨Nat.le_trans (by decide) hroom.1, Nat.le_trans (by decide) hroom.2⟩ rfl rfl ⟨Nat.zero_le _, Nat.zero_le _⟩ rfl hw (fun _ => vI (d % 3 + 1) :: st) (fun _ => rfl) (fun _ _ => by rw [show flG (s (50 + m)) d = d % 3 + 1 from by simp [flG, hk]] at kk; exact kk)
  · refine v_callU (k1' := 0) (k2' := 0) (As := [vI d]) (C := RX1) (owner := RX4) (x := yX4_flawBy) hG hd zc_X4_flawBy ⟨hl, (ztb 658 (by decide +kernel) (by decide +kernel)), (ztb 659 (by decide +kernel) (by decide +kernel)), zi_X4_flawBy, zi_X4_flawBy, ⟨_, _, _, zc_X4_flawBy.1⟩, ⟨by decide, by decide⟩, rfl⟩ (fun l => kc4_flawBy l D A ad K S Q qa tp s bo e uc lr nx b hb m d h8 h43 hm hD) rfl (cRM4 hb h8 h43 hk) (fun _ h => h) ⟨Nat.le_trans (by decide) hroom.1, Nat.le_trans (by decide) hroom.2⟩ rfl rfl ⟨Nat.zero_le _, Nat.zero_le _⟩ rfl hw (fun _ => vI (d % 3 + 1) :: st) (fun _ => rfl) (fun _ _ => by rw [show flG (s (50 + m)) d = d % 3 + 1 from by simp [flG, hk]] at kk; exact kk)
  · refine v_callU (k1' := 0) (k2' := 0) (As := [vI d]) (C := RX10) (owner := RX4) (x := yX4_flawBy) hG hd zc_X10_flawBy ⟨hl, (ztb 658 (by decide +kernel) (by decide +kernel)), (ztb 664 (by decide +kernel) (by decide +kernel)), zi_X10_flawBy, zi_X4_flawBy, ⟨_, _, _, zc_X4_flawBy.1⟩, ⟨by decide, by decide⟩, rfl⟩ (fun l => kc10_flawBy l D A ad K S Q qa tp s bo e uc lr nx b hb m d h8 h43 hm hD) rfl (cRM5 hb h8 h43 hk) (fun _ h => h) ⟨Nat.le_trans (by decide) hroom.1, Nat.le_trans (by decide) hroom.2⟩ rfl rfl ⟨Nat.zero_le _, Nat.zero_le _⟩ rfl hw (fun _ => vI (if d % 3 + 1 = 2 then 1 else d % 3 + 1) :: st) (fun _ => rfl) (fun _ _ => by rw [show flG (s (50 + m)) d = if d % 3 + 1 = 2 then 1 else d % 3 + 1 from by simp [flG, hk]] at kk; exact kk)
  · refine v_callU (k1' := 0) (k2' := 0) (As := [vI d]) (C := RX8) (owner := RX4) (x := yX4_flawBy) hG hd zc_X4_flawBy ⟨hl, (ztb 658 (by decide +kernel) (by decide +kernel)), (ztb 663 (by decide +kernel) (by decide +kernel)), zi_X4_flawBy, zi_X4_flawBy, ⟨_, _, _, zc_X4_flawBy.1⟩, ⟨by decide, by decide⟩, rfl⟩ (fun l => kc4_flawBy l D A ad K S Q qa tp s bo e uc lr nx b hb m d h8 h43 hm hD) rfl (cRM6 hb h8 h43 hk) (fun _ h => h) ⟨Nat.le_trans (by decide) hroom.1, Nat.le_trans (by decide) hroom.2⟩ rfl rfl ⟨Nat.zero_le _, Nat.zero_le _⟩ rfl hw (fun _ => vI (d % 3 + 1) :: st) (fun _ => rfl) (fun _ _ => by rw [show flG (s (50 + m)) d = d % 3 + 1 from by simp [flG, hk]] at kk; exact kk)
set_option maxHeartbeats 4000000 in
set_option maxRecDepth 100000 in
theorem kc4_strength (l : Launch) (D : Dx) (A : Nat → Prop) (ad : Nat → Nat) (K : Int → Int) (S Q qa : Nat → Int → Int) (tp : Nat → Nat) (s bo e uc lr nx : Int → Int) (b : Nat) (hb : b < 3) (m : Int) (w : Int) (lost : Int) (h8 : 0 ≤ m ∧ m < 8) (h43 : m < s 43) (hm : MK s m) (hw0 : 0 ≤ w ∧ w ≤ 100000) (hlo : 0 ≤ lost ∧ lost ≤ 200000) : CT l D A yX4_strength cX4_strength 3 (some .int) { frames := 0, cells := 0, slots := 0, locals := 0 } [.ref (kM ad b m), vI w, vI lost] (CW D A ad K (uS S b s) Q qa tp bo e uc lr nx) (fun _ : Unit => some (vI (s (3 + m) - lost))) (fun _ => True) (fun _ => CW D A ad K (uS S b s) Q qa tp bo e uc lr nx) := by
  refine ct_of (lo0 := [(0, .ref (kM ad b m)), (1, vI w), (2, vI lost)]) (by decide) (Nat.le_of_ble_eq_true rfl) rfl ?_
  intro G hG hR
  have hm1 := hm.1; have hm2 := hm.2.1; have hm3 := hm.2.2.1; have hm4 := hm.2.2.2.1; have hm5 := hm.2.2.2.2.1; have hm6 := hm.2.2.2.2.2.1; have hm7 := hm.2.2.2.2.2.2.1; have hm8 := hm.2.2.2.2.2.2.2.1
  refine v_aload_n hG dX4_strength_0 rfl 0 rfl ?_
  refine cgM hb (by omega) (by omega) hG dX4_strength_1 zf_X4_22 (k := 4) (by decide) (v := vI (s (3 + m))) rfl ?_
  refine v_iload_n hG dX4_strength_4 rfl 2 rfl ?_
  refine v_isub hG dX4_strength_5 ?_
  have e1 : @Eq Int (s (3 + m) - lost) ((s (3 + m)) - lost) := by first | rfl | omega | (exact bi_congr (by omega)) | (simp []; done)
  exact v_ireturn hG hR dX4_strength_6 () (congrArg (fun z => some (vI z)) e1) (by trivial) (fun _ hM => hM)
set_option maxHeartbeats 4000000 in
set_option maxRecDepth 100000 in
theorem kc3_strength (l : Launch) (D : Dx) (A : Nat → Prop) (ad : Nat → Nat) (K : Int → Int) (S Q qa : Nat → Int → Int) (tp : Nat → Nat) (s bo e uc lr nx : Int → Int) (b : Nat) (hb : b < 3) (m : Int) (w : Int) (lost : Int) (h8 : 0 ≤ m ∧ m < 8) (h43 : m < s 43) (hm : MK s m) (hw0 : 0 ≤ w ∧ w ≤ 100000) (hlo : 0 ≤ lost ∧ lost ≤ 200000) : CT l D A yX3_strength cX3_strength 3 (some .int) { frames := 1, cells := 0, slots := 0, locals := 22 } [.ref (kM ad b m), vI w, vI lost] (CW D A ad K (uS S b s) Q qa tp bo e uc lr nx) (fun _ : Unit => some (vI (s (3 + m) - lost + 1))) (fun _ => True) (fun _ => CW D A ad K (uS S b s) Q qa tp bo e uc lr nx) := by
  refine ct_of (lo0 := [(0, .ref (kM ad b m)), (1, vI w), (2, vI lost)]) (by decide) (Nat.le_of_ble_eq_true rfl) rfl ?_
  intro G hG hR
  have hm1 := hm.1; have hm2 := hm.2.1; have hm3 := hm.2.2.1; have hm4 := hm.2.2.2.1; have hm5 := hm.2.2.2.2.1; have hm6 := hm.2.2.2.2.2.1; have hm7 := hm.2.2.2.2.2.2.1; have hm8 := hm.2.2.2.2.2.2.2.1
  refine v_aload_n hG dX3_strength_0 rfl 0 rfl ?_
  refine v_iload_n hG dX3_strength_1 rfl 1 rfl ?_
  refine v_iload_n hG dX3_strength_2 rfl 2 rfl ?_
  obtain ⟨cir2, qr2, Cr2, ar2, br2, gr2⟩ := cRMx (s := s) (x := m) hb (by omega) (by omega) (by omega) (D := D) (A := A) (ad := ad) (K := K) (S := S) (Q := Q) (qa := qa) (tp := tp) (bo := bo) (e := e) (uc := uc) (lr := lr) (nx := nx)
  refine v_callSU (k1' := 0) (k2' := 0) hG dX3_strength_3 zc_X4_strength ⟨zl_X3_13, (ztb 604 (by decide +kernel) (by decide +kernel)), (ztb 455 (by decide +kernel) (by decide +kernel)), zi_X4_strength⟩ (by decide) ar2 br2 (fun l => kc4_strength l D A ad K S Q qa tp s bo e uc lr nx b hb m w lost (by omega) (by first | assumption | omega) (by first | assumption | exact hM _ (by omega) (by omega)) (by omega) (by omega)) rfl gr2 (fun _ h => h) ⟨by decide, by decide⟩ rfl rfl ⟨by decide, by decide⟩ (rest := []) rfl (Nat.le_of_ble_eq_true rfl) (fun u1 => [vI (s (3 + m) - lost)]) (fun _ => rfl) (fun u1 hu1 => ?_)
  refine v_iconst hG dX3_strength_6 ?_
  refine v_iadd hG dX3_strength_7 ?_
  have e3 : @Eq Int (s (3 + m) - lost + 1) ((s (3 + m) - lost) + 1) := by first | rfl | omega | (exact bi_congr (by omega)) | (simp []; done)
  exact v_ireturn hG hR dX3_strength_8 () (congrArg (fun z => some (vI z)) e3) (by trivial) (fun _ hM => hM)
set_option maxHeartbeats 4000000 in
set_option maxRecDepth 100000 in
theorem kc2_strength (l : Launch) (D : Dx) (A : Nat → Prop) (ad : Nat → Nat) (K : Int → Int) (S Q qa : Nat → Int → Int) (tp : Nat → Nat) (s bo e uc lr nx : Int → Int) (b : Nat) (hb : b < 3) (m : Int) (w : Int) (lost : Int) (h8 : 0 ≤ m ∧ m < 8) (h43 : m < s 43) (hm : MK s m) (hw0 : 0 ≤ w ∧ w ≤ 100000) (hlo : 0 ≤ lost ∧ lost ≤ 200000) : CT l D A yX2_strength cX2_strength 3 (some .int) { frames := 0, cells := 0, slots := 0, locals := 0 } [.ref (kM ad b m), vI w, vI lost] (CW D A ad K (uS S b s) Q qa tp bo e uc lr nx) (fun _ : Unit => some (vI (2 * s (3 + m) - lost))) (fun _ => True) (fun _ => CW D A ad K (uS S b s) Q qa tp bo e uc lr nx) := by
  refine ct_of (lo0 := [(0, .ref (kM ad b m)), (1, vI w), (2, vI lost)]) (by decide) (Nat.le_of_ble_eq_true rfl) rfl ?_
  intro G hG hR
  have hm1 := hm.1; have hm2 := hm.2.1; have hm3 := hm.2.2.1; have hm4 := hm.2.2.2.1; have hm5 := hm.2.2.2.2.1; have hm6 := hm.2.2.2.2.2.1; have hm7 := hm.2.2.2.2.2.2.1; have hm8 := hm.2.2.2.2.2.2.2.1
  refine v_iconst hG dX2_strength_0 ?_
  refine v_aload_n hG dX2_strength_1 rfl 0 rfl ?_
  refine cgM hb (by omega) (by omega) hG dX2_strength_2 zf_X2_17 (k := 4) (by decide) (v := vI (s (3 + m))) rfl ?_
  refine v_imul hG dX2_strength_5 ?_
  refine v_iload_n hG dX2_strength_6 rfl 2 rfl ?_
  refine v_isub hG dX2_strength_7 ?_
  have e1 : @Eq Int (2 * s (3 + m) - lost) ((2 * (s (3 + m))) - lost) := by first | rfl | omega | (exact bi_congr (by omega)) | (simp []; done)
  exact v_ireturn hG hR dX2_strength_8 () (congrArg (fun z => some (vI z)) e1) (by trivial) (fun _ hM => hM)
set_option maxHeartbeats 4000000 in
set_option maxRecDepth 100000 in
theorem kc1_strength (l : Launch) (D : Dx) (A : Nat → Prop) (ad : Nat → Nat) (K : Int → Int) (S Q qa : Nat → Int → Int) (tp : Nat → Nat) (s bo e uc lr nx : Int → Int) (b : Nat) (hb : b < 3) (m : Int) (w : Int) (lost : Int) (h8 : 0 ≤ m ∧ m < 8) (h43 : m < s 43) (hm : MK s m) (hw0 : 0 ≤ w ∧ w ≤ 100000) (hlo : 0 ≤ lost ∧ lost ≤ 200000) : CT l D A yX1_strength cX1_strength 3 (some .int) { frames := 2, cells := 0, slots := 0, locals := 44 } [.ref (kM ad b m), vI w, vI lost] (CW D A ad K (uS S b s) Q qa tp bo e uc lr nx) (fun _ : Unit => some (vI ((s (3 + m) - lost + 1).tdiv 2 - 1))) (fun _ => True) (fun _ => CW D A ad K (uS S b s) Q qa tp bo e uc lr nx) := by
  refine ct_of (lo0 := [(0, .ref (kM ad b m)), (1, vI w), (2, vI lost)]) (by decide) (Nat.le_of_ble_eq_true rfl) rfl ?_
  intro G hG hR
  have hm1 := hm.1; have hm2 := hm.2.1; have hm3 := hm.2.2.1; have hm4 := hm.2.2.2.1; have hm5 := hm.2.2.2.2.1; have hm6 := hm.2.2.2.2.2.1; have hm7 := hm.2.2.2.2.2.2.1; have hm8 := hm.2.2.2.2.2.2.2.1
  refine v_aload_n hG dX1_strength_0 rfl 0 rfl ?_
  refine v_iload_n hG dX1_strength_1 rfl 1 rfl ?_
  refine v_iload_n hG dX1_strength_2 rfl 2 rfl ?_
  obtain ⟨cir2, qr2, Cr2, ar2, br2, gr2⟩ := cRMx (s := s) (x := m) hb (by omega) (by omega) (by omega) (D := D) (A := A) (ad := ad) (K := K) (S := S) (Q := Q) (qa := qa) (tp := tp) (bo := bo) (e := e) (uc := uc) (lr := lr) (nx := nx)
  refine v_callSU (k1' := 0) (k2' := 0) hG dX1_strength_3 zc_X3_strength ⟨zl_X1_17, (ztb 1558 (by decide +kernel) (by decide +kernel)), (ztb 503 (by decide +kernel) (by decide +kernel)), zi_X3_strength⟩ (by decide) ar2 br2 (fun l => kc3_strength l D A ad K S Q qa tp s bo e uc lr nx b hb m w lost (by omega) (by first | assumption | omega) (by first | assumption | exact hM _ (by omega) (by omega)) (by omega) (by omega)) rfl gr2 (fun _ h => h) ⟨by decide, by decide⟩ rfl rfl ⟨by decide, by decide⟩ (rest := []) rfl (Nat.le_of_ble_eq_true rfl) (fun u1 => [vI (s (3 + m) - lost + 1)]) (fun _ => rfl) (fun u1 hu1 => ?_)
  refine v_iconst hG dX1_strength_6 ?_
  refine v_idivT hG dX1_strength_7 (by omega) (by omega) ?_
  refine v_iconst hG dX1_strength_8 ?_
  refine v_isub hG dX1_strength_9 ?_
  have e3 : @Eq Int ((s (3 + m) - lost + 1).tdiv 2 - 1) (((s (3 + m) - lost + 1).tdiv 2) - 1) := by first | rfl | omega | (exact bi_congr (by omega)) | (simp []; done)
  exact v_ireturn hG hR dX1_strength_10 () (congrArg (fun z => some (vI z)) e3) (by trivial) (fun _ hM => hM)
set_option maxHeartbeats 4000000 in
set_option maxRecDepth 100000 in
theorem kc10_strength (l : Launch) (D : Dx) (A : Nat → Prop) (ad : Nat → Nat) (K : Int → Int) (S Q qa : Nat → Int → Int) (tp : Nat → Nat) (s bo e uc lr nx : Int → Int) (b : Nat) (hb : b < 3) (m : Int) (w : Int) (lost : Int) (h8 : 0 ≤ m ∧ m < 8) (h43 : m < s 43) (hm : MK s m) (hw0 : 0 ≤ w ∧ w ≤ 100000) (hlo : 0 ≤ lost ∧ lost ≤ 200000) : CT l D A yX10_strength cX10_strength 3 (some .int) { frames := 1, cells := 0, slots := 0, locals := 22 } [.ref (kM ad b m), vI w, vI lost] (CW D A ad K (uS S b s) Q qa tp bo e uc lr nx) (fun _ : Unit => some (vI (2 * s (3 + m) - lost + (if s (19 + m) = 1 then 2 else 0)))) (fun _ => True) (fun _ => CW D A ad K (uS S b s) Q qa tp bo e uc lr nx) := by
  refine ct_of (lo0 := [(0, .ref (kM ad b m)), (1, vI w), (2, vI lost)]) (by decide) (Nat.le_of_ble_eq_true rfl) rfl ?_
  intro G hG hR
  have hm1 := hm.1; have hm2 := hm.2.1; have hm3 := hm.2.2.1; have hm4 := hm.2.2.2.1; have hm5 := hm.2.2.2.2.1; have hm6 := hm.2.2.2.2.2.1; have hm7 := hm.2.2.2.2.2.2.1; have hm8 := hm.2.2.2.2.2.2.2.1
  refine v_aload_n hG dX10_strength_0 rfl 0 rfl ?_
  refine v_iload_n hG dX10_strength_1 rfl 1 rfl ?_
  refine v_iload_n hG dX10_strength_2 rfl 2 rfl ?_
  obtain ⟨cir2, qr2, Cr2, ar2, br2, gr2⟩ := cRMx (s := s) (x := m) hb (by omega) (by omega) (by omega) (D := D) (A := A) (ad := ad) (K := K) (S := S) (Q := Q) (qa := qa) (tp := tp) (bo := bo) (e := e) (uc := uc) (lr := lr) (nx := nx)
  refine v_callSU (k1' := 0) (k2' := 0) hG dX10_strength_3 zc_X2_strength ⟨zl_X10_11, (ztb 1559 (by decide +kernel) (by decide +kernel)), (ztb 519 (by decide +kernel) (by decide +kernel)), zi_X2_strength⟩ (by decide) ar2 br2 (fun l => kc2_strength l D A ad K S Q qa tp s bo e uc lr nx b hb m w lost (by omega) (by first | assumption | omega) (by first | assumption | exact hM _ (by omega) (by omega)) (by omega) (by omega)) rfl gr2 (fun _ h => h) ⟨by decide, by decide⟩ rfl rfl ⟨by decide, by decide⟩ (rest := []) rfl (Nat.le_of_ble_eq_true rfl) (fun u1 => [vI (2 * s (3 + m) - lost)]) (fun _ => rfl) (fun u1 hu1 => ?_)
  refine v_aload_n hG dX10_strength_6 rfl 0 rfl ?_
  refine cgM hb (by omega) (by omega) hG dX10_strength_7 zf_X10_15 (k := 6) (by decide) (v := vI (s (19 + m))) rfl ?_
  refine v_iconst hG dX10_strength_10 ?_
  have J4 : ∀ z3 : Int, z3 = (if s (19 + m) = 1 then 2 else 0) → V G 0 0 (CW D A ad K (uS S b s) Q qa tp bo e uc lr nx) 19 [(0, .ref (kM ad b m)), (1, vI w), (2, vI lost)] [vI z3, vI (2 * s (3 + m) - lost)] := by
    intro z3 hz3
    refine v_iadd hG dX10_strength_19 ?_
    have e5 : @Eq Int (2 * s (3 + m) - lost + (if s (19 + m) = 1 then 2 else 0)) ((2 * s (3 + m) - lost) + z3) := by first | rfl | (simp only []; done) | (subst hz3; rfl)
    exact v_ireturn hG hR dX10_strength_20 () (congrArg (fun z => some (vI z)) e5) (by trivial) (fun _ hM => hM)
  refine v_icmp_ne (tgt := 18) hG dX10_strength_11 (by decide) (by omega) (by omega) (fun c6 => ?_) (fun c6 => ?_)
  · skip
    refine v_iconst hG dX10_strength_18 ?_
    exact J4 _ (by first | rfl | (simp only [if_neg c6]; done) | (simp [bi, c6]; done))
  · skip
    refine v_iconst hG dX10_strength_14 ?_
    refine v_goto (tgt := 19) hG dX10_strength_15 (by decide) ?_
    exact J4 _ (by first | rfl | (simp only [if_pos c6]; done) | (simp [bi, c6]; done))
set_option maxHeartbeats 4000000 in
set_option maxRecDepth 100000 in
theorem kc8_strength (l : Launch) (D : Dx) (A : Nat → Prop) (ad : Nat → Nat) (K : Int → Int) (S Q qa : Nat → Int → Int) (tp : Nat → Nat) (s bo e uc lr nx : Int → Int) (b : Nat) (hb : b < 3) (m : Int) (w : Int) (lost : Int) (h8 : 0 ≤ m ∧ m < 8) (h43 : m < s 43) (hm : MK s m) (hw0 : 0 ≤ w ∧ w ≤ 100000) (hlo : 0 ≤ lost ∧ lost ≤ 200000) (hk6 : s (50 + m) = 6) : CT l D A yX8_strength cX8_strength 3 (some .int) { frames := 1, cells := 0, slots := 0, locals := 22 } [.ref (kM ad b m), vI w, vI lost] (CW D A ad K (uS S b s) Q qa tp bo e uc lr nx) (fun _ : Unit => some (vI (s (3 + m) - lost + s (74 + 4 * m + w % 4)))) (fun _ => True) (fun _ => CW D A ad K (uS S b s) Q qa tp bo e uc lr nx) := by
  refine ct_of (lo0 := [(0, .ref (kM ad b m)), (1, vI w), (2, vI lost)]) (by decide) (Nat.le_of_ble_eq_true rfl) rfl ?_
  intro G hG hR
  have hm1 := hm.1; have hm2 := hm.2.1; have hm3 := hm.2.2.1; have hm4 := hm.2.2.2.1; have hm5 := hm.2.2.2.2.1; have hm6 := hm.2.2.2.2.2.1; have hm7 := hm.2.2.2.2.2.2.1; have hm8 := hm.2.2.2.2.2.2.2.1
  refine v_aload_n hG dX8_strength_0 rfl 0 rfl ?_
  refine v_iload_n hG dX8_strength_1 rfl 1 rfl ?_
  refine v_iload_n hG dX8_strength_2 rfl 2 rfl ?_
  obtain ⟨cir2, qr2, Cr2, ar2, br2, gr2⟩ := cRMx (s := s) (x := m) hb (by omega) (by omega) (by omega) (D := D) (A := A) (ad := ad) (K := K) (S := S) (Q := Q) (qa := qa) (tp := tp) (bo := bo) (e := e) (uc := uc) (lr := lr) (nx := nx)
  refine v_callSX (x := ⟨"MirrorPlate$Numeral", "strength", "(II)I"⟩) (k1' := 0) (k2' := 0) hG dX8_strength_3 zc_X4_strength ⟨zl_X8_23, (ztb 621 (by decide +kernel) (by decide +kernel)), (ztb 538 (by decide +kernel) (by decide +kernel)), (ztb 487 (by decide +kernel) (by decide +kernel)), zi_X4_strength⟩ rfl (by decide) ar2 br2 (fun l => kc4_strength l D A ad K S Q qa tp s bo e uc lr nx b hb m w lost (by omega) (by first | assumption | omega) (by first | assumption | exact hM _ (by omega) (by omega)) (by omega) (by omega)) rfl gr2 (fun _ h => h) ⟨by decide, by decide⟩ rfl rfl ⟨by decide, by decide⟩ (rest := []) rfl (Nat.le_of_ble_eq_true rfl) (fun u1 => [vI (s (3 + m) - lost)]) (fun _ => rfl) (fun u1 hu1 => ?_)
  refine v_aload_n hG dX8_strength_6 rfl 0 rfl ?_
  refine cgR hb (by omega) (by omega) (by assumption) hG dX8_strength_7 zf_X8_9 ?_
  refine v_iload_n hG dX8_strength_10 rfl 1 rfl ?_
  refine v_aload_n hG dX8_strength_11 rfl 0 rfl ?_
  refine cgR hb (by omega) (by omega) (by assumption) hG dX8_strength_12 zf_X8_9 ?_
  refine cl_r hb (by omega) (by omega) (by assumption) hG dX8_strength_15 ?_
  refine v_callS (k1' := 0) (k2' := 0) hG dX8_strength_16 zc_J9_floorMod_7cf53 ⟨zl_X8_27, zt_J9_floorMod_7cf53⟩ (fun l => k_floorMod l D A (CW D A ad K (uS S b s) Q qa tp bo e uc lr nx) w 4 (by omega) (by omega)) rfl (fun _ h => h) ⟨by decide, by decide⟩ rfl rfl ⟨by decide, by decide⟩ (rest := [.ref (kR ad b m), vI (s (3 + m) - lost)]) rfl (Nat.le_of_ble_eq_true rfl) (fun u3 => [vI (w % 4), .ref (kR ad b m), vI (s (3 + m) - lost)]) (fun _ => rfl) (fun u3 hu3 => ?_)
  have fu3 : 0 ≤ w % 4 ∧ w % 4 < 4 := hu3
  refine ca_r hb (by omega) (by omega) (by assumption) hG dX8_strength_19 (by omega) rfl ?_
  refine v_iadd hG dX8_strength_20 ?_
  have e4 : @Eq Int (s (3 + m) - lost + s (74 + 4 * m + w % 4)) ((s (3 + m) - lost) + (s (74 + 4 * m + (w % 4)))) := by first | rfl | omega | (exact bi_congr (by omega)) | (simp []; done)
  exact v_ireturn hG hR dX8_strength_21 () (congrArg (fun z => some (vI z)) e4) (by trivial) (fun _ hM => hM)
set_option maxHeartbeats 1000000 in
theorem cv_strength {D : Dx} {A : Nat → Prop} {G : Gx} {cc : ByteArray} {nL : Nat} {own : String} {rm : Room} {pc idx : Nat} {lo : List (Nat × Value)} {st : List Value} {ad : Nat → Nat} {K s : Int → Int} {S Q qa : Nat → Int → Int} {tp : Nat → Nat} {bo e uc lr nx : Int → Int} {b : Nat} {m : Int} {w lost : Int} (hb : b < 3) (h8 : 0 ≤ m ∧ m < 8) (h43 : m < s 43) (hm : MK s m) (hw0 : 0 ≤ w ∧ w ≤ 100000) (hlo : 0 ≤ lost ∧ lost ≤ 200000) (hG : Ok D A G cc nL own rm) (hd : decode cc pc = .ok (.invokevirtual idx, 3)) (hl : Cond.methodLink own idx yX4_strength ∈ zTB) (hroom : 3 ≤ rm.frames ∧ 66 ≤ rm.locals) (hw : (st.map fun v => v.category).sum ≤ 8) (kk : V G 0 0 (CW D A ad K (uS S b s) Q qa tp bo e uc lr nx) (pc + 3) lo (vI (strF (s (50 + m)) (s (3 + m)) (s (19 + m)) lost (s (74 + 4 * m + w % 4))) :: st)) : V G 0 0 (CW D A ad K (uS S b s) Q qa tp bo e uc lr nx) pc lo (vI lost :: vI w :: .ref (kM ad b m) :: st) := by
  rcases (show s (50 + m) = 0 ∨ s (50 + m) = 1 ∨ s (50 + m) = 2 ∨ s (50 + m) = 3 ∨ s (50 + m) = 4 ∨ s (50 + m) = 5 ∨ s (50 + m) = 6 by have := hm.1; omega) with hk | hk | hk | hk | hk | hk | hk
  · refine v_callU (k1' := 0) (k2' := 0) (As := [vI w, vI lost]) (C := RX4) (owner := RX4) (x := yX4_strength) hG hd zc_X4_strength ⟨hl, (ztb 604 (by decide +kernel) (by decide +kernel)), (ztb 603 (by decide +kernel) (by decide +kernel)), zi_X4_strength, zi_X4_strength, ⟨_, _, _, zc_X4_strength.1⟩, ⟨by decide, by decide⟩, rfl⟩ (fun l => kc4_strength l D A ad K S Q qa tp s bo e uc lr nx b hb m w lost h8 h43 hm hw0 hlo) rfl (cRM0 hb h8 h43 hk) (fun _ h => h) ⟨Nat.le_trans (by decide) hroom.1, Nat.le_trans (by decide) hroom.2⟩ rfl rfl ⟨Nat.zero_le _, Nat.zero_le _⟩ rfl hw (fun _ => vI (s (3 + m) - lost) :: st) (fun _ => rfl) (fun _ _ => by rw [show strF (s (50 + m)) (s (3 + m)) (s (19 + m)) lost (s (74 + 4 * m + w % 4)) = s (3 + m) - lost from by simp [strF, hk]] at kk; exact kk)
  · refine v_callU (k1' := 0) (k2' := 0) (As := [vI w, vI lost]) (C := RX3) (owner := RX4) (x := yX4_strength) hG hd zc_X3_strength ⟨hl, (ztb 604 (by decide +kernel) (by decide +kernel)), (ztb 615 (by decide +kernel) (by decide +kernel)), zi_X3_strength, zi_X4_strength, ⟨_, _, _, zc_X4_strength.1⟩, ⟨by decide, by decide⟩, rfl⟩ (fun l => kc3_strength l D A ad K S Q qa tp s bo e uc lr nx b hb m w lost h8 h43 hm hw0 hlo) rfl (cRM1 hb h8 h43 hk) (fun _ h => h) ⟨Nat.le_trans (by decide) hroom.1, Nat.le_trans (by decide) hroom.2⟩ rfl rfl ⟨Nat.zero_le _, Nat.zero_le _⟩ rfl hw (fun _ => vI (s (3 + m) - lost + 1) :: st) (fun _ => rfl) (fun _ _ => by rw [show strF (s (50 + m)) (s (3 + m)) (s (19 + m)) lost (s (74 + 4 * m + w % 4)) = s (3 + m) - lost + 1 from by simp [strF, hk]] at kk; exact kk)
  · refine v_callU (k1' := 0) (k2' := 0) (As := [vI w, vI lost]) (C := RX2) (owner := RX4) (x := yX4_strength) hG hd zc_X2_strength ⟨hl, (ztb 604 (by decide +kernel) (by decide +kernel)), (ztb 612 (by decide +kernel) (by decide +kernel)), zi_X2_strength, zi_X4_strength, ⟨_, _, _, zc_X4_strength.1⟩, ⟨by decide, by decide⟩, rfl⟩ (fun l => kc2_strength l D A ad K S Q qa tp s bo e uc lr nx b hb m w lost h8 h43 hm hw0 hlo) rfl (cRM2 hb h8 h43 hk) (fun _ h => h) ⟨Nat.le_trans (by decide) hroom.1, Nat.le_trans (by decide) hroom.2⟩ rfl rfl ⟨Nat.zero_le _, Nat.zero_le _⟩ rfl hw (fun _ => vI (2 * s (3 + m) - lost) :: st) (fun _ => rfl) (fun _ _ => by rw [show strF (s (50 + m)) (s (3 + m)) (s (19 + m)) lost (s (74 + 4 * m + w % 4)) = 2 * s (3 + m) - lost from by simp [strF, hk]] at kk; exact kk)
  · refine v_callU (k1' := 0) (k2' := 0) (As := [vI w, vI lost]) (C := RX5) (owner := RX4) (x := yX4_strength) hG hd zc_X4_strength ⟨hl, (ztb 604 (by decide +kernel) (by decide +kernel)), (ztb 616 (by decide +kernel) (by decide +kernel)), zi_X4_strength, zi_X4_strength, ⟨_, _, _, zc_X4_strength.1⟩, ⟨by decide, by decide⟩, rfl⟩ (fun l => kc4_strength l D A ad K S Q qa tp s bo e uc lr nx b hb m w lost h8 h43 hm hw0 hlo) rfl (cRM3 hb h8 h43 hk) (fun _ h => h) ⟨Nat.le_trans (by decide) hroom.1, Nat.le_trans (by decide) hroom.2⟩ rfl rfl ⟨Nat.zero_le _, Nat.zero_le _⟩ rfl hw (fun _ => vI (s (3 + m) - lost) :: st) (fun _ => rfl) (fun _ _ => by rw [show strF (s (50 + m)) (s (3 + m)) (s (19 + m)) lost (s (74 + 4 * m + w % 4)) = s (3 + m) - lost from by simp [strF, hk]] at kk; exact kk)
  · refine v_callU (k1' := 0) (k2' := 0) (As := [vI w, vI lost]) (C := RX1) (owner := RX4) (x := yX4_strength) hG hd zc_X1_strength ⟨hl, (ztb 604 (by decide +kernel) (by decide +kernel)), (ztb 605 (by decide +kernel) (by decide +kernel)), zi_X1_strength, zi_X4_strength, ⟨_, _, _, zc_X4_strength.1⟩, ⟨by decide, by decide⟩, rfl⟩ (fun l => kc1_strength l D A ad K S Q qa tp s bo e uc lr nx b hb m w lost h8 h43 hm hw0 hlo) rfl (cRM4 hb h8 h43 hk) (fun _ h => h) ⟨Nat.le_trans (by decide) hroom.1, Nat.le_trans (by decide) hroom.2⟩ rfl rfl ⟨Nat.zero_le _, Nat.zero_le _⟩ rfl hw (fun _ => vI ((s (3 + m) - lost + 1).tdiv 2 - 1) :: st) (fun _ => rfl) (fun _ _ => by rw [show strF (s (50 + m)) (s (3 + m)) (s (19 + m)) lost (s (74 + 4 * m + w % 4)) = (s (3 + m) - lost + 1).tdiv 2 - 1 from by simp [strF, hk]] at kk; exact kk)
  · refine v_callU (k1' := 0) (k2' := 0) (As := [vI w, vI lost]) (C := RX10) (owner := RX4) (x := yX4_strength) hG hd zc_X10_strength ⟨hl, (ztb 604 (by decide +kernel) (by decide +kernel)), (ztb 626 (by decide +kernel) (by decide +kernel)), zi_X10_strength, zi_X4_strength, ⟨_, _, _, zc_X4_strength.1⟩, ⟨by decide, by decide⟩, rfl⟩ (fun l => kc10_strength l D A ad K S Q qa tp s bo e uc lr nx b hb m w lost h8 h43 hm hw0 hlo) rfl (cRM5 hb h8 h43 hk) (fun _ h => h) ⟨Nat.le_trans (by decide) hroom.1, Nat.le_trans (by decide) hroom.2⟩ rfl rfl ⟨Nat.zero_le _, Nat.zero_le _⟩ rfl hw (fun _ => vI (2 * s (3 + m) - lost + (if s (19 + m) = 1 then 2 else 0)) :: st) (fun _ => rfl) (fun _ _ => by rw [show strF (s (50 + m)) (s (3 + m)) (s (19 + m)) lost (s (74 + 4 * m + w % 4)) = 2 * s (3 + m) - lost + (if s (19 + m) = 1 then 2 else 0) from by simp [strF, hk]] at kk; exact kk)
  · refine v_callU (k1' := 0) (k2' := 0) (As := [vI w, vI lost]) (C := RX8) (owner := RX4) (x := yX4_strength) hG hd zc_X8_strength ⟨hl, (ztb 604 (by decide +kernel) (by decide +kernel)), (ztb 617 (by decide +kernel) (by decide +kernel)), zi_X8_strength, zi_X4_strength, ⟨_, _, _, zc_X4_strength.1⟩, ⟨by decide, by decide⟩, rfl⟩ (fun l => kc8_strength l D A ad K S Q qa tp s bo e uc lr nx b hb m w lost h8 h43 hm hw0 hlo hk) rfl (cRM6 hb h8 h43 hk) (fun _ h => h) ⟨Nat.le_trans (by decide) hroom.1, Nat.le_trans (by decide) hroom.2⟩ rfl rfl ⟨Nat.zero_le _, Nat.zero_le _⟩ rfl hw (fun _ => vI (s (3 + m) - lost + s (74 + 4 * m + w % 4)) :: st) (fun _ => rfl) (fun _ _ => by rw [show strF (s (50 + m)) (s (3 + m)) (s (19 + m)) lost (s (74 + 4 * m + w % 4)) = s (3 + m) - lost + s (74 + 4 * m + w % 4) from by simp [strF, hk]] at kk; exact kk)
set_option maxHeartbeats 4000000 in
set_option maxRecDepth 100000 in
theorem kc4_darkWorn (l : Launch) (D : Dx) (A : Nat → Prop) (ad : Nat → Nat) (K : Int → Int) (S Q qa : Nat → Int → Int) (tp : Nat → Nat) (s bo e uc lr nx : Int → Int) (b : Nat) (hb : b < 3) (m : Int) (w : Int) (wear : Int) (h8 : 0 ≤ m ∧ m < 8) (h43 : m < s 43) (hm : MK s m) (hw0 : 0 ≤ w ∧ w ≤ 100000) (hwe : 1 ≤ wear ∧ wear ≤ 99) : CT l D A yX4_darkWorn cX4_darkWorn 5 (some .int) { frames := 3, cells := 0, slots := 0, locals := 66 } [.ref (kM ad b m), vI w, vI wear] (CW D A ad K (uS S b s) Q qa tp bo e uc lr nx) (fun _ : Unit => some (vI (if s (11 + m) = 1 then darkF (s (50 + m)) (s (3 + m)) (s (19 + m)) (w / wear + s (35 + m)) (s (74 + 4 * m + w % 4)) else 0))) (fun _ => True) (fun _ => CW D A ad K (uS S b s) Q qa tp bo e uc lr nx) := by
  refine ct_of (lo0 := [(0, .ref (kM ad b m)), (1, vI w), (2, vI wear)]) (by decide) (Nat.le_of_ble_eq_true rfl) rfl ?_
  intro G hG hR
  have hm1 := hm.1; have hm2 := hm.2.1; have hm3 := hm.2.2.1; have hm4 := hm.2.2.2.1; have hm5 := hm.2.2.2.2.1; have hm6 := hm.2.2.2.2.2.1; have hm7 := hm.2.2.2.2.2.2.1; have hm8 := hm.2.2.2.2.2.2.2.1
  have hdv : 0 ≤ w / wear ∧ w / wear ≤ w := ⟨Int.ediv_nonneg (by omega) (by omega), Int.ediv_le_self _ (by omega)⟩
  have hrw := hm.2.2.2.2.2.2.2.2 (w % 4) (by omega) (by omega)
  refine v_aload_n hG dX4_darkWorn_0 rfl 0 rfl ?_
  refine cgM hb (by omega) (by omega) hG dX4_darkWorn_1 zf_X4_25 (k := 5) (by decide) (v := vI (s (11 + m))) rfl ?_
  refine v_if_ne (tgt := 9) hG dX4_darkWorn_4 (by decide) (by omega) (fun c1 => ?_) (fun c1 => ?_)
  · skip
    refine v_aload_n hG dX4_darkWorn_9 rfl 0 rfl ?_
    refine cgM hb (by omega) (by omega) hG dX4_darkWorn_10 zf_X4_35 (k := 8) (by decide) (v := vI (s (35 + m))) rfl ?_
    refine v_iload_n hG dX4_darkWorn_13 rfl 2 rfl ?_
    have J3 : ∀ z2 : Int, z2 = (if wear ≤ 0 then w else w / wear) → V G 0 0 (CW D A ad K (uS S b s) Q qa tp bo e uc lr nx) 24 [(0, .ref (kM ad b m)), (1, vI w), (2, vI wear)] [vI z2, vI (s (35 + m))] := by
      intro z2 hz2
      replace hz2 : z2 = w / wear := by rw [hz2]; exact if_neg (by omega)
      refine v_iadd hG dX4_darkWorn_24 ?_
      refine v_istore_n (lo' := [(3, vI ((s (35 + m)) + z2)), (0, .ref (kM ad b m)), (1, vI w), (2, vI wear)]) hG dX4_darkWorn_25 rfl (by decide) rfl ?_
      refine v_aload_n hG dX4_darkWorn_26 rfl 1 rfl ?_
      refine cgM hb (by omega) (by omega) hG dX4_darkWorn_27 zf_X4_29 (k := 6) (by decide) (v := vI (s (19 + m))) rfl ?_
      refine v_iconst hG dX4_darkWorn_30 ?_
      have J5 : ∀ z4 : Int, z4 = (if s (19 + m) = 3 then 2 else 0) → V G 0 0 (CW D A ad K (uS S b s) Q qa tp bo e uc lr nx) 39 [(0, .ref (kM ad b m)), (1, vI w), (2, vI wear), (3, vI ((s (35 + m)) + z2))] [vI z4] := by
        intro z4 hz4
        have bz4 : 0 ≤ z4 ∧ z4 ≤ 2 := by rw [hz4]; (repeat' split) <;> omega
        refine v_istore (lo' := [(4, vI z4), (0, .ref (kM ad b m)), (1, vI w), (2, vI wear), (3, vI ((s (35 + m)) + z2))]) hG dX4_darkWorn_39 (by decide) rfl ?_
        refine v_iconst hG dX4_darkWorn_41 ?_
        refine v_aload_n hG dX4_darkWorn_42 rfl 1 rfl ?_
        refine v_iload_n hG dX4_darkWorn_43 rfl 2 rfl ?_
        refine v_iload_n hG dX4_darkWorn_44 rfl 4 rfl ?_
        refine cv_strength hb (by omega) (by omega) (by first | assumption | exact hM _ (by omega) (by omega)) (by omega) (by omega) hG dX4_darkWorn_45 zl_X4_53 ⟨by decide, by decide⟩ (Nat.le_of_ble_eq_true rfl) ?_
        have hsr := strF_rng (k := s (50 + m)) (fl := s (19 + m)) (d := s (3 + m)) (lost := ((s (35 + m)) + z2)) (row := s (74 + 4 * m + w % 4)) (by omega) (by omega) (by omega)
        refine v_iload hG dX4_darkWorn_48 0 rfl ?_
        refine v_isub hG dX4_darkWorn_50 ?_
        refine v_mmax hG dX4_darkWorn_51 zl_X4_56 (by decide) ⟨Nat.le_refl _, Nat.le_refl _⟩ (Nat.le_of_ble_eq_true rfl) (by omega) (by omega) ?_
        generalize hv6 : (if 0 < ((strF (s (50 + m)) (s (3 + m)) (s (19 + m)) ((s (35 + m)) + z2) (s (74 + 4 * m + w % 4))) - z4) then ((strF (s (50 + m)) (s (3 + m)) (s (19 + m)) ((s (35 + m)) + z2) (s (74 + 4 * m + w % 4))) - z4) else 0) = v6
        have bv6 : (v6 = 0 ∨ v6 = (strF (s (50 + m)) (s (3 + m)) (s (19 + m)) ((s (35 + m)) + z2) (s (74 + 4 * m + w % 4))) - z4) ∧ 0 ≤ v6 ∧ (strF (s (50 + m)) (s (3 + m)) (s (19 + m)) ((s (35 + m)) + z2) (s (74 + 4 * m + w % 4))) - z4 ≤ v6 := by rw [← hv6]; (repeat' split) <;> omega
        have e7 : @Eq Int (if s (11 + m) = 1 then darkF (s (50 + m)) (s (3 + m)) (s (19 + m)) (w / wear + s (35 + m)) (s (74 + 4 * m + w % 4)) else 0) (v6) := by rw [if_pos (by omega), ← dark_str (by omega), ← hv6, hz4, hz2, Int.add_comm (w / wear)]
        exact v_ireturn hG hR dX4_darkWorn_54 () (congrArg (fun z => some (vI z)) e7) (by trivial) (fun _ hM => hM)
      refine v_icmp_ne (tgt := 38) hG dX4_darkWorn_31 (by decide) (by omega) (by omega) (fun c8 => ?_) (fun c8 => ?_)
      · skip
        refine v_iconst hG dX4_darkWorn_38 ?_
        refine v_lo [1, 2, 3, 0] (lo' := [(0, .ref (kM ad b m)), (1, vI w), (2, vI wear), (3, vI ((s (35 + m)) + z2))]) rfl ?_
        exact J5 _ (by first | rfl | (simp only [if_neg c1, if_neg c8]; done) | (simp [bi, c1, hz2, c8]; done))
      · skip
        refine v_iconst hG dX4_darkWorn_34 ?_
        refine v_goto (tgt := 39) hG dX4_darkWorn_35 (by decide) ?_
        refine v_lo [1, 2, 3, 0] (lo' := [(0, .ref (kM ad b m)), (1, vI w), (2, vI wear), (3, vI ((s (35 + m)) + z2))]) rfl ?_
        exact J5 _ (by first | rfl | (simp only [if_neg c1, if_pos c8]; done) | (simp [bi, c1, hz2, c8]; done))
    refine v_if_le (tgt := 23) hG dX4_darkWorn_14 (by decide) (by omega) (fun c9 => ?_) (fun c9 => ?_)
    · skip
      refine v_iload_n hG dX4_darkWorn_23 rfl 1 rfl ?_
      exact J3 _ (by first | rfl | (simp only [if_neg c1, if_pos c9]; done) | (simp [bi, c1, c9]; done))
    · skip
      refine v_iload_n hG dX4_darkWorn_17 rfl 1 rfl ?_
      refine v_iload_n hG dX4_darkWorn_18 rfl 2 rfl ?_
      refine v_idiv hG dX4_darkWorn_19 (by omega) (by omega) ?_
      refine v_goto (tgt := 24) hG dX4_darkWorn_20 (by decide) ?_
      exact J3 _ (by first | rfl | (simp only [if_neg c1, if_neg c9]; done) | (simp [bi, c1, c9]; done))
  · skip
    refine v_iconst hG dX4_darkWorn_7 ?_
    have e10 : @Eq Int (if s (11 + m) = 1 then darkF (s (50 + m)) (s (3 + m)) (s (19 + m)) (w / wear + s (35 + m)) (s (74 + 4 * m + w % 4)) else 0) (0) := by rw [if_neg (by omega)]
    exact v_ireturn hG hR dX4_darkWorn_8 () (congrArg (fun z => some (vI z)) e10) (by trivial) (fun _ hM => hM)
