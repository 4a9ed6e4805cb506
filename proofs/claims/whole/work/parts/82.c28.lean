/-! THE CLASS: plate() -/
/-- below 258 nothing else is asked of a row -/
theorem CW_eq {D : Dx} {A : Nat → Prop} {ad : Nat → Nat} {K : Int → Int} {S Q qa : Nat → Int → Int} {tp : Nat → Nat} {bo e uc lr nx : Int → Int} {H : Heap} {b : Nat} {s t : Int → Int} (hb : b < 3) (hT : TB s) (h : ∀ j : Int, j < 258 → t j = s j) (hw : CW D A ad K (uS S b s) Q qa tp bo e uc lr nx H) : CW D A ad K (uS S b t) Q qa tp bo e uc lr nx H := by
  obtain ⟨hB, mB, rB, tz, tc, hA, hX⟩ := hw
  refine ⟨hB, mB, rB, tz, tc, AG_upd hb hA (fun g => ?_) (fun c _ _ g => g), hX⟩
  obtain ⟨⟨h0, h1, h2, h3, h4, h5⟩, ⟨t0, t1, t2, t3⟩, hm, ht⟩ := g
  refine ⟨?_, ?_, fun x g1 g2 g3 => ?_, TA_eq hT (fun q hq => h q (by omega)) ht⟩
  · rw [h 0 (by omega), h 1 (by omega), h 2 (by omega), h 43 (by omega), h 44 (by omega), h 49 (by omega)]
    exact ⟨h0, h1, h2, h3, h4, h5⟩
  · rw [h 48 (by omega), h 45 (by omega), h 46 (by omega), h 47 (by omega)]
    exact ⟨t0, t1, t2, t3⟩
  · rw [h 43 (by omega)] at g2
    have := hm x g1 g2 g3
    unfold MA at this ⊢
    rw [h (50 + x) (by omega), h (58 + x) (by omega), h (66 + x) (by omega), h (3 + x) (by omega), h (11 + x) (by omega), h (19 + x) (by omega), h (27 + x) (by omega), h (35 + x) (by omega)]
    exact ⟨this.1, this.2.1, fun q q0 q4 => by rw [h (74 + 4 * x + q) (by omega)]; exact this.2.2 q q0 q4⟩
theorem fp_full {s : Int → Int} (h : s 44 = 5) : a_plate s = -4 ∧ f_plate s = s := ⟨if_pos h, if_pos h⟩
theorem plR_lo {s : Int → Int} (hT : TS s) (ha : 0 ≤ s 44 ∧ s 44 ≤ 4) (j : Int) (hj : j < 258) : (plR s).2 j = sU s 48 0 j := by
  have h1 := (plI_inv (s0 := rs0 s) (chT_CE hT) ha sU_eq 9).2.2 j hj
  refine h1.trans ?_
  unfold rs0
  rw [sU_ne (by omega), sU_ne (by omega), sU_ne (by omega)]
theorem fp_no {s : Int → Int} (hT : TS s) (ha : 0 ≤ s 44 ∧ s 44 ≤ 4) (h : ¬ okP s) : a_plate s = -10 - ((plR s).1.1 : Int) ∧ ∀ j : Int, j < 258 → f_plate s j = sU s 48 0 j := by
  have h5 : ¬ s 44 = 5 := by omega
  have e1 : a_plate s = -10 - ((plR s).1.1 : Int) := (if_neg h5).trans (if_neg h)
  have e2 : f_plate s = (plR s).2 := (if_neg h5).trans (if_neg h)
  exact ⟨e1, fun j hj => by rw [e2]; exact plR_lo hT ha j hj⟩
theorem fp_yes {s : Int → Int} (hT : TS s) (ha : 0 ≤ s 44 ∧ s 44 ≤ 4) (h : okP s) : a_plate s = s 44 ∧ ∀ j : Int, j < 258 → f_plate s j = sU (sU (sU s 48 0) 49 (s 44)) 44 (s 44 + 1) j := by
  have h5 : ¬ s 44 = 5 := by omega
  have e1 : a_plate s = s 44 := (if_neg h5).trans (if_pos h)
  have e2 : f_plate s = sU (sU (plR s).2 44 (s 44 + 1)) 49 (s 44) := (if_neg h5).trans (if_pos h)
  refine ⟨e1, fun j hj => ?_⟩
  have h3 := plR_lo hT ha j hj
  rw [e2]
  simp only [sU_at] at h3 ⊢
  (repeat' split) <;> first | rfl | omega | (rw [h3]; (repeat' split) <;> first | rfl | omega)
theorem tape_ok {s : Int → Int} (h : ¬ a_tape s < 0) : ¬ okP s := fun q => by rw [a_tape_y q] at h; omega
theorem tape_no {s : Int → Int} (h : a_tape s < 0) : okP s := by
  apply Classical.byContradiction
  intro q
  rw [a_tape_n q] at h
  omega
theorem a_tape_b {s : Int → Int} (hT : TS s) (ha : 0 ≤ s 44 ∧ s 44 ≤ 4) : -1 ≤ a_tape s ∧ a_tape s ≤ 100 := by
  have h1 := (plI_inv (s0 := rs0 s) (chT_CE hT) ha sU_eq 9).1
  have h2 := hT.1
  have e : (plR s).1.1 = (plI (chT s) (rs0 s) (s 44) 9).1.1 := rfl
  unfold a_tape
  split <;> omega
theorem TB_e {s t : Int → Int} (h : TB s) (hq : ∀ q : Int, 45 ≤ q → q ≤ 47 → t q = s q) (h8 : 0 ≤ t 48 ∧ t 48 ≤ 100) : TB t := by
  unfold TB at *
  rw [hq 45 (by omega) (by omega), hq 46 (by omega) (by omega), hq 47 (by omega) (by omega)]
  exact ⟨h.1, h.2.1, h.2.2.1, h8⟩
set_option maxHeartbeats 4000000 in
set_option maxRecDepth 100000 in
theorem kc11_plate (l : Launch) (D : Dx) (A : Nat → Prop) (ad : Nat → Nat) (K : Int → Int) (S Q qa : Nat → Int → Int) (tp : Nat → Nat) (s q w0 w1 w2 w3 bo e uc lr nx : Int → Int) (p : Nat) (hp : p < 6) (hTB : TB s) (hTS : TS s) (h44 : 0 ≤ s 44 ∧ s 44 ≤ 5) (hpp : s 44 ≤ 4 → (p : Int) = s 44) : CT l D A yX11_plate cX11_plate 3 (some .int) { frames := 25, cells := 0, slots := 0, locals := 566 } [.ref (ad 0)] (CW D A ad K (uS S 0 s) (uS Q p q) (q4 qa p w0 w1 w2 w3) tp bo e uc lr nx) (fun u : (Int → Int) × (Int → Int) × (Int → Int) × (Int → Int) × (Int → Int) × (Nat → Nat) => some (vI (a_plate s))) (fun u => (s 44 = 5 → u.1 = q ∧ u.2.1 = w0 ∧ u.2.2.1 = w1 ∧ u.2.2.2.1 = w2 ∧ u.2.2.2.2.1 = w3) ∧ (¬ s 44 = 5 → okP s → PLT s u.1 u.2.1 u.2.2.1 u.2.2.2.1 u.2.2.2.2.1)) (fun u => CW D A ad K (uS S 0 (f_plate s)) (uS Q p u.1) (q4 qa p u.2.1 u.2.2.1 u.2.2.2.1 u.2.2.2.2.1) u.2.2.2.2.2 bo e uc lr nx) := by
  refine ct_of (lo0 := [(0, .ref (ad 0))]) (by decide) (Nat.le_of_ble_eq_true rfl) rfl ?_
  intro G hG hR
  refine v_aload_n hG dX11_plate_0 rfl 0 rfl ?_
  refine cg11 hG dX11_plate_1 zf_X11_17 (k := 0) (by decide) (v := .ref (kB ad 0)) rfl ?_
  refine cg0 (by decide) hG dX11_plate_4 zf_X11_68 (k := 4) (by decide) (v := vI (s 44)) rfl ?_
  refine v_iconst hG dX11_plate_7 ?_
  refine v_icmp_lt (tgt := 14) hG dX11_plate_8 (by decide) (by omega) (by omega) (fun c1 => ?_) (fun c1 => ?_)
  · skip
    have h44b : 0 ≤ s 44 ∧ s 44 ≤ 4 := by omega
    have hpe := hpp h44b.2
    refine v_aload_n hG dX11_plate_14 rfl 0 rfl ?_
    refine cg11 hG dX11_plate_15 zf_X11_29 (k := 3) (by decide) (v := .ref (ad 1)) rfl ?_
    refine v_aload_n hG dX11_plate_18 rfl 0 rfl ?_
    refine cg11 hG dX11_plate_19 zf_X11_17 (k := 0) (by decide) (v := .ref (kB ad 0)) rfl ?_
    refine cg0 (by decide) hG dX11_plate_22 zf_X11_68 (k := 4) (by decide) (v := vI (s 44)) rfl ?_
    refine ca_P (x := s 44) (by omega) hG dX11_plate_25 ?_
    rw [show (s 44).toNat = p by omega]
    refine v_astore_n (lo' := [(1, .ref (kP ad p)), (0, .ref (ad 0))]) hG dX11_plate_26 rfl (by decide) rfl ?_
    refine v_aload_n hG dX11_plate_27 rfl 0 rfl ?_
    refine v_aload_n hG dX11_plate_28 rfl 1 rfl ?_
    refine cg11 hG dX11_plate_29 zf_X11_17 (k := 0) (by decide) (v := .ref (kB ad 0)) rfl ?_
    refine cg0 (by decide) hG dX11_plate_32 zf_X11_54 (k := 7) (by decide) (v := .ref (kT ad 0 0)) rfl ?_
    refine cg7 (by decide) (t := 0) (by decide) hG dX11_plate_35 zf_X11_72 (k := 0) (by decide) (v := .ref (kC ad 0 0)) rfl ?_
    refine v_aload_n hG dX11_plate_38 rfl 1 rfl ?_
    refine cg11 hG dX11_plate_39 zf_X11_17 (k := 0) (by decide) (v := .ref (kB ad 0)) rfl ?_
    refine cg0 (by decide) hG dX11_plate_42 zf_X11_54 (k := 7) (by decide) (v := .ref (kT ad 0 0)) rfl ?_
    refine cg7 (by decide) (t := 0) (by decide) hG dX11_plate_45 zf_X11_75 (k := 2) (by decide) (v := vI (s 48)) rfl ?_
    refine v_callV (k1' := 0) (k2' := 0) hG dX11_plate_48 zc_X6_readTape ⟨zl_X11_78, zi_X6_readTape, zs_X6_readTape⟩ (fun l => kc6_readTape l D A ad K S Q qa tp s q w0 w1 w2 w3 bo e uc lr nx p hp (by assumption) (by omega)) rfl (cR6 hp) (fun _ h => h) ⟨by decide, by decide⟩ rfl rfl ⟨by decide, by decide⟩ (rest := []) rfl (Nat.le_of_ble_eq_true rfl) (fun u2 => [vI (a_tape s)]) (fun _ => rfl) (fun u2 hu2 => ?_)
    have fu2 : (okP s → PLT s u2.1 u2.2.1 u2.2.2.1 u2.2.2.2.1 u2.2.2.2.2) := hu2
    have hPLT := fu2
    have hab := a_tape_b hTS h44b
    refine v_istore_n (lo' := [(2, vI (a_tape s)), (1, .ref (kP ad p)), (0, .ref (ad 0))]) hG dX11_plate_51 rfl (by decide) rfl ?_
    refine v_aload_n hG dX11_plate_52 rfl 2 rfl ?_
    refine cg11 hG dX11_plate_53 zf_X11_17 (k := 0) (by decide) (v := .ref (kB ad 0)) rfl ?_
    refine cg0 (by decide) hG dX11_plate_56 zf_X11_54 (k := 7) (by decide) (v := .ref (kT ad 0 0)) rfl ?_
    refine v_callV (k1' := 0) (k2' := 0) hG dX11_plate_59 zc_X7_empty ⟨zl_X11_82, zi_X7_empty, zs_X7_empty⟩ (fun l => kt0_empty l D A ad K S (uS Q p u2.1) (q4 qa p u2.2.1 u2.2.2.1 u2.2.2.2.1 u2.2.2.2.2) (uN tp p (kC ad 0 0)) s bo e uc lr nx 0 (by decide) (by assumption)) rfl (cR7 (by decide) (t := 0) (by decide)) (fun _ h => h) ⟨by decide, by decide⟩ rfl rfl ⟨by decide, by decide⟩ (rest := []) rfl (Nat.le_of_ble_eq_true rfl) (fun u3 => [vI 0]) (fun _ => rfl) (fun u3 hu3 => ?_)
    refine v_pop hG dX11_plate_62 rfl ?_
    refine v_iload_n hG dX11_plate_63 rfl 0 rfl ?_
    refine v_if_lt (tgt := 72) hG dX11_plate_64 (by decide) (by omega) (fun c4 => ?_) (fun c4 => ?_)
    · skip
      refine v_aload_n hG dX11_plate_72 rfl 2 rfl ?_
      refine cg11 hG dX11_plate_73 zf_X11_17 (k := 0) (by decide) (v := .ref (kB ad 0)) rfl ?_
      refine v_aload_n hG dX11_plate_76 rfl 1 rfl ?_
      refine cp0_held (p := p) (z := s 44) (by exact TB_e hTB (by intro q h1 h2; simp only [sU_at]; (repeat' split) <;> first | rfl | omega) (by simp only [sU_at]; (repeat' split) <;> omega)) (by decide) hp (by rw [if_neg (by omega)]; omega) hG dX11_plate_77 zf_X11_86 ?_
      refine v_aload_n hG dX11_plate_80 rfl 2 rfl ?_
      refine cg11 hG dX11_plate_81 zf_X11_17 (k := 0) (by decide) (v := .ref (kB ad 0)) rfl ?_
      refine v_dup hG dX11_plate_84 rfl ?_
      refine cg0 (by decide) hG dX11_plate_85 zf_X11_68 (k := 4) (by decide) (v := vI (s 44)) (congrArg (fun z => some (vI z)) (show (sU (sU s 48 0) 49 (s 44)) 44 = s 44 from by rw [sU_ne (by omega), sU_ne (by omega)])) ?_
      refine v_dup_x1 hG dX11_plate_88 rfl rfl ?_
      refine v_iconst hG dX11_plate_89 ?_
      refine v_iadd hG dX11_plate_90 ?_
      refine cp0_pcount (by exact TB_e hTB (by intro q h1 h2; simp only [sU_at]; (repeat' split) <;> first | rfl | omega) (by simp only [sU_at]; (repeat' split) <;> omega)) (by decide) hG dX11_plate_91 zf_X11_68 ?_
      have hyes := tape_no (s := s) (by assumption)
      obtain ⟨fa, fb⟩ := fp_yes hTS h44b hyes
      refine v_P (fun _ h => CW_eq (t := f_plate s) (by decide) (by exact TB_e hTB (by intro q h1 h2; simp only [sU_at]; (repeat' split) <;> first | rfl | omega) (by simp only [sU_at]; (repeat' split) <;> omega)) (fb) h) ?_
      have e5 : @Eq Int (a_plate s) (s 44) := by exact fa
      exact v_ireturn hG hR dX11_plate_94 (u2.1, u2.2.1, u2.2.2.1, u2.2.2.2.1, u2.2.2.2.2, uN tp p (kC ad 0 0)) (congrArg (fun z => some (vI z)) e5) (by exact ⟨fun h => absurd h (show ¬ s 44 = 5 by omega), fun _ _ => hPLT hyes⟩) (fun _ hM => hM)
    · skip
      refine v_bipush hG dX11_plate_67 (by decide) ?_
      refine v_iload_n hG dX11_plate_69 rfl 0 rfl ?_
      refine v_isub hG dX11_plate_70 ?_
      have hno := tape_ok (s := s) (by assumption)
      obtain ⟨fa, fb⟩ := fp_no hTS h44b hno
      have fc := a_tape_n hno
      refine v_P (fun _ h => CW_eq (t := f_plate s) (by decide) (by exact TB_e hTB (by intro q h1 h2; simp only [sU_at]; (repeat' split) <;> first | rfl | omega) (by simp only [sU_at]; (repeat' split) <;> omega)) (fb) h) ?_
      have e6 : @Eq Int (a_plate s) ((-10) - (a_tape s)) := by rw [fa, fc]
      exact v_ireturn hG hR dX11_plate_71 (u2.1, u2.2.1, u2.2.2.1, u2.2.2.2.1, u2.2.2.2.2, uN tp p (kC ad 0 0)) (congrArg (fun z => some (vI z)) e6) (by exact ⟨fun h => absurd h (show ¬ s 44 = 5 by omega), fun _ h => absurd h hno⟩) (fun _ hM => hM)
  · skip
    refine v_bipush hG dX11_plate_11 (by decide) ?_
    obtain ⟨fa, fb⟩ := fp_full (s := s) (by omega)
    have e7 : s = f_plate s := by first | exact fb.symm | rfl
    have e8 : @Eq Int (a_plate s) (-4) := by exact fa
    exact v_ireturn hG hR dX11_plate_13 (q, w0, w1, w2, w3, tp) (congrArg (fun z => some (vI z)) e8) (by exact ⟨fun _ => ⟨rfl, rfl, rfl, rfl, rfl⟩, fun h => absurd (show s 44 = 5 by omega) h⟩) (fun _ hM => by rw [← e7]; exact hM)
