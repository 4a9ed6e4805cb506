/-! THE CLASS: what changes a bench -/
theorem MK_of {s t : Int → Int} {m : Int} (hk : MK s m) (h50 : t (50 + m) = s (50 + m)) (h58 : t (58 + m) = s (58 + m)) (h66 : t (66 + m) = s (66 + m)) (h3 : 1 ≤ t (3 + m) ∧ t (3 + m) ≤ 9) (h11 : 0 ≤ t (11 + m) ∧ t (11 + m) ≤ 1) (h19 : 0 ≤ t (19 + m) ∧ t (19 + m) ≤ 3) (h27 : 0 ≤ t (27 + m) ∧ t (27 + m) ≤ 20000) (h35 : 0 ≤ t (35 + m) ∧ t (35 + m) ≤ 9) (hr : ∀ q : Int, 0 ≤ q → q < 4 → t (74 + 4 * m + q) = s (74 + 4 * m + q)) : MK t m := by
  unfold MK at *
  rw [h50, h58, h66]
  exact ⟨hk.1, hk.2.1, hk.2.2.1, h3, h11, h19, h27, h35, fun q q0 q4 => by rw [hr q q0 q4]; exact hk.2.2.2.2.2.2.2.2 q q0 q4⟩
theorem q_needs_of {s t : Int → Int} {m : Int} (h50 : t (50 + m) = s (50 + m)) (h3 : t (3 + m) = s (3 + m)) (h58 : t (58 + m) = s (58 + m)) : q_needs t m = q_needs s m := by
  unfold q_needs
  rw [h50, h3, h58]
theorem cut_eq {s : Int → Int} {f m : Int} (hm : 0 ≤ m ∧ m < 8) (h27 : s (27 + m) = 0) (h35 : s (35 + m) = 0) : sU (sU (sU (sU s (19 + m) f) (11 + m) 1) 0 (s 0 + q_needs s m)) 2 (clamp (s 2 + q_needs s m / 2) 0 99) = p_cut s f m := by
  funext q
  rw [p_cut_at hm]
  simp only [sU_at]
  by_cases q2 : q = 2
  · rw [if_pos q2, if_pos q2]
  · rw [if_neg q2, if_neg q2]
    by_cases q0 : q = 0
    · rw [if_pos q0, if_pos q0]
    · rw [if_neg q0, if_neg q0]
      by_cases q35 : q = 35 + m
      · rw [if_pos q35, if_neg (by omega), if_neg (by omega), q35, h35]
      · rw [if_neg q35]
        by_cases q27 : q = 27 + m
        · rw [if_pos q27, if_neg (by omega), if_neg (by omega), q27, h27]
        · rw [if_neg q27]
theorem mend_eq {s : Int → Int} {v m : Int} (hm : 0 ≤ m ∧ m < 8) (hv : v = s (35 + m) + (if 9 ≤ s (35 + m) then 0 else 1)) : sU (sU (sU (sU (sU s 0 (s 0 + q_mend s)) (19 + m) 0) (35 + m) v) (27 + m) 0) 2 (clamp (s 2 + 5) 0 99) = p_mend s m := by
  subst hv
  unfold p_mend p_tire
  rw [sU_ne (by omega), sU_ne (by omega), sU_ne (by omega), sU_ne (by omega)]
theorem over_eq {s : Int → Int} {v m : Int} (hm : 0 ≤ m ∧ m < 8) (hv : v = s (3 + m) + (if 9 ≤ s (3 + m) then 0 else 1)) : sU (sU (sU (sU s 0 (s 0 + q_needs s m / 2)) (27 + m) 0) (3 + m) v) 2 (clamp (s 2 + 3) 0 99) = p_over s m := by
  subst hv
  unfold p_over p_tire
  rw [sU_ne (by omega), sU_ne (by omega), sU_ne (by omega)]
theorem rest_eq {s : Int → Int} {n : Int} : sU (sU s 0 (s 0 + n)) 2 (clamp (s 2 + -2 * n) 0 99) = p_rest s n := by
  unfold p_rest p_tire
  rw [sU_ne (by omega)]
def mnI (x y : Int) : Int := if y < x then y else x
def tkk (s : Int → Int) (n mo k : Int) : Int → Int := fun q => if 27 ≤ q ∧ q < 27 + k then (if s (q - 16) = 1 then mnI mo (s q + n) else s q) else s q
theorem tkk_0 {s : Int → Int} {n mo : Int} : tkk s n mo 0 = s := by
  funext q
  exact if_neg (by omega)
theorem tkk_at {s : Int → Int} {n mo k q : Int} (h : q < 27 ∨ 27 + k ≤ q) : tkk s n mo k q = s q := if_neg (by omega)
theorem tkk_y {s : Int → Int} {n mo v : Int} {k : Nat} (h : s (11 + (k : Int)) = 1) (hv : v = mnI mo (s (27 + (k : Int)) + n)) : sU (tkk s n mo k) (27 + (k : Int)) v = tkk s n mo ((k + 1 : Nat) : Int) := by
  subst hv
  funext q
  unfold sU tkk
  by_cases e : q = 27 + (k : Int)
  · subst e
    rw [if_pos rfl, if_pos (by omega), show (27 : Int) + k - 16 = 11 + k by omega, if_pos h]
  · rw [if_neg e]
    by_cases e2 : 27 ≤ q ∧ q < 27 + (k : Int)
    · rw [if_pos e2, if_pos (show 27 ≤ q ∧ q < 27 + ((k + 1 : Nat) : Int) by omega)]
    · rw [if_neg e2, if_neg (by omega)]
theorem tkk_n {s : Int → Int} {n mo : Int} {k : Nat} (h : ¬ s (11 + (k : Int)) = 1) : tkk s n mo k = tkk s n mo ((k + 1 : Nat) : Int) := by
  funext q
  unfold tkk
  by_cases e : q = 27 + (k : Int)
  · subst e
    rw [if_neg (by omega), if_pos (by omega), show (27 : Int) + k - 16 = 11 + k by omega, if_neg h]
  · by_cases e2 : 27 ≤ q ∧ q < 27 + (k : Int)
    · rw [if_pos e2, if_pos (show 27 ≤ q ∧ q < 27 + ((k + 1 : Nat) : Int) by omega)]
    · rw [if_neg e2, if_neg (by omega)]
def p_take (s : Int → Int) (n mo : Int) : Int → Int := tkk (sU s 1 (mnI mo (s 1 + n))) n mo (s 43)
theorem take_print {s : Int → Int} {n : Int} (hN : NM s) (hM : GM s) (hW : WW s) (h1 : 0 ≤ s 1 ∧ s 1 ≤ 9999) (hn : 0 ≤ n ∧ n ≤ 999) : p_take s n 9999 = p_print s n := by
  have hN9 : 0 ≤ s 43 ∧ s 43 ≤ 8 := hN
  have e1 : p_prints s n 1 = s 1 + n := by rw [p_prints_at, if_neg (by omega), sU_eq]
  funext q
  unfold p_take p_print tkk capk
  rw [e1]
  have hc : clamp (s 1 + n) 0 9999 = mnI 9999 (s 1 + n) := by unfold clamp mnI; (repeat' split) <;> omega
  by_cases e : 27 ≤ q ∧ q < 27 + s 43
  · rw [if_pos e, if_pos e, sU_ne (by omega), sU_ne (by omega), sU_ne (by omega), p_prints_at, if_pos e, sU_ne (by omega), sU_ne (by omega)]
    have hk := hM (q - 27) (by omega) (by omega)
    have h7 := hk.2.2.2.2.2.2.1
    have hw := hW (q - 27) (by omega) (by omega)
    rw [show 27 + (q - 27) = q by omega] at h7 hw
    unfold clamp mnI
    (repeat' split) <;> omega
  · rw [if_neg e, if_neg e, hc]
    by_cases e2 : q = 1
    · subst e2; rw [sU_eq, sU_eq]
    · rw [sU_ne e2, sU_ne e2, p_prints_at, if_neg e, sU_ne e2]
theorem take_prints {s : Int → Int} {n : Int} (hN : NM s) (hM : GM s) (h1 : 0 ≤ s 1 ∧ s 1 ≤ 100000) (hn : 0 ≤ n ∧ n ≤ 999) : p_take s n 1000000000 = p_prints s n := by
  have hN9 : 0 ≤ s 43 ∧ s 43 ≤ 8 := hN
  have hc : mnI 1000000000 (s 1 + n) = s 1 + n := by unfold mnI; split <;> omega
  funext q
  rw [p_prints_at]
  unfold p_take tkk
  rw [hc]
  by_cases e : 27 ≤ q ∧ q < 27 + s 43
  · rw [if_pos e, if_pos e, sU_ne (by omega), sU_ne (by omega)]
    have hk := hM (q - 27) (by omega) (by omega)
    have h7 := hk.2.2.2.2.2.2.1
    rw [show 27 + (q - 27) = q by omega] at h7
    unfold mnI
    (repeat' split) <;> omega
  · rw [if_neg e, if_neg e]
set_option maxHeartbeats 4000000 in
set_option maxRecDepth 100000 in
theorem kc0_cutMark (l : Launch) (D : Dx) (A : Nat → Prop) (ad : Nat → Nat) (K : Int → Int) (S Q qa : Nat → Int → Int) (tp : Nat → Nat) (s bo e uc lr nx : Int → Int) (b : Nat) (hb : b < 3) (m : Int) (d : Int) (SL : List Int) (hTB : TB s) (h8 : 0 ≤ m ∧ m < 8) (h43 : m < s 43) (hm : MK s m) (hP : PL s) (hCH : CHP Q qa s SL) (hT : TI s) (hD : 0 ≤ d ∧ d ≤ 99) (hzu : s (27 + m) = 0 ∧ s (35 + m) = 0) : CT l D A yX0_cutMark cX0_cutMark 3 none { frames := 4, cells := 0, slots := 0, locals := 99 } [.ref (kB ad b), .ref (kM ad b m), vI d] (CW D A ad K (uS S b s) Q qa tp bo e uc lr nx) (fun _ : Unit => none) (fun _ => True) (fun _ => CW D A ad K (uS S b (p_cut s (flawF (s (50 + m)) (q_risk s SL m (s 2)) d) m)) Q qa tp bo e uc lr nx) := by
  refine ct_of (lo0 := [(0, .ref (kB ad b)), (1, .ref (kM ad b m)), (2, vI d)]) (by decide) (Nat.le_of_ble_eq_true rfl) rfl ?_
  intro G hG hR
  have hm1 := hm.1; have hm2 := hm.2.1; have hm3 := hm.2.2.1; have hm4 := hm.2.2.2.1; have hm5 := hm.2.2.2.2.1; have hm6 := hm.2.2.2.2.2.1; have hm7 := hm.2.2.2.2.2.2.1; have hm8 := hm.2.2.2.2.2.2.2.1
  obtain ⟨hhc, hpls, hwe, hmd⟩ := hCH
  have hwr := q_wear_rng hP
  have hT2 : 0 ≤ s 2 ∧ s 2 ≤ 99 := hT
  refine v_aload_n hG dX0_cutMark_0 rfl 1 rfl ?_
  refine v_iload_n hG dX0_cutMark_1 rfl 2 rfl ?_
  refine v_aload_n hG dX0_cutMark_2 rfl 0 rfl ?_
  refine cg0 hb hG dX0_cutMark_3 zf_X0_9 (k := 5) (by decide) (v := .ref (kP ad (hc s))) rfl ?_
  refine v_aload_n hG dX0_cutMark_6 rfl 1 rfl ?_
  refine v_aload_n hG dX0_cutMark_7 rfl 0 rfl ?_
  refine cg0 hb hG dX0_cutMark_8 zf_X0_56 (k := 2) (by decide) (v := vI (s 2)) rfl ?_
  refine v_callV (k1' := 0) (k2' := 0) hG dX0_cutMark_11 zc_X6_riskOf ⟨zl_X0_73, zi_X6_riskOf, zs_X6_riskOf⟩ (fun l => kc6_riskOf l D A ad K S Q qa tp s bo e uc lr nx b hb (hc s) m (s 2) SL (by first | assumption | omega) (by omega) (by first | assumption | omega) (by first | assumption | exact hM _ (by omega) (by omega)) (by omega) (by assumption)) rfl (cR6 (by assumption)) (fun _ h => h) ⟨by decide, by decide⟩ rfl rfl ⟨by decide, by decide⟩ (rest := [vI d, .ref (kM ad b m)]) rfl (Nat.le_of_ble_eq_true rfl) (fun u1 => [vI (q_risk s SL m (s 2)), vI d, .ref (kM ad b m)]) (fun _ => rfl) (fun u1 hu1 => ?_)
  have fu1 : 0 ≤ q_risk s SL m (s 2) ∧ q_risk s SL m (s 2) ≤ 99 := hu1
  have J3 : ∀ z2 : Int, z2 = (if q_risk s SL m (s 2) ≤ d then 0 else flG (s (50 + m)) d) → V G 0 0 (CW D A ad K (uS S b s) Q qa tp bo e uc lr nx) 26 [(0, .ref (kB ad b)), (1, .ref (kM ad b m)), (2, vI d)] [vI z2, .ref (kM ad b m)] := by
    intro z2 hz2
    replace hz2 : z2 = flawF (s (50 + m)) (q_risk s SL m (s 2)) d := by rw [hz2]; unfold flawF flG; (repeat' split) <;> omega
    have bz2 : 0 ≤ z2 ∧ z2 ≤ 3 := by rw [hz2]; unfold flawF; (repeat' split) <;> omega
    refine cpM_flaw hTB hb (by omega) hG dX0_cutMark_26 zf_X0_83 ?_
    refine v_aload_n hG dX0_cutMark_29 rfl 1 rfl ?_
    refine v_iconst hG dX0_cutMark_30 ?_
    refine cpM_isCut (by exact TB_of hTB (by intro q hq; simp only [sU_at]; repeat split; all_goals first | omega | rfl)) hb (by omega) hG dX0_cutMark_31 zf_X0_86 (Or.inr rfl) ?_
    refine v_aload_n hG dX0_cutMark_34 rfl 0 rfl ?_
    refine v_dup hG dX0_cutMark_35 rfl ?_
    refine cg0 hb hG dX0_cutMark_36 zf_X0_50 (k := 0) (by decide) (v := vI (s 0)) (congrArg (fun z => some (vI z)) (show (sU (sU s (19 + m) z2) (11 + m) 1) 0 = s 0 from by rw [sU_ne (by omega), sU_ne (by omega)])) ?_
    refine v_aload_n hG dX0_cutMark_39 rfl 1 rfl ?_
    refine cv_needs hb (by omega) (by rw [show (sU (sU s (19 + m) z2) (11 + m) 1) 43 = s 43 from by rw [sU_ne (by omega), sU_ne (by omega)]]; omega) (by exact MK_of hm (by simp only [sU_at]; (repeat' split) <;> omega) (by simp only [sU_at]; (repeat' split) <;> omega) (by simp only [sU_at]; (repeat' split) <;> omega) (by simp only [sU_at]; (repeat' split) <;> omega) (by simp only [sU_at]; (repeat' split) <;> omega) (by simp only [sU_at]; (repeat' split) <;> omega) (by simp only [sU_at]; (repeat' split) <;> omega) (by simp only [sU_at]; (repeat' split) <;> omega) (fun q q1 q2 => by simp only [sU_at]; (repeat' split) <;> omega)) hG dX0_cutMark_40 zl_X0_90 ⟨by decide, by decide⟩ (Nat.le_of_ble_eq_true rfl) ?_
    rw [show q_needs (sU (sU s (19 + m) z2) (11 + m) 1) m = q_needs s m from q_needs_of (by simp only [sU_at]; (repeat' split) <;> omega) (by simp only [sU_at]; (repeat' split) <;> omega) (by simp only [sU_at]; (repeat' split) <;> omega)]
    have hnr := q_needs_rng hm
    refine v_iadd hG dX0_cutMark_43 ?_
    refine cp0_minute (by exact TB_of hTB (by intro q hq; simp only [sU_at]; repeat split; all_goals first | omega | rfl)) hb hG dX0_cutMark_44 zf_X0_50 ?_
    refine v_aload_n hG dX0_cutMark_47 rfl 0 rfl ?_
    refine v_aload_n hG dX0_cutMark_48 rfl 1 rfl ?_
    refine v_aload_n hG dX0_cutMark_49 rfl 0 rfl ?_
    refine cg0 hb hG dX0_cutMark_50 zf_X0_56 (k := 2) (by decide) (v := vI (s 2)) (congrArg (fun z => some (vI z)) (show (sU (sU (sU s (19 + m) z2) (11 + m) 1) 0 ((s 0) + (q_needs s m))) 2 = s 2 from by rw [sU_ne (by omega), sU_ne (by omega), sU_ne (by omega)])) ?_
    refine cv_tiredBehindCut hb (by omega) (by rw [show (sU (sU (sU s (19 + m) z2) (11 + m) 1) 0 ((s 0) + (q_needs s m))) 43 = s 43 from by rw [sU_ne (by omega), sU_ne (by omega), sU_ne (by omega)]]; omega) (by exact MK_of hm (by simp only [sU_at]; (repeat' split) <;> omega) (by simp only [sU_at]; (repeat' split) <;> omega) (by simp only [sU_at]; (repeat' split) <;> omega) (by simp only [sU_at]; (repeat' split) <;> omega) (by simp only [sU_at]; (repeat' split) <;> omega) (by simp only [sU_at]; (repeat' split) <;> omega) (by simp only [sU_at]; (repeat' split) <;> omega) (by simp only [sU_at]; (repeat' split) <;> omega) (fun q q1 q2 => by simp only [sU_at]; (repeat' split) <;> omega)) (by omega) hG dX0_cutMark_53 zl_X0_94 ⟨by decide, by decide⟩ (Nat.le_of_ble_eq_true rfl) ?_
    rw [show q_needs (sU (sU (sU s (19 + m) z2) (11 + m) 1) 0 ((s 0) + (q_needs s m))) m = q_needs s m from q_needs_of (by simp only [sU_at]; (repeat' split) <;> omega) (by simp only [sU_at]; (repeat' split) <;> omega) (by simp only [sU_at]; (repeat' split) <;> omega)]
    have hnr := q_needs_rng hm
    refine cp0_tired (by exact TB_of hTB (by intro q hq; simp only [sU_at]; repeat split; all_goals first | omega | rfl)) hb hG dX0_cutMark_56 zf_X0_56 ?_
    have e4 : sU (sU (sU (sU s (19 + m) z2) (11 + m) 1) 0 ((s 0) + (q_needs s m))) 2 (clamp ((s 2) + q_needs s m / 2) 0 99) = p_cut s (flawF (s (50 + m)) (q_risk s SL m (s 2)) d) m := by rw [hz2]; exact cut_eq h8 hzu.1 hzu.2
    exact v_return hG hR dX0_cutMark_59 () rfl (by trivial) (fun _ hM => by rw [← e4]; exact hM)
  refine v_icmp_ge (tgt := 25) hG dX0_cutMark_14 (by decide) (by omega) (by omega) (fun c5 => ?_) (fun c5 => ?_)
  · skip
    refine v_iconst hG dX0_cutMark_25 ?_
    exact J3 _ (by first | rfl | (simp only [if_pos c5]; done) | (simp [bi, c5]; done))
  · skip
    refine v_aload_n hG dX0_cutMark_17 rfl 1 rfl ?_
    refine v_iload_n hG dX0_cutMark_18 rfl 2 rfl ?_
    refine cv_flawBy hb (by omega) (by omega) (by first | assumption | exact hM _ (by omega) (by omega)) (by omega) hG dX0_cutMark_19 zl_X0_79 ⟨by decide, by decide⟩ (Nat.le_of_ble_eq_true rfl) ?_
    refine v_goto (tgt := 26) hG dX0_cutMark_22 (by decide) ?_
    exact J3 _ (by first | rfl | (simp only [if_neg c5]; done) | (simp [bi, c5]; done))
set_option maxHeartbeats 4000000 in
set_option maxRecDepth 100000 in
theorem kc0_restFor (l : Launch) (D : Dx) (A : Nat → Prop) (ad : Nat → Nat) (K : Int → Int) (S Q qa : Nat → Int → Int) (tp : Nat → Nat) (s bo e uc lr nx : Int → Int) (b : Nat) (hb : b < 3) (n : Int) (hTB : TB s) (hT : TI s) (hn : 0 ≤ n ∧ n ≤ 100) : CT l D A yX0_restFor cX0_restFor 2 none { frames := 2, cells := 0, slots := 0, locals := 42 } [.ref (kB ad b), vI n] (CW D A ad K (uS S b s) Q qa tp bo e uc lr nx) (fun _ : Unit => none) (fun _ => True) (fun _ => CW D A ad K (uS S b (p_rest s n)) Q qa tp bo e uc lr nx) := by
  refine ct_of (lo0 := [(0, .ref (kB ad b)), (1, vI n)]) (by decide) (Nat.le_of_ble_eq_true rfl) rfl ?_
  intro G hG hR
  have hT2 : 0 ≤ s 2 ∧ s 2 ≤ 99 := hT
  refine v_aload_n hG dX0_restFor_0 rfl 0 rfl ?_
  refine v_dup hG dX0_restFor_1 rfl ?_
  refine cg0 hb hG dX0_restFor_2 zf_X0_50 (k := 0) (by decide) (v := vI (s 0)) rfl ?_
  refine v_iload_n hG dX0_restFor_5 rfl 1 rfl ?_
  refine v_iadd hG dX0_restFor_6 ?_
  refine cp0_minute hTB hb hG dX0_restFor_7 zf_X0_50 ?_
  refine v_aload_n hG dX0_restFor_10 rfl 0 rfl ?_
  refine v_aload_n hG dX0_restFor_11 rfl 0 rfl ?_
  refine cg0 hb hG dX0_restFor_12 zf_X0_56 (k := 2) (by decide) (v := vI (s 2)) (congrArg (fun z => some (vI z)) (show (sU s 0 ((s 0) + n)) 2 = s 2 from by rw [sU_ne (by omega)])) ?_
  refine v_iload_n hG dX0_restFor_15 rfl 1 rfl ?_
  refine v_callSN (k1' := 0) (k2' := 0) hG dX0_restFor_16 zc_X11_lessTired ⟨zl_X0_97, zt_X11_lessTired⟩ (fun l => kc11_lessTired l D A (CW D A ad K (uS S b (sU s 0 ((s 0) + n))) Q qa tp bo e uc lr nx) (s 2) n (by omega) (by omega)) rfl (fun _ h => h) ⟨by decide, by decide⟩ rfl rfl ⟨by decide, by decide⟩ (rest := [.ref (kB ad b)]) rfl (Nat.le_of_ble_eq_true rfl) (fun u1 => [vI (clamp ((s 2) + -2 * n) 0 99), .ref (kB ad b)]) (fun _ => rfl) (fun u1 hu1 => ?_)
  have fu1 : 0 ≤ clamp ((s 2) + -2 * n) 0 99 ∧ clamp ((s 2) + -2 * n) 0 99 ≤ 99 := hu1
  refine cp0_tired (by exact TB_of hTB (by intro q hq; simp only [sU_at]; repeat split; all_goals first | omega | rfl)) hb hG dX0_restFor_19 zf_X0_56 ?_
  have e2 : sU (sU s 0 ((s 0) + n)) 2 (clamp ((s 2) + -2 * n) 0 99) = p_rest s n := by exact rest_eq
  exact v_return hG hR dX0_restFor_22 () rfl (by trivial) (fun _ hM => by rw [← e2]; exact hM)
set_option maxHeartbeats 4000000 in
set_option maxRecDepth 100000 in
theorem kc0_mendMark (l : Launch) (D : Dx) (A : Nat → Prop) (ad : Nat → Nat) (K : Int → Int) (S Q qa : Nat → Int → Int) (tp : Nat → Nat) (s bo e uc lr nx : Int → Int) (b : Nat) (hb : b < 3) (m : Int) (SL : List Int) (hTB : TB s) (h8 : 0 ≤ m ∧ m < 8) (h43 : m < s 43) (hm : MK s m) (hP : PL s) (hCH : CHP Q qa s SL) (hT : TI s) : CT l D A yX0_mendMark cX0_mendMark 2 none { frames := 2, cells := 0, slots := 0, locals := 42 } [.ref (kB ad b), .ref (kM ad b m)] (CW D A ad K (uS S b s) Q qa tp bo e uc lr nx) (fun _ : Unit => none) (fun _ => True) (fun _ => CW D A ad K (uS S b (p_mend s m)) Q qa tp bo e uc lr nx) := by
  refine ct_of (lo0 := [(0, .ref (kB ad b)), (1, .ref (kM ad b m))]) (by decide) (Nat.le_of_ble_eq_true rfl) rfl ?_
  intro G hG hR
  have hm1 := hm.1; have hm2 := hm.2.1; have hm3 := hm.2.2.1; have hm4 := hm.2.2.2.1; have hm5 := hm.2.2.2.2.1; have hm6 := hm.2.2.2.2.2.1; have hm7 := hm.2.2.2.2.2.2.1; have hm8 := hm.2.2.2.2.2.2.2.1
  obtain ⟨hhc, hpls, hwe, hmd⟩ := hCH
  have hwr := q_wear_rng hP
  have hT2 : 0 ≤ s 2 ∧ s 2 ≤ 99 := hT
  have hmr := q_mend_rng hP
  refine v_aload_n hG dX0_mendMark_0 rfl 0 rfl ?_
  refine v_dup hG dX0_mendMark_1 rfl ?_
  refine cg0 hb hG dX0_mendMark_2 zf_X0_50 (k := 0) (by decide) (v := vI (s 0)) rfl ?_
  refine v_aload_n hG dX0_mendMark_5 rfl 0 rfl ?_
  refine cg0 hb hG dX0_mendMark_6 zf_X0_9 (k := 5) (by decide) (v := .ref (kP ad (hc s))) rfl ?_
  refine cg6 (by assumption) hG dX0_mendMark_9 zf_X0_101 (k := 10) (by decide) (v := vI (Q (hc s) 5)) rfl ?_
  rw [hmd]
  refine v_iadd hG dX0_mendMark_12 ?_
  refine cp0_minute hTB hb hG dX0_mendMark_13 zf_X0_50 ?_
  refine v_aload_n hG dX0_mendMark_16 rfl 1 rfl ?_
  refine v_iconst hG dX0_mendMark_17 ?_
  refine cpM_flaw (by exact TB_of hTB (by intro q hq; simp only [sU_at]; repeat split; all_goals first | omega | rfl)) hb (by omega) hG dX0_mendMark_18 zf_X0_83 ?_
  refine v_aload_n hG dX0_mendMark_21 rfl 1 rfl ?_
  refine v_bipush hG dX0_mendMark_22 (by decide) ?_
  refine v_aload_n hG dX0_mendMark_24 rfl 1 rfl ?_
  refine cgM hb (by omega) (by rw [show (sU (sU s 0 ((s 0) + (q_mend s))) (19 + m) 0) 43 = s 43 from by rw [sU_ne (by omega), sU_ne (by omega)]]; omega) hG dX0_mendMark_25 zf_X0_104 (k := 8) (by decide) (v := vI (s (35 + m))) (congrArg (fun z => some (vI z)) (show (sU (sU s 0 ((s 0) + (q_mend s))) (19 + m) 0) (35 + m) = s (35 + m) from by rw [sU_ne (by omega), sU_ne (by omega)])) ?_
  refine v_iconst hG dX0_mendMark_28 ?_
  refine v_iadd hG dX0_mendMark_29 ?_
  refine v_mmin hG dX0_mendMark_30 zl_X0_107 (by decide) ⟨Nat.le_refl _, Nat.le_refl _⟩ (Nat.le_of_ble_eq_true rfl) (by omega) (by omega) ?_
  generalize hv1 : (if ((s (35 + m)) + 1) < 9 then ((s (35 + m)) + 1) else 9) = v1
  have bv1 : (v1 = 9 ∨ v1 = (s (35 + m)) + 1) ∧ v1 ≤ 9 ∧ v1 ≤ (s (35 + m)) + 1 := by rw [← hv1]; (repeat' split) <;> omega
  refine cpM_mended (by exact TB_of hTB (by intro q hq; simp only [sU_at]; repeat split; all_goals first | omega | rfl)) hb (by omega) hG dX0_mendMark_33 zf_X0_104 ?_
  refine v_aload_n hG dX0_mendMark_36 rfl 1 rfl ?_
  refine v_iconst hG dX0_mendMark_37 ?_
  refine cpM_worn (by exact TB_of hTB (by intro q hq; simp only [sU_at]; repeat split; all_goals first | omega | rfl)) hb (by omega) hG dX0_mendMark_38 zf_X0_112 ?_
  refine v_aload_n hG dX0_mendMark_41 rfl 0 rfl ?_
  refine v_aload_n hG dX0_mendMark_42 rfl 0 rfl ?_
  refine cg0 hb hG dX0_mendMark_43 zf_X0_56 (k := 2) (by decide) (v := vI (s 2)) (congrArg (fun z => some (vI z)) (show (sU (sU (sU (sU s 0 ((s 0) + (q_mend s))) (19 + m) 0) (35 + m) v1) (27 + m) 0) 2 = s 2 from by rw [sU_ne (by omega), sU_ne (by omega), sU_ne (by omega), sU_ne (by omega)])) ?_
  refine v_iconst hG dX0_mendMark_46 ?_
  refine v_callSN (k1' := 0) (k2' := 0) hG dX0_mendMark_47 zc_X11_moreTired ⟨zl_X0_115, zt_X11_moreTired⟩ (fun l => kc11_moreTired l D A (CW D A ad K (uS S b (sU (sU (sU (sU s 0 ((s 0) + (q_mend s))) (19 + m) 0) (35 + m) v1) (27 + m) 0)) Q qa tp bo e uc lr nx) (s 2) 5 (by omega) (by omega)) rfl (fun _ h => h) ⟨by decide, by decide⟩ rfl rfl ⟨by decide, by decide⟩ (rest := [.ref (kB ad b)]) rfl (Nat.le_of_ble_eq_true rfl) (fun u2 => [vI (clamp ((s 2) + 5) 0 99), .ref (kB ad b)]) (fun _ => rfl) (fun u2 hu2 => ?_)
  have fu2 : 0 ≤ clamp ((s 2) + 5) 0 99 ∧ clamp ((s 2) + 5) 0 99 ≤ 99 := hu2
  refine cp0_tired (by exact TB_of hTB (by intro q hq; simp only [sU_at]; repeat split; all_goals first | omega | rfl)) hb hG dX0_mendMark_50 zf_X0_56 ?_
  have e3 : sU (sU (sU (sU (sU s 0 ((s 0) + (q_mend s))) (19 + m) 0) (35 + m) v1) (27 + m) 0) 2 (clamp ((s 2) + 5) 0 99) = p_mend s m := by exact mend_eq h8 (by split <;> omega)
  exact v_return hG hR dX0_mendMark_53 () rfl (by trivial) (fun _ hM => by rw [← e3]; exact hM)
set_option maxHeartbeats 4000000 in
set_option maxRecDepth 100000 in
theorem kc0_goOver (l : Launch) (D : Dx) (A : Nat → Prop) (ad : Nat → Nat) (K : Int → Int) (S Q qa : Nat → Int → Int) (tp : Nat → Nat) (s bo e uc lr nx : Int → Int) (b : Nat) (hb : b < 3) (m : Int) (hTB : TB s) (h8 : 0 ≤ m ∧ m < 8) (h43 : m < s 43) (hm : MK s m) (hT : TI s) : CT l D A yX0_goOver cX0_goOver 2 none { frames := 2, cells := 0, slots := 0, locals := 42 } [.ref (kB ad b), .ref (kM ad b m)] (CW D A ad K (uS S b s) Q qa tp bo e uc lr nx) (fun _ : Unit => none) (fun _ => True) (fun _ => CW D A ad K (uS S b (p_over s m)) Q qa tp bo e uc lr nx) := by
  refine ct_of (lo0 := [(0, .ref (kB ad b)), (1, .ref (kM ad b m))]) (by decide) (Nat.le_of_ble_eq_true rfl) rfl ?_
  intro G hG hR
  have hm1 := hm.1; have hm2 := hm.2.1; have hm3 := hm.2.2.1; have hm4 := hm.2.2.2.1; have hm5 := hm.2.2.2.2.1; have hm6 := hm.2.2.2.2.2.1; have hm7 := hm.2.2.2.2.2.2.1; have hm8 := hm.2.2.2.2.2.2.2.1
  have hT2 : 0 ≤ s 2 ∧ s 2 ≤ 99 := hT
  refine v_aload_n hG dX0_goOver_0 rfl 0 rfl ?_
  refine v_dup hG dX0_goOver_1 rfl ?_
  refine cg0 hb hG dX0_goOver_2 zf_X0_50 (k := 0) (by decide) (v := vI (s 0)) rfl ?_
  refine v_aload_n hG dX0_goOver_5 rfl 1 rfl ?_
  refine cv_needs hb (by omega) (by omega) (by first | assumption | exact hM _ (by omega) (by omega)) hG dX0_goOver_6 zl_X0_90 ⟨by decide, by decide⟩ (Nat.le_of_ble_eq_true rfl) ?_
  have hnr := q_needs_rng hm
  refine v_iconst hG dX0_goOver_9 ?_
  refine v_idiv hG dX0_goOver_10 (by omega) (by omega) ?_
  refine v_iadd hG dX0_goOver_11 ?_
  refine cp0_minute hTB hb hG dX0_goOver_12 zf_X0_50 ?_
  refine v_aload_n hG dX0_goOver_15 rfl 1 rfl ?_
  refine v_iconst hG dX0_goOver_16 ?_
  refine cpM_worn (by exact TB_of hTB (by intro q hq; simp only [sU_at]; repeat split; all_goals first | omega | rfl)) hb (by omega) hG dX0_goOver_17 zf_X0_112 ?_
  refine v_aload_n hG dX0_goOver_20 rfl 1 rfl ?_
  refine v_bipush hG dX0_goOver_21 (by decide) ?_
  refine v_aload_n hG dX0_goOver_23 rfl 1 rfl ?_
  refine cgM hb (by omega) (by rw [show (sU (sU s 0 ((s 0) + ((q_needs s m) / 2))) (27 + m) 0) 43 = s 43 from by rw [sU_ne (by omega), sU_ne (by omega)]]; omega) hG dX0_goOver_24 zf_X0_118 (k := 4) (by decide) (v := vI (s (3 + m))) (congrArg (fun z => some (vI z)) (show (sU (sU s 0 ((s 0) + ((q_needs s m) / 2))) (27 + m) 0) (3 + m) = s (3 + m) from by rw [sU_ne (by omega), sU_ne (by omega)])) ?_
  refine v_iconst hG dX0_goOver_27 ?_
  refine v_iadd hG dX0_goOver_28 ?_
  refine v_mmin hG dX0_goOver_29 zl_X0_107 (by decide) ⟨Nat.le_refl _, Nat.le_refl _⟩ (Nat.le_of_ble_eq_true rfl) (by omega) (by omega) ?_
  generalize hv1 : (if ((s (3 + m)) + 1) < 9 then ((s (3 + m)) + 1) else 9) = v1
  have bv1 : (v1 = 9 ∨ v1 = (s (3 + m)) + 1) ∧ v1 ≤ 9 ∧ v1 ≤ (s (3 + m)) + 1 := by rw [← hv1]; (repeat' split) <;> omega
  refine cpM_depth (by exact TB_of hTB (by intro q hq; simp only [sU_at]; repeat split; all_goals first | omega | rfl)) hb (by omega) hG dX0_goOver_32 zf_X0_118 ?_
  refine v_aload_n hG dX0_goOver_35 rfl 0 rfl ?_
  refine v_aload_n hG dX0_goOver_36 rfl 0 rfl ?_
  refine cg0 hb hG dX0_goOver_37 zf_X0_56 (k := 2) (by decide) (v := vI (s 2)) (congrArg (fun z => some (vI z)) (show (sU (sU (sU s 0 ((s 0) + ((q_needs s m) / 2))) (27 + m) 0) (3 + m) v1) 2 = s 2 from by rw [sU_ne (by omega), sU_ne (by omega), sU_ne (by omega)])) ?_
  refine v_iconst hG dX0_goOver_40 ?_
  refine v_callSN (k1' := 0) (k2' := 0) hG dX0_goOver_41 zc_X11_moreTired ⟨zl_X0_115, zt_X11_moreTired⟩ (fun l => kc11_moreTired l D A (CW D A ad K (uS S b (sU (sU (sU s 0 ((s 0) + ((q_needs s m) / 2))) (27 + m) 0) (3 + m) v1)) Q qa tp bo e uc lr nx) (s 2) 3 (by omega) (by omega)) rfl (fun _ h => h) ⟨by decide, by decide⟩ rfl rfl ⟨by decide, by decide⟩ (rest := [.ref (kB ad b)]) rfl (Nat.le_of_ble_eq_true rfl) (fun u2 => [vI (clamp ((s 2) + 3) 0 99), .ref (kB ad b)]) (fun _ => rfl) (fun u2 hu2 => ?_)
  have fu2 : 0 ≤ clamp ((s 2) + 3) 0 99 ∧ clamp ((s 2) + 3) 0 99 ≤ 99 := hu2
  refine cp0_tired (by exact TB_of hTB (by intro q hq; simp only [sU_at]; repeat split; all_goals first | omega | rfl)) hb hG dX0_goOver_44 zf_X0_56 ?_
  have e3 : sU (sU (sU (sU s 0 ((s 0) + ((q_needs s m) / 2))) (27 + m) 0) (3 + m) v1) 2 (clamp ((s 2) + 3) 0 99) = p_over s m := by exact over_eq h8 (by split <;> omega)
  exact v_return hG hR dX0_goOver_47 () rfl (by trivial) (fun _ hM => by rw [← e3]; exact hM)
set_option maxHeartbeats 4000000 in
set_option maxRecDepth 100000 in
theorem kc0_takePrints (l : Launch) (D : Dx) (A : Nat → Prop) (ad : Nat → Nat) (K : Int → Int) (S Q qa : Nat → Int → Int) (tp : Nat → Nat) (s bo e uc lr nx : Int → Int) (b : Nat) (hb : b < 3) (n : Int) (mo : Int) (hTB : TB s) (hN : NM s) (hM : GM s) (hn : 0 ≤ n ∧ n ≤ 999) (hmo : 9999 ≤ mo ∧ mo ≤ 1000000000) (h1p : 0 ≤ s 1 ∧ s 1 ≤ 100000) : CT l D A yX0_takePrints cX0_takePrints 5 none { frames := 1, cells := 0, slots := 0, locals := 21 } [.ref (kB ad b), vI n, vI mo] (CW D A ad K (uS S b s) Q qa tp bo e uc lr nx) (fun _ : Unit => none) (fun _ => True) (fun _ => CW D A ad K (uS S b (p_take s n mo)) Q qa tp bo e uc lr nx) := by
  refine ct_of (lo0 := [(0, .ref (kB ad b)), (1, vI n), (2, vI mo)]) (by decide) (Nat.le_of_ble_eq_true rfl) rfl ?_
  intro G hG hR
  have hN9 : 0 ≤ s 43 ∧ s 43 ≤ 8 := hN
  refine v_aload_n hG dX0_takePrints_0 rfl 0 rfl ?_
  refine v_iload_n hG dX0_takePrints_1 rfl 2 rfl ?_
  refine v_aload_n hG dX0_takePrints_2 rfl 0 rfl ?_
  refine cg0 hb hG dX0_takePrints_3 zf_X0_53 (k := 1) (by decide) (v := vI (s 1)) rfl ?_
  refine v_iload_n hG dX0_takePrints_6 rfl 1 rfl ?_
  refine v_iadd hG dX0_takePrints_7 ?_
  refine v_mmin hG dX0_takePrints_8 zl_X0_107 (by decide) ⟨Nat.le_refl _, Nat.le_refl _⟩ (Nat.le_of_ble_eq_true rfl) (by omega) (by omega) ?_
  generalize hv1 : (if ((s 1) + n) < mo then ((s 1) + n) else mo) = v1
  have bv1 : (v1 = mo ∨ v1 = (s 1) + n) ∧ v1 ≤ mo ∧ v1 ≤ (s 1) + n := by rw [← hv1]; (repeat' split) <;> omega
  refine cp0_taken hTB hb hG dX0_takePrints_11 zf_X0_53 ?_
  refine v_iconst hG dX0_takePrints_14 ?_
  refine v_istore_n (lo' := [(3, vI 0), (0, .ref (kB ad b)), (1, vI n), (2, vI mo)]) hG dX0_takePrints_15 rfl (by decide) rfl ?_
  refine v_lo [1, 2, 3, 0] (lo' := [(0, .ref (kB ad b)), (1, vI n), (2, vI mo), (3, vI 0)]) rfl ?_
  have L4 : ∀ mz : Nat, ∀ (k : Nat), ((k : Int) ≤ s 43) → (s 43 - (k : Int)).toNat = mz → ∀ x2 : Int, x2 = ((k : Int)) → ∀ x3 : Int → Int, x3 = (tkk (sU s 1 (mnI mo (s 1 + n))) n mo (k : Int)) → V G 0 0 (CW D A ad K (uS S b x3) Q qa tp bo e uc lr nx) 16 [(0, .ref (kB ad b)), (1, vI n), (2, vI mo), (3, vI x2)] [] := by
    intro dL4
    induction dL4 using Nat.strongRecOn with
    | ind dL4 ihL4 =>
      intro k hq5 hq6
      intro x2 hx2
      subst hx2
      intro x3 hx3
      subst hx3
      have q43 : tkk (sU s 1 (mnI mo (s 1 + n))) n mo (k : Int) 43 = s 43 := (tkk_at (by omega)).trans (sU_ne (by omega))
      refine v_iload_n hG dX0_takePrints_16 rfl 3 rfl ?_
      refine v_aload_n hG dX0_takePrints_17 rfl 0 rfl ?_
      refine cg0 hb hG dX0_takePrints_18 zf_X0_42 (k := 3) (by decide) (v := vI ((tkk (sU s 1 (mnI mo (s 1 + n))) n mo (k : Int)) 43)) rfl ?_
      refine v_icmp_ge (tgt := 62) hG dX0_takePrints_21 (by decide) (by omega) (by omega) (fun c7 => ?_) (fun c7 => ?_)
      · skip
        have e8 : tkk (sU s 1 (mnI mo (s 1 + n))) n mo (k : Int) = p_take s n mo := by rw [show (k : Int) = s 43 by omega]; rfl
        exact v_return hG hR dX0_takePrints_62 () rfl (by trivial) (fun _ hM => by rw [← e8]; exact hM)
      · skip
        refine v_aload_n hG dX0_takePrints_24 rfl 0 rfl ?_
        refine cg0 hb hG dX0_takePrints_25 zf_X0_17 (k := 6) (by decide) (v := .ref (kA ad b)) rfl ?_
        refine v_iload_n hG dX0_takePrints_28 rfl 3 rfl ?_
        refine ca_M (x := (k : Int)) hb (by omega) hG dX0_takePrints_29 ?_
        refine v_astore (lo' := [(4, .ref (kM ad b (k : Int))), (0, .ref (kB ad b)), (1, vI n), (2, vI mo), (3, vI (k : Int))]) hG dX0_takePrints_30 (by decide) rfl ?_
        have hm := hM (k : Int) (by omega) (by omega)
        have hm5 := hm.2.2.2.2.1
        have hm7 := hm.2.2.2.2.2.2.1
        have q11 : tkk (sU s 1 (mnI mo (s 1 + n))) n mo (k : Int) (11 + (k : Int)) = s (11 + (k : Int)) := (tkk_at (by omega)).trans (sU_ne (by omega))
        have q27 : tkk (sU s 1 (mnI mo (s 1 + n))) n mo (k : Int) (27 + (k : Int)) = s (27 + (k : Int)) := (tkk_at (by omega)).trans (sU_ne (by omega))
        refine v_aload hG dX0_takePrints_32 0 rfl ?_
        refine cgM hb (by omega) (by omega) hG dX0_takePrints_34 zf_X0_86 (k := 5) (by decide) (v := vI ((tkk (sU s 1 (mnI mo (s 1 + n))) n mo (k : Int)) (11 + (k : Int)))) rfl ?_
        refine v_if_eq (tgt := 56) hG dX0_takePrints_37 (by decide) (by omega) (fun c9 => ?_) (fun c9 => ?_)
        · skip
          refine v_iinc (lo' := [(3, vI ((k : Int) + 1)), (4, .ref (kM ad b (k : Int))), (0, .ref (kB ad b)), (1, vI n), (2, vI mo)]) hG dX0_takePrints_56 4 rfl (by decide) rfl ?_
          refine v_goto (tgt := 16) hG dX0_takePrints_59 (by decide) ?_
          refine v_lo [2, 3, 4, 0] (lo' := [(0, .ref (kB ad b)), (1, vI n), (2, vI mo), (3, vI ((k : Int) + 1))]) rfl ?_
          exact ihL4 _ (by omega) (k + 1) (by omega) rfl _ (by first | omega | rfl | (simp [← hv1, c7, c9]; done)) _ (by first | exact tkk_y (by rw [sU_ne (by omega)]; omega) (by rw [sU_ne (by omega)]; unfold mnI; (repeat' split) <;> omega) | exact tkk_n (by rw [sU_ne (by omega)]; omega))
        · skip
          refine v_aload hG dX0_takePrints_40 0 rfl ?_
          refine v_iload_n hG dX0_takePrints_42 rfl 3 rfl ?_
          refine v_aload hG dX0_takePrints_43 0 rfl ?_
          refine cgM hb (by omega) (by omega) hG dX0_takePrints_45 zf_X0_112 (k := 7) (by decide) (v := vI ((tkk (sU s 1 (mnI mo (s 1 + n))) n mo (k : Int)) (27 + (k : Int)))) rfl ?_
          refine v_iload_n hG dX0_takePrints_48 rfl 2 rfl ?_
          refine v_iadd hG dX0_takePrints_49 ?_
          refine v_mmin hG dX0_takePrints_50 zl_X0_107 (by decide) ⟨Nat.le_refl _, Nat.le_refl _⟩ (Nat.le_of_ble_eq_true rfl) (by omega) (by omega) ?_
          generalize hv10 : (if (((tkk (sU s 1 (mnI mo (s 1 + n))) n mo (k : Int)) (27 + (k : Int))) + n) < mo then (((tkk (sU s 1 (mnI mo (s 1 + n))) n mo (k : Int)) (27 + (k : Int))) + n) else mo) = v10
          have bv10 : (v10 = mo ∨ v10 = ((tkk (sU s 1 (mnI mo (s 1 + n))) n mo (k : Int)) (27 + (k : Int))) + n) ∧ v10 ≤ mo ∧ v10 ≤ ((tkk (sU s 1 (mnI mo (s 1 + n))) n mo (k : Int)) (27 + (k : Int))) + n := by rw [← hv10]; (repeat' split) <;> omega
          refine cpM_worn (by exact TB_of hTB (fun q hq => by first | (rw [sU_ne (by omega)]; done) | (rw [tkk_at (by omega), sU_ne (by omega)]; done) | (rw [sU_ne (by omega), tkk_at (by omega), sU_ne (by omega)]))) hb (by omega) hG dX0_takePrints_53 zf_X0_112 ?_
          refine v_iinc (lo' := [(3, vI ((k : Int) + 1)), (4, .ref (kM ad b (k : Int))), (0, .ref (kB ad b)), (1, vI n), (2, vI mo)]) hG dX0_takePrints_56 4 rfl (by decide) rfl ?_
          refine v_goto (tgt := 16) hG dX0_takePrints_59 (by decide) ?_
          refine v_lo [2, 3, 4, 0] (lo' := [(0, .ref (kB ad b)), (1, vI n), (2, vI mo), (3, vI ((k : Int) + 1))]) rfl ?_
          exact ihL4 _ (by omega) (k + 1) (by omega) rfl _ (by first | omega | rfl | (simp [← hv1, c7, c9, ← hv10]; done)) _ (by first | exact tkk_y (by rw [sU_ne (by omega)]; omega) (by rw [sU_ne (by omega)]; unfold mnI; (repeat' split) <;> omega) | exact tkk_n (by rw [sU_ne (by omega)]; omega))
  exact L4 _ 0 (by omega) rfl _ (by first | omega | rfl | (simp [← hv1]; done)) _ (by exact (congrArg (fun z => sU s 1 z) (show v1 = mnI mo (s 1 + n) from hv1.symm)).trans tkk_0.symm)
