/-! THE CLASS: in thought -/
theorem hy_sU {s t : Int → Int} {j z : Int} (hj : ¬ ((45 ≤ j ∧ j ≤ 48) ∨ (106 ≤ j ∧ j < 258))) : sU (wkC s t) j z = wkC (sU s j z) t := by
  funext q
  by_cases e : q = j
  · subst e; rw [sU_eq, wkC_in hj, sU_eq]
  · rw [sU_ne e]
    by_cases h : (45 ≤ q ∧ q ≤ 48) ∨ (106 ≤ q ∧ q < 258)
    · rw [wkC_out h, wkC_out h]
    · rw [wkC_in h, wkC_in h, sU_ne e]
theorem hy_tire {s t : Int → Int} {n : Int} : p_tire (wkC s t) n = wkC (p_tire s n) t := by
  unfold p_tire
  rw [wkC_in (q := 2) (by omega), hy_sU (by omega)]
theorem hy_wear {s t : Int → Int} (hP : PL s) : q_wear (wkC s t) = q_wear s := by
  have h49 := hP.1
  unfold q_wear
  rw [wkC_in (q := 49) (by omega)]
  by_cases h : s 49 = -1
  · rw [if_pos h, if_pos h]
  · rw [if_neg h, if_neg h, wkC_in (q := 258 + s 49) (by omega)]
theorem hy_qmend {s t : Int → Int} (hP : PL s) : q_mend (wkC s t) = q_mend s := by
  have h49 := hP.1
  unfold q_mend
  rw [wkC_in (q := 49) (by omega)]
  by_cases h : s 49 = -1
  · rw [if_pos h, if_pos h]
  · rw [if_neg h, if_neg h, wkC_in (q := 263 + s 49) (by omega)]
theorem hy_needs {s t : Int → Int} {m : Int} (hm : 0 ≤ m ∧ m < 8) : q_needs (wkC s t) m = q_needs s m := q_needs_of (wkC_in (by omega)) (wkC_in (by omega)) (wkC_in (by omega))
theorem hy_mend {s t : Int → Int} {m : Int} (hP : PL s) (hm : 0 ≤ m ∧ m < 8) : p_mend (wkC s t) m = wkC (p_mend s m) t := by
  unfold p_mend
  rw [hy_qmend hP, wkC_in (q := 0) (by omega), wkC_in (q := 35 + m) (by omega), hy_sU (by omega), hy_sU (by omega), hy_sU (by omega), hy_sU (by omega), hy_tire]
theorem hy_over {s t : Int → Int} {m : Int} (hm : 0 ≤ m ∧ m < 8) : p_over (wkC s t) m = wkC (p_over s m) t := by
  unfold p_over
  rw [hy_needs hm, wkC_in (q := 0) (by omega), wkC_in (q := 3 + m) (by omega), hy_sU (by omega), hy_sU (by omega), hy_sU (by omega), hy_tire]
theorem hy_rest {s t : Int → Int} {n : Int} : p_rest (wkC s t) n = wkC (p_rest s n) t := by
  unfold p_rest
  rw [wkC_in (q := 0) (by omega), hy_sU (by omega), hy_tire]
theorem hy_prk {s t : Int → Int} {n k : Int} (hk : k ≤ 8) : prk (wkC s t) n k = wkC (prk s n k) t := by
  funext q
  by_cases h : (45 ≤ q ∧ q ≤ 48) ∨ (106 ≤ q ∧ q < 258)
  · rw [wkC_out h]
    unfold prk
    rw [if_neg (by omega), wkC_out h]
  · rw [wkC_in h]
    unfold prk
    by_cases e : 27 ≤ q ∧ q < 27 + k
    · rw [if_pos e, if_pos e, wkC_in h, wkC_in (q := q - 16) (by omega)]
    · rw [if_neg e, if_neg e, wkC_in h]
theorem hy_prints {s t : Int → Int} {n : Int} (hN : NM s) : p_prints (wkC s t) n = wkC (p_prints s n) t := by
  have hN9 : 0 ≤ s 43 ∧ s 43 ≤ 8 := hN
  unfold p_prints
  rw [wkC_in (q := 1) (by omega), wkC_in (q := 43) (by omega), hy_sU (by omega), hy_prk (by omega)]
theorem hy_cut4 {s t : Int → Int} {f m : Int} (hm : 0 ≤ m ∧ m < 8) : p_cut4 (wkC s t) f m = wkC (p_cut4 s f m) t := by
  unfold p_cut4
  rw [hy_sU (by omega), hy_sU (by omega), hy_sU (by omega), hy_sU (by omega)]
theorem hy_cut5 {s t : Int → Int} {f m : Int} (hm : 0 ≤ m ∧ m < 8) : p_cut5 (wkC s t) f m = wkC (p_cut5 s f m) t := by
  unfold p_cut5
  rw [hy_cut4 hm, wkC_in (q := 0) (by omega), hy_needs hm, hy_sU (by omega)]
theorem hy_cut {s t : Int → Int} {f m : Int} (hm : 0 ≤ m ∧ m < 8) : p_cut (wkC s t) f m = wkC (p_cut s f m) t := by
  unfold p_cut
  rw [hy_cut5 hm, hy_needs hm, hy_tire]
theorem hy_risk {s t : Int → Int} {SL : List Int} {m x : Int} (hm : 0 ≤ m ∧ m < 8) : q_risk (wkC s t) SL m x = q_risk s SL m x := by
  have e : byF (wkC s t) m x = byF s m x := by
    unfold byF
    rw [wkC_in (q := 50 + m) (by omega), wkC_in (q := 3 + m) (by omega), wkC_in (q := 66 + m) (by omega), wkC_in (q := 58 + m) (by omega)]
  unfold q_risk q_look
  rw [e]
theorem hy_does {s t : Int → Int} {SL : List Int} {w m : Int} (hN : NM s) (hP : PL s) (hw : 0 ≤ w ∧ w ≤ 4) (hm : w < 3 → 0 ≤ m ∧ m < s 43) : p_does (wkC s t) SL w m = wkC (p_does s SL w m) t := by
  have hN9 : 0 ≤ s 43 ∧ s 43 ≤ 8 := hN
  unfold p_does
  by_cases h3 : w < 3
  · have hm3 := hm h3
    have hm8 : 0 ≤ m ∧ m < 8 := by omega
    rw [wkC_in (q := 11 + m) (by omega), wkC_in (q := 50 + m) (by omega), wkC_in (q := 2) (by omega), hy_risk hm8, hy_cut hm8, hy_mend hP hm8, hy_over hm8]
    (repeat' split) <;> first | rfl | (exfalso; omega)
  · rw [hy_rest, hy_prints hN]
    (repeat' split) <;> first | rfl | (exfalso; omega)
theorem hy_dk {s t : Int → Int} {m n : Int} (hP : PL s) (hm : 0 ≤ m ∧ m < 8) : q_dk (wkC s t) m n = q_dk s m n := by
  unfold q_dk q_dark
  rw [hy_wear hP, wkC_in (q := 27 + m) (by omega), wkC_in (q := 11 + m) (by omega), wkC_in (q := 50 + m) (by omega), wkC_in (q := 3 + m) (by omega), wkC_in (q := 19 + m) (by omega), wkC_in (q := 35 + m) (by omega), wkC_in (q := 74 + 4 * m + (s (27 + m) + n) % 4) (by omega)]
theorem bset_cg {f g : Nat → Bool} : ∀ {k : Nat}, (∀ m, m < k → f m = g m) → bset f k = bset g k
  | 0, _ => rfl
  | k + 1, h => by
    show bset f k + (if f k then 2 ^ k else 0) = bset g k + (if g k then 2 ^ k else 0)
    rw [bset_cg (fun m hm => h m (by omega)), h k (by omega)]
theorem allM_cg {f g : Nat → Bool} : ∀ {k : Nat}, (∀ m, m < k → f m = g m) → allM f k = allM g k
  | 0, _ => rfl
  | k + 1, h => by
    show (allM f k && f k) = (allM g k && g k)
    rw [allM_cg (fun m hm => h m (by omega)), h k (by omega)]
theorem hy_prt {s t : Int → Int} {n : Int} {m : Nat} (hP : PL s) (hm : m < 8) : prt (wkC s t) n m = prt s n m := by
  unfold prt
  rw [hy_dk hP (by omega)]
theorem hy_pset {s t : Int → Int} {n : Int} (hN : NM s) (hP : PL s) : bset (prt (wkC s t) n) (wkC s t 43).toNat = bset (prt s n) (s 43).toNat := by
  have hN9 : 0 ≤ s 43 ∧ s 43 ≤ 8 := hN
  rw [wkC_in (q := 43) (by omega)]
  exact bset_cg (fun m hm => hy_prt hP (by omega))
theorem hy_okF {s t : Int → Int} {x : Int} (hN : NM s) (hP : PL s) : okF (wkC s t) x = okF s x := by
  have hN9 : 0 ≤ s 43 ∧ s 43 ≤ 8 := hN
  funext n
  unfold okF
  rw [wkC_in (q := 43) (by omega)]
  refine allM_cg (fun m hm => ?_)
  unfold goodF
  rw [hy_prt hP (by omega)]
theorem hy_goodOf {s t : Int → Int} {x : Int} (hN : NM s) (hP : PL s) : q_goodOf (wkC s t) x = q_goodOf s x := by
  unfold q_goodOf
  rw [hy_okF hN hP]
theorem hy_43 {s t : Int → Int} : wkC s t 43 = s 43 := wkC_in (by omega)
theorem hy_NM {s t : Int → Int} (hN : NM s) : NM (wkC s t) := by
  unfold NM at *
  rw [hy_43]; exact hN
theorem hy_MK {s t : Int → Int} {m : Int} (hm : 0 ≤ m ∧ m < 8) (h : MK s m) : MK (wkC s t) m := by
  unfold MK at *
  rw [wkC_in (q := 50 + m) (by omega), wkC_in (q := 58 + m) (by omega), wkC_in (q := 66 + m) (by omega), wkC_in (q := 3 + m) (by omega), wkC_in (q := 11 + m) (by omega), wkC_in (q := 19 + m) (by omega), wkC_in (q := 27 + m) (by omega), wkC_in (q := 35 + m) (by omega)]
  obtain ⟨a1, a2, a3, a4, a5, a6, a7, a8, a9⟩ := h
  exact ⟨a1, a2, a3, a4, a5, a6, a7, a8, fun q q0 q4 => by rw [wkC_in (by omega)]; exact a9 q q0 q4⟩
theorem hy_GM {s t : Int → Int} (hN : NM s) (hM : GM s) : GM (wkC s t) := by
  have hN9 : 0 ≤ s 43 ∧ s 43 ≤ 8 := hN
  intro m h0 h1
  rw [hy_43] at h1
  exact hy_MK (by omega) (hM m h0 h1)
theorem hy_PL {s t : Int → Int} (hP : PL s) : PL (wkC s t) := by
  unfold PL at *
  rw [wkC_in (q := 49) (by omega)]
  exact ⟨hP.1, fun p p0 p5 => by rw [wkC_in (by omega), wkC_in (by omega)]; exact hP.2 p p0 p5⟩
theorem hy_TI {s t : Int → Int} (h : TI s) : TI (wkC s t) := by
  unfold TI at *
  rw [wkC_in (q := 2) (by omega)]; exact h
theorem hy_CHP {Q qa : Nat → Int → Int} {s t : Int → Int} {SL : List Int} (hP : PL s) (h : CHP Q qa s SL) : CHP Q qa (wkC s t) SL := by
  unfold CHP at *
  rw [hy_wear hP, hy_qmend hP, hc_eq (s := wkC s t) (t := s) (wkC_in (by omega))]
  exact h
theorem wor_y {s : Int → Int} {k : Nat} (h : s (11 + (k : Int)) = 1) : worF s k = q_worth s k := if_pos h
theorem best_nn {i0 : Int} {f : Nat → Int} : ∀ k : Nat, i0 ≤ (bestF i0 f k).1
  | 0 => Int.le_refl _
  | k + 1 => by
    have h := best_nn (i0 := i0) (f := f) k
    by_cases e : f k ≤ (bestF i0 f k).1
    · rw [best_n e]; exact h
    · rw [best_y e]; show i0 ≤ f k; omega
theorem cut01 {s : Int → Int} (hM : GM s) : ∀ x : Int, 0 ≤ x → x < s 43 → s (11 + x) = 0 ∨ s (11 + x) = 1 := fun x h0 h1 => by
  have h := (hM x h0 h1).2.2.2.2.1
  omega
set_option maxHeartbeats 4000000 in
set_option maxRecDepth 100000 in
theorem kc11_goodAsItIs (l : Launch) (D : Dx) (A : Nat → Prop) (ad : Nat → Nat) (K : Int → Int) (S Q qa : Nat → Int → Int) (tp : Nat → Nat) (s bo e uc lr nx : Int → Int) (SL : List Int) (hN : NM s) (hM : GM s) (hP : PL s) (hCH : CHP Q qa s SL) : CT l D A yX11_goodAsItIs cX11_goodAsItIs 1 (some .int) { frames := 6, cells := 0, slots := 0, locals := 136 } [.ref (ad 0)] (CW D A ad K (uS S 0 s) Q qa tp bo e uc lr nx) (fun _ : Unit => some (vI (q_gn s))) (fun _ => 0 ≤ q_gn s ∧ q_gn s ≤ 999) (fun _ => CW D A ad K (uS S 0 s) Q qa tp bo e uc lr nx) := by
  refine ct_of (lo0 := [(0, .ref (ad 0))]) (by decide) (Nat.le_of_ble_eq_true rfl) rfl ?_
  intro G hG hR
  have hN9 : 0 ≤ s 43 ∧ s 43 ≤ 8 := hN
  obtain ⟨hhc, hpls, hwe, hmd⟩ := id hCH
  have hwr := q_wear_rng hP
  have hqn := q_now_rng hN
  refine v_iconst hG dX11_goodAsItIs_0 ?_
  refine v_aload_n hG dX11_goodAsItIs_1 rfl 0 rfl ?_
  refine cg11 hG dX11_goodAsItIs_2 zf_X11_17 (k := 0) (by decide) (v := .ref (kB ad 0)) rfl ?_
  refine v_aload_n hG dX11_goodAsItIs_5 rfl 0 rfl ?_
  refine cg11 hG dX11_goodAsItIs_6 zf_X11_17 (k := 0) (by decide) (v := .ref (kB ad 0)) rfl ?_
  refine v_iconst hG dX11_goodAsItIs_9 ?_
  refine v_callV (k1' := 0) (k2' := 0) hG dX11_goodAsItIs_10 zc_X0_printing ⟨zl_X11_181, zi_X0_printing, zs_X0_printing⟩ (fun l => kc0_printing l D A ad K S Q qa tp s bo e uc lr nx 0 (by decide) 0 SL (by assumption) (by assumption) (by assumption) (by assumption) (by omega)) rfl (cR0 (by decide)) (fun _ h => h) ⟨by decide, by decide⟩ rfl rfl ⟨by decide, by decide⟩ (rest := [.ref (kB ad 0), vI 0]) rfl (Nat.le_of_ble_eq_true rfl) (fun u1 => [vI (bset (prt s 0) (s 43).toNat), .ref (kB ad 0), vI 0]) (fun _ => rfl) (fun u1 hu1 => ?_)
  have fu1 : 0 ≤ bset (prt s 0) (s 43).toNat ∧ bset (prt s 0) (s 43).toNat < 256 := hu1
  rw [show bset (prt s 0) (s 43).toNat = q_now s from rfl]
  refine v_callV (k1' := 0) (k2' := 0) hG dX11_goodAsItIs_13 zc_X0_goodFor ⟨zl_X11_190, zi_X0_goodFor, zs_X0_goodFor⟩ (fun l => kc0_goodFor l D A ad K S Q qa tp s bo e uc lr nx 0 (by decide) (q_now s) SL (by assumption) (by assumption) (by assumption) (by assumption) (by omega) (by exact now_ok hN)) rfl (cR0 (by decide)) (fun _ h => h) ⟨by decide, by decide⟩ rfl rfl ⟨by decide, by decide⟩ (rest := [vI 0]) rfl (Nat.le_of_ble_eq_true rfl) (fun u2 => [vI (q_goodOf s (q_now s)), vI 0]) (fun _ => rfl) (fun u2 hu2 => ?_)
  have fu2 : -5 ≤ q_goodOf s (q_now s) ∧ q_goodOf s (q_now s) ≤ 999 := hu2
  refine v_mmax hG dX11_goodAsItIs_16 zl_X11_292 (by decide) ⟨Nat.le_refl _, Nat.le_refl _⟩ (Nat.le_of_ble_eq_true rfl) (by omega) (by omega) ?_
  generalize hv3 : (if 0 < (q_goodOf s (q_now s)) then (q_goodOf s (q_now s)) else 0) = v3
  have bv3 : (v3 = 0 ∨ v3 = q_goodOf s (q_now s)) ∧ 0 ≤ v3 ∧ q_goodOf s (q_now s) ≤ v3 := by rw [← hv3]; (repeat' split) <;> omega
  have e4 : @Eq Int (q_gn s) (v3) := by unfold q_gn; split <;> omega
  exact v_ireturn hG hR dX11_goodAsItIs_19 () (congrArg (fun z => some (vI z)) e4) (by exact q_gn_rng s) (fun _ hM => hM)
set_option maxHeartbeats 4000000 in
set_option maxRecDepth 100000 in
theorem kc11_goodGoneOver (l : Launch) (D : Dx) (A : Nat → Prop) (ad : Nat → Nat) (K : Int → Int) (S Q qa : Nat → Int → Int) (tp : Nat → Nat) (s t bo e uc lr nx : Int → Int) (m : Int) (SL : List Int) (h8 : 0 ≤ m ∧ m < s 43) (hTt : TB t) (hTB : TB s) (hN : NM s) (hM : GM s) (hP : PL s) (hCH : CHP Q qa s SL) (hT : TI s) : CT l D A yX11_goodGoneOver cX11_goodGoneOver 3 (some .int) { frames := 6, cells := 0, slots := 0, locals := 136 } [.ref (ad 0), vI m] (CW D A ad K (uS (uS S 2 t) 0 s) Q qa tp bo e uc lr nx) (fun _ : Unit => some (vI (q_gn (p_over s m)))) (fun _ => 0 ≤ q_gn (p_over s m) ∧ q_gn (p_over s m) ≤ 999) (fun _ => CW D A ad K (uS (uS S 2 (wkC (p_over s m) t)) 0 s) Q qa tp bo e uc lr nx) := by
  refine ct_of (lo0 := [(0, .ref (ad 0)), (1, vI m)]) (by decide) (Nat.le_of_ble_eq_true rfl) rfl ?_
  intro G hG hR
  have hN9 : 0 ≤ s 43 ∧ s 43 ≤ 8 := hN
  have hC8 : 0 ≤ s 43 ∧ s 43 ≤ 8 := hN
  have hC6 : hc s < 6 := hCH.1
  have hC1 := cut01 hM
  have w43 : wkC s t 43 = s 43 := hy_43
  have o43 : p_over s m 43 = s 43 := p_over_lo (by omega) 43 (by omega)
  have hrN : NM (p_over s m) := lo_NM (p_over_lo (by omega)) hN
  have hrP : PL (p_over s m) := lo_PL (p_over_lo (by omega)) hP
  have hrM := GM_over hN (show 0 ≤ m ∧ m < 8 by omega) hM
  have hrC := CHP_lo (p_over_lo (show 0 ≤ m ∧ m < 8 by omega)) hP hCH
  have hqn := q_now_rng hrN
  have hmk := hy_MK (t := t) (by omega) (hM m (by omega) (by omega))
  refine v_aload_n hG dX11_goodGoneOver_0 rfl 0 rfl ?_
  refine cg11 hG dX11_goodGoneOver_1 zf_X11_26 (k := 2) (by decide) (v := .ref (kB ad 2)) rfl ?_
  refine v_aload_n hG dX11_goodGoneOver_4 rfl 0 rfl ?_
  refine cg11 hG dX11_goodGoneOver_5 zf_X11_17 (k := 0) (by decide) (v := .ref (kB ad 0)) rfl ?_
  refine v_callV (k1' := 0) (k2' := 0) hG dX11_goodGoneOver_8 zc_X0_copyWork ⟨zl_X11_232, zi_X0_copyWork, zs_X0_copyWork⟩ (fun l => kw_20 l D A ad K S Q qa tp s t bo e uc lr nx (by assumption) (by omega) (by assumption) (by assumption)) rfl (cR0 (by decide)) (fun _ h => h) ⟨by decide, by decide⟩ rfl rfl ⟨by decide, by decide⟩ (rest := []) rfl (Nat.le_of_ble_eq_true rfl) (fun u1 => []) (fun _ => rfl) (fun u1 hu1 => ?_)
  refine v_aload_n hG dX11_goodGoneOver_11 rfl 0 rfl ?_
  refine cg11 hG dX11_goodGoneOver_12 zf_X11_26 (k := 2) (by decide) (v := .ref (kB ad 2)) rfl ?_
  refine v_iload_n hG dX11_goodGoneOver_15 rfl 1 rfl ?_
  refine v_callV (k1' := 0) (k2' := 0) hG dX11_goodGoneOver_16 zc_X0_markAt ⟨zl_X11_99, zi_X0_markAt, zs_X0_markAt⟩ (fun l => kc0_markAt_in l D A ad K (uS S 0 s) Q qa tp (wkC s t) bo e uc lr nx 2 (by decide) m (by assumption) (by omega)) rfl (cR0 (by decide)) (fun _ h => by rw [uS_sw (by decide)] at h; exact h) ⟨by decide, by decide⟩ rfl rfl ⟨by decide, by decide⟩ (rest := []) rfl (Nat.le_of_ble_eq_true rfl) (fun u2 => [.ref (kM ad 2 m)]) (fun _ => rfl) (fun u2 hu2 => ?_)
  refine v_P (fun _ h => by rw [uS_sw (by decide)] at h; exact h) ?_
  refine v_astore_n (lo' := [(2, .ref (kM ad 2 m)), (0, .ref (ad 0)), (1, vI m)]) hG dX11_goodGoneOver_19 rfl (by decide) rfl ?_
  refine v_aload_n hG dX11_goodGoneOver_20 rfl 0 rfl ?_
  refine v_ifnull hG dX11_goodGoneOver_21 ?_
  refine v_aload_n hG dX11_goodGoneOver_24 rfl 1 rfl ?_
  refine cg11 hG dX11_goodGoneOver_25 zf_X11_26 (k := 2) (by decide) (v := .ref (kB ad 2)) rfl ?_
  refine v_aload_n hG dX11_goodGoneOver_28 rfl 0 rfl ?_
  refine v_callV (k1' := 0) (k2' := 0) hG dX11_goodGoneOver_29 zc_X0_goOver ⟨zl_X11_174, zi_X0_goOver, zs_X0_goOver⟩ (fun l => kc0_goOver l D A ad K (uS S 0 s) Q qa tp (wkC s t) bo e uc lr nx 2 (by decide) m (by exact TB_wk hTt) (by omega) (by omega) (by exact hmk) (by exact hy_TI hT)) rfl (cR0 (by decide)) (fun _ h => by rw [uS_sw (by decide)] at h; exact h) ⟨by decide, by decide⟩ rfl rfl ⟨by decide, by decide⟩ (rest := []) rfl (Nat.le_of_ble_eq_true rfl) (fun u3 => []) (fun _ => rfl) (fun u3 hu3 => ?_)
  refine v_P (fun _ h => by rw [uS_sw (by decide)] at h; exact h) ?_
  rw [hy_over (by omega)]
  refine v_iconst hG dX11_goodGoneOver_32 ?_
  refine v_aload_n hG dX11_goodGoneOver_33 rfl 1 rfl ?_
  refine cg11 hG dX11_goodGoneOver_34 zf_X11_26 (k := 2) (by decide) (v := .ref (kB ad 2)) rfl ?_
  refine v_aload_n hG dX11_goodGoneOver_37 rfl 1 rfl ?_
  refine cg11 hG dX11_goodGoneOver_38 zf_X11_26 (k := 2) (by decide) (v := .ref (kB ad 2)) rfl ?_
  refine v_iconst hG dX11_goodGoneOver_41 ?_
  refine v_callV (k1' := 0) (k2' := 0) hG dX11_goodGoneOver_42 zc_X0_printing ⟨zl_X11_181, zi_X0_printing, zs_X0_printing⟩ (fun l => kc0_printing l D A ad K (uS S 0 s) Q qa tp (wkC (p_over s m) t) bo e uc lr nx 2 (by decide) 0 SL (by exact hy_NM hrN) (by exact hy_GM hrN hrM) (by exact hy_PL hrP) (by exact hy_CHP hrP hrC) (by omega)) rfl (cR0 (by decide)) (fun _ h => by rw [uS_sw (by decide)] at h; exact h) ⟨by decide, by decide⟩ rfl rfl ⟨by decide, by decide⟩ (rest := [.ref (kB ad 2), vI 0]) rfl (Nat.le_of_ble_eq_true rfl) (fun u4 => [vI (bset (prt (wkC (p_over s m) t) 0) ((wkC (p_over s m) t) 43).toNat), .ref (kB ad 2), vI 0]) (fun _ => rfl) (fun u4 hu4 => ?_)
  refine v_P (fun _ h => by rw [uS_sw (by decide)] at h; exact h) ?_
  have fu4 : 0 ≤ bset (prt (wkC (p_over s m) t) 0) ((wkC (p_over s m) t) 43).toNat ∧ bset (prt (wkC (p_over s m) t) 0) ((wkC (p_over s m) t) 43).toNat < 256 := hu4
  rw [show bset (prt (wkC (p_over s m) t) 0) (wkC (p_over s m) t 43).toNat = q_now (p_over s m) from hy_pset hrN hrP]
  refine v_callV (k1' := 0) (k2' := 0) hG dX11_goodGoneOver_45 zc_X0_goodFor ⟨zl_X11_190, zi_X0_goodFor, zs_X0_goodFor⟩ (fun l => kc0_goodFor l D A ad K (uS S 0 s) Q qa tp (wkC (p_over s m) t) bo e uc lr nx 2 (by decide) (q_now (p_over s m)) SL (by exact hy_NM hrN) (by exact hy_GM hrN hrM) (by exact hy_PL hrP) (by exact hy_CHP hrP hrC) (by omega) (by rw [hy_okF hrN hrP]; exact now_ok hrN)) rfl (cR0 (by decide)) (fun _ h => by rw [uS_sw (by decide)] at h; exact h) ⟨by decide, by decide⟩ rfl rfl ⟨by decide, by decide⟩ (rest := [vI 0]) rfl (Nat.le_of_ble_eq_true rfl) (fun u5 => [vI (q_goodOf (wkC (p_over s m) t) (q_now (p_over s m))), vI 0]) (fun _ => rfl) (fun u5 hu5 => ?_)
  refine v_P (fun _ h => by rw [uS_sw (by decide)] at h; exact h) ?_
  have fu5 : -5 ≤ q_goodOf (wkC (p_over s m) t) (q_now (p_over s m)) ∧ q_goodOf (wkC (p_over s m) t) (q_now (p_over s m)) ≤ 999 := hu5
  rw [hy_goodOf hrN hrP] at fu5
  rw [hy_goodOf hrN hrP]
  refine v_mmax hG dX11_goodGoneOver_48 zl_X11_292 (by decide) ⟨Nat.le_refl _, Nat.le_refl _⟩ (Nat.le_of_ble_eq_true rfl) (by omega) (by omega) ?_
  generalize hv6 : (if 0 < (q_goodOf (p_over s m) (q_now (p_over s m))) then (q_goodOf (p_over s m) (q_now (p_over s m))) else 0) = v6
  have bv6 : (v6 = 0 ∨ v6 = q_goodOf (p_over s m) (q_now (p_over s m))) ∧ 0 ≤ v6 ∧ q_goodOf (p_over s m) (q_now (p_over s m)) ≤ v6 := by rw [← hv6]; (repeat' split) <;> omega
  have e7 : @Eq Int (q_gn (p_over s m)) (v6) := by unfold q_gn; split <;> omega
  exact v_ireturn hG hR dX11_goodGoneOver_51 () (congrArg (fun z => some (vI z)) e7) (by exact q_gn_rng _) (fun _ hM => hM)
set_option maxHeartbeats 4000000 in
set_option maxRecDepth 100000 in
theorem kc11_worth (l : Launch) (D : Dx) (A : Nat → Prop) (ad : Nat → Nat) (K : Int → Int) (S Q qa : Nat → Int → Int) (tp : Nat → Nat) (s t bo e uc lr nx : Int → Int) (m : Int) (hrm : -2147483648 ≤ m ∧ m < 2147483648) (SL : List Int) (hTt : TB t) (hTB : TB s) (hN : NM s) (hM : GM s) (hP : PL s) (hCH : CHP Q qa s SL) (hT : TI s) : CT l D A yX11_worth cX11_worth 3 (some .int) { frames := 7, cells := 0, slots := 0, locals := 158 } [.ref (ad 0), vI m] (CW D A ad K (uS (uS S 2 t) 0 s) Q qa tp bo e uc lr nx) (fun u : (Int → Int) => some (vI (a_worth s m))) (fun u => TB u) (fun u => CW D A ad K (uS (uS S 2 u) 0 s) Q qa tp bo e uc lr nx) := by
  refine ct_of (lo0 := [(0, .ref (ad 0)), (1, vI m)]) (by decide) (Nat.le_of_ble_eq_true rfl) rfl ?_
  intro G hG hR
  have hN9 : 0 ≤ s 43 ∧ s 43 ≤ 8 := hN
  have hC8 : 0 ≤ s 43 ∧ s 43 ≤ 8 := hN
  have hC6 : hc s < 6 := hCH.1
  have hC1 := cut01 hM
  refine v_aload_n hG dX11_worth_0 rfl 0 rfl ?_
  refine cg11 hG dX11_worth_1 zf_X11_17 (k := 0) (by decide) (v := .ref (kB ad 0)) rfl ?_
  refine v_iload_n hG dX11_worth_4 rfl 1 rfl ?_
  by_cases c1 : 0 ≤ m ∧ m ≤ s 43 - 1
  · skip
    refine v_callV (k1' := 0) (k2' := 0) hG dX11_worth_5 zc_X0_markAt ⟨zl_X11_99, zi_X0_markAt, zs_X0_markAt⟩ (fun l => kc0_markAt_in l D A ad K (uS S 2 t) Q qa tp s bo e uc lr nx 0 (by decide) m (by assumption) (by first | exact c1 | (simp only [sU_at]; omega) | omega)) rfl (cR0 (by decide)) (fun _ h => h) ⟨by decide, by decide⟩ rfl rfl ⟨by decide, by decide⟩ (rest := []) rfl (Nat.le_of_ble_eq_true rfl) (fun u2 => [.ref (kM ad 0 m)]) (fun _ => rfl) (fun u2 hu2 => ?_)
    refine v_astore_n (lo' := [(2, .ref (kM ad 0 m)), (0, .ref (ad 0)), (1, vI m)]) hG dX11_worth_8 rfl (by decide) rfl ?_
    refine v_aload_n hG dX11_worth_9 rfl 0 rfl ?_
    refine v_ifnonnull (tgt := 17) hG dX11_worth_10 (by decide) ?_
    refine v_aload_n hG dX11_worth_17 rfl 0 rfl ?_
    refine cgM (by decide) (by omega) (by omega) hG dX11_worth_18 zf_X11_117 (k := 5) (by decide) (v := vI (bi (s (11 + m) = 1))) (congrArg (fun z => some (vI z)) ((bi01 (by first | assumption | exact (hM _ (by omega) (by omega)).2.2.2.2.1)))) ?_
    refine v_ifb_eq (p := s (11 + m) = 1) (tgt := 37) hG dX11_worth_21 (by decide) (fun c3 => ?_) (fun c3 => ?_)
    · skip
      refine v_sipush hG dX11_worth_37 (by decide) ?_
      have e4 : @Eq Int (a_worth s m) (-1002) := by first | rfl | (unfold a_worth; (repeat' split) <;> first | rfl | omega | (exfalso; omega) | (congr 1; omega))
      exact v_ireturn hG hR dX11_worth_40 t (congrArg (fun z => some (vI z)) e4) (by first | assumption | exact TB_wk (by assumption) | exact TB_wk (TB_wk (by assumption))) (fun _ hM => hM)
    · skip
      refine v_aload_n hG dX11_worth_24 rfl 1 rfl ?_
      refine v_iload_n hG dX11_worth_25 rfl 2 rfl ?_
      refine v_callV (k1' := 0) (k2' := 0) hG dX11_worth_26 zc_X11_goodGoneOver ⟨zl_X11_236, zi_X11_goodGoneOver, zs_X11_goodGoneOver⟩ (fun l => kc11_goodGoneOver l D A ad K S Q qa tp s t bo e uc lr nx m SL (by omega) (by first | assumption | exact TB_wk (by assumption) | exact TB_wk (TB_wk (by assumption))) (by assumption) (by assumption) (by assumption) (by assumption) (by assumption) (by assumption)) rfl cR11 (fun _ h => h) ⟨by decide, by decide⟩ rfl rfl ⟨by decide, by decide⟩ (rest := []) rfl (Nat.le_of_ble_eq_true rfl) (fun u5 => [vI (q_gn (p_over s m))]) (fun _ => rfl) (fun u5 hu5 => ?_)
      have fu5 : 0 ≤ q_gn (p_over s m) ∧ q_gn (p_over s m) ≤ 999 := hu5
      refine v_aload_n hG dX11_worth_29 rfl 1 rfl ?_
      refine v_callV (k1' := 0) (k2' := 0) hG dX11_worth_30 zc_X11_goodAsItIs ⟨zl_X11_239, zi_X11_goodAsItIs, zs_X11_goodAsItIs⟩ (fun l => kc11_goodAsItIs l D A ad K (uS S 2 (wkC (p_over s m) t)) Q qa tp s bo e uc lr nx SL (by assumption) (by assumption) (by assumption) (by assumption)) rfl cR11 (fun _ h => h) ⟨by decide, by decide⟩ rfl rfl ⟨by decide, by decide⟩ (rest := [vI (q_gn (p_over s m))]) rfl (Nat.le_of_ble_eq_true rfl) (fun u6 => [vI (q_gn s), vI (q_gn (p_over s m))]) (fun _ => rfl) (fun u6 hu6 => ?_)
      have fu6 : 0 ≤ q_gn s ∧ q_gn s ≤ 999 := hu6
      refine v_isub hG dX11_worth_33 ?_
      refine v_goto (tgt := 40) hG dX11_worth_34 (by decide) ?_
      have e7 : @Eq Int (a_worth s m) ((q_gn (p_over s m)) - (q_gn s)) := by first | rfl | (unfold a_worth; (repeat' split) <;> first | rfl | omega | (exfalso; omega) | (congr 1; omega))
      exact v_ireturn hG hR dX11_worth_40 (wkC (p_over s m) t) (congrArg (fun z => some (vI z)) e7) (by first | assumption | exact TB_wk (by assumption) | exact TB_wk (TB_wk (by assumption))) (fun _ hM => hM)
  · skip
    refine v_callV (k1' := 0) (k2' := 0) hG dX11_worth_5 zc_X0_markAt ⟨zl_X11_99, zi_X0_markAt, zs_X0_markAt⟩ (fun l => kc0_markAt_out l D A ad K (uS S 2 t) Q qa tp s bo e uc lr nx 0 (by decide) m (by assumption) (by omega) (by first | exact c1 | (simp only [sU_at]; omega) | omega)) rfl (cR0 (by decide)) (fun _ h => h) ⟨by decide, by decide⟩ rfl rfl ⟨by decide, by decide⟩ (rest := []) rfl (Nat.le_of_ble_eq_true rfl) (fun u8 => [.null]) (fun _ => rfl) (fun u8 hu8 => ?_)
    refine v_astoreN_n (lo' := [(2, .null), (0, .ref (ad 0)), (1, vI m)]) hG dX11_worth_8 rfl (by decide) rfl ?_
    refine v_aloadN_n hG dX11_worth_9 rfl 0 rfl ?_
    refine v_ifnonnullN hG dX11_worth_10 ?_
    refine v_sipush hG dX11_worth_13 (by decide) ?_
    have e9 : @Eq Int (a_worth s m) (-1001) := by first | rfl | (unfold a_worth; (repeat' split) <;> first | rfl | omega | (exfalso; omega) | (congr 1; omega))
    exact v_ireturn hG hR dX11_worth_16 t (congrArg (fun z => some (vI z)) e9) (by first | assumption | exact TB_wk (by assumption) | exact TB_wk (TB_wk (by assumption))) (fun _ hM => hM)
set_option maxHeartbeats 4000000 in
set_option maxRecDepth 100000 in
theorem kc11_best (l : Launch) (D : Dx) (A : Nat → Prop) (ad : Nat → Nat) (K : Int → Int) (S Q qa : Nat → Int → Int) (tp : Nat → Nat) (s t bo e uc lr nx : Int → Int) (SL : List Int) (hTt : TB t) (hTB : TB s) (hN : NM s) (hM : GM s) (hP : PL s) (hCH : CHP Q qa s SL) (hT : TI s) : CT l D A yX11_best cX11_best 5 (some .int) { frames := 7, cells := 0, slots := 0, locals := 158 } [.ref (ad 0)] (CW D A ad K (uS (uS S 2 t) 0 s) Q qa tp bo e uc lr nx) (fun u : (Int → Int) => some (vI ((bestF 0 (worF s) (s 43).toNat).2))) (fun u => TB u) (fun u => CW D A ad K (uS (uS S 2 u) 0 s) Q qa tp bo e uc lr nx) := by
  refine ct_of (lo0 := [(0, .ref (ad 0))]) (by decide) (Nat.le_of_ble_eq_true rfl) rfl ?_
  intro G hG hR
  have hN9 : 0 ≤ s 43 ∧ s 43 ≤ 8 := hN
  have hC8 : 0 ≤ s 43 ∧ s 43 ≤ 8 := hN
  have hC6 : hc s < 6 := hCH.1
  have hC1 := cut01 hM
  refine v_aload_n hG dX11_best_0 rfl 0 rfl ?_
  refine v_callV (k1' := 0) (k2' := 0) hG dX11_best_1 zc_X11_goodAsItIs ⟨zl_X11_239, zi_X11_goodAsItIs, zs_X11_goodAsItIs⟩ (fun l => kc11_goodAsItIs l D A ad K (uS S 2 t) Q qa tp s bo e uc lr nx SL (by assumption) (by assumption) (by assumption) (by assumption)) rfl cR11 (fun _ h => h) ⟨by decide, by decide⟩ rfl rfl ⟨by decide, by decide⟩ (rest := []) rfl (Nat.le_of_ble_eq_true rfl) (fun u1 => [vI (q_gn s)]) (fun _ => rfl) (fun u1 hu1 => ?_)
  have fu1 : 0 ≤ q_gn s ∧ q_gn s ≤ 999 := hu1
  refine v_istore_n (lo' := [(1, vI (q_gn s)), (0, .ref (ad 0))]) hG dX11_best_4 rfl (by decide) rfl ?_
  refine v_bipush hG dX11_best_5 (by decide) ?_
  refine v_istore_n (lo' := [(2, vI (-5)), (1, vI (q_gn s)), (0, .ref (ad 0))]) hG dX11_best_7 rfl (by decide) rfl ?_
  refine v_iconst hG dX11_best_8 ?_
  refine v_istore_n (lo' := [(3, vI 0), (2, vI (-5)), (1, vI (q_gn s)), (0, .ref (ad 0))]) hG dX11_best_9 rfl (by decide) rfl ?_
  refine v_lo [3, 2, 1, 0] (lo' := [(0, .ref (ad 0)), (1, vI (q_gn s)), (2, vI (-5)), (3, vI 0)]) rfl ?_
  have L6 : ∀ mz : Nat, ∀ (k : Nat), ((k : Int) ≤ s 43) → (s 43 - (k : Int)).toNat = mz → ∀ x2 : Int, x2 = ((k : Int)) → ∀ x3 : Int, x3 = (q_gn s + (bestF 0 (worF s) k).1) → ∀ x4 : Int, x4 = ((bestF 0 (worF s) k).2) → ∀ x5 : Int → Int, TB x5 → V G 0 0 (CW D A ad K (uS (uS S 2 x5) 0 s) Q qa tp bo e uc lr nx) 10 [(0, .ref (ad 0)), (1, vI x3), (2, vI x4), (3, vI x2)] [] := by
    intro dL6
    induction dL6 using Nat.strongRecOn with
    | ind dL6 ihL6 =>
      intro k hq7 hq8
      intro x2 hx2
      subst hx2
      intro x3 hx3
      subst hx3
      intro x4 hx4
      subst hx4
      intro x5 hx5
      have hbr := bestF_rng (i0 := 0) (f := worF s) (b := 999) (by omega) (fun k => worF_rng s k) k
      have hbn : 0 ≤ (bestF 0 (worF s) k).1 := best_nn k
      refine v_iload_n hG dX11_best_10 rfl 3 rfl ?_
      refine v_aload_n hG dX11_best_11 rfl 0 rfl ?_
      refine cg11 hG dX11_best_12 zf_X11_17 (k := 0) (by decide) (v := .ref (kB ad 0)) rfl ?_
      refine cg0 (by decide) hG dX11_best_15 zf_X11_90 (k := 3) (by decide) (v := vI (s 43)) rfl ?_
      refine v_icmp_ge (tgt := 60) hG dX11_best_18 (by decide) (by omega) (by omega) (fun c9 => ?_) (fun c9 => ?_)
      · skip
        refine v_iload_n hG dX11_best_60 rfl 2 rfl ?_
        have e10 : @Eq Int ((bestF 0 (worF s) (s 43).toNat).2) ((bestF 0 (worF s) k).2) := by rw [show k = (s 43).toNat by omega]
        exact v_ireturn hG hR dX11_best_61 x5 (congrArg (fun z => some (vI z)) e10) (by first | assumption | exact TB_wk (by assumption) | exact TB_wk (TB_wk (by assumption))) (fun _ hM => hM)
      · skip
        refine v_aload_n hG dX11_best_21 rfl 0 rfl ?_
        refine cg11 hG dX11_best_22 zf_X11_17 (k := 0) (by decide) (v := .ref (kB ad 0)) rfl ?_
        refine cg0 (by decide) hG dX11_best_25 zf_X11_91 (k := 6) (by decide) (v := .ref (kA ad 0)) rfl ?_
        refine v_iload_n hG dX11_best_28 rfl 3 rfl ?_
        refine ca_M (x := (k : Int)) (by decide) (by omega) hG dX11_best_29 ?_
        refine cgM (by decide) (by omega) (by omega) hG dX11_best_30 zf_X11_117 (k := 5) (by decide) (v := vI (bi (s (11 + (k : Int)) = 1))) (congrArg (fun z => some (vI z)) ((bi01 (by first | assumption | exact (hM _ (by omega) (by omega)).2.2.2.2.1)))) ?_
        refine v_ifb_eq (p := s (11 + (k : Int)) = 1) (tgt := 54) hG dX11_best_33 (by decide) (fun c11 => ?_) (fun c11 => ?_)
        · skip
          refine v_iinc (lo' := [(3, vI ((k : Int) + 1)), (0, .ref (ad 0)), (1, vI (q_gn s + (bestF 0 (worF s) k).1)), (2, vI ((bestF 0 (worF s) k).2))]) hG dX11_best_54 3 rfl (by decide) rfl ?_
          refine v_goto (tgt := 10) hG dX11_best_57 (by decide) ?_
          refine v_lo [1, 2, 3, 0] (lo' := [(0, .ref (ad 0)), (1, vI (q_gn s + (bestF 0 (worF s) k).1)), (2, vI ((bestF 0 (worF s) k).2)), (3, vI ((k : Int) + 1))]) rfl ?_
          exact ihL6 _ (by omega) (k + 1) (by omega) rfl _ (by first | omega | rfl | (simp [c9, c11]; done)) _ (by first | (rw [best_n (f := worF s) (by first | (rw [show worF s k = 0 from if_neg (by assumption)]; exact hbn) | (rw [wor_y (by assumption)]; unfold q_worth; omega))]; done) | (rw [best_y (f := worF s) (by rw [wor_y (by assumption)]; unfold q_worth; omega)] <;> first | done | rfl | (show _ = q_gn s + worF s k; rw [wor_y (by assumption)]; unfold q_worth; omega))) _ (by first | (rw [best_n (f := worF s) (by first | (rw [show worF s k = 0 from if_neg (by assumption)]; exact hbn) | (rw [wor_y (by assumption)]; unfold q_worth; omega))]; done) | (rw [best_y (f := worF s) (by rw [wor_y (by assumption)]; unfold q_worth; omega)] <;> first | done | rfl | (show _ = q_gn s + worF s k; rw [wor_y (by assumption)]; unfold q_worth; omega))) _ (by first | assumption | exact TB_wk (by assumption) | exact TB_wk (TB_wk (by assumption)))
        · skip
          refine v_aload_n hG dX11_best_36 rfl 0 rfl ?_
          refine v_iload_n hG dX11_best_37 rfl 3 rfl ?_
          refine v_callV (k1' := 0) (k2' := 0) hG dX11_best_38 zc_X11_goodGoneOver ⟨zl_X11_236, zi_X11_goodGoneOver, zs_X11_goodGoneOver⟩ (fun l => kc11_goodGoneOver l D A ad K S Q qa tp s x5 bo e uc lr nx (k : Int) SL (by omega) (by first | assumption | exact TB_wk (by assumption) | exact TB_wk (TB_wk (by assumption))) (by assumption) (by assumption) (by assumption) (by assumption) (by assumption) (by assumption)) rfl cR11 (fun _ h => h) ⟨by decide, by decide⟩ rfl rfl ⟨by decide, by decide⟩ (rest := []) rfl (Nat.le_of_ble_eq_true rfl) (fun u12 => [vI (q_gn (p_over s (k : Int)))]) (fun _ => rfl) (fun u12 hu12 => ?_)
          have fu12 : 0 ≤ q_gn (p_over s (k : Int)) ∧ q_gn (p_over s (k : Int)) ≤ 999 := hu12
          refine v_istore (lo' := [(4, vI (q_gn (p_over s (k : Int)))), (0, .ref (ad 0)), (1, vI (q_gn s + (bestF 0 (worF s) k).1)), (2, vI ((bestF 0 (worF s) k).2)), (3, vI (k : Int))]) hG dX11_best_41 (by decide) rfl ?_
          refine v_iload hG dX11_best_43 0 rfl ?_
          refine v_iload_n hG dX11_best_45 rfl 2 rfl ?_
          refine v_icmp_le (tgt := 54) hG dX11_best_46 (by decide) (by omega) (by omega) (fun c13 => ?_) (fun c13 => ?_)
          · skip
            refine v_iinc (lo' := [(3, vI ((k : Int) + 1)), (4, vI (q_gn (p_over s (k : Int)))), (0, .ref (ad 0)), (1, vI (q_gn s + (bestF 0 (worF s) k).1)), (2, vI ((bestF 0 (worF s) k).2))]) hG dX11_best_54 4 rfl (by decide) rfl ?_
            refine v_goto (tgt := 10) hG dX11_best_57 (by decide) ?_
            refine v_lo [2, 3, 4, 0] (lo' := [(0, .ref (ad 0)), (1, vI (q_gn s + (bestF 0 (worF s) k).1)), (2, vI ((bestF 0 (worF s) k).2)), (3, vI ((k : Int) + 1))]) rfl ?_
            exact ihL6 _ (by omega) (k + 1) (by omega) rfl _ (by first | omega | rfl | (simp [c9, c11, c13]; done)) _ (by first | (rw [best_n (f := worF s) (by first | (rw [show worF s k = 0 from if_neg (by assumption)]; exact hbn) | (rw [wor_y (by assumption)]; unfold q_worth; omega))]; done) | (rw [best_y (f := worF s) (by rw [wor_y (by assumption)]; unfold q_worth; omega)] <;> first | done | rfl | (show _ = q_gn s + worF s k; rw [wor_y (by assumption)]; unfold q_worth; omega))) _ (by first | (rw [best_n (f := worF s) (by first | (rw [show worF s k = 0 from if_neg (by assumption)]; exact hbn) | (rw [wor_y (by assumption)]; unfold q_worth; omega))]; done) | (rw [best_y (f := worF s) (by rw [wor_y (by assumption)]; unfold q_worth; omega)] <;> first | done | rfl | (show _ = q_gn s + worF s k; rw [wor_y (by assumption)]; unfold q_worth; omega))) _ (by first | assumption | exact TB_wk (by assumption) | exact TB_wk (TB_wk (by assumption)))
          · skip
            refine v_iload hG dX11_best_49 0 rfl ?_
            refine v_istore_n (lo' := [(1, vI (q_gn (p_over s (k : Int)))), (4, vI (q_gn (p_over s (k : Int)))), (0, .ref (ad 0)), (2, vI ((bestF 0 (worF s) k).2)), (3, vI (k : Int))]) hG dX11_best_51 rfl (by decide) rfl ?_
            refine v_iload_n hG dX11_best_52 rfl 4 rfl ?_
            refine v_istore_n (lo' := [(2, vI (k : Int)), (1, vI (q_gn (p_over s (k : Int)))), (4, vI (q_gn (p_over s (k : Int)))), (0, .ref (ad 0)), (3, vI (k : Int))]) hG dX11_best_53 rfl (by decide) rfl ?_
            refine v_iinc (lo' := [(3, vI ((k : Int) + 1)), (2, vI (k : Int)), (1, vI (q_gn (p_over s (k : Int)))), (4, vI (q_gn (p_over s (k : Int)))), (0, .ref (ad 0))]) hG dX11_best_54 4 rfl (by decide) rfl ?_
            refine v_goto (tgt := 10) hG dX11_best_57 (by decide) ?_
            refine v_lo [4, 2, 1, 0] (lo' := [(0, .ref (ad 0)), (1, vI (q_gn (p_over s (k : Int)))), (2, vI (k : Int)), (3, vI ((k : Int) + 1))]) rfl ?_
            exact ihL6 _ (by omega) (k + 1) (by omega) rfl _ (by first | omega | rfl | (simp [c9, c11, c13]; done)) _ (by first | (rw [best_n (f := worF s) (by first | (rw [show worF s k = 0 from if_neg (by assumption)]; exact hbn) | (rw [wor_y (by assumption)]; unfold q_worth; omega))]; done) | (rw [best_y (f := worF s) (by rw [wor_y (by assumption)]; unfold q_worth; omega)] <;> first | done | rfl | (show _ = q_gn s + worF s k; rw [wor_y (by assumption)]; unfold q_worth; omega))) _ (by first | (rw [best_n (f := worF s) (by first | (rw [show worF s k = 0 from if_neg (by assumption)]; exact hbn) | (rw [wor_y (by assumption)]; unfold q_worth; omega))]; done) | (rw [best_y (f := worF s) (by rw [wor_y (by assumption)]; unfold q_worth; omega)] <;> first | done | rfl | (show _ = q_gn s + worF s k; rw [wor_y (by assumption)]; unfold q_worth; omega))) _ (by first | assumption | exact TB_wk (by assumption) | exact TB_wk (TB_wk (by assumption)))
  exact L6 _ 0 (by omega) rfl _ (by first | omega | rfl | (simp []; done)) _ (by show q_gn s = q_gn s + 0; omega) _ (by rfl) _ (by assumption)
