/-! THE MODEL: clauses -/
def tellF (c : Nat → Int) (w p : Nat) : (Nat × Bool) × Int := figF c (spF c w (zn w).toNat (p, true))
def someA (c : Nat → Int) (u : Nat × Bool) : R3 := if u.2 = true then someF (facF c 5) c u.1 else (u.1, false, [])
def muchF (c : Nat → Int) (w : Nat) (kind : Int) (p : Nat) : R3 := ((someA c (mustF c 32 (tellF c w p).1)).1, (someA c (mustF c 32 (tellF c w p).1)).2.1, (someA c (mustF c 32 (tellF c w p).1)).2.2 ++ (if (someA c (mustF c 32 (tellF c w p).1)).2.1 = true then [kind - (tellF c w p).2] else []))
theorem spF_rng {c : Nat → Int} {n w : Nat} (h : CE c n) (hw : w < 7) : ∀ (k : Nat) (u : Nat × Bool), k ≤ (zn w).toNat → u.1 ≤ n → u.1 ≤ (spF c w k u).1 ∧ (spF c w k u).1 ≤ n
  | 0, u, _, hu => ⟨Nat.le_refl _, hu⟩
  | k + 1, u, hk, hu => by
    have ih := spF_rng h hw k u (by omega) hu
    have hz := zn_rng w hw
    have hc := zch_rng w hw (k := (k : Int)) (by omega)
    have := mustF_rng (x := zch w (k : Int)) (ok := (spF c w k u).2) h (by omega) ih.2
    exact ⟨Nat.le_trans ih.1 this.1, this.2.1⟩
theorem tellF_rng {c : Nat → Int} {n w p : Nat} (h : CE c n) (hw : w < 7) (hp : p ≤ n) : p ≤ (tellF c w p).1.1 ∧ (tellF c w p).1.1 ≤ n ∧ 0 ≤ (tellF c w p).2 ∧ (tellF c w p).2 ≤ 99 := by
  have h1 := spF_rng h hw (zn w).toNat (p, true) (Nat.le_refl _) hp
  have h2 := figF_rng (ok := (spF c w (zn w).toNat (p, true)).2) h h1.2
  exact ⟨Nat.le_trans h1.1 h2.1, h2.2.1, h2.2.2.2⟩
theorem someA_rng {c : Nat → Int} {n : Nat} {u : Nat × Bool} (h : CE c n) (hp : u.1 ≤ n) : RB n u.1 (someA c u) := by
  unfold someA
  split
  · exact someF_rng h (fun x hx => facF_rng h 5 x hx) hp
  · exact ⟨Nat.le_refl _, hp, by simp⟩
def clF (c : Nat → Int) (p : Nat) : Nat × Bool := if c p = 109 then (tellF c 4 p).1 else if c p = 114 then ((muchF c 5 (-10) p).1, (muchF c 5 (-10) p).2.1) else if c p = 115 then ((muchF c 6 (-200) p).1, (muchF c 6 (-200) p).2.1) else if c p = 119 then (tellF c 3 p).1 else (p, false)
def clS (c : Nat → Int) (p : Nat) (s : Int → Int) (a : Int) : Int → Int := if c p = 109 then (if (tellF c 4 p).1.2 = true then sU s (263 + a) (tellF c 4 p).2 else s) else if c p = 114 then emS s a (muchF c 5 (-10) p).2.2 else if c p = 115 then emS s a (muchF c 6 (-200) p).2.2 else if c p = 119 then (if (tellF c 3 p).1.2 = true then sU s (258 + a) (tellF c 3 p).2 else s) else s
theorem cl_no {g : Int → Int} {p : Nat} (h3 : g 3 = p) : sU g 5 1 = gS g p false := gS_of ((sU_ne (by omega)).trans h3) sU_eq (fun q _ b => sU_ne b)
set_option maxHeartbeats 4000000 in
set_option maxRecDepth 100000 in
theorem k_tellsHere (l : Launch) (D : Dx) (A : Nat → Prop) (a : Nat → Nat) (s im fr bY tr ln bl bo g lg : Int → Int) (wh : Int) (i : Nat) (hi : i < 7) (c : Nat → Int) (p : Nat) (hTP : TP s g c) (h3 : g 3 = (p : Int)) (h5z : g 5 = 0) (hpe : (p : Int) ≤ g 4) (hA : 0 ≤ g 2 ∧ g 2 ≤ 4) (hwh : 258 ≤ wh ∧ wh ≤ 263) : CT l D A yX12_tellsHere cX12_tellsHere 4 none { frames := 5, cells := 0, slots := 0, locals := 123 } [.ref (a 0), vI wh, .ref (zK D i)] (MW D A a s im fr bY tr ln bl bo g lg) (fun _ : Unit => none) (fun _ => True) (fun _ => MW D A a (if (tellF c i p).1.2 = true then sU s (wh + g 2) (tellF c i p).2 else s) im fr bY tr ln bl bo (gS g (tellF c i p).1.1 (tellF c i p).1.2) lg) := by
  refine ct_of (lo0 := [(0, .ref (a 0)), (1, vI wh), (2, .ref (zK D i))]) (by decide) (Nat.le_of_ble_eq_true rfl) rfl ?_
  intro G hG hR
  have hT1 := hTP.1
  have hs1 := spF_rng hTP.2.2 hi (zn i).toNat (p, true) (Nat.le_refl _) (show p ≤ (g 4).toNat by omega)
  have ht1 := tellF_rng hTP.2.2 hi (show p ≤ (g 4).toNat by omega)
  have h5 : g 5 = (if true then 0 else 1) := h5z
  obtain ⟨hs11, hs12⟩ := hs1
  dsimp only at hs11
  refine v_aload_n hG dX12_tellsHere_0 rfl 0 rfl ?_
  refine v_aload_n hG dX12_tellsHere_1 rfl 2 rfl ?_
  refine v_callV (k1' := 0) (k2' := 0) hG dX12_tellsHere_2 zc_X12_spells ⟨zl_X12_101, zi_X12_spells, zs_X12_spells⟩ (fun l => k_spells l D A a s im fr bY tr ln bl bo g lg i (by first | assumption | decide) c p true (by exact hTP) (by exact h3) (by exact h5) (by omega)) rfl mw_recv (fun _ h => h) ⟨by decide, by decide⟩ rfl rfl ⟨by decide, by decide⟩ (rest := []) rfl (Nat.le_of_ble_eq_true rfl) (fun u1 => []) (fun _ => rfl) (fun u1 hu1 => ?_)
  refine v_aload_n hG dX12_tellsHere_5 rfl 0 rfl ?_
  refine v_callV (k1' := 0) (k2' := 0) hG dX12_tellsHere_6 zc_X12_figures ⟨zl_X12_95, zi_X12_figures, zs_X12_figures⟩ (fun l => k_figures l D A a s im fr bY tr ln bl bo (gS g (spF c i (zn i).toNat (p, true)).1 (spF c i (zn i).toNat (p, true)).2) lg c ((spF c i (zn i).toNat (p, true)).1) ((spF c i (zn i).toNat (p, true)).2) (by first | exact hTP | exact TP_gS hTP | exact TP_g (TP_gS hTP) s6_4 | exact TP_gS (TP_emS hTP (by omega) (by omega)) | exact TP_g (TP_gS (TP_emS hTP (by omega) (by omega))) s6_4) (by first | exact h3 | exact gS_3 | (rw [s6_3]; exact gS_3)) (by first | exact gS_5 | (rw [s6_5]; exact gS_5)) (by first | omega | (simp only [gS_2, gS_4, gS_6, s6_2, s6_4, emS_268, sU_eq, List.length_append]; omega))) rfl mw_recv (fun _ h => h) ⟨by decide, by decide⟩ rfl rfl ⟨by decide, by decide⟩ (rest := []) rfl (Nat.le_of_ble_eq_true rfl) (fun u2 => [vI ((figF c (((spF c i (zn i).toNat (p, true)).1), ((spF c i (zn i).toNat (p, true)).2))).2)]) (fun _ => rfl) (fun u2 hu2 => ?_)
  rw [show (gS (gS g (spF c i (zn i).toNat (p, true)).1 (spF c i (zn i).toNat (p, true)).2) (figF c (((spF c i (zn i).toNat (p, true)).1), ((spF c i (zn i).toNat (p, true)).2))).1.1 (figF c (((spF c i (zn i).toNat (p, true)).1), ((spF c i (zn i).toNat (p, true)).2))).1.2) = gS g (tellF c i p).1.1 (tellF c i p).1.2 from by exact gS_gS]
  refine v_istore_n (lo' := [(3, vI ((figF c (((spF c i (zn i).toNat (p, true)).1), ((spF c i (zn i).toNat (p, true)).2))).2)), (0, .ref (a 0)), (1, vI wh), (2, .ref (zK D i))]) hG dX12_tellsHere_9 rfl (by decide) rfl ?_
  refine v_aload_n hG dX12_tellsHere_10 rfl 1 rfl ?_
  have hg5 : gS g (tellF c i p).1.1 (tellF c i p).1.2 5 = (if (tellF c i p).1.2 then 0 else 1) := gS_5
  have hg01 := gS_01 (g := g) (p := (tellF c i p).1.1) (ok := (tellF c i p).1.2)
  have hg2 : gS g (tellF c i p).1.1 (tellF c i p).1.2 2 = g 2 := gS_2
  refine mg_isWrong (z := (gS g (tellF c i p).1.1 (tellF c i p).1.2) 5) hG dX12_tellsHere_11 rfl ?_
  refine v_if_ne (tgt := 29) hG dX12_tellsHere_14 (by decide) (by omega) (fun c3 => ?_) (fun c3 => ?_)
  · skip
    have e4 : s = if (tellF c i p).1.2 = true then sU s (wh + g 2) (tellF c i p).2 else s := by first | (rw [gS_2]; exact (if_pos (ok_t hg5 (by omega))).symm) | exact (if_neg (by rw [ok_f hg5 (by assumption)]; decide)).symm
    exact v_return hG hR dX12_tellsHere_29 () rfl (by trivial) (fun _ hM => by rw [← e4]; exact hM)
  · skip
    refine v_aload_n hG dX12_tellsHere_17 rfl 1 rfl ?_
    refine mg_s hG dX12_tellsHere_18 ?_
    refine v_iload_n hG dX12_tellsHere_21 rfl 2 rfl ?_
    refine v_aload_n hG dX12_tellsHere_22 rfl 1 rfl ?_
    refine mg_act (z := (gS g (tellF c i p).1.1 (tellF c i p).1.2) 2) hG dX12_tellsHere_23 rfl ?_
    refine v_iadd hG dX12_tellsHere_26 ?_
    refine v_iload_n hG dX12_tellsHere_27 rfl 0 rfl ?_
    refine ms_s hG dX12_tellsHere_28 (by omega) ?_
    have e5 : sU s (wh + ((gS g (tellF c i p).1.1 (tellF c i p).1.2) 2)) ((figF c (((spF c i (zn i).toNat (p, true)).1), ((spF c i (zn i).toNat (p, true)).2))).2) = if (tellF c i p).1.2 = true then sU s (wh + g 2) (tellF c i p).2 else s := by first | (rw [gS_2]; exact (if_pos (ok_t hg5 (by omega))).symm) | exact (if_neg (by rw [ok_f hg5 (by assumption)]; decide)).symm
    exact v_return hG hR dX12_tellsHere_29 () rfl (by trivial) (fun _ hM => by rw [← e5]; exact hM)
set_option maxHeartbeats 4000000 in
set_option maxRecDepth 100000 in
theorem k_much (l : Launch) (D : Dx) (A : Nat → Prop) (a : Nat → Nat) (s im fr bY tr ln bl bo g lg : Int → Int) (kind : Int) (i : Nat) (hi : i < 7) (c : Nat → Int) (p : Nat) (hTP : TP s g c) (h3 : g 3 = (p : Int)) (h5z : g 5 = 0) (hpe : (p : Int) ≤ g 4) (hA : 0 ≤ g 2 ∧ g 2 ≤ 4) (hs : 0 ≤ s (268 + g 2) ∧ s (268 + g 2) ≤ (p : Int)) (h6 : g 6 = 0) (hk : -300 ≤ kind ∧ kind ≤ 0) : CT l D A yX12_much cX12_much 4 none { frames := 26, cells := 0, slots := 0, locals := 571 } [.ref (a 0), vI kind, .ref (zK D i)] (MW D A a s im fr bY tr ln bl bo g lg) (fun _ : Unit => none) (fun _ => True) (fun _ => MW D A a (emS s (g 2) (muchF c i kind p).2.2) im fr bY tr ln bl bo (gS g (muchF c i kind p).1 (muchF c i kind p).2.1) lg) := by
  refine ct_of (lo0 := [(0, .ref (a 0)), (1, vI kind), (2, .ref (zK D i))]) (by decide) (Nat.le_of_ble_eq_true rfl) rfl ?_
  intro G hG hR
  have hT1 := hTP.1
  have hs1 := spF_rng hTP.2.2 hi (zn i).toNat (p, true) (Nat.le_refl _) (show p ≤ (g 4).toNat by omega)
  have ht1 := tellF_rng hTP.2.2 hi (show p ≤ (g 4).toNat by omega)
  have h5 : g 5 = (if true then 0 else 1) := h5z
  obtain ⟨hs11, hs12⟩ := hs1
  dsimp only at hs11
  have hmu : (tellF c i p).1.1 ≤ (mustF c 32 (tellF c i p).1).1 ∧ (mustF c 32 (tellF c i p).1).1 ≤ (g 4).toNat ∧ ((mustF c 32 (tellF c i p).1).2 = true → (mustF c 32 (tellF c i p).1).1 = (tellF c i p).1.1 + 1) := mustF_rng (x := 32) (ok := (tellF c i p).1.2) hTP.2.2 (by decide) ht1.2.1
  have hsa := someA_rng (u := (mustF c 32 (tellF c i p).1)) hTP.2.2 hmu.2.1
  obtain ⟨hsa1, hsa2, hsa3⟩ := id hsa
  obtain ⟨hmu1, hmu2, -⟩ := id hmu
  refine v_aload_n hG dX12_much_0 rfl 0 rfl ?_
  refine v_aload_n hG dX12_much_1 rfl 2 rfl ?_
  refine v_callV (k1' := 0) (k2' := 0) hG dX12_much_2 zc_X12_spells ⟨zl_X12_101, zi_X12_spells, zs_X12_spells⟩ (fun l => k_spells l D A a s im fr bY tr ln bl bo g lg i (by first | assumption | decide) c p true (by exact hTP) (by exact h3) (by exact h5) (by omega)) rfl mw_recv (fun _ h => h) ⟨by decide, by decide⟩ rfl rfl ⟨by decide, by decide⟩ (rest := []) rfl (Nat.le_of_ble_eq_true rfl) (fun u1 => []) (fun _ => rfl) (fun u1 hu1 => ?_)
  refine v_aload_n hG dX12_much_5 rfl 0 rfl ?_
  refine v_callV (k1' := 0) (k2' := 0) hG dX12_much_6 zc_X12_figures ⟨zl_X12_95, zi_X12_figures, zs_X12_figures⟩ (fun l => k_figures l D A a s im fr bY tr ln bl bo (gS g (spF c i (zn i).toNat (p, true)).1 (spF c i (zn i).toNat (p, true)).2) lg c ((spF c i (zn i).toNat (p, true)).1) ((spF c i (zn i).toNat (p, true)).2) (by first | exact hTP | exact TP_gS hTP | exact TP_g (TP_gS hTP) s6_4 | exact TP_gS (TP_emS hTP (by omega) (by omega)) | exact TP_g (TP_gS (TP_emS hTP (by omega) (by omega))) s6_4) (by first | exact h3 | exact gS_3 | (rw [s6_3]; exact gS_3)) (by first | exact gS_5 | (rw [s6_5]; exact gS_5)) (by first | omega | (simp only [gS_2, gS_4, gS_6, s6_2, s6_4, emS_268, sU_eq, List.length_append]; omega))) rfl mw_recv (fun _ h => h) ⟨by decide, by decide⟩ rfl rfl ⟨by decide, by decide⟩ (rest := []) rfl (Nat.le_of_ble_eq_true rfl) (fun u2 => [vI ((figF c (((spF c i (zn i).toNat (p, true)).1), ((spF c i (zn i).toNat (p, true)).2))).2)]) (fun _ => rfl) (fun u2 hu2 => ?_)
  rw [show (gS (gS g (spF c i (zn i).toNat (p, true)).1 (spF c i (zn i).toNat (p, true)).2) (figF c (((spF c i (zn i).toNat (p, true)).1), ((spF c i (zn i).toNat (p, true)).2))).1.1 (figF c (((spF c i (zn i).toNat (p, true)).1), ((spF c i (zn i).toNat (p, true)).2))).1.2) = gS g (tellF c i p).1.1 (tellF c i p).1.2 from by exact gS_gS]
  refine v_istore_n (lo' := [(3, vI ((figF c (((spF c i (zn i).toNat (p, true)).1), ((spF c i (zn i).toNat (p, true)).2))).2)), (0, .ref (a 0)), (1, vI kind), (2, .ref (zK D i))]) hG dX12_much_9 rfl (by decide) rfl ?_
  refine v_aload_n hG dX12_much_10 rfl 1 rfl ?_
  refine v_bipush hG dX12_much_11 (by decide) ?_
  refine v_callV (k1' := 0) (k2' := 0) hG dX12_much_13 zc_X12_must ⟨zl_X12_68, zi_X12_must, zs_X12_must⟩ (fun l => k_must l D A a s im fr bY tr ln bl bo (gS g (tellF c i p).1.1 (tellF c i p).1.2) lg 32 c ((tellF c i p).1.1) ((tellF c i p).1.2) (by first | exact hTP | exact TP_gS hTP | exact TP_g (TP_gS hTP) s6_4 | exact TP_gS (TP_emS hTP (by omega) (by omega)) | exact TP_g (TP_gS (TP_emS hTP (by omega) (by omega))) s6_4) (by first | exact h3 | exact gS_3 | (rw [s6_3]; exact gS_3)) (by first | exact gS_5 | (rw [s6_5]; exact gS_5)) (by first | omega | (simp only [gS_2, gS_4, gS_6, s6_2, s6_4, emS_268, sU_eq, List.length_append]; omega)) (by omega)) rfl mw_recv (fun _ h => h) ⟨by decide, by decide⟩ rfl rfl ⟨by decide, by decide⟩ (rest := []) rfl (Nat.le_of_ble_eq_true rfl) (fun u3 => []) (fun _ => rfl) (fun u3 hu3 => ?_)
  rw [show (gS (gS g (tellF c i p).1.1 (tellF c i p).1.2) (mustF c 32 (((tellF c i p).1.1), ((tellF c i p).1.2))).1 (mustF c 32 (((tellF c i p).1.1), ((tellF c i p).1.2))).2) = gS g (mustF c 32 (tellF c i p).1).1 (mustF c 32 (tellF c i p).1).2 from by exact gS_gS]
  refine v_aload_n hG dX12_much_16 rfl 1 rfl ?_
  suffices J5 : ∀ u4 : Unit, True → V G 0 0 (MW D A a (emS s ((gS g (mustF c 32 (tellF c i p).1).1 (mustF c 32 (tellF c i p).1).2) 2) (someA c (mustF c 32 (tellF c i p).1)).2.2) im fr bY tr ln bl bo (gS (gS g (mustF c 32 (tellF c i p).1).1 (mustF c 32 (tellF c i p).1).2) (someA c (mustF c 32 (tellF c i p).1)).1 (someA c (mustF c 32 (tellF c i p).1)).2.1) lg) 20 [(3, vI ((figF c (((spF c i (zn i).toNat (p, true)).1), ((spF c i (zn i).toNat (p, true)).2))).2)), (0, .ref (a 0)), (1, vI kind), (2, .ref (zK D i))] [] by
    rcases Bool.eq_false_or_eq_true (mustF c 32 (tellF c i p).1).2 with hu | hu
    · exact v_callV (k1' := 0) (k2' := 0) hG dX12_much_17 zc_X12_some ⟨zl_X12_84, zi_X12_some, zs_X12_some⟩ (fun l => k_some5 l D A a s im fr bY tr ln bl bo (gS g (mustF c 32 (tellF c i p).1).1 (mustF c 32 (tellF c i p).1).2) lg c ((mustF c 32 (tellF c i p).1).1) (by first | exact hTP | exact TP_gS hTP | exact TP_g (TP_gS hTP) s6_4 | exact TP_gS (TP_emS hTP (by omega) (by omega)) | exact TP_g (TP_gS (TP_emS hTP (by omega) (by omega))) s6_4) (by first | exact h3 | exact gS_3 | (rw [s6_3]; exact gS_3)) (by rw [hu]; exact gS_50) (by first | omega | (simp only [gS_2, gS_4, gS_6, s6_2, s6_4, emS_268, sU_eq, List.length_append]; omega)) (by first | omega | (simp only [gS_2, gS_4, gS_6, s6_2, s6_4, emS_268, sU_eq, List.length_append]; omega)) (by first | omega | (simp only [gS_2, gS_4, gS_6, s6_2, s6_4, emS_268, sU_eq, List.length_append]; omega)) (by first | omega | (simp only [gS_2, gS_4, gS_6, s6_2, s6_4, emS_268, sU_eq, List.length_append]; omega))) rfl mw_recv (fun _ h => h) ⟨by decide, by decide⟩ rfl rfl ⟨by decide, by decide⟩ (rest := []) rfl (Nat.le_of_ble_eq_true rfl) (fun u6 => []) (fun _ => rfl) (fun u6 hu6 => by have e9 : someA c (mustF c 32 (tellF c i p).1) = someF (facF c 5) c (mustF c 32 (tellF c i p).1).1 := (if_pos hu); rw [e9] at J5; exact J5 u6 (by trivial))
    · exact v_callV (k1' := 0) (k2' := 0) hG dX12_much_17 zc_X12_some ⟨zl_X12_84, zi_X12_some, zs_X12_some⟩ (fun l => k_someW l D A a s im fr bY tr ln bl bo (gS g (mustF c 32 (tellF c i p).1).1 (mustF c 32 (tellF c i p).1).2) lg (by rw [hu]; exact gS_51)) rfl mw_recv (fun _ h => h) ⟨by decide, by decide⟩ rfl rfl ⟨by decide, by decide⟩ (rest := []) rfl (Nat.le_of_ble_eq_true rfl) (fun u7 => []) (fun _ => rfl) (fun u7 hu7 => by have e9 : someA c (mustF c 32 (tellF c i p).1) = ((mustF c 32 (tellF c i p).1).1, false, []) := (if_neg (by rw [hu]; decide)); rw [e9] at J5; rw [show gS (gS g (mustF c 32 (tellF c i p).1).1 (mustF c 32 (tellF c i p).1).2) (mustF c 32 (tellF c i p).1).1 false = gS g (mustF c 32 (tellF c i p).1).1 (mustF c 32 (tellF c i p).1).2 from (by rw [hu]; exact gS_gS)] at J5; exact J5 u7 (by trivial))
  intro u4 hu4
  have fu4 : True := hu4
  rw [show (emS s ((gS g (mustF c 32 (tellF c i p).1).1 (mustF c 32 (tellF c i p).1).2) 2) (someA c (mustF c 32 (tellF c i p).1)).2.2) = emS s (g 2) (someA c (mustF c 32 (tellF c i p).1)).2.2 from by rw [gS_2]]
  rw [show (gS (gS g (mustF c 32 (tellF c i p).1).1 (mustF c 32 (tellF c i p).1).2) (someA c (mustF c 32 (tellF c i p).1)).1 (someA c (mustF c 32 (tellF c i p).1)).2.1) = gS g (someA c (mustF c 32 (tellF c i p).1)).1 (someA c (mustF c 32 (tellF c i p).1)).2.1 from by exact gS_gS]
  refine v_aload_n hG dX12_much_20 rfl 1 rfl ?_
  refine v_iload_n hG dX12_much_21 rfl 2 rfl ?_
  refine v_iload_n hG dX12_much_22 rfl 0 rfl ?_
  refine v_isub hG dX12_much_23 ?_
  refine v_callV (k1' := 0) (k2' := 0) hG dX12_much_24 zc_X12_emits ⟨zl_X12_81, zi_X12_emits, zs_X12_emits⟩ (fun l => k_emits l D A a (emS s (g 2) (someA c (mustF c 32 (tellF c i p).1)).2.2) im fr bY tr ln bl bo (gS g (someA c (mustF c 32 (tellF c i p).1)).1 (someA c (mustF c 32 (tellF c i p).1)).2.1) lg (kind - ((figF c (((spF c i (zn i).toNat (p, true)).1), ((spF c i (zn i).toNat (p, true)).2))).2)) (by first | omega | (simp only [gS_2, gS_4, gS_6, s6_2, s6_4, emS_268, sU_eq, List.length_append]; omega)) (by first | omega | (simp only [gS_2, gS_4, gS_6, s6_2, s6_4, emS_268, sU_eq, List.length_append]; omega)) (by exact gS_01)) rfl mw_recv (fun _ h => h) ⟨by decide, by decide⟩ rfl rfl ⟨by decide, by decide⟩ (rest := []) rfl (Nat.le_of_ble_eq_true rfl) (fun u8 => []) (fun _ => rfl) (fun u8 hu8 => ?_)
  rw [show (if (gS g (someA c (mustF c 32 (tellF c i p).1)).1 (someA c (mustF c 32 (tellF c i p).1)).2.1) 5 = 0 then em1 (emS s (g 2) (someA c (mustF c 32 (tellF c i p).1)).2.2) ((gS g (someA c (mustF c 32 (tellF c i p).1)).1 (someA c (mustF c 32 (tellF c i p).1)).2.1) 2) (kind - ((figF c (((spF c i (zn i).toNat (p, true)).1), ((spF c i (zn i).toNat (p, true)).2))).2)) else (emS s (g 2) (someA c (mustF c 32 (tellF c i p).1)).2.2)) = emS s (g 2) (muchF c i kind p).2.2 from by exact emit_l]
  have e9 : gS g (someA c (mustF c 32 (tellF c i p).1)).1 (someA c (mustF c 32 (tellF c i p).1)).2.1 = gS g (muchF c i kind p).1 (muchF c i kind p).2.1 := by rfl
  exact v_return hG hR dX12_much_27 () rfl (by trivial) (fun _ hM => by rw [← e9]; exact hM)
set_option maxHeartbeats 4000000 in
set_option maxRecDepth 100000 in
theorem k_clauseHere (l : Launch) (D : Dx) (A : Nat → Prop) (a : Nat → Nat) (s im fr bY tr ln bl bo g lg : Int → Int) (c : Nat → Int) (p : Nat) (hTP : TP s g c) (h3 : g 3 = (p : Int)) (h5z : g 5 = 0) (hpe : (p : Int) ≤ g 4) (hA : 0 ≤ g 2 ∧ g 2 ≤ 4) (hs : 0 ≤ s (268 + g 2) ∧ s (268 + g 2) ≤ (p : Int)) (h6 : g 6 = 0) : CT l D A yX12_clauseHere cX12_clauseHere 1 none { frames := 27, cells := 0, slots := 0, locals := 594 } [.ref (a 0)] (MW D A a s im fr bY tr ln bl bo g lg) (fun _ : Unit => none) (fun _ => True) (fun _ => MW D A a (clS c p s (g 2)) im fr bY tr ln bl bo (gS g (clF c p).1 (clF c p).2) lg) := by
  refine ct_of (lo0 := [(0, .ref (a 0))]) (by decide) (Nat.le_of_ble_eq_true rfl) rfl ?_
  intro G hG hR
  have hT1 := hTP.1
  refine v_aload_n hG dX12_clauseHere_0 rfl 0 rfl ?_
  refine v_callV (k1' := 0) (k2' := 0) hG dX12_clauseHere_1 zc_X12_here ⟨zl_X12_55, zi_X12_here, zs_X12_here⟩ (fun l => k_here l D A a s im fr bY tr ln bl bo g lg c p (by first | exact hTP | exact TP_gS hTP | exact TP_g (TP_gS hTP) s6_4 | exact TP_gS (TP_emS hTP (by omega) (by omega)) | exact TP_g (TP_gS (TP_emS hTP (by omega) (by omega))) s6_4) (by first | exact h3 | exact gS_3 | (rw [s6_3]; exact gS_3)) (by first | omega | (simp only [gS_2, gS_4, gS_6, s6_2, s6_4, emS_268, sU_eq, List.length_append]; omega))) rfl mw_recv (fun _ h => h) ⟨by decide, by decide⟩ rfl rfl ⟨by decide, by decide⟩ (rest := []) rfl (Nat.le_of_ble_eq_true rfl) (fun u1 => [vI (c p)]) (fun _ => rfl) (fun u1 hu1 => ?_)
  have fu1 : -1 ≤ c p ∧ c p ≤ 127 := hu1
  by_cases c2 : c p = 109
  · refine v_lookup (tgt := 60) hG dX12_clauseHere_4 (by omega) (by decide) (by rw [c2] <;> rfl) (by decide) ?_
    refine v_aload_n hG dX12_clauseHere_60 rfl 0 rfl ?_
    refine v_sipush hG dX12_clauseHere_61 (by decide) ?_
    refine v_ldcS (i := 4) (tx := "mend ") hG dX12_clauseHere_64 (by decide) ?_
    refine v_callV (k1' := 0) (k2' := 0) hG dX12_clauseHere_66 zc_X12_tellsHere ⟨zl_X12_107, zi_X12_tellsHere, zs_X12_tellsHere⟩ (fun l => k_tellsHere l D A a s im fr bY tr ln bl bo g lg 263 4 (by first | assumption | decide) c p (by first | exact hTP | exact TP_gS hTP | exact TP_g (TP_gS hTP) s6_4 | exact TP_gS (TP_emS hTP (by omega) (by omega)) | exact TP_g (TP_gS (TP_emS hTP (by omega) (by omega))) s6_4) (by first | exact h3 | exact gS_3 | (rw [s6_3]; exact gS_3)) (by first | assumption | exact gS_50 | (rw [s6_5]; exact gS_50)) (by first | omega | (simp only [gS_2, gS_4, gS_6, s6_2, s6_4, emS_268, sU_eq, List.length_append]; omega)) (by first | omega | (simp only [gS_2, gS_4, gS_6, s6_2, s6_4, emS_268, sU_eq, List.length_append]; omega)) (by omega)) rfl mw_recv (fun _ h => h) ⟨by decide, by decide⟩ rfl rfl ⟨by decide, by decide⟩ (rest := []) rfl (Nat.le_of_ble_eq_true rfl) (fun u3 => []) (fun _ => rfl) (fun u3 hu3 => ?_)
    refine v_goto (tgt := 100) hG dX12_clauseHere_69 (by decide) ?_
    have e4 : (if (tellF c 4 p).1.2 = true then sU s (263 + g 2) (tellF c 4 p).2 else s) = clS c p s (g 2) := by first | (simp only [clF, clS, if_pos c2]; done) | (simp only [clF, clS, if_pos c2]; exact cl_no h3) | (simp only [clF, clS, if_pos c2]; rfl)
    have e5 : gS g (tellF c 4 p).1.1 (tellF c 4 p).1.2 = gS g (clF c p).1 (clF c p).2 := by first | (simp only [clF, clS, if_pos c2]; done) | (simp only [clF, clS, if_pos c2]; exact cl_no h3) | (simp only [clF, clS, if_pos c2]; rfl)
    exact v_return hG hR dX12_clauseHere_100 () rfl (by trivial) (fun _ hM => by rw [← e4]; rw [← e5]; exact hM)
  by_cases c6 : c p = 114
  · refine v_lookup (tgt := 72) hG dX12_clauseHere_4 (by omega) (by decide) (by rw [c6] <;> rfl) (by decide) ?_
    refine v_aload_n hG dX12_clauseHere_72 rfl 0 rfl ?_
    refine v_bipush hG dX12_clauseHere_73 (by decide) ?_
    refine v_ldcS (i := 5) (tx := "risk ") hG dX12_clauseHere_75 (by decide) ?_
    refine v_callV (k1' := 0) (k2' := 0) hG dX12_clauseHere_77 zc_X12_much ⟨zl_X12_115, zi_X12_much, zs_X12_much⟩ (fun l => k_much l D A a s im fr bY tr ln bl bo g lg (-10) 5 (by first | assumption | decide) c p (by first | exact hTP | exact TP_gS hTP | exact TP_g (TP_gS hTP) s6_4 | exact TP_gS (TP_emS hTP (by omega) (by omega)) | exact TP_g (TP_gS (TP_emS hTP (by omega) (by omega))) s6_4) (by first | exact h3 | exact gS_3 | (rw [s6_3]; exact gS_3)) (by first | assumption | exact gS_50 | (rw [s6_5]; exact gS_50)) (by first | omega | (simp only [gS_2, gS_4, gS_6, s6_2, s6_4, emS_268, sU_eq, List.length_append]; omega)) (by first | omega | (simp only [gS_2, gS_4, gS_6, s6_2, s6_4, emS_268, sU_eq, List.length_append]; omega)) (by first | omega | (simp only [gS_2, gS_4, gS_6, s6_2, s6_4, emS_268, sU_eq, List.length_append]; omega)) (by first | omega | (simp only [gS_2, gS_4, gS_6, s6_2, s6_4, emS_268, sU_eq, List.length_append]; omega)) (by omega)) rfl mw_recv (fun _ h => h) ⟨by decide, by decide⟩ rfl rfl ⟨by decide, by decide⟩ (rest := []) rfl (Nat.le_of_ble_eq_true rfl) (fun u7 => []) (fun _ => rfl) (fun u7 hu7 => ?_)
    refine v_goto (tgt := 100) hG dX12_clauseHere_80 (by decide) ?_
    have e8 : emS s (g 2) (muchF c 5 (-10) p).2.2 = clS c p s (g 2) := by first | (simp only [clF, clS, if_neg c2, if_pos c6]; done) | (simp only [clF, clS, if_neg c2, if_pos c6]; exact cl_no h3) | (simp only [clF, clS, if_neg c2, if_pos c6]; rfl)
    have e9 : gS g (muchF c 5 (-10) p).1 (muchF c 5 (-10) p).2.1 = gS g (clF c p).1 (clF c p).2 := by first | (simp only [clF, clS, if_neg c2, if_pos c6]; done) | (simp only [clF, clS, if_neg c2, if_pos c6]; exact cl_no h3) | (simp only [clF, clS, if_neg c2, if_pos c6]; rfl)
    exact v_return hG hR dX12_clauseHere_100 () rfl (by trivial) (fun _ hM => by rw [← e8]; rw [← e9]; exact hM)
  by_cases c10 : c p = 115
  · refine v_lookup (tgt := 83) hG dX12_clauseHere_4 (by omega) (by decide) (by rw [c10] <;> rfl) (by decide) ?_
    refine v_aload_n hG dX12_clauseHere_83 rfl 0 rfl ?_
    refine v_sipush hG dX12_clauseHere_84 (by decide) ?_
    refine v_ldcS (i := 6) (tx := "sure ") hG dX12_clauseHere_87 (by decide) ?_
    refine v_callV (k1' := 0) (k2' := 0) hG dX12_clauseHere_89 zc_X12_much ⟨zl_X12_115, zi_X12_much, zs_X12_much⟩ (fun l => k_much l D A a s im fr bY tr ln bl bo g lg (-200) 6 (by first | assumption | decide) c p (by first | exact hTP | exact TP_gS hTP | exact TP_g (TP_gS hTP) s6_4 | exact TP_gS (TP_emS hTP (by omega) (by omega)) | exact TP_g (TP_gS (TP_emS hTP (by omega) (by omega))) s6_4) (by first | exact h3 | exact gS_3 | (rw [s6_3]; exact gS_3)) (by first | assumption | exact gS_50 | (rw [s6_5]; exact gS_50)) (by first | omega | (simp only [gS_2, gS_4, gS_6, s6_2, s6_4, emS_268, sU_eq, List.length_append]; omega)) (by first | omega | (simp only [gS_2, gS_4, gS_6, s6_2, s6_4, emS_268, sU_eq, List.length_append]; omega)) (by first | omega | (simp only [gS_2, gS_4, gS_6, s6_2, s6_4, emS_268, sU_eq, List.length_append]; omega)) (by first | omega | (simp only [gS_2, gS_4, gS_6, s6_2, s6_4, emS_268, sU_eq, List.length_append]; omega)) (by omega)) rfl mw_recv (fun _ h => h) ⟨by decide, by decide⟩ rfl rfl ⟨by decide, by decide⟩ (rest := []) rfl (Nat.le_of_ble_eq_true rfl) (fun u11 => []) (fun _ => rfl) (fun u11 hu11 => ?_)
    refine v_goto (tgt := 100) hG dX12_clauseHere_92 (by decide) ?_
    have e12 : emS s (g 2) (muchF c 6 (-200) p).2.2 = clS c p s (g 2) := by first | (simp only [clF, clS, if_neg c2, if_neg c6, if_pos c10]; done) | (simp only [clF, clS, if_neg c2, if_neg c6, if_pos c10]; exact cl_no h3) | (simp only [clF, clS, if_neg c2, if_neg c6, if_pos c10]; rfl)
    have e13 : gS g (muchF c 6 (-200) p).1 (muchF c 6 (-200) p).2.1 = gS g (clF c p).1 (clF c p).2 := by first | (simp only [clF, clS, if_neg c2, if_neg c6, if_pos c10]; done) | (simp only [clF, clS, if_neg c2, if_neg c6, if_pos c10]; exact cl_no h3) | (simp only [clF, clS, if_neg c2, if_neg c6, if_pos c10]; rfl)
    exact v_return hG hR dX12_clauseHere_100 () rfl (by trivial) (fun _ hM => by rw [← e12]; rw [← e13]; exact hM)
  by_cases c14 : c p = 119
  · refine v_lookup (tgt := 48) hG dX12_clauseHere_4 (by omega) (by decide) (by rw [c14] <;> rfl) (by decide) ?_
    refine v_aload_n hG dX12_clauseHere_48 rfl 0 rfl ?_
    refine v_sipush hG dX12_clauseHere_49 (by decide) ?_
    refine v_ldcS (i := 3) (tx := "wear ") hG dX12_clauseHere_52 (by decide) ?_
    refine v_callV (k1' := 0) (k2' := 0) hG dX12_clauseHere_54 zc_X12_tellsHere ⟨zl_X12_107, zi_X12_tellsHere, zs_X12_tellsHere⟩ (fun l => k_tellsHere l D A a s im fr bY tr ln bl bo g lg 258 3 (by first | assumption | decide) c p (by first | exact hTP | exact TP_gS hTP | exact TP_g (TP_gS hTP) s6_4 | exact TP_gS (TP_emS hTP (by omega) (by omega)) | exact TP_g (TP_gS (TP_emS hTP (by omega) (by omega))) s6_4) (by first | exact h3 | exact gS_3 | (rw [s6_3]; exact gS_3)) (by first | assumption | exact gS_50 | (rw [s6_5]; exact gS_50)) (by first | omega | (simp only [gS_2, gS_4, gS_6, s6_2, s6_4, emS_268, sU_eq, List.length_append]; omega)) (by first | omega | (simp only [gS_2, gS_4, gS_6, s6_2, s6_4, emS_268, sU_eq, List.length_append]; omega)) (by omega)) rfl mw_recv (fun _ h => h) ⟨by decide, by decide⟩ rfl rfl ⟨by decide, by decide⟩ (rest := []) rfl (Nat.le_of_ble_eq_true rfl) (fun u15 => []) (fun _ => rfl) (fun u15 hu15 => ?_)
    refine v_goto (tgt := 100) hG dX12_clauseHere_57 (by decide) ?_
    have e16 : (if (tellF c 3 p).1.2 = true then sU s (258 + g 2) (tellF c 3 p).2 else s) = clS c p s (g 2) := by first | (simp only [clF, clS, if_neg c2, if_neg c6, if_neg c10, if_pos c14]; done) | (simp only [clF, clS, if_neg c2, if_neg c6, if_neg c10, if_pos c14]; exact cl_no h3) | (simp only [clF, clS, if_neg c2, if_neg c6, if_neg c10, if_pos c14]; rfl)
    have e17 : gS g (tellF c 3 p).1.1 (tellF c 3 p).1.2 = gS g (clF c p).1 (clF c p).2 := by first | (simp only [clF, clS, if_neg c2, if_neg c6, if_neg c10, if_pos c14]; done) | (simp only [clF, clS, if_neg c2, if_neg c6, if_neg c10, if_pos c14]; exact cl_no h3) | (simp only [clF, clS, if_neg c2, if_neg c6, if_neg c10, if_pos c14]; rfl)
    exact v_return hG hR dX12_clauseHere_100 () rfl (by trivial) (fun _ hM => by rw [← e16]; rw [← e17]; exact hM)
  refine v_lookup (off := 91) (tgt := 95) hG dX12_clauseHere_4 (by omega) (by decide) (by simp [Op.lookupswitch.offset, Ne.symm c2, Ne.symm c6, Ne.symm c10, Ne.symm c14]) (by decide) ?_
  refine v_aload_n hG dX12_clauseHere_95 rfl 0 rfl ?_
  refine v_iconst hG dX12_clauseHere_96 ?_
  refine mp_isWrong hG dX12_clauseHere_97 (Or.inr rfl) ?_
  have e19 : s = clS c p s (g 2) := by first | (simp only [clF, clS, if_neg c2, if_neg c6, if_neg c10, if_neg c14]; done) | (simp only [clF, clS, if_neg c2, if_neg c6, if_neg c10, if_neg c14]; exact cl_no h3) | (simp only [clF, clS, if_neg c2, if_neg c6, if_neg c10, if_neg c14]; rfl)
  have e20 : sU g 5 1 = gS g (clF c p).1 (clF c p).2 := by first | (simp only [clF, clS, if_neg c2, if_neg c6, if_neg c10, if_neg c14]; done) | (simp only [clF, clS, if_neg c2, if_neg c6, if_neg c10, if_neg c14]; exact cl_no h3) | (simp only [clF, clS, if_neg c2, if_neg c6, if_neg c10, if_neg c14]; rfl)
  exact v_return hG hR dX12_clauseHere_100 () rfl (by trivial) (fun _ hM => by rw [← e19]; rw [← e20]; exact hM)
