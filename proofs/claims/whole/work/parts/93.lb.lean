/-! THE LAW: body, loop -/
set_option maxHeartbeats 4000000 in
set_option maxRecDepth 100000 in
theorem law_body {D : Dx} {G : Gx} {b L a0 i : Nat} {xs : Nat → Int32} (hG : Ok D (fun q => a0 ≤ q) G cL_law 4 RL room_1) (hLG : LG b L xs a0 G) (hL : L ≤ 2560) (hi : 5 * i + 5 ≤ L) (hE : LEnd D G b a0 i) (ad : Nat → Nat) (K : Int → Int) (Q : Nat → Int → Int) (qa : Nat → Int → Int) (tp : Nat → Nat) (s im ic t fr bY tr ln bl bo g lg e uc lr nx : Int → Int) (SL SLi : List Int) (had : ad 0 = a0) (hLI : LI s im ic t g e Q qa SL SLi) : V G (106 + 6 * i) (3901 + 42 * i) (LWP D a0 ad K Q qa tp s im ic t fr bY tr ln bl bo g lg e uc lr nx) 26 [(3, vI (5 * (i : Int))), (2, .ref (a0 + 97)), (1, .ref a0), (0, .ref b)] [] := by
  refine v_aload_n hG dL_law_26 rfl 3 rfl ?_
  refine v_iload_n hG dL_law_27 rfl 0 rfl ?_
  refine v_sld hG hLG dL_law_28 hL (by omega) ?_
  refine v_bipush hG dL_law_29 (by decide) ?_
  refine v_iand hG dL_law_31 ?_
  have hy := ii_rng (ii (xs (5 * (i : Int)).toNat).toInt &&& ii 63)
  have hye : (ii (xs (5 * (i : Int)).toNat).toInt &&& ii 63).toInt = iand (xs (5 * (i : Int)).toNat).toInt 63 := rfl
  rw [hye] at hy
  generalize iand (xs (5 * (i : Int)).toNat).toInt 63 = y at hy ⊢
  by_cases c0 : y = 0
  · refine v_tabIn (tgt := 224) hG dL_law_32 0 c0 (by decide) (by decide) (by decide) rfl (by decide) ?_
    exact law_feed hG hLG hL hi hE ad K Q qa tp s im ic t fr bY tr ln bl bo g lg e uc lr nx SL SLi had hLI
  by_cases c1 : y = 1
  · refine v_tabIn (tgt := 247) hG dL_law_32 1 c1 (by decide) (by decide) (by decide) rfl (by decide) ?_
    exact law_plate hG hLG hL hi hE ad K Q qa tp s im ic t fr bY tr ln bl bo g lg e uc lr nx SL SLi had hLI
  by_cases c2 : y = 2
  · refine v_tabIn (tgt := 260) hG dL_law_32 2 c2 (by decide) (by decide) (by decide) rfl (by decide) ?_
    exact law_mark hG hLG hL hi hE ad K Q qa tp s im ic t fr bY tr ln bl bo g lg e uc lr nx SL SLi had hLI
  by_cases c3 : y = 3
  · refine v_tabIn (tgt := 313) hG dL_law_32 3 c3 (by decide) (by decide) (by decide) rfl (by decide) ?_
    exact law_of hG hLG hL hi hE ad K Q qa tp s im ic t fr bY tr ln bl bo g lg e uc lr nx SL SLi had hLI
  by_cases c4 : y = 4
  · refine v_tabIn (tgt := 346) hG dL_law_32 4 c4 (by decide) (by decide) (by decide) rfl (by decide) ?_
    exact law_row hG hLG hL hi hE ad K Q qa tp s im ic t fr bY tr ln bl bo g lg e uc lr nx SL SLi had hLI
  by_cases c5 : y = 5
  · refine v_tabIn (tgt := 389) hG dL_law_32 5 c5 (by decide) (by decide) (by decide) rfl (by decide) ?_
    exact law_told hG hLG hL hi hE ad K Q qa tp s im ic t fr bY tr ln bl bo g lg e uc lr nx SL SLi had hLI
  by_cases c6 : y = 6
  · refine v_tabIn (tgt := 412) hG dL_law_32 6 c6 (by decide) (by decide) (by decide) rfl (by decide) ?_
    exact law_cut hG hLG hL hi hE ad K Q qa tp s im ic t fr bY tr ln bl bo g lg e uc lr nx SL SLi had hLI
  by_cases c7 : y = 7
  · refine v_tabIn (tgt := 445) hG dL_law_32 7 c7 (by decide) (by decide) (by decide) rfl (by decide) ?_
    exact law_rest hG hLG hL hi hE ad K Q qa tp s im ic t fr bY tr ln bl bo g lg e uc lr nx SL SLi had hLI
  by_cases c8 : y = 8
  · refine v_tabIn (tgt := 468) hG dL_law_32 8 c8 (by decide) (by decide) (by decide) rfl (by decide) ?_
    exact law_mend hG hLG hL hi hE ad K Q qa tp s im ic t fr bY tr ln bl bo g lg e uc lr nx SL SLi had hLI
  by_cases c9 : y = 9
  · refine v_tabIn (tgt := 491) hG dL_law_32 9 c9 (by decide) (by decide) (by decide) rfl (by decide) ?_
    exact law_over hG hLG hL hi hE ad K Q qa tp s im ic t fr bY tr ln bl bo g lg e uc lr nx SL SLi had hLI
  by_cases c10 : y = 10
  · refine v_tabIn (tgt := 514) hG dL_law_32 10 c10 (by decide) (by decide) (by decide) rfl (by decide) ?_
    exact law_print hG hLG hL hi hE ad K Q qa tp s im ic t fr bY tr ln bl bo g lg e uc lr nx SL SLi had hLI
  by_cases c11 : y = 11
  · refine v_tabIn (tgt := 537) hG dL_law_32 11 c11 (by decide) (by decide) (by decide) rfl (by decide) ?_
    exact law_dark hG hLG hL hi hE ad K Q qa tp s im ic t fr bY tr ln bl bo g lg e uc lr nx SL SLi had hLI
  by_cases c12 : y = 12
  · refine v_tabIn (tgt := 570) hG dL_law_32 12 c12 (by decide) (by decide) (by decide) rfl (by decide) ?_
    exact law_good hG hLG hL hi hE ad K Q qa tp s im ic t fr bY tr ln bl bo g lg e uc lr nx SL SLi had hLI
  by_cases c13 : y = 13
  · refine v_tabIn (tgt := 593) hG dL_law_32 13 c13 (by decide) (by decide) (by decide) rfl (by decide) ?_
    exact law_first hG hLG hL hi hE ad K Q qa tp s im ic t fr bY tr ln bl bo g lg e uc lr nx SL SLi had hLI
  by_cases c14 : y = 14
  · refine v_tabIn (tgt := 606) hG dL_law_32 14 c14 (by decide) (by decide) (by decide) rfl (by decide) ?_
    exact law_faded hG hLG hL hi hE ad K Q qa tp s im ic t fr bY tr ln bl bo g lg e uc lr nx SL SLi had hLI
  by_cases c15 : y = 15
  · refine v_tabIn (tgt := 629) hG dL_law_32 15 c15 (by decide) (by decide) (by decide) rfl (by decide) ?_
    exact law_order hG hLG hL hi hE ad K Q qa tp s im ic t fr bY tr ln bl bo g lg e uc lr nx SL SLi had hLI
  by_cases c16 : y = 16
  · refine v_tabIn (tgt := 652) hG dL_law_32 16 c16 (by decide) (by decide) (by decide) rfl (by decide) ?_
    exact law_rested hG hLG hL hi hE ad K Q qa tp s im ic t fr bY tr ln bl bo g lg e uc lr nx SL SLi had hLI
  by_cases c17 : y = 17
  · refine v_tabIn (tgt := 665) hG dL_law_32 17 c17 (by decide) (by decide) (by decide) rfl (by decide) ?_
    exact law_flaws hG hLG hL hi hE ad K Q qa tp s im ic t fr bY tr ln bl bo g lg e uc lr nx SL SLi had hLI
  by_cases c18 : y = 18
  · refine v_tabIn (tgt := 689) hG dL_law_32 18 c18 (by decide) (by decide) (by decide) rfl (by decide) ?_
    exact law_clean hG hLG hL hi hE ad K Q qa tp s im ic t fr bY tr ln bl bo g lg e uc lr nx SL SLi had hLI
  by_cases c19 : y = 19
  · refine v_tabIn (tgt := 713) hG dL_law_32 19 c19 (by decide) (by decide) (by decide) rfl (by decide) ?_
    exact law_mirror hG hLG hL hi hE ad K Q qa tp s im ic t fr bY tr ln bl bo g lg e uc lr nx SL SLi had hLI
  by_cases c20 : y = 20
  · refine v_tabIn (tgt := 736) hG dL_law_32 20 c20 (by decide) (by decide) (by decide) rfl (by decide) ?_
    exact law_beside hG hLG hL hi hE ad K Q qa tp s im ic t fr bY tr ln bl bo g lg e uc lr nx SL SLi had hLI
  by_cases c21 : y = 21
  · refine v_tabIn (tgt := 759) hG dL_law_32 21 c21 (by decide) (by decide) (by decide) rfl (by decide) ?_
    exact law_crowd hG hLG hL hi hE ad K Q qa tp s im ic t fr bY tr ln bl bo g lg e uc lr nx SL SLi had hLI
  by_cases c22 : y = 22
  · refine v_tabIn (tgt := 772) hG dL_law_32 22 c22 (by decide) (by decide) (by decide) rfl (by decide) ?_
    exact law_room hG hLG hL hi hE ad K Q qa tp s im ic t fr bY tr ln bl bo g lg e uc lr nx SL SLi had hLI
  by_cases c23 : y = 23
  · refine v_tabIn (tgt := 795) hG dL_law_32 23 c23 (by decide) (by decide) (by decide) rfl (by decide) ?_
    exact law_proof hG hLG hL hi hE ad K Q qa tp s im ic t fr bY tr ln bl bo g lg e uc lr nx SL SLi had hLI
  by_cases c24 : y = 24
  · refine v_tabIn (tgt := 818) hG dL_law_32 24 c24 (by decide) (by decide) (by decide) rfl (by decide) ?_
    exact law_proofs hG hLG hL hi hE ad K Q qa tp s im ic t fr bY tr ln bl bo g lg e uc lr nx SL SLi had hLI
  by_cases c25 : y = 25
  · refine v_tabIn (tgt := 831) hG dL_law_32 25 c25 (by decide) (by decide) (by decide) rfl (by decide) ?_
    exact law_mends hG hLG hL hi hE ad K Q qa tp s im ic t fr bY tr ln bl bo g lg e uc lr nx SL SLi had hLI
  by_cases c26 : y = 26
  · refine v_tabIn (tgt := 844) hG dL_law_32 26 c26 (by decide) (by decide) (by decide) rfl (by decide) ?_
    exact law_worth hG hLG hL hi hE ad K Q qa tp s im ic t fr bY tr ln bl bo g lg e uc lr nx SL SLi had hLI
  by_cases c27 : y = 27
  · refine v_tabIn (tgt := 867) hG dL_law_32 27 c27 (by decide) (by decide) (by decide) rfl (by decide) ?_
    exact law_best hG hLG hL hi hE ad K Q qa tp s im ic t fr bY tr ln bl bo g lg e uc lr nx SL SLi had hLI
  by_cases c28 : y = 28
  · refine v_tabIn (tgt := 880) hG dL_law_32 28 c28 (by decide) (by decide) (by decide) rfl (by decide) ?_
    exact law_see hG hLG hL hi hE ad K Q qa tp s im ic t fr bY tr ln bl bo g lg e uc lr nx SL SLi had hLI
  by_cases c29 : y = 29
  · refine v_tabIn (tgt := 913) hG dL_law_32 29 c29 (by decide) (by decide) (by decide) rfl (by decide) ?_
    exact law_ran hG hLG hL hi hE ad K Q qa tp s im ic t fr bY tr ln bl bo g lg e uc lr nx SL SLi had hLI
  by_cases c30 : y = 30
  · refine v_tabIn (tgt := 936) hG dL_law_32 30 c30 (by decide) (by decide) (by decide) rfl (by decide) ?_
    exact law_hand hG hLG hL hi hE ad K Q qa tp s im ic t fr bY tr ln bl bo g lg e uc lr nx SL SLi had hLI
  by_cases c31 : y = 31
  · refine v_tabIn (tgt := 959) hG dL_law_32 31 c31 (by decide) (by decide) (by decide) rfl (by decide) ?_
    exact law_errs hG hLG hL hi hE ad K Q qa tp s im ic t fr bY tr ln bl bo g lg e uc lr nx SL SLi had hLI
  by_cases c32 : y = 32
  · refine v_tabIn (tgt := 972) hG dL_law_32 32 c32 (by decide) (by decide) (by decide) rfl (by decide) ?_
    exact law_odds hG hLG hL hi hE ad K Q qa tp s im ic t fr bY tr ln bl bo g lg e uc lr nx SL SLi had hLI
  by_cases c33 : y = 33
  · refine v_tabIn (tgt := 1016) hG dL_law_32 33 c33 (by decide) (by decide) (by decide) rfl (by decide) ?_
    exact law_mean hG hLG hL hi hE ad K Q qa tp s im ic t fr bY tr ln bl bo g lg e uc lr nx SL SLi had hLI
  by_cases c34 : y = 34
  · refine v_tabIn (tgt := 1050) hG dL_law_32 34 c34 (by decide) (by decide) (by decide) rfl (by decide) ?_
    exact law_plan hG hLG hL hi hE ad K Q qa tp s im ic t fr bY tr ln bl bo g lg e uc lr nx SL SLi had hLI
  by_cases c35 : y = 35
  · refine v_tabIn (tgt := 1083) hG dL_law_32 35 c35 (by decide) (by decide) (by decide) rfl (by decide) ?_
    exact law_done hG hLG hL hi hE ad K Q qa tp s im ic t fr bY tr ln bl bo g lg e uc lr nx SL SLi had hLI
  by_cases c36 : y = 36
  · refine v_tabIn (tgt := 1106) hG dL_law_32 36 c36 (by decide) (by decide) (by decide) rfl (by decide) ?_
    exact law_book hG hLG hL hi hE ad K Q qa tp s im ic t fr bY tr ln bl bo g lg e uc lr nx SL SLi had hLI
  by_cases c37 : y = 37
  · refine v_tabIn (tgt := 1149) hG dL_law_32 37 c37 (by decide) (by decide) (by decide) rfl (by decide) ?_
    exact law_looked hG hLG hL hi hE ad K Q qa tp s im ic t fr bY tr ln bl bo g lg e uc lr nx SL SLi had hLI
  by_cases c38 : y = 38
  · refine v_tabIn (tgt := 1162) hG dL_law_32 38 c38 (by decide) (by decide) (by decide) rfl (by decide) ?_
    exact law_act hG hLG hL hi hE ad K Q qa tp s im ic t fr bY tr ln bl bo g lg e uc lr nx SL SLi had hLI
  by_cases c39 : y = 39
  · refine v_tabIn (tgt := 1205) hG dL_law_32 39 c39 (by decide) (by decide) (by decide) rfl (by decide) ?_
    exact law_trace hG hLG hL hi hE ad K Q qa tp s im ic t fr bY tr ln bl bo g lg e uc lr nx SL SLi had hLI
  by_cases c40 : y = 40
  · refine v_tabIn (tgt := 1228) hG dL_law_32 40 c40 (by decide) (by decide) (by decide) rfl (by decide) ?_
    exact law_as hG hLG hL hi hE ad K Q qa tp s im ic t fr bY tr ln bl bo g lg e uc lr nx SL SLi had hLI
  by_cases c41 : y = 41
  · refine v_tabIn (tgt := 1261) hG dL_law_32 41 c41 (by decide) (by decide) (by decide) rfl (by decide) ?_
    exact law_image hG hLG hL hi hE ad K Q qa tp s im ic t fr bY tr ln bl bo g lg e uc lr nx SL SLi had hLI
  by_cases c42 : y = 42
  · refine v_tabIn (tgt := 1274) hG dL_law_32 42 c42 (by decide) (by decide) (by decide) rfl (by decide) ?_
    exact law_undo hG hLG hL hi hE ad K Q qa tp s im ic t fr bY tr ln bl bo g lg e uc lr nx SL SLi had hLI
  by_cases c43 : y = 43
  · refine v_tabIn (tgt := 1287) hG dL_law_32 43 c43 (by decide) (by decide) (by decide) rfl (by decide) ?_
    exact law_count hG hLG hL hi hE ad K Q qa tp s im ic t fr bY tr ln bl bo g lg e uc lr nx SL SLi had hLI
  refine v_tabOut (tgt := 1310) hG dL_law_32 (by omega) (by omega) (by decide) ?_
  refine v_widen (k1' := 106 + 6 * (i + 1)) (k2' := 3901 + 42 * (i + 1)) (by omega) (by omega) ?_
  exact hE ad K Q qa tp s im ic t fr bY tr ln bl bo g lg e uc lr nx SL SLi had hLI
set_option maxHeartbeats 4000000 in
set_option maxRecDepth 100000 in
theorem law_loop {D : Dx} {G : Gx} {b L a0 : Nat} {xs : Nat → Int32} (hG : Ok D (fun q => a0 ≤ q) G cL_law 4 RL room_1) (hLG : LG b L xs a0 G) (hL : L ≤ 2560) : ∀ (n i : Nat), i + n = 513 → 5 * i ≤ L → ∀ (ad : Nat → Nat) (K : Int → Int) (Q : Nat → Int → Int) (qa : Nat → Int → Int) (tp : Nat → Nat) (s im ic t fr bY tr ln bl bo g lg e uc lr nx : Int → Int) (SL SLi : List Int), ad 0 = a0 → LI s im ic t g e Q qa SL SLi → V G (106 + 6 * i) (3901 + 42 * i) (LWP D a0 ad K Q qa tp s im ic t fr bY tr ln bl bo g lg e uc lr nx) 18 [(3, vI (5 * (i : Int))), (2, .ref (a0 + 97)), (1, .ref a0), (0, .ref b)] [] := by
  intro n
  induction n with
  | zero => intro i hn h5; omega
  | succ n ih =>
    intro i hn h5 ad K Q qa tp s im ic t fr bY tr ln bl bo g lg e uc lr nx SL SLi had hLI
    refine v_iload_n hG dL_law_18 rfl 0 rfl ?_
    refine v_aload_n hG dL_law_19 rfl 3 rfl ?_
    refine v_slen hG hLG dL_law_20 ?_
    refine v_iconst hG dL_law_21 ?_
    refine v_isub hG dL_law_22 ?_
    refine v_icmp_gt (tgt := 1316) hG dL_law_23 (by decide) (by omega) (by omega) (fun c1 => ?_) (fun c1 => ?_)
    · refine v_iconst hG dL_law_1316 ?_
      exact v_lawret hG hLG ⟨by omega, by omega⟩ dL_law_1317
    · refine law_body hG hLG hL (by omega) ?_ ad K Q qa tp s im ic t fr bY tr ln bl bo g lg e uc lr nx SL SLi had hLI
      intro ad' K' Q' qa' tp' s' im' ic' t' fr' bY' tr' ln' bl' bo' g' lg' e' uc' lr' nx' SL' SLi' had' hLI'
      refine v_iinc (lo' := [(3, vI (5 * (i : Int) + 5)), (2, .ref (a0 + 97)), (1, .ref a0), (0, .ref b)]) hG dL_law_1310 0 rfl (by decide) rfl ?_
      refine v_goto (tgt := 18) hG dL_law_1313 (by decide) ?_
      rw [show (5 * (i : Int) + 5) = 5 * ((i + 1 : Nat) : Int) by omega]
      exact ih (i + 1) (by omega) (by omega) ad' K' Q' qa' tp' s' im' ic' t' fr' bY' tr' ln' bl' bo' g' lg' e' uc' lr' nx' SL' SLi' had' hLI'
