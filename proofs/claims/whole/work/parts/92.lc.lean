/-! THE LAW: its cases -/
def LEnd (D : Dx) (G : Gx) (b a0 i : Nat) : Prop := ∀ (ad : Nat → Nat) (K : Int → Int) (Q : Nat → Int → Int) (qa : Nat → Int → Int) (tp : Nat → Nat) (s im ic t fr bY tr ln bl bo g lg e uc lr nx : Int → Int) (SL SLi : List Int), ad 0 = a0 → LI s im ic t g e Q qa SL SLi → V G (106 + 6 * (i + 1)) (3901 + 42 * (i + 1)) (LWP D a0 ad K Q qa tp s im ic t fr bY tr ln bl bo g lg e uc lr nx) 1310 [(3, vI (5 * (i : Int))), (2, .ref (a0 + 97)), (1, .ref a0), (0, .ref b)] []
set_option maxHeartbeats 4000000 in
set_option maxRecDepth 100000 in
theorem law_mark {D : Dx} {G : Gx} {b L a0 i : Nat} {xs : Nat → Int32} (hG : Ok D (fun q => a0 ≤ q) G cL_law 4 RL room_1) (hLG : LG b L xs a0 G) (hL : L ≤ 2560) (hi : 5 * i + 5 ≤ L) (hE : LEnd D G b a0 i) (ad : Nat → Nat) (K : Int → Int) (Q : Nat → Int → Int) (qa : Nat → Int → Int) (tp : Nat → Nat) (s im ic t fr bY tr ln bl bo g lg e uc lr nx : Int → Int) (SL SLi : List Int) (had : ad 0 = a0) (hLI : LI s im ic t g e Q qa SL SLi) : V G (106 + 6 * i) (3901 + 42 * i) (LWP D a0 ad K Q qa tp s im ic t fr bY tr ln bl bo g lg e uc lr nx) 260 [(3, vI (5 * (i : Int))), (2, .ref (a0 + 97)), (1, .ref a0), (0, .ref b)] [] := by
  obtain ⟨⟨hS, hZ⟩, ⟨hSi, hZi⟩, ⟨hi43, hi44⟩, ⟨hPs, hPi⟩, hTt, hZm, hg1, hgi, he1, he0, hg8a, hg8b⟩ := id hLI
  obtain ⟨hN, hM, hPL, hHE, hT, hWW, hSE, hPN, hBK, hTS, h44, h0, h1p, h49, hZO⟩ := id hS
  have hTB := SI_TB hS
  have hTBi := SI_TB hSi
  have hCH := PLA_CHP hPs hS
  have hCHi := PLA_CHP hPi hSi
  refine v_aload_n hG dL_law_260 rfl 2 rfl ?_
  refine v_aload_n hG dL_law_261 rfl 3 rfl ?_
  refine v_iload_n hG dL_law_262 rfl 0 rfl ?_
  refine v_iconst hG dL_law_263 ?_
  refine v_iadd hG dL_law_264 ?_
  refine v_sld hG hLG dL_law_265 hL (by omega) ?_
  refine v_aload_n hG dL_law_266 rfl 3 rfl ?_
  refine v_iload_n hG dL_law_267 rfl 0 rfl ?_
  refine v_iconst hG dL_law_268 ?_
  refine v_iadd hG dL_law_269 ?_
  refine v_sld hG hLG dL_law_270 hL (by omega) ?_
  refine v_aload_n hG dL_law_271 rfl 3 rfl ?_
  refine v_iload_n hG dL_law_272 rfl 0 rfl ?_
  refine v_iconst hG dL_law_273 ?_
  refine v_iadd hG dL_law_274 ?_
  refine v_sld hG hLG dL_law_275 hL (by omega) ?_
  refine v_aload_n hG dL_law_276 rfl 3 rfl ?_
  refine v_iload_n hG dL_law_277 rfl 0 rfl ?_
  refine v_iconst hG dL_law_278 ?_
  refine v_iadd hG dL_law_279 ?_
  refine v_sld hG hLG dL_law_280 hL (by omega) ?_
  refine v_callV (k1' := 106 + 6 * i + 6) (k2' := 3901 + 42 * i + 42) hG dL_law_281 zc_X11_mark ⟨zl_L_23, zi_X11_mark, zs_X11_mark⟩ (fun l => CT_fr (A := fun q => a0 ≤ q) (F := F1 D a0 s im fr bY tr ln bl bo g lg) (fun q (hq : AC a0 q) => hq.1) F1_st (kc11_mark l D (AC a0) (a0 + 106) ad K (S3 s ic t) Q qa tp s bo e uc lr nx ((xs (5 * (i : Int) + 1).toNat).toInt) ((xs (5 * (i : Int) + 2).toNat).toInt) ((xs (5 * (i : Int) + 3).toNat).toInt) ((xs (5 * (i : Int) + 4).toNat).toInt) (fun q hq => ⟨by omega, by omega⟩) hTB hTt hN hi43 (ii_rng _) (ii_rng _) (ii_rng _) (ii_rng _))) rfl (fun H h => cR11 H h.1) (fun H h => ⟨⟨CW_3r (Sa_0) (Sa_1.trans S3_1) (Sa_2.trans S3_2) h.1, h.2.2⟩, h.2⟩) ⟨by decide, by decide⟩ rfl rfl ⟨by show 106 + 6 * i + 6 ≤ 600000; omega, by show 3901 + 42 * i + 42 ≤ 7302250; omega⟩ (rest := []) (by rw [had]; rfl) (Nat.le_of_ble_eq_true rfl) (fun _ => [vI (a_mark s ((xs (5 * (i : Int) + 1).toNat).toInt) ((xs (5 * (i : Int) + 2).toNat).toInt) ((xs (5 * (i : Int) + 3).toNat).toInt) ((xs (5 * (i : Int) + 4).toNat).toInt))]) (fun _ => rfl) (fun u hu => ?_)
  have hu : u.1 0 = ad 0 ∧ TB u.2.2 := hu
  refine v_P (P' := fun H => CW D (AC a0) u.1 u.2.1 (S3 (f_mark s ((xs (5 * (i : Int) + 1).toNat).toInt) ((xs (5 * (i : Int) + 2).toNat).toInt) ((xs (5 * (i : Int) + 3).toNat).toInt) ((xs (5 * (i : Int) + 4).toNat).toInt)) ic u.2.2) Q qa tp bo e uc lr nx H ∧ F1 D a0 s im fr bY tr ln bl bo g lg H) (fun H h => ⟨CW_3 Sa_0 (Sa_1.trans (Sb_1.trans S3_1)) (Sa_2.trans Sb_2) h.1, h.2⟩) ?_
  obtain ⟨ka, hka⟩ : ∃ ka, ka = 106 + 6 * (i + 1) := ⟨_, rfl⟩
  obtain ⟨kb, hkb⟩ : ∃ kb, kb = 3901 + 42 * (i + 1) := ⟨_, rfl⟩
  refine v_widen (k1' := ka) (k2' := kb) (by omega) (by omega) ?_
  refine v_aload_n hG dL_law_284 rfl 1 rfl ?_
  refine v_aload_n hG dL_law_285 rfl 3 rfl ?_
  refine v_iload_n hG dL_law_286 rfl 0 rfl ?_
  refine v_iconst hG dL_law_287 ?_
  refine v_iadd hG dL_law_288 ?_
  refine v_sld hG hLG dL_law_289 hL (by omega) ?_
  refine v_aload_n hG dL_law_290 rfl 3 rfl ?_
  refine v_iload_n hG dL_law_291 rfl 0 rfl ?_
  refine v_iconst hG dL_law_292 ?_
  refine v_iadd hG dL_law_293 ?_
  refine v_sld hG hLG dL_law_294 hL (by omega) ?_
  refine v_aload_n hG dL_law_295 rfl 3 rfl ?_
  refine v_iload_n hG dL_law_296 rfl 0 rfl ?_
  refine v_iconst hG dL_law_297 ?_
  refine v_iadd hG dL_law_298 ?_
  refine v_sld hG hLG dL_law_299 hL (by omega) ?_
  refine v_aload_n hG dL_law_300 rfl 3 rfl ?_
  refine v_iload_n hG dL_law_301 rfl 0 rfl ?_
  refine v_iconst hG dL_law_302 ?_
  refine v_iadd hG dL_law_303 ?_
  refine v_sld hG hLG dL_law_304 hL (by omega) ?_
  refine v_callV (k1' := ka) (k2' := kb) hG dL_law_305 zc_X12_mark ⟨zl_L_27, zi_X12_mark, zs_X12_mark⟩ (fun l => CT_fr (A := fun q => a0 ≤ q) (F := F2 D a0 u.1 u.2.1 (S3 (f_mark s ((xs (5 * (i : Int) + 1).toNat).toInt) ((xs (5 * (i : Int) + 2).toNat).toInt) ((xs (5 * (i : Int) + 3).toNat).toInt) ((xs (5 * (i : Int) + 4).toNat).toInt)) ic u.2.2) Q qa tp bo e uc lr nx) (fun q (hq : AM a0 q) => by have := hq.1; omega) F2_st (k_mark l D (AM a0) (amL a0) s im fr bY tr ln bl bo g lg ((xs (5 * (i : Int) + 1).toNat).toInt) ((xs (5 * (i : Int) + 2).toNat).toInt) ((xs (5 * (i : Int) + 3).toNat).toInt) ((xs (5 * (i : Int) + 4).toNat).toInt) (ii_rng _) (ii_rng _) (ii_rng _) (ii_rng _) hN)) rfl (fun H h => ⟨12, _, _, h.2.1.1 0 _ rfl, rfl, rfl⟩) (fun H h => ⟨h.2.1, h.1, h.2.2⟩) ⟨by decide, by decide⟩ (Nat.add_zero _) (Nat.add_zero _) ⟨by show ka ≤ 600000; omega, by show kb ≤ 7302250; omega⟩ (rest := [vI (a_mark s ((xs (5 * (i : Int) + 1).toNat).toInt) ((xs (5 * (i : Int) + 2).toNat).toInt) ((xs (5 * (i : Int) + 3).toNat).toInt) ((xs (5 * (i : Int) + 4).toNat).toInt))]) rfl (Nat.le_of_ble_eq_true rfl) (fun _ => [vI (a_mark s ((xs (5 * (i : Int) + 1).toNat).toInt) ((xs (5 * (i : Int) + 2).toNat).toInt) ((xs (5 * (i : Int) + 3).toNat).toInt) ((xs (5 * (i : Int) + 4).toNat).toInt)), vI (a_mark s ((xs (5 * (i : Int) + 1).toNat).toInt) ((xs (5 * (i : Int) + 2).toNat).toInt) ((xs (5 * (i : Int) + 3).toNat).toInt) ((xs (5 * (i : Int) + 4).toNat).toInt))]) (fun _ => rfl) (fun v hv => ?_)
  refine v_P (P' := LWP D a0 u.1 u.2.1 Q qa tp (f_mark s ((xs (5 * (i : Int) + 1).toNat).toInt) ((xs (5 * (i : Int) + 2).toNat).toInt) ((xs (5 * (i : Int) + 3).toNat).toInt) ((xs (5 * (i : Int) + 4).toNat).toInt)) im ic u.2.2 fr bY tr ln bl bo g lg e uc lr nx) (fun H h => ⟨h.2.1, h.1, h.2.2⟩) ?_
  refine v_icmp_eqR (tgt := 1310) hG dL_law_308 (by decide) ?_
  refine v_widen (k1' := 106 + 6 * (i + 1)) (k2' := 3901 + 42 * (i + 1)) (by omega) (by omega) ?_
  exact hE _ _ _ _ _ _ _ _ _ _ _ _ _ _ _ _ _ _ _ _ _ _ _ (hu.1.trans had) (LI_t (LI_s hLI (ST_mark hS hZ)) hu.2)
