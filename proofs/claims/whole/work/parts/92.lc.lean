/-! THE LAW: its cases -/
def LEnd (D : Dx) (G : Gx) (b a0 i : Nat) : Prop := ∀ (ad : Nat → Nat) (K : Int → Int) (Q : Nat → Int → Int) (qa : Nat → Int → Int) (tp : Nat → Nat) (s im ic t fr bY tr ln bl bo g lg e uc lr nx : Int → Int) (SL SLi : List Int), ad 0 = a0 → LI s im ic t g e Q qa SL SLi → V G (106 + 6 * (i + 1)) (3901 + 42 * (i + 1)) (LWP D a0 ad K Q qa tp s im ic t fr bY tr ln bl bo g lg e uc lr nx) 1310 [(3, vI (5 * (i : Int))), (2, .ref (a0 + 97)), (1, .ref a0), (0, .ref b)] []
set_option maxHeartbeats 4000000 in
set_option maxRecDepth 100000 in
theorem law_feed {D : Dx} {G : Gx} {b L a0 i : Nat} {xs : Nat → Int32} (hG : Ok D (fun q => a0 ≤ q) G cL_law 4 RL room_1) (hLG : LG b L xs a0 G) (hL : L ≤ 2560) (hi : 5 * i + 5 ≤ L) (hE : LEnd D G b a0 i) (ad : Nat → Nat) (K : Int → Int) (Q : Nat → Int → Int) (qa : Nat → Int → Int) (tp : Nat → Nat) (s im ic t fr bY tr ln bl bo g lg e uc lr nx : Int → Int) (SL SLi : List Int) (had : ad 0 = a0) (hLI : LI s im ic t g e Q qa SL SLi) : V G (106 + 6 * i) (3901 + 42 * i) (LWP D a0 ad K Q qa tp s im ic t fr bY tr ln bl bo g lg e uc lr nx) 224 [(3, vI (5 * (i : Int))), (2, .ref (a0 + 97)), (1, .ref a0), (0, .ref b)] [] := by
  obtain ⟨⟨hS, hZ⟩, ⟨hSi, hZi⟩, ⟨hi43, hi44⟩, ⟨hPs, hPi⟩, hTt, hZm, hg1, hgi, he1, he0, hg8a, hg8b⟩ := id hLI
  obtain ⟨hN, hM, hPL, hHE, hT, hWW, hSE, hPN, hBK, hTS, h44, h0, h1p, h49, hZO⟩ := id hS
  have hTB := SI_TB hS
  have hTBi := SI_TB hSi
  have hCH := PLA_CHP hPs hS
  have hCHi := PLA_CHP hPi hSi
  refine v_aload_n hG dL_law_224 rfl 2 rfl ?_
  refine v_aload_n hG dL_law_225 rfl 3 rfl ?_
  refine v_iload_n hG dL_law_226 rfl 0 rfl ?_
  refine v_iconst hG dL_law_227 ?_
  refine v_iadd hG dL_law_228 ?_
  refine v_sld hG hLG dL_law_229 hL (by omega) ?_
  refine v_callV (k1' := 106 + 6 * i) (k2' := 3901 + 42 * i) hG dL_law_230 zc_X11_feed ⟨zl_L_13, zi_X11_feed, zs_X11_feed⟩ (fun l => CT_fr (A := fun q => a0 ≤ q) (F := F1 D a0 s im fr bY tr ln bl bo g lg) (fun q (hq : AC a0 q) => hq.1) F1_st (kc11_feed l D (AC a0) ad K (S3 s ic t) Q qa tp s bo e uc lr nx ((xs (5 * (i : Int) + 1).toNat).toInt) (ii_rng _) hTB)) rfl (fun H h => cR11 H h.1) (fun H h => ⟨CW_3r (Sa_0) (Sa_1.trans S3_1) (Sa_2.trans S3_2) h.1, h.2⟩) ⟨by decide, by decide⟩ (Nat.add_zero _) (Nat.add_zero _) ⟨by show 106 + 6 * i ≤ 600000; omega, by show 3901 + 42 * i ≤ 7302250; omega⟩ (rest := []) (by rw [had]; rfl) (Nat.le_of_ble_eq_true rfl) (fun _ => [vI (a_feed s ((xs (5 * (i : Int) + 1).toNat).toInt))]) (fun _ => rfl) (fun u hu => ?_)
  refine v_P (P' := fun H => CW D (AC a0) ad K (S3 (f_feed s ((xs (5 * (i : Int) + 1).toNat).toInt)) ic t) Q qa tp bo e uc lr nx H ∧ F1 D a0 s im fr bY tr ln bl bo g lg H) (fun H h => ⟨CW_3 Sa_0 (Sa_1.trans S3_1) (Sa_2.trans S3_2) h.1, h.2⟩) ?_
  refine v_aload_n hG dL_law_233 rfl 1 rfl ?_
  refine v_aload_n hG dL_law_234 rfl 3 rfl ?_
  refine v_iload_n hG dL_law_235 rfl 0 rfl ?_
  refine v_iconst hG dL_law_236 ?_
  refine v_iadd hG dL_law_237 ?_
  refine v_sld hG hLG dL_law_238 hL (by omega) ?_
  refine v_callV (k1' := 106 + 6 * i) (k2' := 3901 + 42 * i) hG dL_law_239 zc_X12_feed ⟨zl_L_17, zi_X12_feed, zs_X12_feed⟩ (fun l => CT_fr (A := fun q => a0 ≤ q) (F := F2 D a0 ad K (S3 (f_feed s ((xs (5 * (i : Int) + 1).toNat).toInt)) ic t) Q qa tp bo e uc lr nx) (fun q (hq : AM a0 q) => by have := hq.1; omega) F2_st (k_feed l D (AM a0) (amL a0) s im fr bY tr ln bl bo g lg ((xs (5 * (i : Int) + 1).toNat).toInt) (ii_rng _) hTS.1)) rfl (fun H h => ⟨12, _, _, h.2.1.1 0 _ rfl, rfl, rfl⟩) (fun H h => ⟨h.2.1, h.1, h.2.2⟩) ⟨by decide, by decide⟩ (Nat.add_zero _) (Nat.add_zero _) ⟨by show 106 + 6 * i ≤ 600000; omega, by show 3901 + 42 * i ≤ 7302250; omega⟩ (rest := [vI (a_feed s ((xs (5 * (i : Int) + 1).toNat).toInt))]) rfl (Nat.le_of_ble_eq_true rfl) (fun _ => [vI (a_feed s ((xs (5 * (i : Int) + 1).toNat).toInt)), vI (a_feed s ((xs (5 * (i : Int) + 1).toNat).toInt))]) (fun _ => rfl) (fun v hv => ?_)
  refine v_P (P' := LWP D a0 ad K Q qa tp (f_feed s ((xs (5 * (i : Int) + 1).toNat).toInt)) im ic t fr bY tr ln bl bo g lg e uc lr nx) (fun H h => ⟨h.2.1, h.1, h.2.2⟩) ?_
  refine v_icmp_eqR (tgt := 1310) hG dL_law_242 (by decide) ?_
  refine v_widen (k1' := 106 + 6 * (i + 1)) (k2' := 3901 + 42 * (i + 1)) (by omega) (by omega) ?_
  exact hE _ _ _ _ _ _ _ _ _ _ _ _ _ _ _ _ _ _ _ _ _ _ _ had (LI_s hLI (ST_feed hS hZ))
set_option maxHeartbeats 4000000 in
set_option maxRecDepth 100000 in
theorem law_plate {D : Dx} {G : Gx} {b L a0 i : Nat} {xs : Nat → Int32} (hG : Ok D (fun q => a0 ≤ q) G cL_law 4 RL room_1) (hLG : LG b L xs a0 G) (hL : L ≤ 2560) (hi : 5 * i + 5 ≤ L) (hE : LEnd D G b a0 i) (ad : Nat → Nat) (K : Int → Int) (Q : Nat → Int → Int) (qa : Nat → Int → Int) (tp : Nat → Nat) (s im ic t fr bY tr ln bl bo g lg e uc lr nx : Int → Int) (SL SLi : List Int) (had : ad 0 = a0) (hLI : LI s im ic t g e Q qa SL SLi) : V G (106 + 6 * i) (3901 + 42 * i) (LWP D a0 ad K Q qa tp s im ic t fr bY tr ln bl bo g lg e uc lr nx) 247 [(3, vI (5 * (i : Int))), (2, .ref (a0 + 97)), (1, .ref a0), (0, .ref b)] [] := by
  obtain ⟨⟨hS, hZ⟩, ⟨hSi, hZi⟩, ⟨hi43, hi44⟩, ⟨hPs, hPi⟩, hTt, hZm, hg1, hgi, he1, he0, hg8a, hg8b⟩ := id hLI
  obtain ⟨hN, hM, hPL, hHE, hT, hWW, hSE, hPN, hBK, hTS, h44, h0, h1p, h49, hZO⟩ := id hS
  have hTB := SI_TB hS
  have hTBi := SI_TB hSi
  have hCH := PLA_CHP hPs hS
  have hCHi := PLA_CHP hPi hSi
  obtain ⟨p, hp6, hpp⟩ : ∃ p : Nat, p < 6 ∧ (s 44 ≤ 4 → (p : Int) = s 44) := ⟨(s 44).toNat, by omega, fun _ => by omega⟩
  refine v_aload_n hG dL_law_247 rfl 2 rfl ?_
  refine v_callV (k1' := 106 + 6 * i) (k2' := 3901 + 42 * i) hG dL_law_248 zc_X11_plate ⟨zl_L_18, zi_X11_plate, zs_X11_plate⟩ (fun l => CT_fr (A := fun q => a0 ≤ q) (F := F1 D a0 s im fr bY tr ln bl bo g lg) (fun q (hq : AC a0 q) => hq.1) F1_st (kc11_plate l D (AC a0) ad K (S3 s ic t) Q qa tp s (Q p) (qa (6 * 0 + p)) (qa (6 * 1 + p)) (qa (6 * 2 + p)) (qa (6 * 3 + p)) bo e uc lr nx p hp6 hTB hTS (by omega) hpp)) rfl (fun H h => cR11 H h.1) (fun H h => ⟨by rw [uS_self, q4_self]; exact CW_3r (Sa_0) (Sa_1.trans S3_1) (Sa_2.trans S3_2) h.1, h.2⟩) ⟨by decide, by decide⟩ (Nat.add_zero _) (Nat.add_zero _) ⟨by show 106 + 6 * i ≤ 600000; omega, by show 3901 + 42 * i ≤ 7302250; omega⟩ (rest := []) (by rw [had]; rfl) (Nat.le_of_ble_eq_true rfl) (fun _ => [vI (a_plate s)]) (fun _ => rfl) (fun u hu => ?_)
  have hu : (s 44 = 5 → u.1 = (Q p) ∧ u.2.1 = (qa (6 * 0 + p)) ∧ u.2.2.1 = (qa (6 * 1 + p)) ∧ u.2.2.2.1 = (qa (6 * 2 + p)) ∧ u.2.2.2.2.1 = (qa (6 * 3 + p))) ∧ (¬ s 44 = 5 → okP s → PLT s u.1 u.2.1 u.2.2.1 u.2.2.2.1 u.2.2.2.2.1) := hu
  refine v_P (P' := fun H => CW D (AC a0) ad K (S3 (f_plate s) ic t) (uS Q p u.1) (q4 qa p u.2.1 u.2.2.1 u.2.2.2.1 u.2.2.2.2.1) u.2.2.2.2.2 bo e uc lr nx H ∧ F1 D a0 s im fr bY tr ln bl bo g lg H) (fun H h => ⟨CW_3 Sa_0 (Sa_1.trans S3_1) (Sa_2.trans S3_2) h.1, h.2⟩) ?_
  refine v_aload_n hG dL_law_251 rfl 1 rfl ?_
  refine v_callV (k1' := 106 + 6 * i) (k2' := 3901 + 42 * i) hG dL_law_252 zc_X12_plate ⟨zl_L_22, zi_X12_plate, zs_X12_plate⟩ (fun l => CT_fr (A := fun q => a0 ≤ q) (F := F2 D a0 ad K (S3 (f_plate s) ic t) (uS Q p u.1) (q4 qa p u.2.1 u.2.2.1 u.2.2.2.1 u.2.2.2.2.1) u.2.2.2.2.2 bo e uc lr nx) (fun q (hq : AM a0 q) => by have := hq.1; omega) F2_st (k_plate l D (AM a0) (amL a0) s im fr bY tr ln bl bo g lg hTS (by omega))) rfl (fun H h => ⟨12, _, _, h.2.1.1 0 _ rfl, rfl, rfl⟩) (fun H h => ⟨h.2.1, h.1, h.2.2⟩) ⟨by decide, by decide⟩ (Nat.add_zero _) (Nat.add_zero _) ⟨by show 106 + 6 * i ≤ 600000; omega, by show 3901 + 42 * i ≤ 7302250; omega⟩ (rest := [vI (a_plate s)]) rfl (Nat.le_of_ble_eq_true rfl) (fun _ => [vI (a_plate s), vI (a_plate s)]) (fun _ => rfl) (fun v hv => ?_)
  have hv : v 1 = g 1 ∧ v 8 = g 8 := hv
  refine v_P (P' := LWP D a0 ad K (uS Q p u.1) (q4 qa p u.2.1 u.2.2.1 u.2.2.2.1 u.2.2.2.2.1) u.2.2.2.2.2 (f_plate s) im ic t fr bY tr ln bl bo v lg e uc lr nx) (fun H h => ⟨h.2.1, h.1, h.2.2⟩) ?_
  refine v_icmp_eqR (tgt := 1310) hG dL_law_255 (by decide) ?_
  refine v_widen (k1' := 106 + 6 * (i + 1)) (k2' := 3901 + 42 * (i + 1)) (by omega) (by omega) ?_
  obtain ⟨SL', hLI'⟩ : ∃ SL', LI (f_plate s) im ic t v e (uS Q p u.1) (q4 qa p u.2.1 u.2.2.1 u.2.2.2.1 u.2.2.2.2.1) SL' SLi := by
    by_cases h5 : s 44 = 5
    · obtain ⟨y1, y2, y3, y4, y5⟩ := hu.1 h5
      rw [y1, y2, y3, y4, y5, uS_self, q4_self, (fp_full h5).2]
      exact ⟨SL, LI_g hLI hv.1 hv.2⟩
    · exact ⟨_, LI_g (LI_plate hLI h5 (hpp (by omega)) (hu.2 h5)) hv.1 hv.2⟩
  exact hE _ _ _ _ _ _ _ _ _ _ _ _ _ _ _ _ _ _ _ _ _ SL' SLi had hLI'
set_option maxHeartbeats 4000000 in
set_option maxRecDepth 100000 in
theorem law_mark {D : Dx} {G : Gx} {b L a0 i : Nat} {xs : Nat → Int32} (hG : Ok D (fun q => a0 ≤ q) G cL_law 4 RL room_1) (hLG : LG b L xs a0 G) (hL : L ≤ 2560) (hi : 5 * i + 5 ≤ L) (hE : LEnd D G b a0 i) (ad : Nat → Nat) (K : Int → Int) (Q : Nat → Int → Int) (qa : Nat → Int → Int) (tp : Nat → Nat) (s im ic t fr bY tr ln bl bo g lg e uc lr nx : Int → Int) (SL SLi : List Int) (had : ad 0 = a0) (hLI : LI s im ic t g e Q qa SL SLi) : V G (106 + 6 * i) (3901 + 42 * i) (LWP D a0 ad K Q qa tp s im ic t fr bY tr ln bl bo g lg e uc lr nx) 260 [(3, vI (5 * (i : Int))), (2, .ref (a0 + 97)), (1, .ref a0), (0, .ref b)] [] := by
  obtain ⟨⟨hS, hZ⟩, ⟨hSi, hZi⟩, ⟨hi43, hi44⟩, ⟨hPs, hPi⟩, hTt, hZm, hg1, hgi, he1, he0, hg8a, hg8b⟩ := id hLI
  obtain ⟨hN, hM, hPL, hHE, hT, hWW, hSE, hPN, hBK, hTS, h44, h0, h1p, h49, hZO⟩ := id hS
  have hTB := SI_TB hS
  have hTBi := SI_TB hSi
  have hCH := PLA_CHP hPs hS
  have hCHi := PLA_CHP hPi hSi
  refine v_aload_n hG dL_law_260 rfl 2 rfl ?_
  refine v_aload_n hG dL_law_261 rfl 3 rfl ?_
  refine v_iload_n hG dL_law_262 rfl 0 rfl ?_
  refine v_iconst hG dL_law_263 ?_
  refine v_iadd hG dL_law_264 ?_
  refine v_sld hG hLG dL_law_265 hL (by omega) ?_
  refine v_aload_n hG dL_law_266 rfl 3 rfl ?_
  refine v_iload_n hG dL_law_267 rfl 0 rfl ?_
  refine v_iconst hG dL_law_268 ?_
  refine v_iadd hG dL_law_269 ?_
  refine v_sld hG hLG dL_law_270 hL (by omega) ?_
  refine v_aload_n hG dL_law_271 rfl 3 rfl ?_
  refine v_iload_n hG dL_law_272 rfl 0 rfl ?_
  refine v_iconst hG dL_law_273 ?_
  refine v_iadd hG dL_law_274 ?_
  refine v_sld hG hLG dL_law_275 hL (by omega) ?_
  refine v_aload_n hG dL_law_276 rfl 3 rfl ?_
  refine v_iload_n hG dL_law_277 rfl 0 rfl ?_
  refine v_iconst hG dL_law_278 ?_
  refine v_iadd hG dL_law_279 ?_
  refine v_sld hG hLG dL_law_280 hL (by omega) ?_
  refine v_callV (k1' := 106 + 6 * i + 6) (k2' := 3901 + 42 * i + 42) hG dL_law_281 zc_X11_mark ⟨zl_L_23, zi_X11_mark, zs_X11_mark⟩ (fun l => CT_fr (A := fun q => a0 ≤ q) (F := F1 D a0 s im fr bY tr ln bl bo g lg) (fun q (hq : AC a0 q) => hq.1) F1_st (kc11_mark l D (AC a0) (a0 + 106) ad K (S3 s ic t) Q qa tp s bo e uc lr nx ((xs (5 * (i : Int) + 1).toNat).toInt) ((xs (5 * (i : Int) + 2).toNat).toInt) ((xs (5 * (i : Int) + 3).toNat).toInt) ((xs (5 * (i : Int) + 4).toNat).toInt) (fun q hq => ⟨by omega, by omega⟩) hTB hTt hN hi43 (ii_rng _) (ii_rng _) (ii_rng _) (ii_rng _))) rfl (fun H h => cR11 H h.1) (fun H h => ⟨⟨CW_3r (Sa_0) (Sa_1.trans S3_1) (Sa_2.trans S3_2) h.1, h.2.2⟩, h.2⟩) ⟨by decide, by decide⟩ rfl rfl ⟨by show 106 + 6 * i + 6 ≤ 600000; omega, by show 3901 + 42 * i + 42 ≤ 7302250; omega⟩ (rest := []) (by rw [had]; rfl) (Nat.le_of_ble_eq_true rfl) (fun _ => [vI (a_mark s ((xs (5 * (i : Int) + 1).toNat).toInt) ((xs (5 * (i : Int) + 2).toNat).toInt) ((xs (5 * (i : Int) + 3).toNat).toInt) ((xs (5 * (i : Int) + 4).toNat).toInt))]) (fun _ => rfl) (fun u hu => ?_)
  have hu : u.1 0 = ad 0 ∧ TB u.2.2 := hu
  refine v_P (P' := fun H => CW D (AC a0) u.1 u.2.1 (S3 (f_mark s ((xs (5 * (i : Int) + 1).toNat).toInt) ((xs (5 * (i : Int) + 2).toNat).toInt) ((xs (5 * (i : Int) + 3).toNat).toInt) ((xs (5 * (i : Int) + 4).toNat).toInt)) ic u.2.2) Q qa tp bo e uc lr nx H ∧ F1 D a0 s im fr bY tr ln bl bo g lg H) (fun H h => ⟨CW_3 Sa_0 (Sa_1.trans (Sb_1.trans S3_1)) (Sa_2.trans Sb_2) h.1, h.2⟩) ?_
  obtain ⟨ka, hka⟩ : ∃ ka, ka = 106 + 6 * (i + 1) := ⟨_, rfl⟩
  obtain ⟨kb, hkb⟩ : ∃ kb, kb = 3901 + 42 * (i + 1) := ⟨_, rfl⟩
  refine v_widen (k1' := ka) (k2' := kb) (by omega) (by omega) ?_
  refine v_aload_n hG dL_law_284 rfl 1 rfl ?_
  refine v_aload_n hG dL_law_285 rfl 3 rfl ?_
  refine v_iload_n hG dL_law_286 rfl 0 rfl ?_
  refine v_iconst hG dL_law_287 ?_
  refine v_iadd hG dL_law_288 ?_
  refine v_sld hG hLG dL_law_289 hL (by omega) ?_
  refine v_aload_n hG dL_law_290 rfl 3 rfl ?_
  refine v_iload_n hG dL_law_291 rfl 0 rfl ?_
  refine v_iconst hG dL_law_292 ?_
  refine v_iadd hG dL_law_293 ?_
  refine v_sld hG hLG dL_law_294 hL (by omega) ?_
  refine v_aload_n hG dL_law_295 rfl 3 rfl ?_
  refine v_iload_n hG dL_law_296 rfl 0 rfl ?_
  refine v_iconst hG dL_law_297 ?_
  refine v_iadd hG dL_law_298 ?_
  refine v_sld hG hLG dL_law_299 hL (by omega) ?_
  refine v_aload_n hG dL_law_300 rfl 3 rfl ?_
  refine v_iload_n hG dL_law_301 rfl 0 rfl ?_
  refine v_iconst hG dL_law_302 ?_
  refine v_iadd hG dL_law_303 ?_
  refine v_sld hG hLG dL_law_304 hL (by omega) ?_
  refine v_callV (k1' := ka) (k2' := kb) hG dL_law_305 zc_X12_mark ⟨zl_L_27, zi_X12_mark, zs_X12_mark⟩ (fun l => CT_fr (A := fun q => a0 ≤ q) (F := F2 D a0 u.1 u.2.1 (S3 (f_mark s ((xs (5 * (i : Int) + 1).toNat).toInt) ((xs (5 * (i : Int) + 2).toNat).toInt) ((xs (5 * (i : Int) + 3).toNat).toInt) ((xs (5 * (i : Int) + 4).toNat).toInt)) ic u.2.2) Q qa tp bo e uc lr nx) (fun q (hq : AM a0 q) => by have := hq.1; omega) F2_st (k_mark l D (AM a0) (amL a0) s im fr bY tr ln bl bo g lg ((xs (5 * (i : Int) + 1).toNat).toInt) ((xs (5 * (i : Int) + 2).toNat).toInt) ((xs (5 * (i : Int) + 3).toNat).toInt) ((xs (5 * (i : Int) + 4).toNat).toInt) (ii_rng _) (ii_rng _) (ii_rng _) (ii_rng _) hN)) rfl (fun H h => ⟨12, _, _, h.2.1.1 0 _ rfl, rfl, rfl⟩) (fun H h => ⟨h.2.1, h.1, h.2.2⟩) ⟨by decide, by decide⟩ (Nat.add_zero _) (Nat.add_zero _) ⟨by show ka ≤ 600000; omega, by show kb ≤ 7302250; omega⟩ (rest := [vI (a_mark s ((xs (5 * (i : Int) + 1).toNat).toInt) ((xs (5 * (i : Int) + 2).toNat).toInt) ((xs (5 * (i : Int) + 3).toNat).toInt) ((xs (5 * (i : Int) + 4).toNat).toInt))]) rfl (Nat.le_of_ble_eq_true rfl) (fun _ => [vI (a_mark s ((xs (5 * (i : Int) + 1).toNat).toInt) ((xs (5 * (i : Int) + 2).toNat).toInt) ((xs (5 * (i : Int) + 3).toNat).toInt) ((xs (5 * (i : Int) + 4).toNat).toInt)), vI (a_mark s ((xs (5 * (i : Int) + 1).toNat).toInt) ((xs (5 * (i : Int) + 2).toNat).toInt) ((xs (5 * (i : Int) + 3).toNat).toInt) ((xs (5 * (i : Int) + 4).toNat).toInt))]) (fun _ => rfl) (fun v hv => ?_)
  refine v_P (P' := LWP D a0 u.1 u.2.1 Q qa tp (f_mark s ((xs (5 * (i : Int) + 1).toNat).toInt) ((xs (5 * (i : Int) + 2).toNat).toInt) ((xs (5 * (i : Int) + 3).toNat).toInt) ((xs (5 * (i : Int) + 4).toNat).toInt)) im ic u.2.2 fr bY tr ln bl bo g lg e uc lr nx) (fun H h => ⟨h.2.1, h.1, h.2.2⟩) ?_
  refine v_icmp_eqR (tgt := 1310) hG dL_law_308 (by decide) ?_
  refine v_widen (k1' := 106 + 6 * (i + 1)) (k2' := 3901 + 42 * (i + 1)) (by omega) (by omega) ?_
  exact hE _ _ _ _ _ _ _ _ _ _ _ _ _ _ _ _ _ _ _ _ _ _ _ (hu.1.trans had) (LI_t (LI_s hLI (ST_mark hS hZ)) hu.2)
set_option maxHeartbeats 4000000 in
set_option maxRecDepth 100000 in
theorem law_of {D : Dx} {G : Gx} {b L a0 i : Nat} {xs : Nat → Int32} (hG : Ok D (fun q => a0 ≤ q) G cL_law 4 RL room_1) (hLG : LG b L xs a0 G) (hL : L ≤ 2560) (hi : 5 * i + 5 ≤ L) (hE : LEnd D G b a0 i) (ad : Nat → Nat) (K : Int → Int) (Q : Nat → Int → Int) (qa : Nat → Int → Int) (tp : Nat → Nat) (s im ic t fr bY tr ln bl bo g lg e uc lr nx : Int → Int) (SL SLi : List Int) (had : ad 0 = a0) (hLI : LI s im ic t g e Q qa SL SLi) : V G (106 + 6 * i) (3901 + 42 * i) (LWP D a0 ad K Q qa tp s im ic t fr bY tr ln bl bo g lg e uc lr nx) 313 [(3, vI (5 * (i : Int))), (2, .ref (a0 + 97)), (1, .ref a0), (0, .ref b)] [] := by
  obtain ⟨⟨hS, hZ⟩, ⟨hSi, hZi⟩, ⟨hi43, hi44⟩, ⟨hPs, hPi⟩, hTt, hZm, hg1, hgi, he1, he0, hg8a, hg8b⟩ := id hLI
  obtain ⟨hN, hM, hPL, hHE, hT, hWW, hSE, hPN, hBK, hTS, h44, h0, h1p, h49, hZO⟩ := id hS
  have hTB := SI_TB hS
  have hTBi := SI_TB hSi
  have hCH := PLA_CHP hPs hS
  have hCHi := PLA_CHP hPi hSi
  refine v_aload_n hG dL_law_313 rfl 2 rfl ?_
  refine v_aload_n hG dL_law_314 rfl 3 rfl ?_
  refine v_iload_n hG dL_law_315 rfl 0 rfl ?_
  refine v_iconst hG dL_law_316 ?_
  refine v_iadd hG dL_law_317 ?_
  refine v_sld hG hLG dL_law_318 hL (by omega) ?_
  refine v_aload_n hG dL_law_319 rfl 3 rfl ?_
  refine v_iload_n hG dL_law_320 rfl 0 rfl ?_
  refine v_iconst hG dL_law_321 ?_
  refine v_iadd hG dL_law_322 ?_
  refine v_sld hG hLG dL_law_323 hL (by omega) ?_
  refine v_callV (k1' := 106 + 6 * i) (k2' := 3901 + 42 * i) hG dL_law_324 zc_X11_of ⟨zl_L_28, zi_X11_of, zs_X11_of⟩ (fun l => CT_fr (A := fun q => a0 ≤ q) (F := F1 D a0 s im fr bY tr ln bl bo g lg) (fun q (hq : AC a0 q) => hq.1) F1_st (kc11_of l D (AC a0) ad K (S3 s ic t) Q qa tp s bo e uc lr nx ((xs (5 * (i : Int) + 1).toNat).toInt) ((xs (5 * (i : Int) + 2).toNat).toInt) (ii_rng _) (ii_rng _) SL hN hM hPL hCH hT)) rfl (fun H h => cR11 H h.1) (fun H h => ⟨CW_3r (Sa_0) (Sa_1.trans S3_1) (Sa_2.trans S3_2) h.1, h.2⟩) ⟨by decide, by decide⟩ (Nat.add_zero _) (Nat.add_zero _) ⟨by show 106 + 6 * i ≤ 600000; omega, by show 3901 + 42 * i ≤ 7302250; omega⟩ (rest := []) (by rw [had]; rfl) (Nat.le_of_ble_eq_true rfl) (fun _ => [vI (a_of s SL ((xs (5 * (i : Int) + 1).toNat).toInt) ((xs (5 * (i : Int) + 2).toNat).toInt))]) (fun _ => rfl) (fun u hu => ?_)
  refine v_P (P' := fun H => CW D (AC a0) ad K (S3 s ic t) Q qa tp bo e uc lr nx H ∧ F1 D a0 s im fr bY tr ln bl bo g lg H) (fun H h => ⟨CW_3 Sa_0 (Sa_1.trans S3_1) (Sa_2.trans S3_2) h.1, h.2⟩) ?_
  refine v_aload_n hG dL_law_327 rfl 1 rfl ?_
  refine v_aload_n hG dL_law_328 rfl 3 rfl ?_
  refine v_iload_n hG dL_law_329 rfl 0 rfl ?_
  refine v_iconst hG dL_law_330 ?_
  refine v_iadd hG dL_law_331 ?_
  refine v_sld hG hLG dL_law_332 hL (by omega) ?_
  refine v_aload_n hG dL_law_333 rfl 3 rfl ?_
  refine v_iload_n hG dL_law_334 rfl 0 rfl ?_
  refine v_iconst hG dL_law_335 ?_
  refine v_iadd hG dL_law_336 ?_
  refine v_sld hG hLG dL_law_337 hL (by omega) ?_
  refine v_callV (k1' := 106 + 6 * i) (k2' := 3901 + 42 * i) hG dL_law_338 zc_X12_of ⟨zl_L_32, zi_X12_of, zs_X12_of⟩ (fun l => CT_fr (A := fun q => a0 ≤ q) (F := F2 D a0 ad K (S3 s ic t) Q qa tp bo e uc lr nx) (fun q (hq : AM a0 q) => by have := hq.1; omega) F2_st (k_of l D (AM a0) (amL a0) s im fr bY tr ln bl bo g lg ((xs (5 * (i : Int) + 1).toNat).toInt) ((xs (5 * (i : Int) + 2).toNat).toInt) SL (ii_rng _) (ii_rng _) hN hM hPL hHE hT)) rfl (fun H h => ⟨12, _, _, h.2.1.1 0 _ rfl, rfl, rfl⟩) (fun H h => ⟨h.2.1, h.1, h.2.2⟩) ⟨by decide, by decide⟩ (Nat.add_zero _) (Nat.add_zero _) ⟨by show 106 + 6 * i ≤ 600000; omega, by show 3901 + 42 * i ≤ 7302250; omega⟩ (rest := [vI (a_of s SL ((xs (5 * (i : Int) + 1).toNat).toInt) ((xs (5 * (i : Int) + 2).toNat).toInt))]) rfl (Nat.le_of_ble_eq_true rfl) (fun _ => [vI (a_of s SL ((xs (5 * (i : Int) + 1).toNat).toInt) ((xs (5 * (i : Int) + 2).toNat).toInt)), vI (a_of s SL ((xs (5 * (i : Int) + 1).toNat).toInt) ((xs (5 * (i : Int) + 2).toNat).toInt))]) (fun _ => rfl) (fun v hv => ?_)
  refine v_P (P' := LWP D a0 ad K Q qa tp s im ic t fr v.1 v.2 ln bl bo g lg e uc lr nx) (fun H h => ⟨h.2.1, h.1, h.2.2⟩) ?_
  refine v_icmp_eqR (tgt := 1310) hG dL_law_341 (by decide) ?_
  refine v_widen (k1' := 106 + 6 * (i + 1)) (k2' := 3901 + 42 * (i + 1)) (by omega) (by omega) ?_
  exact hE _ _ _ _ _ _ _ _ _ _ _ _ _ _ _ _ _ _ _ _ _ _ _ had (hLI)
set_option maxHeartbeats 4000000 in
set_option maxRecDepth 100000 in
theorem law_row {D : Dx} {G : Gx} {b L a0 i : Nat} {xs : Nat → Int32} (hG : Ok D (fun q => a0 ≤ q) G cL_law 4 RL room_1) (hLG : LG b L xs a0 G) (hL : L ≤ 2560) (hi : 5 * i + 5 ≤ L) (hE : LEnd D G b a0 i) (ad : Nat → Nat) (K : Int → Int) (Q : Nat → Int → Int) (qa : Nat → Int → Int) (tp : Nat → Nat) (s im ic t fr bY tr ln bl bo g lg e uc lr nx : Int → Int) (SL SLi : List Int) (had : ad 0 = a0) (hLI : LI s im ic t g e Q qa SL SLi) : V G (106 + 6 * i) (3901 + 42 * i) (LWP D a0 ad K Q qa tp s im ic t fr bY tr ln bl bo g lg e uc lr nx) 346 [(3, vI (5 * (i : Int))), (2, .ref (a0 + 97)), (1, .ref a0), (0, .ref b)] [] := by
  obtain ⟨⟨hS, hZ⟩, ⟨hSi, hZi⟩, ⟨hi43, hi44⟩, ⟨hPs, hPi⟩, hTt, hZm, hg1, hgi, he1, he0, hg8a, hg8b⟩ := id hLI
  obtain ⟨hN, hM, hPL, hHE, hT, hWW, hSE, hPN, hBK, hTS, h44, h0, h1p, h49, hZO⟩ := id hS
  have hTB := SI_TB hS
  have hTBi := SI_TB hSi
  have hCH := PLA_CHP hPs hS
  have hCHi := PLA_CHP hPi hSi
  refine v_aload_n hG dL_law_346 rfl 2 rfl ?_
  refine v_aload_n hG dL_law_347 rfl 3 rfl ?_
  refine v_iload_n hG dL_law_348 rfl 0 rfl ?_
  refine v_iconst hG dL_law_349 ?_
  refine v_iadd hG dL_law_350 ?_
  refine v_sld hG hLG dL_law_351 hL (by omega) ?_
  refine v_aload_n hG dL_law_352 rfl 3 rfl ?_
  refine v_iload_n hG dL_law_353 rfl 0 rfl ?_
  refine v_iconst hG dL_law_354 ?_
  refine v_iadd hG dL_law_355 ?_
  refine v_sld hG hLG dL_law_356 hL (by omega) ?_
  refine v_aload_n hG dL_law_357 rfl 3 rfl ?_
  refine v_iload_n hG dL_law_358 rfl 0 rfl ?_
  refine v_iconst hG dL_law_359 ?_
  refine v_iadd hG dL_law_360 ?_
  refine v_sld hG hLG dL_law_361 hL (by omega) ?_
  refine v_callV (k1' := 106 + 6 * i) (k2' := 3901 + 42 * i) hG dL_law_362 zc_X11_row ⟨zl_L_33, zi_X11_row, zs_X11_row⟩ (fun l => CT_fr (A := fun q => a0 ≤ q) (F := F1 D a0 s im fr bY tr ln bl bo g lg) (fun q (hq : AC a0 q) => hq.1) F1_st (kc11_row l D (AC a0) ad K (S3 s ic t) Q qa tp s bo e uc lr nx ((xs (5 * (i : Int) + 1).toNat).toInt) ((xs (5 * (i : Int) + 2).toNat).toInt) ((xs (5 * (i : Int) + 3).toNat).toInt) (ii_rng _) (ii_rng _) (ii_rng _) hTB hN hM)) rfl (fun H h => cR11 H h.1) (fun H h => ⟨CW_3r (Sa_0) (Sa_1.trans S3_1) (Sa_2.trans S3_2) h.1, h.2⟩) ⟨by decide, by decide⟩ (Nat.add_zero _) (Nat.add_zero _) ⟨by show 106 + 6 * i ≤ 600000; omega, by show 3901 + 42 * i ≤ 7302250; omega⟩ (rest := []) (by rw [had]; rfl) (Nat.le_of_ble_eq_true rfl) (fun _ => [vI (a_row s ((xs (5 * (i : Int) + 1).toNat).toInt) ((xs (5 * (i : Int) + 2).toNat).toInt) ((xs (5 * (i : Int) + 3).toNat).toInt))]) (fun _ => rfl) (fun u hu => ?_)
  refine v_P (P' := fun H => CW D (AC a0) ad K (S3 (f_row s ((xs (5 * (i : Int) + 1).toNat).toInt) ((xs (5 * (i : Int) + 2).toNat).toInt) ((xs (5 * (i : Int) + 3).toNat).toInt)) ic t) Q qa tp bo e uc lr nx H ∧ F1 D a0 s im fr bY tr ln bl bo g lg H) (fun H h => ⟨CW_3 Sa_0 (Sa_1.trans S3_1) (Sa_2.trans S3_2) h.1, h.2⟩) ?_
  refine v_aload_n hG dL_law_365 rfl 1 rfl ?_
  refine v_aload_n hG dL_law_366 rfl 3 rfl ?_
  refine v_iload_n hG dL_law_367 rfl 0 rfl ?_
  refine v_iconst hG dL_law_368 ?_
  refine v_iadd hG dL_law_369 ?_
  refine v_sld hG hLG dL_law_370 hL (by omega) ?_
  refine v_aload_n hG dL_law_371 rfl 3 rfl ?_
  refine v_iload_n hG dL_law_372 rfl 0 rfl ?_
  refine v_iconst hG dL_law_373 ?_
  refine v_iadd hG dL_law_374 ?_
  refine v_sld hG hLG dL_law_375 hL (by omega) ?_
  refine v_aload_n hG dL_law_376 rfl 3 rfl ?_
  refine v_iload_n hG dL_law_377 rfl 0 rfl ?_
  refine v_iconst hG dL_law_378 ?_
  refine v_iadd hG dL_law_379 ?_
  refine v_sld hG hLG dL_law_380 hL (by omega) ?_
  refine v_callV (k1' := 106 + 6 * i) (k2' := 3901 + 42 * i) hG dL_law_381 zc_X12_row ⟨zl_L_37, zi_X12_row, zs_X12_row⟩ (fun l => CT_fr (A := fun q => a0 ≤ q) (F := F2 D a0 ad K (S3 (f_row s ((xs (5 * (i : Int) + 1).toNat).toInt) ((xs (5 * (i : Int) + 2).toNat).toInt) ((xs (5 * (i : Int) + 3).toNat).toInt)) ic t) Q qa tp bo e uc lr nx) (fun q (hq : AM a0 q) => by have := hq.1; omega) F2_st (k_row l D (AM a0) (amL a0) s im fr bY tr ln bl bo g lg ((xs (5 * (i : Int) + 1).toNat).toInt) ((xs (5 * (i : Int) + 2).toNat).toInt) ((xs (5 * (i : Int) + 3).toNat).toInt) (ii_rng _) (ii_rng _) (ii_rng _) hN hM)) rfl (fun H h => ⟨12, _, _, h.2.1.1 0 _ rfl, rfl, rfl⟩) (fun H h => ⟨h.2.1, h.1, h.2.2⟩) ⟨by decide, by decide⟩ (Nat.add_zero _) (Nat.add_zero _) ⟨by show 106 + 6 * i ≤ 600000; omega, by show 3901 + 42 * i ≤ 7302250; omega⟩ (rest := [vI (a_row s ((xs (5 * (i : Int) + 1).toNat).toInt) ((xs (5 * (i : Int) + 2).toNat).toInt) ((xs (5 * (i : Int) + 3).toNat).toInt))]) rfl (Nat.le_of_ble_eq_true rfl) (fun _ => [vI (a_row s ((xs (5 * (i : Int) + 1).toNat).toInt) ((xs (5 * (i : Int) + 2).toNat).toInt) ((xs (5 * (i : Int) + 3).toNat).toInt)), vI (a_row s ((xs (5 * (i : Int) + 1).toNat).toInt) ((xs (5 * (i : Int) + 2).toNat).toInt) ((xs (5 * (i : Int) + 3).toNat).toInt))]) (fun _ => rfl) (fun v hv => ?_)
  refine v_P (P' := LWP D a0 ad K Q qa tp (f_row s ((xs (5 * (i : Int) + 1).toNat).toInt) ((xs (5 * (i : Int) + 2).toNat).toInt) ((xs (5 * (i : Int) + 3).toNat).toInt)) im ic t fr bY tr ln bl bo g lg e uc lr nx) (fun H h => ⟨h.2.1, h.1, h.2.2⟩) ?_
  refine v_icmp_eqR (tgt := 1310) hG dL_law_384 (by decide) ?_
  refine v_widen (k1' := 106 + 6 * (i + 1)) (k2' := 3901 + 42 * (i + 1)) (by omega) (by omega) ?_
  exact hE _ _ _ _ _ _ _ _ _ _ _ _ _ _ _ _ _ _ _ _ _ _ _ had (LI_s hLI (ST_row hS hZ))
set_option maxHeartbeats 4000000 in
set_option maxRecDepth 100000 in
theorem law_told {D : Dx} {G : Gx} {b L a0 i : Nat} {xs : Nat → Int32} (hG : Ok D (fun q => a0 ≤ q) G cL_law 4 RL room_1) (hLG : LG b L xs a0 G) (hL : L ≤ 2560) (hi : 5 * i + 5 ≤ L) (hE : LEnd D G b a0 i) (ad : Nat → Nat) (K : Int → Int) (Q : Nat → Int → Int) (qa : Nat → Int → Int) (tp : Nat → Nat) (s im ic t fr bY tr ln bl bo g lg e uc lr nx : Int → Int) (SL SLi : List Int) (had : ad 0 = a0) (hLI : LI s im ic t g e Q qa SL SLi) : V G (106 + 6 * i) (3901 + 42 * i) (LWP D a0 ad K Q qa tp s im ic t fr bY tr ln bl bo g lg e uc lr nx) 389 [(3, vI (5 * (i : Int))), (2, .ref (a0 + 97)), (1, .ref a0), (0, .ref b)] [] := by
  obtain ⟨⟨hS, hZ⟩, ⟨hSi, hZi⟩, ⟨hi43, hi44⟩, ⟨hPs, hPi⟩, hTt, hZm, hg1, hgi, he1, he0, hg8a, hg8b⟩ := id hLI
  obtain ⟨hN, hM, hPL, hHE, hT, hWW, hSE, hPN, hBK, hTS, h44, h0, h1p, h49, hZO⟩ := id hS
  have hTB := SI_TB hS
  have hTBi := SI_TB hSi
  have hCH := PLA_CHP hPs hS
  have hCHi := PLA_CHP hPi hSi
  refine v_aload_n hG dL_law_389 rfl 2 rfl ?_
  refine v_aload_n hG dL_law_390 rfl 3 rfl ?_
  refine v_iload_n hG dL_law_391 rfl 0 rfl ?_
  refine v_iconst hG dL_law_392 ?_
  refine v_iadd hG dL_law_393 ?_
  refine v_sld hG hLG dL_law_394 hL (by omega) ?_
  refine v_callV (k1' := 106 + 6 * i) (k2' := 3901 + 42 * i) hG dL_law_395 zc_X11_told ⟨zl_L_38, zi_X11_told, zs_X11_told⟩ (fun l => CT_fr (A := fun q => a0 ≤ q) (F := F1 D a0 s im fr bY tr ln bl bo g lg) (fun q (hq : AC a0 q) => hq.1) F1_st (kc11_told l D (AC a0) ad K (S3 s ic t) Q qa tp s bo e uc lr nx ((xs (5 * (i : Int) + 1).toNat).toInt) (ii_rng _) SL hPL hCH)) rfl (fun H h => cR11 H h.1) (fun H h => ⟨CW_3r (Sa_0) (Sa_1.trans S3_1) (Sa_2.trans S3_2) h.1, h.2⟩) ⟨by decide, by decide⟩ (Nat.add_zero _) (Nat.add_zero _) ⟨by show 106 + 6 * i ≤ 600000; omega, by show 3901 + 42 * i ≤ 7302250; omega⟩ (rest := []) (by rw [had]; rfl) (Nat.le_of_ble_eq_true rfl) (fun _ => [vI (a_told s ((xs (5 * (i : Int) + 1).toNat).toInt))]) (fun _ => rfl) (fun u hu => ?_)
  refine v_P (P' := fun H => CW D (AC a0) ad K (S3 s ic t) Q qa tp bo e uc lr nx H ∧ F1 D a0 s im fr bY tr ln bl bo g lg H) (fun H h => ⟨CW_3 Sa_0 (Sa_1.trans S3_1) (Sa_2.trans S3_2) h.1, h.2⟩) ?_
  refine v_aload_n hG dL_law_398 rfl 1 rfl ?_
  refine v_aload_n hG dL_law_399 rfl 3 rfl ?_
  refine v_iload_n hG dL_law_400 rfl 0 rfl ?_
  refine v_iconst hG dL_law_401 ?_
  refine v_iadd hG dL_law_402 ?_
  refine v_sld hG hLG dL_law_403 hL (by omega) ?_
  refine v_callV (k1' := 106 + 6 * i) (k2' := 3901 + 42 * i) hG dL_law_404 zc_X12_told ⟨zl_L_41, zi_X12_told, zs_X12_told⟩ (fun l => CT_fr (A := fun q => a0 ≤ q) (F := F2 D a0 ad K (S3 s ic t) Q qa tp bo e uc lr nx) (fun q (hq : AM a0 q) => by have := hq.1; omega) F2_st (k_told l D (AM a0) (amL a0) s im fr bY tr ln bl bo g lg ((xs (5 * (i : Int) + 1).toNat).toInt) (ii_rng _) hPL)) rfl (fun H h => ⟨12, _, _, h.2.1.1 0 _ rfl, rfl, rfl⟩) (fun H h => ⟨h.2.1, h.1, h.2.2⟩) ⟨by decide, by decide⟩ (Nat.add_zero _) (Nat.add_zero _) ⟨by show 106 + 6 * i ≤ 600000; omega, by show 3901 + 42 * i ≤ 7302250; omega⟩ (rest := [vI (a_told s ((xs (5 * (i : Int) + 1).toNat).toInt))]) rfl (Nat.le_of_ble_eq_true rfl) (fun _ => [vI (a_told s ((xs (5 * (i : Int) + 1).toNat).toInt)), vI (a_told s ((xs (5 * (i : Int) + 1).toNat).toInt))]) (fun _ => rfl) (fun v hv => ?_)
  refine v_P (P' := LWP D a0 ad K Q qa tp s im ic t fr bY tr ln bl bo g lg e uc lr nx) (fun H h => ⟨h.2.1, h.1, h.2.2⟩) ?_
  refine v_icmp_eqR (tgt := 1310) hG dL_law_407 (by decide) ?_
  refine v_widen (k1' := 106 + 6 * (i + 1)) (k2' := 3901 + 42 * (i + 1)) (by omega) (by omega) ?_
  exact hE _ _ _ _ _ _ _ _ _ _ _ _ _ _ _ _ _ _ _ _ _ _ _ had (hLI)
set_option maxHeartbeats 4000000 in
set_option maxRecDepth 100000 in
theorem law_cut {D : Dx} {G : Gx} {b L a0 i : Nat} {xs : Nat → Int32} (hG : Ok D (fun q => a0 ≤ q) G cL_law 4 RL room_1) (hLG : LG b L xs a0 G) (hL : L ≤ 2560) (hi : 5 * i + 5 ≤ L) (hE : LEnd D G b a0 i) (ad : Nat → Nat) (K : Int → Int) (Q : Nat → Int → Int) (qa : Nat → Int → Int) (tp : Nat → Nat) (s im ic t fr bY tr ln bl bo g lg e uc lr nx : Int → Int) (SL SLi : List Int) (had : ad 0 = a0) (hLI : LI s im ic t g e Q qa SL SLi) : V G (106 + 6 * i) (3901 + 42 * i) (LWP D a0 ad K Q qa tp s im ic t fr bY tr ln bl bo g lg e uc lr nx) 412 [(3, vI (5 * (i : Int))), (2, .ref (a0 + 97)), (1, .ref a0), (0, .ref b)] [] := by
  obtain ⟨⟨hS, hZ⟩, ⟨hSi, hZi⟩, ⟨hi43, hi44⟩, ⟨hPs, hPi⟩, hTt, hZm, hg1, hgi, he1, he0, hg8a, hg8b⟩ := id hLI
  obtain ⟨hN, hM, hPL, hHE, hT, hWW, hSE, hPN, hBK, hTS, h44, h0, h1p, h49, hZO⟩ := id hS
  have hTB := SI_TB hS
  have hTBi := SI_TB hSi
  have hCH := PLA_CHP hPs hS
  have hCHi := PLA_CHP hPi hSi
  refine v_aload_n hG dL_law_412 rfl 2 rfl ?_
  refine v_aload_n hG dL_law_413 rfl 3 rfl ?_
  refine v_iload_n hG dL_law_414 rfl 0 rfl ?_
  refine v_iconst hG dL_law_415 ?_
  refine v_iadd hG dL_law_416 ?_
  refine v_sld hG hLG dL_law_417 hL (by omega) ?_
  refine v_aload_n hG dL_law_418 rfl 3 rfl ?_
  refine v_iload_n hG dL_law_419 rfl 0 rfl ?_
  refine v_iconst hG dL_law_420 ?_
  refine v_iadd hG dL_law_421 ?_
  refine v_sld hG hLG dL_law_422 hL (by omega) ?_
  refine v_callV (k1' := 106 + 6 * i) (k2' := 3901 + 42 * i) hG dL_law_423 zc_X11_cut ⟨zl_L_42, zi_X11_cut, zs_X11_cut⟩ (fun l => CT_fr (A := fun q => a0 ≤ q) (F := F1 D a0 s im fr bY tr ln bl bo g lg) (fun q (hq : AC a0 q) => hq.1) F1_st (kc11_cut l D (AC a0) ad K (S3 s ic t) Q qa tp s bo e uc lr nx ((xs (5 * (i : Int) + 1).toNat).toInt) ((xs (5 * (i : Int) + 2).toNat).toInt) (ii_rng _) (ii_rng _) SL hTB hN hM hPL hCH hT hZ (by omega))) rfl (fun H h => cR11 H h.1) (fun H h => ⟨CW_3r (Sa_0) (Sa_1.trans S3_1) (Sa_2.trans S3_2) h.1, h.2⟩) ⟨by decide, by decide⟩ (Nat.add_zero _) (Nat.add_zero _) ⟨by show 106 + 6 * i ≤ 600000; omega, by show 3901 + 42 * i ≤ 7302250; omega⟩ (rest := []) (by rw [had]; rfl) (Nat.le_of_ble_eq_true rfl) (fun _ => [vI (a_cut s SL ((xs (5 * (i : Int) + 1).toNat).toInt) ((xs (5 * (i : Int) + 2).toNat).toInt))]) (fun _ => rfl) (fun u hu => ?_)
  refine v_P (P' := fun H => CW D (AC a0) ad K (S3 (f_cut s SL ((xs (5 * (i : Int) + 1).toNat).toInt) ((xs (5 * (i : Int) + 2).toNat).toInt)) ic t) Q qa tp bo e uc lr nx H ∧ F1 D a0 s im fr bY tr ln bl bo g lg H) (fun H h => ⟨CW_3 Sa_0 (Sa_1.trans S3_1) (Sa_2.trans S3_2) h.1, h.2⟩) ?_
  refine v_aload_n hG dL_law_426 rfl 1 rfl ?_
  refine v_aload_n hG dL_law_427 rfl 3 rfl ?_
  refine v_iload_n hG dL_law_428 rfl 0 rfl ?_
  refine v_iconst hG dL_law_429 ?_
  refine v_iadd hG dL_law_430 ?_
  refine v_sld hG hLG dL_law_431 hL (by omega) ?_
  refine v_aload_n hG dL_law_432 rfl 3 rfl ?_
  refine v_iload_n hG dL_law_433 rfl 0 rfl ?_
  refine v_iconst hG dL_law_434 ?_
  refine v_iadd hG dL_law_435 ?_
  refine v_sld hG hLG dL_law_436 hL (by omega) ?_
  refine v_callV (k1' := 106 + 6 * i) (k2' := 3901 + 42 * i) hG dL_law_437 zc_X12_cut ⟨zl_L_45, zi_X12_cut, zs_X12_cut⟩ (fun l => CT_fr (A := fun q => a0 ≤ q) (F := F2 D a0 ad K (S3 (f_cut s SL ((xs (5 * (i : Int) + 1).toNat).toInt) ((xs (5 * (i : Int) + 2).toNat).toInt)) ic t) Q qa tp bo e uc lr nx) (fun q (hq : AM a0 q) => by have := hq.1; omega) F2_st (k_cut l D (AM a0) (amL a0) s im fr bY tr ln bl bo g lg ((xs (5 * (i : Int) + 1).toNat).toInt) ((xs (5 * (i : Int) + 2).toNat).toInt) SL (ii_rng _) (ii_rng _) hN hM hHE hT (by omega))) rfl (fun H h => ⟨12, _, _, h.2.1.1 0 _ rfl, rfl, rfl⟩) (fun H h => ⟨h.2.1, h.1, h.2.2⟩) ⟨by decide, by decide⟩ (Nat.add_zero _) (Nat.add_zero _) ⟨by show 106 + 6 * i ≤ 600000; omega, by show 3901 + 42 * i ≤ 7302250; omega⟩ (rest := [vI (a_cut s SL ((xs (5 * (i : Int) + 1).toNat).toInt) ((xs (5 * (i : Int) + 2).toNat).toInt))]) rfl (Nat.le_of_ble_eq_true rfl) (fun _ => [vI (a_cut s SL ((xs (5 * (i : Int) + 1).toNat).toInt) ((xs (5 * (i : Int) + 2).toNat).toInt)), vI (a_cut s SL ((xs (5 * (i : Int) + 1).toNat).toInt) ((xs (5 * (i : Int) + 2).toNat).toInt))]) (fun _ => rfl) (fun v hv => ?_)
  refine v_P (P' := LWP D a0 ad K Q qa tp (f_cut s SL ((xs (5 * (i : Int) + 1).toNat).toInt) ((xs (5 * (i : Int) + 2).toNat).toInt)) im ic t fr v.1 v.2 ln bl bo g lg e uc lr nx) (fun H h => ⟨h.2.1, h.1, h.2.2⟩) ?_
  refine v_icmp_eqR (tgt := 1310) hG dL_law_440 (by decide) ?_
  refine v_widen (k1' := 106 + 6 * (i + 1)) (k2' := 3901 + 42 * (i + 1)) (by omega) (by omega) ?_
  exact hE _ _ _ _ _ _ _ _ _ _ _ _ _ _ _ _ _ _ _ _ _ _ _ had (LI_s hLI (ST_cut hS hZ))
set_option maxHeartbeats 4000000 in
set_option maxRecDepth 100000 in
theorem law_rest {D : Dx} {G : Gx} {b L a0 i : Nat} {xs : Nat → Int32} (hG : Ok D (fun q => a0 ≤ q) G cL_law 4 RL room_1) (hLG : LG b L xs a0 G) (hL : L ≤ 2560) (hi : 5 * i + 5 ≤ L) (hE : LEnd D G b a0 i) (ad : Nat → Nat) (K : Int → Int) (Q : Nat → Int → Int) (qa : Nat → Int → Int) (tp : Nat → Nat) (s im ic t fr bY tr ln bl bo g lg e uc lr nx : Int → Int) (SL SLi : List Int) (had : ad 0 = a0) (hLI : LI s im ic t g e Q qa SL SLi) : V G (106 + 6 * i) (3901 + 42 * i) (LWP D a0 ad K Q qa tp s im ic t fr bY tr ln bl bo g lg e uc lr nx) 445 [(3, vI (5 * (i : Int))), (2, .ref (a0 + 97)), (1, .ref a0), (0, .ref b)] [] := by
  obtain ⟨⟨hS, hZ⟩, ⟨hSi, hZi⟩, ⟨hi43, hi44⟩, ⟨hPs, hPi⟩, hTt, hZm, hg1, hgi, he1, he0, hg8a, hg8b⟩ := id hLI
  obtain ⟨hN, hM, hPL, hHE, hT, hWW, hSE, hPN, hBK, hTS, h44, h0, h1p, h49, hZO⟩ := id hS
  have hTB := SI_TB hS
  have hTBi := SI_TB hSi
  have hCH := PLA_CHP hPs hS
  have hCHi := PLA_CHP hPi hSi
  refine v_aload_n hG dL_law_445 rfl 2 rfl ?_
  refine v_aload_n hG dL_law_446 rfl 3 rfl ?_
  refine v_iload_n hG dL_law_447 rfl 0 rfl ?_
  refine v_iconst hG dL_law_448 ?_
  refine v_iadd hG dL_law_449 ?_
  refine v_sld hG hLG dL_law_450 hL (by omega) ?_
  refine v_callV (k1' := 106 + 6 * i) (k2' := 3901 + 42 * i) hG dL_law_451 zc_X11_rest ⟨zl_L_46, zi_X11_rest, zs_X11_rest⟩ (fun l => CT_fr (A := fun q => a0 ≤ q) (F := F1 D a0 s im fr bY tr ln bl bo g lg) (fun q (hq : AC a0 q) => hq.1) F1_st (kc11_rest l D (AC a0) ad K (S3 s ic t) Q qa tp s bo e uc lr nx ((xs (5 * (i : Int) + 1).toNat).toInt) (ii_rng _) hTB hT (by omega))) rfl (fun H h => cR11 H h.1) (fun H h => ⟨CW_3r (Sa_0) (Sa_1.trans S3_1) (Sa_2.trans S3_2) h.1, h.2⟩) ⟨by decide, by decide⟩ (Nat.add_zero _) (Nat.add_zero _) ⟨by show 106 + 6 * i ≤ 600000; omega, by show 3901 + 42 * i ≤ 7302250; omega⟩ (rest := []) (by rw [had]; rfl) (Nat.le_of_ble_eq_true rfl) (fun _ => [vI (a_rest s ((xs (5 * (i : Int) + 1).toNat).toInt))]) (fun _ => rfl) (fun u hu => ?_)
  refine v_P (P' := fun H => CW D (AC a0) ad K (S3 (f_rest s ((xs (5 * (i : Int) + 1).toNat).toInt)) ic t) Q qa tp bo e uc lr nx H ∧ F1 D a0 s im fr bY tr ln bl bo g lg H) (fun H h => ⟨CW_3 Sa_0 (Sa_1.trans S3_1) (Sa_2.trans S3_2) h.1, h.2⟩) ?_
  refine v_aload_n hG dL_law_454 rfl 1 rfl ?_
  refine v_aload_n hG dL_law_455 rfl 3 rfl ?_
  refine v_iload_n hG dL_law_456 rfl 0 rfl ?_
  refine v_iconst hG dL_law_457 ?_
  refine v_iadd hG dL_law_458 ?_
  refine v_sld hG hLG dL_law_459 hL (by omega) ?_
  refine v_callV (k1' := 106 + 6 * i) (k2' := 3901 + 42 * i) hG dL_law_460 zc_X12_rest ⟨zl_L_49, zi_X12_rest, zs_X12_rest⟩ (fun l => CT_fr (A := fun q => a0 ≤ q) (F := F2 D a0 ad K (S3 (f_rest s ((xs (5 * (i : Int) + 1).toNat).toInt)) ic t) Q qa tp bo e uc lr nx) (fun q (hq : AM a0 q) => by have := hq.1; omega) F2_st (k_rest l D (AM a0) (amL a0) s im fr bY tr ln bl bo g lg ((xs (5 * (i : Int) + 1).toNat).toInt) (ii_rng _) hT (by omega))) rfl (fun H h => ⟨12, _, _, h.2.1.1 0 _ rfl, rfl, rfl⟩) (fun H h => ⟨h.2.1, h.1, h.2.2⟩) ⟨by decide, by decide⟩ (Nat.add_zero _) (Nat.add_zero _) ⟨by show 106 + 6 * i ≤ 600000; omega, by show 3901 + 42 * i ≤ 7302250; omega⟩ (rest := [vI (a_rest s ((xs (5 * (i : Int) + 1).toNat).toInt))]) rfl (Nat.le_of_ble_eq_true rfl) (fun _ => [vI (a_rest s ((xs (5 * (i : Int) + 1).toNat).toInt)), vI (a_rest s ((xs (5 * (i : Int) + 1).toNat).toInt))]) (fun _ => rfl) (fun v hv => ?_)
  refine v_P (P' := LWP D a0 ad K Q qa tp (f_rest s ((xs (5 * (i : Int) + 1).toNat).toInt)) im ic t fr bY tr ln bl bo g lg e uc lr nx) (fun H h => ⟨h.2.1, h.1, h.2.2⟩) ?_
  refine v_icmp_eqR (tgt := 1310) hG dL_law_463 (by decide) ?_
  refine v_widen (k1' := 106 + 6 * (i + 1)) (k2' := 3901 + 42 * (i + 1)) (by omega) (by omega) ?_
  exact hE _ _ _ _ _ _ _ _ _ _ _ _ _ _ _ _ _ _ _ _ _ _ _ had (LI_s hLI (ST_rest hS hZ))
set_option maxHeartbeats 4000000 in
set_option maxRecDepth 100000 in
theorem law_mend {D : Dx} {G : Gx} {b L a0 i : Nat} {xs : Nat → Int32} (hG : Ok D (fun q => a0 ≤ q) G cL_law 4 RL room_1) (hLG : LG b L xs a0 G) (hL : L ≤ 2560) (hi : 5 * i + 5 ≤ L) (hE : LEnd D G b a0 i) (ad : Nat → Nat) (K : Int → Int) (Q : Nat → Int → Int) (qa : Nat → Int → Int) (tp : Nat → Nat) (s im ic t fr bY tr ln bl bo g lg e uc lr nx : Int → Int) (SL SLi : List Int) (had : ad 0 = a0) (hLI : LI s im ic t g e Q qa SL SLi) : V G (106 + 6 * i) (3901 + 42 * i) (LWP D a0 ad K Q qa tp s im ic t fr bY tr ln bl bo g lg e uc lr nx) 468 [(3, vI (5 * (i : Int))), (2, .ref (a0 + 97)), (1, .ref a0), (0, .ref b)] [] := by
  obtain ⟨⟨hS, hZ⟩, ⟨hSi, hZi⟩, ⟨hi43, hi44⟩, ⟨hPs, hPi⟩, hTt, hZm, hg1, hgi, he1, he0, hg8a, hg8b⟩ := id hLI
  obtain ⟨hN, hM, hPL, hHE, hT, hWW, hSE, hPN, hBK, hTS, h44, h0, h1p, h49, hZO⟩ := id hS
  have hTB := SI_TB hS
  have hTBi := SI_TB hSi
  have hCH := PLA_CHP hPs hS
  have hCHi := PLA_CHP hPi hSi
  refine v_aload_n hG dL_law_468 rfl 2 rfl ?_
  refine v_aload_n hG dL_law_469 rfl 3 rfl ?_
  refine v_iload_n hG dL_law_470 rfl 0 rfl ?_
  refine v_iconst hG dL_law_471 ?_
  refine v_iadd hG dL_law_472 ?_
  refine v_sld hG hLG dL_law_473 hL (by omega) ?_
  refine v_callV (k1' := 106 + 6 * i) (k2' := 3901 + 42 * i) hG dL_law_474 zc_X11_mend ⟨zl_L_50, zi_X11_mend, zs_X11_mend⟩ (fun l => CT_fr (A := fun q => a0 ≤ q) (F := F1 D a0 s im fr bY tr ln bl bo g lg) (fun q (hq : AC a0 q) => hq.1) F1_st (kc11_mend l D (AC a0) ad K (S3 s ic t) Q qa tp s bo e uc lr nx ((xs (5 * (i : Int) + 1).toNat).toInt) (ii_rng _) SL hTB hN hM hPL hCH hT (by omega))) rfl (fun H h => cR11 H h.1) (fun H h => ⟨CW_3r (Sa_0) (Sa_1.trans S3_1) (Sa_2.trans S3_2) h.1, h.2⟩) ⟨by decide, by decide⟩ (Nat.add_zero _) (Nat.add_zero _) ⟨by show 106 + 6 * i ≤ 600000; omega, by show 3901 + 42 * i ≤ 7302250; omega⟩ (rest := []) (by rw [had]; rfl) (Nat.le_of_ble_eq_true rfl) (fun _ => [vI (a_mend s ((xs (5 * (i : Int) + 1).toNat).toInt))]) (fun _ => rfl) (fun u hu => ?_)
  refine v_P (P' := fun H => CW D (AC a0) ad K (S3 (f_mend s ((xs (5 * (i : Int) + 1).toNat).toInt)) ic t) Q qa tp bo e uc lr nx H ∧ F1 D a0 s im fr bY tr ln bl bo g lg H) (fun H h => ⟨CW_3 Sa_0 (Sa_1.trans S3_1) (Sa_2.trans S3_2) h.1, h.2⟩) ?_
  refine v_aload_n hG dL_law_477 rfl 1 rfl ?_
  refine v_aload_n hG dL_law_478 rfl 3 rfl ?_
  refine v_iload_n hG dL_law_479 rfl 0 rfl ?_
  refine v_iconst hG dL_law_480 ?_
  refine v_iadd hG dL_law_481 ?_
  refine v_sld hG hLG dL_law_482 hL (by omega) ?_
  refine v_callV (k1' := 106 + 6 * i) (k2' := 3901 + 42 * i) hG dL_law_483 zc_X12_mend ⟨zl_L_53, zi_X12_mend, zs_X12_mend⟩ (fun l => CT_fr (A := fun q => a0 ≤ q) (F := F2 D a0 ad K (S3 (f_mend s ((xs (5 * (i : Int) + 1).toNat).toInt)) ic t) Q qa tp bo e uc lr nx) (fun q (hq : AM a0 q) => by have := hq.1; omega) F2_st (k_mend l D (AM a0) (amL a0) s im fr bY tr ln bl bo g lg ((xs (5 * (i : Int) + 1).toNat).toInt) (ii_rng _) hN hM hPL hT (by omega))) rfl (fun H h => ⟨12, _, _, h.2.1.1 0 _ rfl, rfl, rfl⟩) (fun H h => ⟨h.2.1, h.1, h.2.2⟩) ⟨by decide, by decide⟩ (Nat.add_zero _) (Nat.add_zero _) ⟨by show 106 + 6 * i ≤ 600000; omega, by show 3901 + 42 * i ≤ 7302250; omega⟩ (rest := [vI (a_mend s ((xs (5 * (i : Int) + 1).toNat).toInt))]) rfl (Nat.le_of_ble_eq_true rfl) (fun _ => [vI (a_mend s ((xs (5 * (i : Int) + 1).toNat).toInt)), vI (a_mend s ((xs (5 * (i : Int) + 1).toNat).toInt))]) (fun _ => rfl) (fun v hv => ?_)
  refine v_P (P' := LWP D a0 ad K Q qa tp (f_mend s ((xs (5 * (i : Int) + 1).toNat).toInt)) im ic t fr bY tr ln bl bo g lg e uc lr nx) (fun H h => ⟨h.2.1, h.1, h.2.2⟩) ?_
  refine v_icmp_eqR (tgt := 1310) hG dL_law_486 (by decide) ?_
  refine v_widen (k1' := 106 + 6 * (i + 1)) (k2' := 3901 + 42 * (i + 1)) (by omega) (by omega) ?_
  exact hE _ _ _ _ _ _ _ _ _ _ _ _ _ _ _ _ _ _ _ _ _ _ _ had (LI_s hLI (ST_mend hS hZ))
set_option maxHeartbeats 4000000 in
set_option maxRecDepth 100000 in
theorem law_over {D : Dx} {G : Gx} {b L a0 i : Nat} {xs : Nat → Int32} (hG : Ok D (fun q => a0 ≤ q) G cL_law 4 RL room_1) (hLG : LG b L xs a0 G) (hL : L ≤ 2560) (hi : 5 * i + 5 ≤ L) (hE : LEnd D G b a0 i) (ad : Nat → Nat) (K : Int → Int) (Q : Nat → Int → Int) (qa : Nat → Int → Int) (tp : Nat → Nat) (s im ic t fr bY tr ln bl bo g lg e uc lr nx : Int → Int) (SL SLi : List Int) (had : ad 0 = a0) (hLI : LI s im ic t g e Q qa SL SLi) : V G (106 + 6 * i) (3901 + 42 * i) (LWP D a0 ad K Q qa tp s im ic t fr bY tr ln bl bo g lg e uc lr nx) 491 [(3, vI (5 * (i : Int))), (2, .ref (a0 + 97)), (1, .ref a0), (0, .ref b)] [] := by
  obtain ⟨⟨hS, hZ⟩, ⟨hSi, hZi⟩, ⟨hi43, hi44⟩, ⟨hPs, hPi⟩, hTt, hZm, hg1, hgi, he1, he0, hg8a, hg8b⟩ := id hLI
  obtain ⟨hN, hM, hPL, hHE, hT, hWW, hSE, hPN, hBK, hTS, h44, h0, h1p, h49, hZO⟩ := id hS
  have hTB := SI_TB hS
  have hTBi := SI_TB hSi
  have hCH := PLA_CHP hPs hS
  have hCHi := PLA_CHP hPi hSi
  refine v_aload_n hG dL_law_491 rfl 2 rfl ?_
  refine v_aload_n hG dL_law_492 rfl 3 rfl ?_
  refine v_iload_n hG dL_law_493 rfl 0 rfl ?_
  refine v_iconst hG dL_law_494 ?_
  refine v_iadd hG dL_law_495 ?_
  refine v_sld hG hLG dL_law_496 hL (by omega) ?_
  refine v_callV (k1' := 106 + 6 * i) (k2' := 3901 + 42 * i) hG dL_law_497 zc_X11_over ⟨zl_L_54, zi_X11_over, zs_X11_over⟩ (fun l => CT_fr (A := fun q => a0 ≤ q) (F := F1 D a0 s im fr bY tr ln bl bo g lg) (fun q (hq : AC a0 q) => hq.1) F1_st (kc11_over l D (AC a0) ad K (S3 s ic t) Q qa tp s bo e uc lr nx ((xs (5 * (i : Int) + 1).toNat).toInt) (ii_rng _) SL hTB hN hM hPL hCH hT (by omega))) rfl (fun H h => cR11 H h.1) (fun H h => ⟨CW_3r (Sa_0) (Sa_1.trans S3_1) (Sa_2.trans S3_2) h.1, h.2⟩) ⟨by decide, by decide⟩ (Nat.add_zero _) (Nat.add_zero _) ⟨by show 106 + 6 * i ≤ 600000; omega, by show 3901 + 42 * i ≤ 7302250; omega⟩ (rest := []) (by rw [had]; rfl) (Nat.le_of_ble_eq_true rfl) (fun _ => [vI (a_over s ((xs (5 * (i : Int) + 1).toNat).toInt))]) (fun _ => rfl) (fun u hu => ?_)
  refine v_P (P' := fun H => CW D (AC a0) ad K (S3 (f_over s ((xs (5 * (i : Int) + 1).toNat).toInt)) ic t) Q qa tp bo e uc lr nx H ∧ F1 D a0 s im fr bY tr ln bl bo g lg H) (fun H h => ⟨CW_3 Sa_0 (Sa_1.trans S3_1) (Sa_2.trans S3_2) h.1, h.2⟩) ?_
  refine v_aload_n hG dL_law_500 rfl 1 rfl ?_
  refine v_aload_n hG dL_law_501 rfl 3 rfl ?_
  refine v_iload_n hG dL_law_502 rfl 0 rfl ?_
  refine v_iconst hG dL_law_503 ?_
  refine v_iadd hG dL_law_504 ?_
  refine v_sld hG hLG dL_law_505 hL (by omega) ?_
  refine v_callV (k1' := 106 + 6 * i) (k2' := 3901 + 42 * i) hG dL_law_506 zc_X12_over ⟨zl_L_57, zi_X12_over, zs_X12_over⟩ (fun l => CT_fr (A := fun q => a0 ≤ q) (F := F2 D a0 ad K (S3 (f_over s ((xs (5 * (i : Int) + 1).toNat).toInt)) ic t) Q qa tp bo e uc lr nx) (fun q (hq : AM a0 q) => by have := hq.1; omega) F2_st (k_over l D (AM a0) (amL a0) s im fr bY tr ln bl bo g lg ((xs (5 * (i : Int) + 1).toNat).toInt) (ii_rng _) hN hM hPL hT (by omega))) rfl (fun H h => ⟨12, _, _, h.2.1.1 0 _ rfl, rfl, rfl⟩) (fun H h => ⟨h.2.1, h.1, h.2.2⟩) ⟨by decide, by decide⟩ (Nat.add_zero _) (Nat.add_zero _) ⟨by show 106 + 6 * i ≤ 600000; omega, by show 3901 + 42 * i ≤ 7302250; omega⟩ (rest := [vI (a_over s ((xs (5 * (i : Int) + 1).toNat).toInt))]) rfl (Nat.le_of_ble_eq_true rfl) (fun _ => [vI (a_over s ((xs (5 * (i : Int) + 1).toNat).toInt)), vI (a_over s ((xs (5 * (i : Int) + 1).toNat).toInt))]) (fun _ => rfl) (fun v hv => ?_)
  refine v_P (P' := LWP D a0 ad K Q qa tp (f_over s ((xs (5 * (i : Int) + 1).toNat).toInt)) im ic t fr bY tr ln bl bo g lg e uc lr nx) (fun H h => ⟨h.2.1, h.1, h.2.2⟩) ?_
  refine v_icmp_eqR (tgt := 1310) hG dL_law_509 (by decide) ?_
  refine v_widen (k1' := 106 + 6 * (i + 1)) (k2' := 3901 + 42 * (i + 1)) (by omega) (by omega) ?_
  exact hE _ _ _ _ _ _ _ _ _ _ _ _ _ _ _ _ _ _ _ _ _ _ _ had (LI_s hLI (ST_over hS hZ))
set_option maxHeartbeats 4000000 in
set_option maxRecDepth 100000 in
theorem law_print {D : Dx} {G : Gx} {b L a0 i : Nat} {xs : Nat → Int32} (hG : Ok D (fun q => a0 ≤ q) G cL_law 4 RL room_1) (hLG : LG b L xs a0 G) (hL : L ≤ 2560) (hi : 5 * i + 5 ≤ L) (hE : LEnd D G b a0 i) (ad : Nat → Nat) (K : Int → Int) (Q : Nat → Int → Int) (qa : Nat → Int → Int) (tp : Nat → Nat) (s im ic t fr bY tr ln bl bo g lg e uc lr nx : Int → Int) (SL SLi : List Int) (had : ad 0 = a0) (hLI : LI s im ic t g e Q qa SL SLi) : V G (106 + 6 * i) (3901 + 42 * i) (LWP D a0 ad K Q qa tp s im ic t fr bY tr ln bl bo g lg e uc lr nx) 514 [(3, vI (5 * (i : Int))), (2, .ref (a0 + 97)), (1, .ref a0), (0, .ref b)] [] := by
  obtain ⟨⟨hS, hZ⟩, ⟨hSi, hZi⟩, ⟨hi43, hi44⟩, ⟨hPs, hPi⟩, hTt, hZm, hg1, hgi, he1, he0, hg8a, hg8b⟩ := id hLI
  obtain ⟨hN, hM, hPL, hHE, hT, hWW, hSE, hPN, hBK, hTS, h44, h0, h1p, h49, hZO⟩ := id hS
  have hTB := SI_TB hS
  have hTBi := SI_TB hSi
  have hCH := PLA_CHP hPs hS
  have hCHi := PLA_CHP hPi hSi
  refine v_aload_n hG dL_law_514 rfl 2 rfl ?_
  refine v_aload_n hG dL_law_515 rfl 3 rfl ?_
  refine v_iload_n hG dL_law_516 rfl 0 rfl ?_
  refine v_iconst hG dL_law_517 ?_
  refine v_iadd hG dL_law_518 ?_
  refine v_sld hG hLG dL_law_519 hL (by omega) ?_
  refine v_callV (k1' := 106 + 6 * i) (k2' := 3901 + 42 * i) hG dL_law_520 zc_X11_print ⟨zl_L_58, zi_X11_print, zs_X11_print⟩ (fun l => CT_fr (A := fun q => a0 ≤ q) (F := F1 D a0 s im fr bY tr ln bl bo g lg) (fun q (hq : AC a0 q) => hq.1) F1_st (kc11_print l D (AC a0) ad K (S3 s ic t) Q qa tp s bo e uc lr nx ((xs (5 * (i : Int) + 1).toNat).toInt) (ii_rng _) SL hTB hN hM hPL hCH hWW (by omega))) rfl (fun H h => cR11 H h.1) (fun H h => ⟨CW_3r (Sa_0) (Sa_1.trans S3_1) (Sa_2.trans S3_2) h.1, h.2⟩) ⟨by decide, by decide⟩ (Nat.add_zero _) (Nat.add_zero _) ⟨by show 106 + 6 * i ≤ 600000; omega, by show 3901 + 42 * i ≤ 7302250; omega⟩ (rest := []) (by rw [had]; rfl) (Nat.le_of_ble_eq_true rfl) (fun _ => [vI (a_print s ((xs (5 * (i : Int) + 1).toNat).toInt))]) (fun _ => rfl) (fun u hu => ?_)
  refine v_P (P' := fun H => CW D (AC a0) ad K (S3 (f_print s ((xs (5 * (i : Int) + 1).toNat).toInt)) ic t) Q qa tp bo e uc lr nx H ∧ F1 D a0 s im fr bY tr ln bl bo g lg H) (fun H h => ⟨CW_3 Sa_0 (Sa_1.trans S3_1) (Sa_2.trans S3_2) h.1, h.2⟩) ?_
  refine v_aload_n hG dL_law_523 rfl 1 rfl ?_
  refine v_aload_n hG dL_law_524 rfl 3 rfl ?_
  refine v_iload_n hG dL_law_525 rfl 0 rfl ?_
  refine v_iconst hG dL_law_526 ?_
  refine v_iadd hG dL_law_527 ?_
  refine v_sld hG hLG dL_law_528 hL (by omega) ?_
  refine v_callV (k1' := 106 + 6 * i) (k2' := 3901 + 42 * i) hG dL_law_529 zc_X12_print ⟨zl_L_61, zi_X12_print, zs_X12_print⟩ (fun l => CT_fr (A := fun q => a0 ≤ q) (F := F2 D a0 ad K (S3 (f_print s ((xs (5 * (i : Int) + 1).toNat).toInt)) ic t) Q qa tp bo e uc lr nx) (fun q (hq : AM a0 q) => by have := hq.1; omega) F2_st (k_print l D (AM a0) (amL a0) s im fr bY tr ln bl bo g lg ((xs (5 * (i : Int) + 1).toNat).toInt) (ii_rng _) hN hM hPL hWW (by omega))) rfl (fun H h => ⟨12, _, _, h.2.1.1 0 _ rfl, rfl, rfl⟩) (fun H h => ⟨h.2.1, h.1, h.2.2⟩) ⟨by decide, by decide⟩ (Nat.add_zero _) (Nat.add_zero _) ⟨by show 106 + 6 * i ≤ 600000; omega, by show 3901 + 42 * i ≤ 7302250; omega⟩ (rest := [vI (a_print s ((xs (5 * (i : Int) + 1).toNat).toInt))]) rfl (Nat.le_of_ble_eq_true rfl) (fun _ => [vI (a_print s ((xs (5 * (i : Int) + 1).toNat).toInt)), vI (a_print s ((xs (5 * (i : Int) + 1).toNat).toInt))]) (fun _ => rfl) (fun v hv => ?_)
  refine v_P (P' := LWP D a0 ad K Q qa tp (f_print s ((xs (5 * (i : Int) + 1).toNat).toInt)) im ic t fr bY tr ln bl bo g lg e uc lr nx) (fun H h => ⟨h.2.1, h.1, h.2.2⟩) ?_
  refine v_icmp_eqR (tgt := 1310) hG dL_law_532 (by decide) ?_
  refine v_widen (k1' := 106 + 6 * (i + 1)) (k2' := 3901 + 42 * (i + 1)) (by omega) (by omega) ?_
  exact hE _ _ _ _ _ _ _ _ _ _ _ _ _ _ _ _ _ _ _ _ _ _ _ had (LI_s hLI (ST_print hS hZ))
set_option maxHeartbeats 4000000 in
set_option maxRecDepth 100000 in
theorem law_dark {D : Dx} {G : Gx} {b L a0 i : Nat} {xs : Nat → Int32} (hG : Ok D (fun q => a0 ≤ q) G cL_law 4 RL room_1) (hLG : LG b L xs a0 G) (hL : L ≤ 2560) (hi : 5 * i + 5 ≤ L) (hE : LEnd D G b a0 i) (ad : Nat → Nat) (K : Int → Int) (Q : Nat → Int → Int) (qa : Nat → Int → Int) (tp : Nat → Nat) (s im ic t fr bY tr ln bl bo g lg e uc lr nx : Int → Int) (SL SLi : List Int) (had : ad 0 = a0) (hLI : LI s im ic t g e Q qa SL SLi) : V G (106 + 6 * i) (3901 + 42 * i) (LWP D a0 ad K Q qa tp s im ic t fr bY tr ln bl bo g lg e uc lr nx) 537 [(3, vI (5 * (i : Int))), (2, .ref (a0 + 97)), (1, .ref a0), (0, .ref b)] [] := by
  obtain ⟨⟨hS, hZ⟩, ⟨hSi, hZi⟩, ⟨hi43, hi44⟩, ⟨hPs, hPi⟩, hTt, hZm, hg1, hgi, he1, he0, hg8a, hg8b⟩ := id hLI
  obtain ⟨hN, hM, hPL, hHE, hT, hWW, hSE, hPN, hBK, hTS, h44, h0, h1p, h49, hZO⟩ := id hS
  have hTB := SI_TB hS
  have hTBi := SI_TB hSi
  have hCH := PLA_CHP hPs hS
  have hCHi := PLA_CHP hPi hSi
  refine v_aload_n hG dL_law_537 rfl 2 rfl ?_
  refine v_aload_n hG dL_law_538 rfl 3 rfl ?_
  refine v_iload_n hG dL_law_539 rfl 0 rfl ?_
  refine v_iconst hG dL_law_540 ?_
  refine v_iadd hG dL_law_541 ?_
  refine v_sld hG hLG dL_law_542 hL (by omega) ?_
  refine v_aload_n hG dL_law_543 rfl 3 rfl ?_
  refine v_iload_n hG dL_law_544 rfl 0 rfl ?_
  refine v_iconst hG dL_law_545 ?_
  refine v_iadd hG dL_law_546 ?_
  refine v_sld hG hLG dL_law_547 hL (by omega) ?_
  refine v_callV (k1' := 106 + 6 * i) (k2' := 3901 + 42 * i) hG dL_law_548 zc_X11_dark ⟨zl_L_62, zi_X11_dark, zs_X11_dark⟩ (fun l => CT_fr (A := fun q => a0 ≤ q) (F := F1 D a0 s im fr bY tr ln bl bo g lg) (fun q (hq : AC a0 q) => hq.1) F1_st (kc11_dark l D (AC a0) ad K (S3 s ic t) Q qa tp s bo e uc lr nx ((xs (5 * (i : Int) + 1).toNat).toInt) ((xs (5 * (i : Int) + 2).toNat).toInt) (ii_rng _) (ii_rng _) SL hN hM hPL hCH)) rfl (fun H h => cR11 H h.1) (fun H h => ⟨CW_3r (Sa_0) (Sa_1.trans S3_1) (Sa_2.trans S3_2) h.1, h.2⟩) ⟨by decide, by decide⟩ (Nat.add_zero _) (Nat.add_zero _) ⟨by show 106 + 6 * i ≤ 600000; omega, by show 3901 + 42 * i ≤ 7302250; omega⟩ (rest := []) (by rw [had]; rfl) (Nat.le_of_ble_eq_true rfl) (fun _ => [vI (a_dark s ((xs (5 * (i : Int) + 1).toNat).toInt) ((xs (5 * (i : Int) + 2).toNat).toInt))]) (fun _ => rfl) (fun u hu => ?_)
  refine v_P (P' := fun H => CW D (AC a0) ad K (S3 s ic t) Q qa tp bo e uc lr nx H ∧ F1 D a0 s im fr bY tr ln bl bo g lg H) (fun H h => ⟨CW_3 Sa_0 (Sa_1.trans S3_1) (Sa_2.trans S3_2) h.1, h.2⟩) ?_
  refine v_aload_n hG dL_law_551 rfl 1 rfl ?_
  refine v_aload_n hG dL_law_552 rfl 3 rfl ?_
  refine v_iload_n hG dL_law_553 rfl 0 rfl ?_
  refine v_iconst hG dL_law_554 ?_
  refine v_iadd hG dL_law_555 ?_
  refine v_sld hG hLG dL_law_556 hL (by omega) ?_
  refine v_aload_n hG dL_law_557 rfl 3 rfl ?_
  refine v_iload_n hG dL_law_558 rfl 0 rfl ?_
  refine v_iconst hG dL_law_559 ?_
  refine v_iadd hG dL_law_560 ?_
  refine v_sld hG hLG dL_law_561 hL (by omega) ?_
  refine v_callV (k1' := 106 + 6 * i) (k2' := 3901 + 42 * i) hG dL_law_562 zc_X12_dark ⟨zl_L_65, zi_X12_dark, zs_X12_dark⟩ (fun l => CT_fr (A := fun q => a0 ≤ q) (F := F2 D a0 ad K (S3 s ic t) Q qa tp bo e uc lr nx) (fun q (hq : AM a0 q) => by have := hq.1; omega) F2_st (k_dark l D (AM a0) (amL a0) s im fr bY tr ln bl bo g lg ((xs (5 * (i : Int) + 1).toNat).toInt) ((xs (5 * (i : Int) + 2).toNat).toInt) (ii_rng _) (ii_rng _) hN hM hPL)) rfl (fun H h => ⟨12, _, _, h.2.1.1 0 _ rfl, rfl, rfl⟩) (fun H h => ⟨h.2.1, h.1, h.2.2⟩) ⟨by decide, by decide⟩ (Nat.add_zero _) (Nat.add_zero _) ⟨by show 106 + 6 * i ≤ 600000; omega, by show 3901 + 42 * i ≤ 7302250; omega⟩ (rest := [vI (a_dark s ((xs (5 * (i : Int) + 1).toNat).toInt) ((xs (5 * (i : Int) + 2).toNat).toInt))]) rfl (Nat.le_of_ble_eq_true rfl) (fun _ => [vI (a_dark s ((xs (5 * (i : Int) + 1).toNat).toInt) ((xs (5 * (i : Int) + 2).toNat).toInt)), vI (a_dark s ((xs (5 * (i : Int) + 1).toNat).toInt) ((xs (5 * (i : Int) + 2).toNat).toInt))]) (fun _ => rfl) (fun v hv => ?_)
  refine v_P (P' := LWP D a0 ad K Q qa tp s im ic t fr bY tr ln bl bo g lg e uc lr nx) (fun H h => ⟨h.2.1, h.1, h.2.2⟩) ?_
  refine v_icmp_eqR (tgt := 1310) hG dL_law_565 (by decide) ?_
  refine v_widen (k1' := 106 + 6 * (i + 1)) (k2' := 3901 + 42 * (i + 1)) (by omega) (by omega) ?_
  exact hE _ _ _ _ _ _ _ _ _ _ _ _ _ _ _ _ _ _ _ _ _ _ _ had (hLI)
set_option maxHeartbeats 4000000 in
set_option maxRecDepth 100000 in
theorem law_good {D : Dx} {G : Gx} {b L a0 i : Nat} {xs : Nat → Int32} (hG : Ok D (fun q => a0 ≤ q) G cL_law 4 RL room_1) (hLG : LG b L xs a0 G) (hL : L ≤ 2560) (hi : 5 * i + 5 ≤ L) (hE : LEnd D G b a0 i) (ad : Nat → Nat) (K : Int → Int) (Q : Nat → Int → Int) (qa : Nat → Int → Int) (tp : Nat → Nat) (s im ic t fr bY tr ln bl bo g lg e uc lr nx : Int → Int) (SL SLi : List Int) (had : ad 0 = a0) (hLI : LI s im ic t g e Q qa SL SLi) : V G (106 + 6 * i) (3901 + 42 * i) (LWP D a0 ad K Q qa tp s im ic t fr bY tr ln bl bo g lg e uc lr nx) 570 [(3, vI (5 * (i : Int))), (2, .ref (a0 + 97)), (1, .ref a0), (0, .ref b)] [] := by
  obtain ⟨⟨hS, hZ⟩, ⟨hSi, hZi⟩, ⟨hi43, hi44⟩, ⟨hPs, hPi⟩, hTt, hZm, hg1, hgi, he1, he0, hg8a, hg8b⟩ := id hLI
  obtain ⟨hN, hM, hPL, hHE, hT, hWW, hSE, hPN, hBK, hTS, h44, h0, h1p, h49, hZO⟩ := id hS
  have hTB := SI_TB hS
  have hTBi := SI_TB hSi
  have hCH := PLA_CHP hPs hS
  have hCHi := PLA_CHP hPi hSi
  refine v_aload_n hG dL_law_570 rfl 2 rfl ?_
  refine v_aload_n hG dL_law_571 rfl 3 rfl ?_
  refine v_iload_n hG dL_law_572 rfl 0 rfl ?_
  refine v_iconst hG dL_law_573 ?_
  refine v_iadd hG dL_law_574 ?_
  refine v_sld hG hLG dL_law_575 hL (by omega) ?_
  refine v_callV (k1' := 106 + 6 * i) (k2' := 3901 + 42 * i) hG dL_law_576 zc_X11_good ⟨zl_L_66, zi_X11_good, zs_X11_good⟩ (fun l => CT_fr (A := fun q => a0 ≤ q) (F := F1 D a0 s im fr bY tr ln bl bo g lg) (fun q (hq : AC a0 q) => hq.1) F1_st (kc11_good l D (AC a0) ad K (S3 s ic t) Q qa tp s bo e uc lr nx ((xs (5 * (i : Int) + 1).toNat).toInt) (ii_rng _) SL hN hM hPL hCH)) rfl (fun H h => cR11 H h.1) (fun H h => ⟨CW_3r (Sa_0) (Sa_1.trans S3_1) (Sa_2.trans S3_2) h.1, h.2⟩) ⟨by decide, by decide⟩ (Nat.add_zero _) (Nat.add_zero _) ⟨by show 106 + 6 * i ≤ 600000; omega, by show 3901 + 42 * i ≤ 7302250; omega⟩ (rest := []) (by rw [had]; rfl) (Nat.le_of_ble_eq_true rfl) (fun _ => [vI (a_good s ((xs (5 * (i : Int) + 1).toNat).toInt))]) (fun _ => rfl) (fun u hu => ?_)
  refine v_P (P' := fun H => CW D (AC a0) ad K (S3 s ic t) Q qa tp bo e uc lr nx H ∧ F1 D a0 s im fr bY tr ln bl bo g lg H) (fun H h => ⟨CW_3 Sa_0 (Sa_1.trans S3_1) (Sa_2.trans S3_2) h.1, h.2⟩) ?_
  refine v_aload_n hG dL_law_579 rfl 1 rfl ?_
  refine v_aload_n hG dL_law_580 rfl 3 rfl ?_
  refine v_iload_n hG dL_law_581 rfl 0 rfl ?_
  refine v_iconst hG dL_law_582 ?_
  refine v_iadd hG dL_law_583 ?_
  refine v_sld hG hLG dL_law_584 hL (by omega) ?_
  refine v_callV (k1' := 106 + 6 * i) (k2' := 3901 + 42 * i) hG dL_law_585 zc_X12_good ⟨zl_L_69, zi_X12_good, zs_X12_good⟩ (fun l => CT_fr (A := fun q => a0 ≤ q) (F := F2 D a0 ad K (S3 s ic t) Q qa tp bo e uc lr nx) (fun q (hq : AM a0 q) => by have := hq.1; omega) F2_st (k_good l D (AM a0) (amL a0) s im fr bY tr ln bl bo g lg ((xs (5 * (i : Int) + 1).toNat).toInt) (ii_rng _) hN hM hPL)) rfl (fun H h => ⟨12, _, _, h.2.1.1 0 _ rfl, rfl, rfl⟩) (fun H h => ⟨h.2.1, h.1, h.2.2⟩) ⟨by decide, by decide⟩ (Nat.add_zero _) (Nat.add_zero _) ⟨by show 106 + 6 * i ≤ 600000; omega, by show 3901 + 42 * i ≤ 7302250; omega⟩ (rest := [vI (a_good s ((xs (5 * (i : Int) + 1).toNat).toInt))]) rfl (Nat.le_of_ble_eq_true rfl) (fun _ => [vI (a_good s ((xs (5 * (i : Int) + 1).toNat).toInt)), vI (a_good s ((xs (5 * (i : Int) + 1).toNat).toInt))]) (fun _ => rfl) (fun v hv => ?_)
  refine v_P (P' := LWP D a0 ad K Q qa tp s im ic t fr bY tr ln bl bo g lg e uc lr nx) (fun H h => ⟨h.2.1, h.1, h.2.2⟩) ?_
  refine v_icmp_eqR (tgt := 1310) hG dL_law_588 (by decide) ?_
  refine v_widen (k1' := 106 + 6 * (i + 1)) (k2' := 3901 + 42 * (i + 1)) (by omega) (by omega) ?_
  exact hE _ _ _ _ _ _ _ _ _ _ _ _ _ _ _ _ _ _ _ _ _ _ _ had (hLI)
set_option maxHeartbeats 4000000 in
set_option maxRecDepth 100000 in
theorem law_first {D : Dx} {G : Gx} {b L a0 i : Nat} {xs : Nat → Int32} (hG : Ok D (fun q => a0 ≤ q) G cL_law 4 RL room_1) (hLG : LG b L xs a0 G) (hL : L ≤ 2560) (hi : 5 * i + 5 ≤ L) (hE : LEnd D G b a0 i) (ad : Nat → Nat) (K : Int → Int) (Q : Nat → Int → Int) (qa : Nat → Int → Int) (tp : Nat → Nat) (s im ic t fr bY tr ln bl bo g lg e uc lr nx : Int → Int) (SL SLi : List Int) (had : ad 0 = a0) (hLI : LI s im ic t g e Q qa SL SLi) : V G (106 + 6 * i) (3901 + 42 * i) (LWP D a0 ad K Q qa tp s im ic t fr bY tr ln bl bo g lg e uc lr nx) 593 [(3, vI (5 * (i : Int))), (2, .ref (a0 + 97)), (1, .ref a0), (0, .ref b)] [] := by
  obtain ⟨⟨hS, hZ⟩, ⟨hSi, hZi⟩, ⟨hi43, hi44⟩, ⟨hPs, hPi⟩, hTt, hZm, hg1, hgi, he1, he0, hg8a, hg8b⟩ := id hLI
  obtain ⟨hN, hM, hPL, hHE, hT, hWW, hSE, hPN, hBK, hTS, h44, h0, h1p, h49, hZO⟩ := id hS
  have hTB := SI_TB hS
  have hTBi := SI_TB hSi
  have hCH := PLA_CHP hPs hS
  have hCHi := PLA_CHP hPi hSi
  refine v_aload_n hG dL_law_593 rfl 2 rfl ?_
  refine v_callV (k1' := 106 + 6 * i) (k2' := 3901 + 42 * i) hG dL_law_594 zc_X11_first ⟨zl_L_70, zi_X11_first, zs_X11_first⟩ (fun l => CT_fr (A := fun q => a0 ≤ q) (F := F1 D a0 s im fr bY tr ln bl bo g lg) (fun q (hq : AC a0 q) => hq.1) F1_st (kc11_first l D (AC a0) ad K (S3 s ic t) Q qa tp s bo e uc lr nx SL hN hM hPL hCH)) rfl (fun H h => cR11 H h.1) (fun H h => ⟨CW_3r (Sa_0) (Sa_1.trans S3_1) (Sa_2.trans S3_2) h.1, h.2⟩) ⟨by decide, by decide⟩ (Nat.add_zero _) (Nat.add_zero _) ⟨by show 106 + 6 * i ≤ 600000; omega, by show 3901 + 42 * i ≤ 7302250; omega⟩ (rest := []) (by rw [had]; rfl) (Nat.le_of_ble_eq_true rfl) (fun _ => [vI (fstN (gF s) 999)]) (fun _ => rfl) (fun u hu => ?_)
  refine v_P (P' := fun H => CW D (AC a0) ad K (S3 s ic t) Q qa tp bo e uc lr nx H ∧ F1 D a0 s im fr bY tr ln bl bo g lg H) (fun H h => ⟨CW_3 Sa_0 (Sa_1.trans S3_1) (Sa_2.trans S3_2) h.1, h.2⟩) ?_
  refine v_aload_n hG dL_law_597 rfl 1 rfl ?_
  refine v_callV (k1' := 106 + 6 * i) (k2' := 3901 + 42 * i) hG dL_law_598 zc_X12_first ⟨zl_L_73, zi_X12_first, zs_X12_first⟩ (fun l => CT_fr (A := fun q => a0 ≤ q) (F := F2 D a0 ad K (S3 s ic t) Q qa tp bo e uc lr nx) (fun q (hq : AM a0 q) => by have := hq.1; omega) F2_st (k_first l D (AM a0) (amL a0) s im fr bY tr ln bl bo g lg hN hM hPL)) rfl (fun H h => ⟨12, _, _, h.2.1.1 0 _ rfl, rfl, rfl⟩) (fun H h => ⟨h.2.1, h.1, h.2.2⟩) ⟨by decide, by decide⟩ (Nat.add_zero _) (Nat.add_zero _) ⟨by show 106 + 6 * i ≤ 600000; omega, by show 3901 + 42 * i ≤ 7302250; omega⟩ (rest := [vI (fstN (gF s) 999)]) rfl (Nat.le_of_ble_eq_true rfl) (fun _ => [vI (fstN (gF s) 999), vI (fstN (gF s) 999)]) (fun _ => rfl) (fun v hv => ?_)
  refine v_P (P' := LWP D a0 ad K Q qa tp s im ic t fr bY tr ln bl bo g lg e uc lr nx) (fun H h => ⟨h.2.1, h.1, h.2.2⟩) ?_
  refine v_icmp_eqR (tgt := 1310) hG dL_law_601 (by decide) ?_
  refine v_widen (k1' := 106 + 6 * (i + 1)) (k2' := 3901 + 42 * (i + 1)) (by omega) (by omega) ?_
  exact hE _ _ _ _ _ _ _ _ _ _ _ _ _ _ _ _ _ _ _ _ _ _ _ had (hLI)
set_option maxHeartbeats 4000000 in
set_option maxRecDepth 100000 in
theorem law_faded {D : Dx} {G : Gx} {b L a0 i : Nat} {xs : Nat → Int32} (hG : Ok D (fun q => a0 ≤ q) G cL_law 4 RL room_1) (hLG : LG b L xs a0 G) (hL : L ≤ 2560) (hi : 5 * i + 5 ≤ L) (hE : LEnd D G b a0 i) (ad : Nat → Nat) (K : Int → Int) (Q : Nat → Int → Int) (qa : Nat → Int → Int) (tp : Nat → Nat) (s im ic t fr bY tr ln bl bo g lg e uc lr nx : Int → Int) (SL SLi : List Int) (had : ad 0 = a0) (hLI : LI s im ic t g e Q qa SL SLi) : V G (106 + 6 * i) (3901 + 42 * i) (LWP D a0 ad K Q qa tp s im ic t fr bY tr ln bl bo g lg e uc lr nx) 606 [(3, vI (5 * (i : Int))), (2, .ref (a0 + 97)), (1, .ref a0), (0, .ref b)] [] := by
  obtain ⟨⟨hS, hZ⟩, ⟨hSi, hZi⟩, ⟨hi43, hi44⟩, ⟨hPs, hPi⟩, hTt, hZm, hg1, hgi, he1, he0, hg8a, hg8b⟩ := id hLI
  obtain ⟨hN, hM, hPL, hHE, hT, hWW, hSE, hPN, hBK, hTS, h44, h0, h1p, h49, hZO⟩ := id hS
  have hTB := SI_TB hS
  have hTBi := SI_TB hSi
  have hCH := PLA_CHP hPs hS
  have hCHi := PLA_CHP hPi hSi
  refine v_aload_n hG dL_law_606 rfl 2 rfl ?_
  refine v_aload_n hG dL_law_607 rfl 3 rfl ?_
  refine v_iload_n hG dL_law_608 rfl 0 rfl ?_
  refine v_iconst hG dL_law_609 ?_
  refine v_iadd hG dL_law_610 ?_
  refine v_sld hG hLG dL_law_611 hL (by omega) ?_
  refine v_callV (k1' := 106 + 6 * i) (k2' := 3901 + 42 * i) hG dL_law_612 zc_X11_faded ⟨zl_L_74, zi_X11_faded, zs_X11_faded⟩ (fun l => CT_fr (A := fun q => a0 ≤ q) (F := F1 D a0 s im fr bY tr ln bl bo g lg) (fun q (hq : AC a0 q) => hq.1) F1_st (kc11_faded l D (AC a0) ad K (S3 s ic t) Q qa tp s bo e uc lr nx ((xs (5 * (i : Int) + 1).toNat).toInt) (ii_rng _) SL hN hM hPL hCH)) rfl (fun H h => cR11 H h.1) (fun H h => ⟨CW_3r (Sa_0) (Sa_1.trans S3_1) (Sa_2.trans S3_2) h.1, h.2⟩) ⟨by decide, by decide⟩ (Nat.add_zero _) (Nat.add_zero _) ⟨by show 106 + 6 * i ≤ 600000; omega, by show 3901 + 42 * i ≤ 7302250; omega⟩ (rest := []) (by rw [had]; rfl) (Nat.le_of_ble_eq_true rfl) (fun _ => [vI (a_faded s ((xs (5 * (i : Int) + 1).toNat).toInt))]) (fun _ => rfl) (fun u hu => ?_)
  refine v_P (P' := fun H => CW D (AC a0) ad K (S3 s ic t) Q qa tp bo e uc lr nx H ∧ F1 D a0 s im fr bY tr ln bl bo g lg H) (fun H h => ⟨CW_3 Sa_0 (Sa_1.trans S3_1) (Sa_2.trans S3_2) h.1, h.2⟩) ?_
  refine v_aload_n hG dL_law_615 rfl 1 rfl ?_
  refine v_aload_n hG dL_law_616 rfl 3 rfl ?_
  refine v_iload_n hG dL_law_617 rfl 0 rfl ?_
  refine v_iconst hG dL_law_618 ?_
  refine v_iadd hG dL_law_619 ?_
  refine v_sld hG hLG dL_law_620 hL (by omega) ?_
  refine v_callV (k1' := 106 + 6 * i) (k2' := 3901 + 42 * i) hG dL_law_621 zc_X12_faded ⟨zl_L_77, zi_X12_faded, zs_X12_faded⟩ (fun l => CT_fr (A := fun q => a0 ≤ q) (F := F2 D a0 ad K (S3 s ic t) Q qa tp bo e uc lr nx) (fun q (hq : AM a0 q) => by have := hq.1; omega) F2_st (k_faded l D (AM a0) (amL a0) s im fr bY tr ln bl bo g lg ((xs (5 * (i : Int) + 1).toNat).toInt) (ii_rng _) hN hM hPL)) rfl (fun H h => ⟨12, _, _, h.2.1.1 0 _ rfl, rfl, rfl⟩) (fun H h => ⟨h.2.1, h.1, h.2.2⟩) ⟨by decide, by decide⟩ (Nat.add_zero _) (Nat.add_zero _) ⟨by show 106 + 6 * i ≤ 600000; omega, by show 3901 + 42 * i ≤ 7302250; omega⟩ (rest := [vI (a_faded s ((xs (5 * (i : Int) + 1).toNat).toInt))]) rfl (Nat.le_of_ble_eq_true rfl) (fun _ => [vI (a_faded s ((xs (5 * (i : Int) + 1).toNat).toInt)), vI (a_faded s ((xs (5 * (i : Int) + 1).toNat).toInt))]) (fun _ => rfl) (fun v hv => ?_)
  refine v_P (P' := LWP D a0 ad K Q qa tp s im ic t fr bY tr ln bl bo g lg e uc lr nx) (fun H h => ⟨h.2.1, h.1, h.2.2⟩) ?_
  refine v_icmp_eqR (tgt := 1310) hG dL_law_624 (by decide) ?_
  refine v_widen (k1' := 106 + 6 * (i + 1)) (k2' := 3901 + 42 * (i + 1)) (by omega) (by omega) ?_
  exact hE _ _ _ _ _ _ _ _ _ _ _ _ _ _ _ _ _ _ _ _ _ _ _ had (hLI)
set_option maxHeartbeats 4000000 in
set_option maxRecDepth 100000 in
theorem law_order {D : Dx} {G : Gx} {b L a0 i : Nat} {xs : Nat → Int32} (hG : Ok D (fun q => a0 ≤ q) G cL_law 4 RL room_1) (hLG : LG b L xs a0 G) (hL : L ≤ 2560) (hi : 5 * i + 5 ≤ L) (hE : LEnd D G b a0 i) (ad : Nat → Nat) (K : Int → Int) (Q : Nat → Int → Int) (qa : Nat → Int → Int) (tp : Nat → Nat) (s im ic t fr bY tr ln bl bo g lg e uc lr nx : Int → Int) (SL SLi : List Int) (had : ad 0 = a0) (hLI : LI s im ic t g e Q qa SL SLi) : V G (106 + 6 * i) (3901 + 42 * i) (LWP D a0 ad K Q qa tp s im ic t fr bY tr ln bl bo g lg e uc lr nx) 629 [(3, vI (5 * (i : Int))), (2, .ref (a0 + 97)), (1, .ref a0), (0, .ref b)] [] := by
  obtain ⟨⟨hS, hZ⟩, ⟨hSi, hZi⟩, ⟨hi43, hi44⟩, ⟨hPs, hPi⟩, hTt, hZm, hg1, hgi, he1, he0, hg8a, hg8b⟩ := id hLI
  obtain ⟨hN, hM, hPL, hHE, hT, hWW, hSE, hPN, hBK, hTS, h44, h0, h1p, h49, hZO⟩ := id hS
  have hTB := SI_TB hS
  have hTBi := SI_TB hSi
  have hCH := PLA_CHP hPs hS
  have hCHi := PLA_CHP hPi hSi
  refine v_aload_n hG dL_law_629 rfl 2 rfl ?_
  refine v_aload_n hG dL_law_630 rfl 3 rfl ?_
  refine v_iload_n hG dL_law_631 rfl 0 rfl ?_
  refine v_iconst hG dL_law_632 ?_
  refine v_iadd hG dL_law_633 ?_
  refine v_sld hG hLG dL_law_634 hL (by omega) ?_
  refine v_callV (k1' := 106 + 6 * i) (k2' := 3901 + 42 * i) hG dL_law_635 zc_X11_order ⟨zl_L_78, zi_X11_order, zs_X11_order⟩ (fun l => CT_fr (A := fun q => a0 ≤ q) (F := F1 D a0 s im fr bY tr ln bl bo g lg) (fun q (hq : AC a0 q) => hq.1) F1_st (kc11_order l D (AC a0) ad K (S3 s ic t) Q qa tp s bo e uc lr nx ((xs (5 * (i : Int) + 1).toNat).toInt) (ii_rng _) SL hN hM hPL hCH hT)) rfl (fun H h => cR11 H h.1) (fun H h => ⟨CW_3r (Sa_0) (Sa_1.trans S3_1) (Sa_2.trans S3_2) h.1, h.2⟩) ⟨by decide, by decide⟩ (Nat.add_zero _) (Nat.add_zero _) ⟨by show 106 + 6 * i ≤ 600000; omega, by show 3901 + 42 * i ≤ 7302250; omega⟩ (rest := []) (by rw [had]; rfl) (Nat.le_of_ble_eq_true rfl) (fun _ => [vI (a_order s SL ((xs (5 * (i : Int) + 1).toNat).toInt))]) (fun _ => rfl) (fun u hu => ?_)
  refine v_P (P' := fun H => CW D (AC a0) ad K (S3 s ic t) Q qa tp bo e u.1 u.2.1 u.2.2 H ∧ F1 D a0 s im fr bY tr ln bl bo g lg H) (fun H h => ⟨CW_3 Sa_0 (Sa_1.trans S3_1) (Sa_2.trans S3_2) h.1, h.2⟩) ?_
  refine v_aload_n hG dL_law_638 rfl 1 rfl ?_
  refine v_aload_n hG dL_law_639 rfl 3 rfl ?_
  refine v_iload_n hG dL_law_640 rfl 0 rfl ?_
  refine v_iconst hG dL_law_641 ?_
  refine v_iadd hG dL_law_642 ?_
  refine v_sld hG hLG dL_law_643 hL (by omega) ?_
  refine v_callV (k1' := 106 + 6 * i) (k2' := 3901 + 42 * i) hG dL_law_644 zc_X12_order ⟨zl_L_81, zi_X12_order, zs_X12_order⟩ (fun l => CT_fr (A := fun q => a0 ≤ q) (F := F2 D a0 ad K (S3 s ic t) Q qa tp bo e u.1 u.2.1 u.2.2) (fun q (hq : AM a0 q) => by have := hq.1; omega) F2_st (k_order l D (AM a0) (amL a0) s im fr bY tr ln bl bo g lg ((xs (5 * (i : Int) + 1).toNat).toInt) SL (ii_rng _) hN hM hHE hT)) rfl (fun H h => ⟨12, _, _, h.2.1.1 0 _ rfl, rfl, rfl⟩) (fun H h => ⟨h.2.1, h.1, h.2.2⟩) ⟨by decide, by decide⟩ (Nat.add_zero _) (Nat.add_zero _) ⟨by show 106 + 6 * i ≤ 600000; omega, by show 3901 + 42 * i ≤ 7302250; omega⟩ (rest := [vI (a_order s SL ((xs (5 * (i : Int) + 1).toNat).toInt))]) rfl (Nat.le_of_ble_eq_true rfl) (fun _ => [vI (a_order s SL ((xs (5 * (i : Int) + 1).toNat).toInt)), vI (a_order s SL ((xs (5 * (i : Int) + 1).toNat).toInt))]) (fun _ => rfl) (fun v hv => ?_)
  have hv : ∀ q : Int, q ≠ 7 → v.2.2.1 q = g q := hv
  refine v_P (P' := LWP D a0 ad K Q qa tp s im ic t fr v.2.2.2.1 v.2.2.2.2 v.1 v.2.1 bo v.2.2.1 lg e u.1 u.2.1 u.2.2) (fun H h => ⟨h.2.1, h.1, h.2.2⟩) ?_
  refine v_icmp_eqR (tgt := 1310) hG dL_law_647 (by decide) ?_
  refine v_widen (k1' := 106 + 6 * (i + 1)) (k2' := 3901 + 42 * (i + 1)) (by omega) (by omega) ?_
  exact hE _ _ _ _ _ _ _ _ _ _ _ _ _ _ _ _ _ _ _ _ _ _ _ had (LI_g hLI (hv 1 (by decide)) (hv 8 (by decide)))
set_option maxHeartbeats 4000000 in
set_option maxRecDepth 100000 in
theorem law_rested {D : Dx} {G : Gx} {b L a0 i : Nat} {xs : Nat → Int32} (hG : Ok D (fun q => a0 ≤ q) G cL_law 4 RL room_1) (hLG : LG b L xs a0 G) (hL : L ≤ 2560) (hi : 5 * i + 5 ≤ L) (hE : LEnd D G b a0 i) (ad : Nat → Nat) (K : Int → Int) (Q : Nat → Int → Int) (qa : Nat → Int → Int) (tp : Nat → Nat) (s im ic t fr bY tr ln bl bo g lg e uc lr nx : Int → Int) (SL SLi : List Int) (had : ad 0 = a0) (hLI : LI s im ic t g e Q qa SL SLi) : V G (106 + 6 * i) (3901 + 42 * i) (LWP D a0 ad K Q qa tp s im ic t fr bY tr ln bl bo g lg e uc lr nx) 652 [(3, vI (5 * (i : Int))), (2, .ref (a0 + 97)), (1, .ref a0), (0, .ref b)] [] := by
  obtain ⟨⟨hS, hZ⟩, ⟨hSi, hZi⟩, ⟨hi43, hi44⟩, ⟨hPs, hPi⟩, hTt, hZm, hg1, hgi, he1, he0, hg8a, hg8b⟩ := id hLI
  obtain ⟨hN, hM, hPL, hHE, hT, hWW, hSE, hPN, hBK, hTS, h44, h0, h1p, h49, hZO⟩ := id hS
  have hTB := SI_TB hS
  have hTBi := SI_TB hSi
  have hCH := PLA_CHP hPs hS
  have hCHi := PLA_CHP hPi hSi
  refine v_aload_n hG dL_law_652 rfl 2 rfl ?_
  refine v_callV (k1' := 106 + 6 * i) (k2' := 3901 + 42 * i) hG dL_law_653 zc_X11_rested ⟨zl_L_82, zi_X11_rested, zs_X11_rested⟩ (fun l => CT_fr (A := fun q => a0 ≤ q) (F := F1 D a0 s im fr bY tr ln bl bo g lg) (fun q (hq : AC a0 q) => hq.1) F1_st (kc11_rested l D (AC a0) ad K (S3 s ic t) Q qa tp s bo e uc lr nx SL hN hM hPL hCH hT)) rfl (fun H h => cR11 H h.1) (fun H h => ⟨CW_3r (Sa_0) (Sa_1.trans S3_1) (Sa_2.trans S3_2) h.1, h.2⟩) ⟨by decide, by decide⟩ (Nat.add_zero _) (Nat.add_zero _) ⟨by show 106 + 6 * i ≤ 600000; omega, by show 3901 + 42 * i ≤ 7302250; omega⟩ (rest := []) (by rw [had]; rfl) (Nat.le_of_ble_eq_true rfl) (fun _ => [vI ((rsd s SL (s 43).toNat).2)]) (fun _ => rfl) (fun u hu => ?_)
  refine v_P (P' := fun H => CW D (AC a0) ad K (S3 s ic t) Q qa tp bo e uc lr nx H ∧ F1 D a0 s im fr bY tr ln bl bo g lg H) (fun H h => ⟨CW_3 Sa_0 (Sa_1.trans S3_1) (Sa_2.trans S3_2) h.1, h.2⟩) ?_
  refine v_aload_n hG dL_law_656 rfl 1 rfl ?_
  refine v_callV (k1' := 106 + 6 * i) (k2' := 3901 + 42 * i) hG dL_law_657 zc_X12_rested ⟨zl_L_85, zi_X12_rested, zs_X12_rested⟩ (fun l => CT_fr (A := fun q => a0 ≤ q) (F := F2 D a0 ad K (S3 s ic t) Q qa tp bo e uc lr nx) (fun q (hq : AM a0 q) => by have := hq.1; omega) F2_st (k_rested l D (AM a0) (amL a0) s im fr bY tr ln bl bo g lg SL hN hM hHE hT)) rfl (fun H h => ⟨12, _, _, h.2.1.1 0 _ rfl, rfl, rfl⟩) (fun H h => ⟨h.2.1, h.1, h.2.2⟩) ⟨by decide, by decide⟩ (Nat.add_zero _) (Nat.add_zero _) ⟨by show 106 + 6 * i ≤ 600000; omega, by show 3901 + 42 * i ≤ 7302250; omega⟩ (rest := [vI ((rsd s SL (s 43).toNat).2)]) rfl (Nat.le_of_ble_eq_true rfl) (fun _ => [vI ((rsd s SL (s 43).toNat).2), vI ((rsd s SL (s 43).toNat).2)]) (fun _ => rfl) (fun v hv => ?_)
  refine v_P (P' := LWP D a0 ad K Q qa tp s im ic t fr v.1 v.2 ln bl bo g lg e uc lr nx) (fun H h => ⟨h.2.1, h.1, h.2.2⟩) ?_
  refine v_icmp_eqR (tgt := 1310) hG dL_law_660 (by decide) ?_
  refine v_widen (k1' := 106 + 6 * (i + 1)) (k2' := 3901 + 42 * (i + 1)) (by omega) (by omega) ?_
  exact hE _ _ _ _ _ _ _ _ _ _ _ _ _ _ _ _ _ _ _ _ _ _ _ had (hLI)
set_option maxHeartbeats 4000000 in
set_option maxRecDepth 100000 in
theorem law_flaws {D : Dx} {G : Gx} {b L a0 i : Nat} {xs : Nat → Int32} (hG : Ok D (fun q => a0 ≤ q) G cL_law 4 RL room_1) (hLG : LG b L xs a0 G) (hL : L ≤ 2560) (hi : 5 * i + 5 ≤ L) (hE : LEnd D G b a0 i) (ad : Nat → Nat) (K : Int → Int) (Q : Nat → Int → Int) (qa : Nat → Int → Int) (tp : Nat → Nat) (s im ic t fr bY tr ln bl bo g lg e uc lr nx : Int → Int) (SL SLi : List Int) (had : ad 0 = a0) (hLI : LI s im ic t g e Q qa SL SLi) : V G (106 + 6 * i) (3901 + 42 * i) (LWP D a0 ad K Q qa tp s im ic t fr bY tr ln bl bo g lg e uc lr nx) 665 [(3, vI (5 * (i : Int))), (2, .ref (a0 + 97)), (1, .ref a0), (0, .ref b)] [] := by
  obtain ⟨⟨hS, hZ⟩, ⟨hSi, hZi⟩, ⟨hi43, hi44⟩, ⟨hPs, hPi⟩, hTt, hZm, hg1, hgi, he1, he0, hg8a, hg8b⟩ := id hLI
  obtain ⟨hN, hM, hPL, hHE, hT, hWW, hSE, hPN, hBK, hTS, h44, h0, h1p, h49, hZO⟩ := id hS
  have hTB := SI_TB hS
  have hTBi := SI_TB hSi
  have hCH := PLA_CHP hPs hS
  have hCHi := PLA_CHP hPi hSi
  refine v_aload_n hG dL_law_665 rfl 2 rfl ?_
  refine v_aload_n hG dL_law_666 rfl 3 rfl ?_
  refine v_iload_n hG dL_law_667 rfl 0 rfl ?_
  refine v_iconst hG dL_law_668 ?_
  refine v_iadd hG dL_law_669 ?_
  refine v_sld hG hLG dL_law_670 hL (by omega) ?_
  refine v_callV (k1' := 106 + 6 * i) (k2' := 3901 + 42 * i) hG dL_law_671 zc_X11_flaws ⟨zl_L_86, zi_X11_flaws, zs_X11_flaws⟩ (fun l => CT_fr (A := fun q => a0 ≤ q) (F := F1 D a0 s im fr bY tr ln bl bo g lg) (fun q (hq : AC a0 q) => hq.1) F1_st (kc11_flaws l D (AC a0) ad K (S3 s ic t) Q qa tp s bo e uc lr nx ((xs (5 * (i : Int) + 1).toNat).toInt) (ii_rng _) SL hN hM hPL hCH hT)) rfl (fun H h => cR11 H h.1) (fun H h => ⟨CW_3r (Sa_0) (Sa_1.trans S3_1) (Sa_2.trans S3_2) h.1, h.2⟩) ⟨by decide, by decide⟩ (Nat.add_zero _) (Nat.add_zero _) ⟨by show 106 + 6 * i ≤ 600000; omega, by show 3901 + 42 * i ≤ 7302250; omega⟩ (rest := []) (by rw [had]; rfl) (Nat.le_of_ble_eq_true rfl) (fun _ => [vL (a_flaws s SL ((xs (5 * (i : Int) + 1).toNat).toInt))]) (fun _ => rfl) (fun u hu => ?_)
  refine v_P (P' := fun H => CW D (AC a0) ad K (S3 s ic t) Q qa tp bo e u lr nx H ∧ F1 D a0 s im fr bY tr ln bl bo g lg H) (fun H h => ⟨CW_3 Sa_0 (Sa_1.trans S3_1) (Sa_2.trans S3_2) h.1, h.2⟩) ?_
  refine v_aload_n hG dL_law_674 rfl 1 rfl ?_
  refine v_aload_n hG dL_law_675 rfl 3 rfl ?_
  refine v_iload_n hG dL_law_676 rfl 0 rfl ?_
  refine v_iconst hG dL_law_677 ?_
  refine v_iadd hG dL_law_678 ?_
  refine v_sld hG hLG dL_law_679 hL (by omega) ?_
  refine v_callV (k1' := 106 + 6 * i) (k2' := 3901 + 42 * i) hG dL_law_680 zc_X12_flaws ⟨zl_L_90, zi_X12_flaws, zs_X12_flaws⟩ (fun l => CT_fr (A := fun q => a0 ≤ q) (F := F2 D a0 ad K (S3 s ic t) Q qa tp bo e u lr nx) (fun q (hq : AM a0 q) => by have := hq.1; omega) F2_st (k_flaws l D (AM a0) (amL a0) s im fr bY tr ln bl bo g lg ((xs (5 * (i : Int) + 1).toNat).toInt) SL (ii_rng _) hN hM hHE hT)) rfl (fun H h => ⟨12, _, _, h.2.1.1 0 _ rfl, rfl, rfl⟩) (fun H h => ⟨h.2.1, h.1, h.2.2⟩) ⟨by decide, by decide⟩ (Nat.add_zero _) (Nat.add_zero _) ⟨by show 106 + 6 * i ≤ 600000; omega, by show 3901 + 42 * i ≤ 7302250; omega⟩ (rest := [vL (a_flaws s SL ((xs (5 * (i : Int) + 1).toNat).toInt))]) rfl (Nat.le_of_ble_eq_true rfl) (fun _ => [vL (a_flaws s SL ((xs (5 * (i : Int) + 1).toNat).toInt)), vL (a_flaws s SL ((xs (5 * (i : Int) + 1).toNat).toInt))]) (fun _ => rfl) (fun v hv => ?_)
  refine v_P (P' := LWP D a0 ad K Q qa tp s im ic t fr v.1 v.2.1 ln bl bo g v.2.2 e u lr nx) (fun H h => ⟨h.2.1, h.1, h.2.2⟩) ?_
  refine v_lcmpR hG dL_law_683 ?_
  refine v_if_eq (tgt := 1310) hG dL_law_684 (by decide) (by decide) (fun _ => ?_) (fun h => absurd rfl h)
  refine v_widen (k1' := 106 + 6 * (i + 1)) (k2' := 3901 + 42 * (i + 1)) (by omega) (by omega) ?_
  exact hE _ _ _ _ _ _ _ _ _ _ _ _ _ _ _ _ _ _ _ _ _ _ _ had (hLI)
set_option maxHeartbeats 4000000 in
set_option maxRecDepth 100000 in
theorem law_clean {D : Dx} {G : Gx} {b L a0 i : Nat} {xs : Nat → Int32} (hG : Ok D (fun q => a0 ≤ q) G cL_law 4 RL room_1) (hLG : LG b L xs a0 G) (hL : L ≤ 2560) (hi : 5 * i + 5 ≤ L) (hE : LEnd D G b a0 i) (ad : Nat → Nat) (K : Int → Int) (Q : Nat → Int → Int) (qa : Nat → Int → Int) (tp : Nat → Nat) (s im ic t fr bY tr ln bl bo g lg e uc lr nx : Int → Int) (SL SLi : List Int) (had : ad 0 = a0) (hLI : LI s im ic t g e Q qa SL SLi) : V G (106 + 6 * i) (3901 + 42 * i) (LWP D a0 ad K Q qa tp s im ic t fr bY tr ln bl bo g lg e uc lr nx) 689 [(3, vI (5 * (i : Int))), (2, .ref (a0 + 97)), (1, .ref a0), (0, .ref b)] [] := by
  obtain ⟨⟨hS, hZ⟩, ⟨hSi, hZi⟩, ⟨hi43, hi44⟩, ⟨hPs, hPi⟩, hTt, hZm, hg1, hgi, he1, he0, hg8a, hg8b⟩ := id hLI
  obtain ⟨hN, hM, hPL, hHE, hT, hWW, hSE, hPN, hBK, hTS, h44, h0, h1p, h49, hZO⟩ := id hS
  have hTB := SI_TB hS
  have hTBi := SI_TB hSi
  have hCH := PLA_CHP hPs hS
  have hCHi := PLA_CHP hPi hSi
  refine v_aload_n hG dL_law_689 rfl 2 rfl ?_
  refine v_aload_n hG dL_law_690 rfl 3 rfl ?_
  refine v_iload_n hG dL_law_691 rfl 0 rfl ?_
  refine v_iconst hG dL_law_692 ?_
  refine v_iadd hG dL_law_693 ?_
  refine v_sld hG hLG dL_law_694 hL (by omega) ?_
  refine v_callV (k1' := 106 + 6 * i) (k2' := 3901 + 42 * i) hG dL_law_695 zc_X11_clean ⟨zl_L_91, zi_X11_clean, zs_X11_clean⟩ (fun l => CT_fr (A := fun q => a0 ≤ q) (F := F1 D a0 s im fr bY tr ln bl bo g lg) (fun q (hq : AC a0 q) => hq.1) F1_st (kc11_clean l D (AC a0) ad K (S3 s ic t) Q qa tp s bo e uc lr nx ((xs (5 * (i : Int) + 1).toNat).toInt) (ii_rng _) SL hN hM hPL hCH hT)) rfl (fun H h => cR11 H h.1) (fun H h => ⟨CW_3r (Sa_0) (Sa_1.trans S3_1) (Sa_2.trans S3_2) h.1, h.2⟩) ⟨by decide, by decide⟩ (Nat.add_zero _) (Nat.add_zero _) ⟨by show 106 + 6 * i ≤ 600000; omega, by show 3901 + 42 * i ≤ 7302250; omega⟩ (rest := []) (by rw [had]; rfl) (Nat.le_of_ble_eq_true rfl) (fun _ => [vL (a_clean s SL ((xs (5 * (i : Int) + 1).toNat).toInt))]) (fun _ => rfl) (fun u hu => ?_)
  refine v_P (P' := fun H => CW D (AC a0) ad K (S3 s ic t) Q qa tp bo e u lr nx H ∧ F1 D a0 s im fr bY tr ln bl bo g lg H) (fun H h => ⟨CW_3 Sa_0 (Sa_1.trans S3_1) (Sa_2.trans S3_2) h.1, h.2⟩) ?_
  refine v_aload_n hG dL_law_698 rfl 1 rfl ?_
  refine v_aload_n hG dL_law_699 rfl 3 rfl ?_
  refine v_iload_n hG dL_law_700 rfl 0 rfl ?_
  refine v_iconst hG dL_law_701 ?_
  refine v_iadd hG dL_law_702 ?_
  refine v_sld hG hLG dL_law_703 hL (by omega) ?_
  refine v_callV (k1' := 106 + 6 * i) (k2' := 3901 + 42 * i) hG dL_law_704 zc_X12_clean ⟨zl_L_94, zi_X12_clean, zs_X12_clean⟩ (fun l => CT_fr (A := fun q => a0 ≤ q) (F := F2 D a0 ad K (S3 s ic t) Q qa tp bo e u lr nx) (fun q (hq : AM a0 q) => by have := hq.1; omega) F2_st (k_clean l D (AM a0) (amL a0) s im fr bY tr ln bl bo g lg ((xs (5 * (i : Int) + 1).toNat).toInt) SL (ii_rng _) hN hM hHE hT)) rfl (fun H h => ⟨12, _, _, h.2.1.1 0 _ rfl, rfl, rfl⟩) (fun H h => ⟨h.2.1, h.1, h.2.2⟩) ⟨by decide, by decide⟩ (Nat.add_zero _) (Nat.add_zero _) ⟨by show 106 + 6 * i ≤ 600000; omega, by show 3901 + 42 * i ≤ 7302250; omega⟩ (rest := [vL (a_clean s SL ((xs (5 * (i : Int) + 1).toNat).toInt))]) rfl (Nat.le_of_ble_eq_true rfl) (fun _ => [vL (a_clean s SL ((xs (5 * (i : Int) + 1).toNat).toInt)), vL (a_clean s SL ((xs (5 * (i : Int) + 1).toNat).toInt))]) (fun _ => rfl) (fun v hv => ?_)
  refine v_P (P' := LWP D a0 ad K Q qa tp s im ic t fr v.1 v.2.1 ln bl bo g v.2.2 e u lr nx) (fun H h => ⟨h.2.1, h.1, h.2.2⟩) ?_
  refine v_lcmpR hG dL_law_707 ?_
  refine v_if_eq (tgt := 1310) hG dL_law_708 (by decide) (by decide) (fun _ => ?_) (fun h => absurd rfl h)
  refine v_widen (k1' := 106 + 6 * (i + 1)) (k2' := 3901 + 42 * (i + 1)) (by omega) (by omega) ?_
  exact hE _ _ _ _ _ _ _ _ _ _ _ _ _ _ _ _ _ _ _ _ _ _ _ had (hLI)
set_option maxHeartbeats 4000000 in
set_option maxRecDepth 100000 in
theorem law_mirror {D : Dx} {G : Gx} {b L a0 i : Nat} {xs : Nat → Int32} (hG : Ok D (fun q => a0 ≤ q) G cL_law 4 RL room_1) (hLG : LG b L xs a0 G) (hL : L ≤ 2560) (hi : 5 * i + 5 ≤ L) (hE : LEnd D G b a0 i) (ad : Nat → Nat) (K : Int → Int) (Q : Nat → Int → Int) (qa : Nat → Int → Int) (tp : Nat → Nat) (s im ic t fr bY tr ln bl bo g lg e uc lr nx : Int → Int) (SL SLi : List Int) (had : ad 0 = a0) (hLI : LI s im ic t g e Q qa SL SLi) : V G (106 + 6 * i) (3901 + 42 * i) (LWP D a0 ad K Q qa tp s im ic t fr bY tr ln bl bo g lg e uc lr nx) 713 [(3, vI (5 * (i : Int))), (2, .ref (a0 + 97)), (1, .ref a0), (0, .ref b)] [] := by
  obtain ⟨⟨hS, hZ⟩, ⟨hSi, hZi⟩, ⟨hi43, hi44⟩, ⟨hPs, hPi⟩, hTt, hZm, hg1, hgi, he1, he0, hg8a, hg8b⟩ := id hLI
  obtain ⟨hN, hM, hPL, hHE, hT, hWW, hSE, hPN, hBK, hTS, h44, h0, h1p, h49, hZO⟩ := id hS
  have hTB := SI_TB hS
  have hTBi := SI_TB hSi
  have hCH := PLA_CHP hPs hS
  have hCHi := PLA_CHP hPi hSi
  refine v_aload_n hG dL_law_713 rfl 2 rfl ?_
  refine v_aload_n hG dL_law_714 rfl 3 rfl ?_
  refine v_iload_n hG dL_law_715 rfl 0 rfl ?_
  refine v_iconst hG dL_law_716 ?_
  refine v_iadd hG dL_law_717 ?_
  refine v_sld hG hLG dL_law_718 hL (by omega) ?_
  refine v_callV (k1' := 106 + 6 * i) (k2' := 3901 + 42 * i) hG dL_law_719 zc_X11_mirror ⟨zl_L_95, zi_X11_mirror, zs_X11_mirror⟩ (fun l => CT_fr (A := fun q => a0 ≤ q) (F := F1 D a0 s im fr bY tr ln bl bo g lg) (fun q (hq : AC a0 q) => hq.1) F1_st (kc11_mirror l D (AC a0) ad K (S3 s ic t) Q qa tp s bo e uc lr nx ((xs (5 * (i : Int) + 1).toNat).toInt) (ii_rng _) hN hM)) rfl (fun H h => cR11 H h.1) (fun H h => ⟨CW_3r (Sa_0) (Sa_1.trans S3_1) (Sa_2.trans S3_2) h.1, h.2⟩) ⟨by decide, by decide⟩ (Nat.add_zero _) (Nat.add_zero _) ⟨by show 106 + 6 * i ≤ 600000; omega, by show 3901 + 42 * i ≤ 7302250; omega⟩ (rest := []) (by rw [had]; rfl) (Nat.le_of_ble_eq_true rfl) (fun _ => [vI (a_mirror s ((xs (5 * (i : Int) + 1).toNat).toInt))]) (fun _ => rfl) (fun u hu => ?_)
  refine v_P (P' := fun H => CW D (AC a0) ad K (S3 s ic t) Q qa tp bo e uc lr nx H ∧ F1 D a0 s im fr bY tr ln bl bo g lg H) (fun H h => ⟨CW_3 Sa_0 (Sa_1.trans S3_1) (Sa_2.trans S3_2) h.1, h.2⟩) ?_
  refine v_aload_n hG dL_law_722 rfl 1 rfl ?_
  refine v_aload_n hG dL_law_723 rfl 3 rfl ?_
  refine v_iload_n hG dL_law_724 rfl 0 rfl ?_
  refine v_iconst hG dL_law_725 ?_
  refine v_iadd hG dL_law_726 ?_
  refine v_sld hG hLG dL_law_727 hL (by omega) ?_
  refine v_callV (k1' := 106 + 6 * i) (k2' := 3901 + 42 * i) hG dL_law_728 zc_X12_mirror ⟨zl_L_98, zi_X12_mirror, zs_X12_mirror⟩ (fun l => CT_fr (A := fun q => a0 ≤ q) (F := F2 D a0 ad K (S3 s ic t) Q qa tp bo e uc lr nx) (fun q (hq : AM a0 q) => by have := hq.1; omega) F2_st (k_mirror l D (AM a0) (amL a0) s im fr bY tr ln bl bo g lg ((xs (5 * (i : Int) + 1).toNat).toInt) (ii_rng _) hN hM)) rfl (fun H h => ⟨12, _, _, h.2.1.1 0 _ rfl, rfl, rfl⟩) (fun H h => ⟨h.2.1, h.1, h.2.2⟩) ⟨by decide, by decide⟩ (Nat.add_zero _) (Nat.add_zero _) ⟨by show 106 + 6 * i ≤ 600000; omega, by show 3901 + 42 * i ≤ 7302250; omega⟩ (rest := [vI (a_mirror s ((xs (5 * (i : Int) + 1).toNat).toInt))]) rfl (Nat.le_of_ble_eq_true rfl) (fun _ => [vI (a_mirror s ((xs (5 * (i : Int) + 1).toNat).toInt)), vI (a_mirror s ((xs (5 * (i : Int) + 1).toNat).toInt))]) (fun _ => rfl) (fun v hv => ?_)
  refine v_P (P' := LWP D a0 ad K Q qa tp s im ic t fr bY tr ln bl bo g lg e uc lr nx) (fun H h => ⟨h.2.1, h.1, h.2.2⟩) ?_
  refine v_icmp_eqR (tgt := 1310) hG dL_law_731 (by decide) ?_
  refine v_widen (k1' := 106 + 6 * (i + 1)) (k2' := 3901 + 42 * (i + 1)) (by omega) (by omega) ?_
  exact hE _ _ _ _ _ _ _ _ _ _ _ _ _ _ _ _ _ _ _ _ _ _ _ had (hLI)
set_option maxHeartbeats 4000000 in
set_option maxRecDepth 100000 in
theorem law_beside {D : Dx} {G : Gx} {b L a0 i : Nat} {xs : Nat → Int32} (hG : Ok D (fun q => a0 ≤ q) G cL_law 4 RL room_1) (hLG : LG b L xs a0 G) (hL : L ≤ 2560) (hi : 5 * i + 5 ≤ L) (hE : LEnd D G b a0 i) (ad : Nat → Nat) (K : Int → Int) (Q : Nat → Int → Int) (qa : Nat → Int → Int) (tp : Nat → Nat) (s im ic t fr bY tr ln bl bo g lg e uc lr nx : Int → Int) (SL SLi : List Int) (had : ad 0 = a0) (hLI : LI s im ic t g e Q qa SL SLi) : V G (106 + 6 * i) (3901 + 42 * i) (LWP D a0 ad K Q qa tp s im ic t fr bY tr ln bl bo g lg e uc lr nx) 736 [(3, vI (5 * (i : Int))), (2, .ref (a0 + 97)), (1, .ref a0), (0, .ref b)] [] := by
  obtain ⟨⟨hS, hZ⟩, ⟨hSi, hZi⟩, ⟨hi43, hi44⟩, ⟨hPs, hPi⟩, hTt, hZm, hg1, hgi, he1, he0, hg8a, hg8b⟩ := id hLI
  obtain ⟨hN, hM, hPL, hHE, hT, hWW, hSE, hPN, hBK, hTS, h44, h0, h1p, h49, hZO⟩ := id hS
  have hTB := SI_TB hS
  have hTBi := SI_TB hSi
  have hCH := PLA_CHP hPs hS
  have hCHi := PLA_CHP hPi hSi
  refine v_aload_n hG dL_law_736 rfl 2 rfl ?_
  refine v_aload_n hG dL_law_737 rfl 3 rfl ?_
  refine v_iload_n hG dL_law_738 rfl 0 rfl ?_
  refine v_iconst hG dL_law_739 ?_
  refine v_iadd hG dL_law_740 ?_
  refine v_sld hG hLG dL_law_741 hL (by omega) ?_
  refine v_callV (k1' := 106 + 6 * i) (k2' := 3901 + 42 * i) hG dL_law_742 zc_X11_beside ⟨zl_L_99, zi_X11_beside, zs_X11_beside⟩ (fun l => CT_fr (A := fun q => a0 ≤ q) (F := F1 D a0 s im fr bY tr ln bl bo g lg) (fun q (hq : AC a0 q) => hq.1) F1_st (kc11_beside l D (AC a0) ad K (S3 s ic t) Q qa tp s bo e uc lr nx ((xs (5 * (i : Int) + 1).toNat).toInt) (ii_rng _) hN hM)) rfl (fun H h => cR11 H h.1) (fun H h => ⟨CW_3r (Sa_0) (Sa_1.trans S3_1) (Sa_2.trans S3_2) h.1, h.2⟩) ⟨by decide, by decide⟩ (Nat.add_zero _) (Nat.add_zero _) ⟨by show 106 + 6 * i ≤ 600000; omega, by show 3901 + 42 * i ≤ 7302250; omega⟩ (rest := []) (by rw [had]; rfl) (Nat.le_of_ble_eq_true rfl) (fun _ => [vI (a_beside s ((xs (5 * (i : Int) + 1).toNat).toInt))]) (fun _ => rfl) (fun u hu => ?_)
  refine v_P (P' := fun H => CW D (AC a0) ad K (S3 s ic t) Q qa tp bo e uc lr nx H ∧ F1 D a0 s im fr bY tr ln bl bo g lg H) (fun H h => ⟨CW_3 Sa_0 (Sa_1.trans S3_1) (Sa_2.trans S3_2) h.1, h.2⟩) ?_
  refine v_aload_n hG dL_law_745 rfl 1 rfl ?_
  refine v_aload_n hG dL_law_746 rfl 3 rfl ?_
  refine v_iload_n hG dL_law_747 rfl 0 rfl ?_
  refine v_iconst hG dL_law_748 ?_
  refine v_iadd hG dL_law_749 ?_
  refine v_sld hG hLG dL_law_750 hL (by omega) ?_
  refine v_callV (k1' := 106 + 6 * i) (k2' := 3901 + 42 * i) hG dL_law_751 zc_X12_beside ⟨zl_L_102, zi_X12_beside, zs_X12_beside⟩ (fun l => CT_fr (A := fun q => a0 ≤ q) (F := F2 D a0 ad K (S3 s ic t) Q qa tp bo e uc lr nx) (fun q (hq : AM a0 q) => by have := hq.1; omega) F2_st (k_beside l D (AM a0) (amL a0) s im fr bY tr ln bl bo g lg ((xs (5 * (i : Int) + 1).toNat).toInt) (ii_rng _) hN hM)) rfl (fun H h => ⟨12, _, _, h.2.1.1 0 _ rfl, rfl, rfl⟩) (fun H h => ⟨h.2.1, h.1, h.2.2⟩) ⟨by decide, by decide⟩ (Nat.add_zero _) (Nat.add_zero _) ⟨by show 106 + 6 * i ≤ 600000; omega, by show 3901 + 42 * i ≤ 7302250; omega⟩ (rest := [vI (a_beside s ((xs (5 * (i : Int) + 1).toNat).toInt))]) rfl (Nat.le_of_ble_eq_true rfl) (fun _ => [vI (a_beside s ((xs (5 * (i : Int) + 1).toNat).toInt)), vI (a_beside s ((xs (5 * (i : Int) + 1).toNat).toInt))]) (fun _ => rfl) (fun v hv => ?_)
  refine v_P (P' := LWP D a0 ad K Q qa tp s im ic t fr bY tr ln bl bo g lg e uc lr nx) (fun H h => ⟨h.2.1, h.1, h.2.2⟩) ?_
  refine v_icmp_eqR (tgt := 1310) hG dL_law_754 (by decide) ?_
  refine v_widen (k1' := 106 + 6 * (i + 1)) (k2' := 3901 + 42 * (i + 1)) (by omega) (by omega) ?_
  exact hE _ _ _ _ _ _ _ _ _ _ _ _ _ _ _ _ _ _ _ _ _ _ _ had (hLI)
set_option maxHeartbeats 4000000 in
set_option maxRecDepth 100000 in
theorem law_crowd {D : Dx} {G : Gx} {b L a0 i : Nat} {xs : Nat → Int32} (hG : Ok D (fun q => a0 ≤ q) G cL_law 4 RL room_1) (hLG : LG b L xs a0 G) (hL : L ≤ 2560) (hi : 5 * i + 5 ≤ L) (hE : LEnd D G b a0 i) (ad : Nat → Nat) (K : Int → Int) (Q : Nat → Int → Int) (qa : Nat → Int → Int) (tp : Nat → Nat) (s im ic t fr bY tr ln bl bo g lg e uc lr nx : Int → Int) (SL SLi : List Int) (had : ad 0 = a0) (hLI : LI s im ic t g e Q qa SL SLi) : V G (106 + 6 * i) (3901 + 42 * i) (LWP D a0 ad K Q qa tp s im ic t fr bY tr ln bl bo g lg e uc lr nx) 759 [(3, vI (5 * (i : Int))), (2, .ref (a0 + 97)), (1, .ref a0), (0, .ref b)] [] := by
  obtain ⟨⟨hS, hZ⟩, ⟨hSi, hZi⟩, ⟨hi43, hi44⟩, ⟨hPs, hPi⟩, hTt, hZm, hg1, hgi, he1, he0, hg8a, hg8b⟩ := id hLI
  obtain ⟨hN, hM, hPL, hHE, hT, hWW, hSE, hPN, hBK, hTS, h44, h0, h1p, h49, hZO⟩ := id hS
  have hTB := SI_TB hS
  have hTBi := SI_TB hSi
  have hCH := PLA_CHP hPs hS
  have hCHi := PLA_CHP hPi hSi
  refine v_aload_n hG dL_law_759 rfl 2 rfl ?_
  refine v_callV (k1' := 106 + 6 * i) (k2' := 3901 + 42 * i) hG dL_law_760 zc_X11_crowd ⟨zl_L_103, zi_X11_crowd, zs_X11_crowd⟩ (fun l => CT_fr (A := fun q => a0 ≤ q) (F := F1 D a0 s im fr bY tr ln bl bo g lg) (fun q (hq : AC a0 q) => hq.1) F1_st (kc11_crowd l D (AC a0) ad K (S3 s ic t) Q qa tp s bo e uc lr nx hN hM)) rfl (fun H h => cR11 H h.1) (fun H h => ⟨CW_3r (Sa_0) (Sa_1.trans S3_1) (Sa_2.trans S3_2) h.1, h.2⟩) ⟨by decide, by decide⟩ (Nat.add_zero _) (Nat.add_zero _) ⟨by show 106 + 6 * i ≤ 600000; omega, by show 3901 + 42 * i ≤ 7302250; omega⟩ (rest := []) (by rw [had]; rfl) (Nat.le_of_ble_eq_true rfl) (fun _ => [vI ((bestF (-1) (croF s) (s 43).toNat).2)]) (fun _ => rfl) (fun u hu => ?_)
  refine v_P (P' := fun H => CW D (AC a0) ad K (S3 s ic t) Q qa tp bo e uc lr nx H ∧ F1 D a0 s im fr bY tr ln bl bo g lg H) (fun H h => ⟨CW_3 Sa_0 (Sa_1.trans S3_1) (Sa_2.trans S3_2) h.1, h.2⟩) ?_
  refine v_aload_n hG dL_law_763 rfl 1 rfl ?_
  refine v_callV (k1' := 106 + 6 * i) (k2' := 3901 + 42 * i) hG dL_law_764 zc_X12_crowd ⟨zl_L_106, zi_X12_crowd, zs_X12_crowd⟩ (fun l => CT_fr (A := fun q => a0 ≤ q) (F := F2 D a0 ad K (S3 s ic t) Q qa tp bo e uc lr nx) (fun q (hq : AM a0 q) => by have := hq.1; omega) F2_st (k_crowd l D (AM a0) (amL a0) s im fr bY tr ln bl bo g lg hN hM)) rfl (fun H h => ⟨12, _, _, h.2.1.1 0 _ rfl, rfl, rfl⟩) (fun H h => ⟨h.2.1, h.1, h.2.2⟩) ⟨by decide, by decide⟩ (Nat.add_zero _) (Nat.add_zero _) ⟨by show 106 + 6 * i ≤ 600000; omega, by show 3901 + 42 * i ≤ 7302250; omega⟩ (rest := [vI ((bestF (-1) (croF s) (s 43).toNat).2)]) rfl (Nat.le_of_ble_eq_true rfl) (fun _ => [vI ((bestF (-1) (croF s) (s 43).toNat).2), vI ((bestF (-1) (croF s) (s 43).toNat).2)]) (fun _ => rfl) (fun v hv => ?_)
  refine v_P (P' := LWP D a0 ad K Q qa tp s im ic t fr bY tr ln bl bo g lg e uc lr nx) (fun H h => ⟨h.2.1, h.1, h.2.2⟩) ?_
  refine v_icmp_eqR (tgt := 1310) hG dL_law_767 (by decide) ?_
  refine v_widen (k1' := 106 + 6 * (i + 1)) (k2' := 3901 + 42 * (i + 1)) (by omega) (by omega) ?_
  exact hE _ _ _ _ _ _ _ _ _ _ _ _ _ _ _ _ _ _ _ _ _ _ _ had (hLI)
set_option maxHeartbeats 4000000 in
set_option maxRecDepth 100000 in
theorem law_room {D : Dx} {G : Gx} {b L a0 i : Nat} {xs : Nat → Int32} (hG : Ok D (fun q => a0 ≤ q) G cL_law 4 RL room_1) (hLG : LG b L xs a0 G) (hL : L ≤ 2560) (hi : 5 * i + 5 ≤ L) (hE : LEnd D G b a0 i) (ad : Nat → Nat) (K : Int → Int) (Q : Nat → Int → Int) (qa : Nat → Int → Int) (tp : Nat → Nat) (s im ic t fr bY tr ln bl bo g lg e uc lr nx : Int → Int) (SL SLi : List Int) (had : ad 0 = a0) (hLI : LI s im ic t g e Q qa SL SLi) : V G (106 + 6 * i) (3901 + 42 * i) (LWP D a0 ad K Q qa tp s im ic t fr bY tr ln bl bo g lg e uc lr nx) 772 [(3, vI (5 * (i : Int))), (2, .ref (a0 + 97)), (1, .ref a0), (0, .ref b)] [] := by
  obtain ⟨⟨hS, hZ⟩, ⟨hSi, hZi⟩, ⟨hi43, hi44⟩, ⟨hPs, hPi⟩, hTt, hZm, hg1, hgi, he1, he0, hg8a, hg8b⟩ := id hLI
  obtain ⟨hN, hM, hPL, hHE, hT, hWW, hSE, hPN, hBK, hTS, h44, h0, h1p, h49, hZO⟩ := id hS
  have hTB := SI_TB hS
  have hTBi := SI_TB hSi
  have hCH := PLA_CHP hPs hS
  have hCHi := PLA_CHP hPi hSi
  refine v_aload_n hG dL_law_772 rfl 2 rfl ?_
  refine v_aload_n hG dL_law_773 rfl 3 rfl ?_
  refine v_iload_n hG dL_law_774 rfl 0 rfl ?_
  refine v_iconst hG dL_law_775 ?_
  refine v_iadd hG dL_law_776 ?_
  refine v_sld hG hLG dL_law_777 hL (by omega) ?_
  refine v_callV (k1' := 106 + 6 * i) (k2' := 3901 + 42 * i) hG dL_law_778 zc_X11_room ⟨zl_L_107, zi_X11_room, zs_X11_room⟩ (fun l => CT_fr (A := fun q => a0 ≤ q) (F := F1 D a0 s im fr bY tr ln bl bo g lg) (fun q (hq : AC a0 q) => hq.1) F1_st (kc11_room l D (AC a0) ad K (S3 s ic t) Q qa tp s bo e uc lr nx ((xs (5 * (i : Int) + 1).toNat).toInt) (ii_rng _) hN hM)) rfl (fun H h => cR11 H h.1) (fun H h => ⟨CW_3r (Sa_0) (Sa_1.trans S3_1) (Sa_2.trans S3_2) h.1, h.2⟩) ⟨by decide, by decide⟩ (Nat.add_zero _) (Nat.add_zero _) ⟨by show 106 + 6 * i ≤ 600000; omega, by show 3901 + 42 * i ≤ 7302250; omega⟩ (rest := []) (by rw [had]; rfl) (Nat.le_of_ble_eq_true rfl) (fun _ => [vI (a_room s ((xs (5 * (i : Int) + 1).toNat).toInt))]) (fun _ => rfl) (fun u hu => ?_)
  refine v_P (P' := fun H => CW D (AC a0) ad K (S3 s ic t) Q qa tp bo e uc lr nx H ∧ F1 D a0 s im fr bY tr ln bl bo g lg H) (fun H h => ⟨CW_3 Sa_0 (Sa_1.trans S3_1) (Sa_2.trans S3_2) h.1, h.2⟩) ?_
  refine v_aload_n hG dL_law_781 rfl 1 rfl ?_
  refine v_aload_n hG dL_law_782 rfl 3 rfl ?_
  refine v_iload_n hG dL_law_783 rfl 0 rfl ?_
  refine v_iconst hG dL_law_784 ?_
  refine v_iadd hG dL_law_785 ?_
  refine v_sld hG hLG dL_law_786 hL (by omega) ?_
  refine v_callV (k1' := 106 + 6 * i) (k2' := 3901 + 42 * i) hG dL_law_787 zc_X12_room ⟨zl_L_110, zi_X12_room, zs_X12_room⟩ (fun l => CT_fr (A := fun q => a0 ≤ q) (F := F2 D a0 ad K (S3 s ic t) Q qa tp bo e uc lr nx) (fun q (hq : AM a0 q) => by have := hq.1; omega) F2_st (k_room l D (AM a0) (amL a0) s im fr bY tr ln bl bo g lg ((xs (5 * (i : Int) + 1).toNat).toInt) (ii_rng _) hN hM)) rfl (fun H h => ⟨12, _, _, h.2.1.1 0 _ rfl, rfl, rfl⟩) (fun H h => ⟨h.2.1, h.1, h.2.2⟩) ⟨by decide, by decide⟩ (Nat.add_zero _) (Nat.add_zero _) ⟨by show 106 + 6 * i ≤ 600000; omega, by show 3901 + 42 * i ≤ 7302250; omega⟩ (rest := [vI (a_room s ((xs (5 * (i : Int) + 1).toNat).toInt))]) rfl (Nat.le_of_ble_eq_true rfl) (fun _ => [vI (a_room s ((xs (5 * (i : Int) + 1).toNat).toInt)), vI (a_room s ((xs (5 * (i : Int) + 1).toNat).toInt))]) (fun _ => rfl) (fun v hv => ?_)
  refine v_P (P' := LWP D a0 ad K Q qa tp s im ic t fr bY tr ln bl bo g lg e uc lr nx) (fun H h => ⟨h.2.1, h.1, h.2.2⟩) ?_
  refine v_icmp_eqR (tgt := 1310) hG dL_law_790 (by decide) ?_
  refine v_widen (k1' := 106 + 6 * (i + 1)) (k2' := 3901 + 42 * (i + 1)) (by omega) (by omega) ?_
  exact hE _ _ _ _ _ _ _ _ _ _ _ _ _ _ _ _ _ _ _ _ _ _ _ had (hLI)
set_option maxHeartbeats 4000000 in
set_option maxRecDepth 100000 in
theorem law_proof {D : Dx} {G : Gx} {b L a0 i : Nat} {xs : Nat → Int32} (hG : Ok D (fun q => a0 ≤ q) G cL_law 4 RL room_1) (hLG : LG b L xs a0 G) (hL : L ≤ 2560) (hi : 5 * i + 5 ≤ L) (hE : LEnd D G b a0 i) (ad : Nat → Nat) (K : Int → Int) (Q : Nat → Int → Int) (qa : Nat → Int → Int) (tp : Nat → Nat) (s im ic t fr bY tr ln bl bo g lg e uc lr nx : Int → Int) (SL SLi : List Int) (had : ad 0 = a0) (hLI : LI s im ic t g e Q qa SL SLi) : V G (106 + 6 * i) (3901 + 42 * i) (LWP D a0 ad K Q qa tp s im ic t fr bY tr ln bl bo g lg e uc lr nx) 795 [(3, vI (5 * (i : Int))), (2, .ref (a0 + 97)), (1, .ref a0), (0, .ref b)] [] := by
  obtain ⟨⟨hS, hZ⟩, ⟨hSi, hZi⟩, ⟨hi43, hi44⟩, ⟨hPs, hPi⟩, hTt, hZm, hg1, hgi, he1, he0, hg8a, hg8b⟩ := id hLI
  obtain ⟨hN, hM, hPL, hHE, hT, hWW, hSE, hPN, hBK, hTS, h44, h0, h1p, h49, hZO⟩ := id hS
  have hTB := SI_TB hS
  have hTBi := SI_TB hSi
  have hCH := PLA_CHP hPs hS
  have hCHi := PLA_CHP hPi hSi
  refine v_aload_n hG dL_law_795 rfl 2 rfl ?_
  refine v_aload_n hG dL_law_796 rfl 3 rfl ?_
  refine v_iload_n hG dL_law_797 rfl 0 rfl ?_
  refine v_iconst hG dL_law_798 ?_
  refine v_iadd hG dL_law_799 ?_
  refine v_sld hG hLG dL_law_800 hL (by omega) ?_
  refine v_callV (k1' := 106 + 6 * i) (k2' := 3901 + 42 * i) hG dL_law_801 zc_X11_proof ⟨zl_L_111, zi_X11_proof, zs_X11_proof⟩ (fun l => CT_fr (A := fun q => a0 ≤ q) (F := F1 D a0 s im fr bY tr ln bl bo g lg) (fun q (hq : AC a0 q) => hq.1) F1_st (kc11_proof l D (AC a0) ad K (S3 s ic t) Q qa tp s bo e uc lr nx ((xs (5 * (i : Int) + 1).toNat).toInt) (ii_rng _) SL hN hM hPL hCH hZ)) rfl (fun H h => cR11 H h.1) (fun H h => ⟨CW_3r (Sa_0) (Sa_1.trans S3_1) (Sa_2.trans S3_2) h.1, h.2⟩) ⟨by decide, by decide⟩ (Nat.add_zero _) (Nat.add_zero _) ⟨by show 106 + 6 * i ≤ 600000; omega, by show 3901 + 42 * i ≤ 7302250; omega⟩ (rest := []) (by rw [had]; rfl) (Nat.le_of_ble_eq_true rfl) (fun _ => [vI (a_proof s ((xs (5 * (i : Int) + 1).toNat).toInt))]) (fun _ => rfl) (fun u hu => ?_)
  refine v_P (P' := fun H => CW D (AC a0) ad K (S3 s ic t) Q qa tp bo e uc lr nx H ∧ F1 D a0 s im fr bY tr ln bl bo g lg H) (fun H h => ⟨CW_3 Sa_0 (Sa_1.trans S3_1) (Sa_2.trans S3_2) h.1, h.2⟩) ?_
  refine v_aload_n hG dL_law_804 rfl 1 rfl ?_
  refine v_aload_n hG dL_law_805 rfl 3 rfl ?_
  refine v_iload_n hG dL_law_806 rfl 0 rfl ?_
  refine v_iconst hG dL_law_807 ?_
  refine v_iadd hG dL_law_808 ?_
  refine v_sld hG hLG dL_law_809 hL (by omega) ?_
  refine v_callV (k1' := 106 + 6 * i) (k2' := 3901 + 42 * i) hG dL_law_810 zc_X12_proof ⟨zl_L_114, zi_X12_proof, zs_X12_proof⟩ (fun l => CT_fr (A := fun q => a0 ≤ q) (F := F2 D a0 ad K (S3 s ic t) Q qa tp bo e uc lr nx) (fun q (hq : AM a0 q) => by have := hq.1; omega) F2_st (k_proof l D (AM a0) (amL a0) s im fr bY tr ln bl bo g lg ((xs (5 * (i : Int) + 1).toNat).toInt) (ii_rng _) hN hM hPL)) rfl (fun H h => ⟨12, _, _, h.2.1.1 0 _ rfl, rfl, rfl⟩) (fun H h => ⟨h.2.1, h.1, h.2.2⟩) ⟨by decide, by decide⟩ (Nat.add_zero _) (Nat.add_zero _) ⟨by show 106 + 6 * i ≤ 600000; omega, by show 3901 + 42 * i ≤ 7302250; omega⟩ (rest := [vI (a_proof s ((xs (5 * (i : Int) + 1).toNat).toInt))]) rfl (Nat.le_of_ble_eq_true rfl) (fun _ => [vI (a_proof s ((xs (5 * (i : Int) + 1).toNat).toInt)), vI (a_proof s ((xs (5 * (i : Int) + 1).toNat).toInt))]) (fun _ => rfl) (fun v hv => ?_)
  refine v_P (P' := LWP D a0 ad K Q qa tp s im ic t fr bY tr ln bl bo g lg e uc lr nx) (fun H h => ⟨h.2.1, h.1, h.2.2⟩) ?_
  refine v_icmp_eqR (tgt := 1310) hG dL_law_813 (by decide) ?_
  refine v_widen (k1' := 106 + 6 * (i + 1)) (k2' := 3901 + 42 * (i + 1)) (by omega) (by omega) ?_
  exact hE _ _ _ _ _ _ _ _ _ _ _ _ _ _ _ _ _ _ _ _ _ _ _ had (hLI)
set_option maxHeartbeats 4000000 in
set_option maxRecDepth 100000 in
theorem law_proofs {D : Dx} {G : Gx} {b L a0 i : Nat} {xs : Nat → Int32} (hG : Ok D (fun q => a0 ≤ q) G cL_law 4 RL room_1) (hLG : LG b L xs a0 G) (hL : L ≤ 2560) (hi : 5 * i + 5 ≤ L) (hE : LEnd D G b a0 i) (ad : Nat → Nat) (K : Int → Int) (Q : Nat → Int → Int) (qa : Nat → Int → Int) (tp : Nat → Nat) (s im ic t fr bY tr ln bl bo g lg e uc lr nx : Int → Int) (SL SLi : List Int) (had : ad 0 = a0) (hLI : LI s im ic t g e Q qa SL SLi) : V G (106 + 6 * i) (3901 + 42 * i) (LWP D a0 ad K Q qa tp s im ic t fr bY tr ln bl bo g lg e uc lr nx) 818 [(3, vI (5 * (i : Int))), (2, .ref (a0 + 97)), (1, .ref a0), (0, .ref b)] [] := by
  obtain ⟨⟨hS, hZ⟩, ⟨hSi, hZi⟩, ⟨hi43, hi44⟩, ⟨hPs, hPi⟩, hTt, hZm, hg1, hgi, he1, he0, hg8a, hg8b⟩ := id hLI
  obtain ⟨hN, hM, hPL, hHE, hT, hWW, hSE, hPN, hBK, hTS, h44, h0, h1p, h49, hZO⟩ := id hS
  have hTB := SI_TB hS
  have hTBi := SI_TB hSi
  have hCH := PLA_CHP hPs hS
  have hCHi := PLA_CHP hPi hSi
  refine v_aload_n hG dL_law_818 rfl 2 rfl ?_
  refine v_callV (k1' := 106 + 6 * i) (k2' := 3901 + 42 * i) hG dL_law_819 zc_X11_proofs ⟨zl_L_115, zi_X11_proofs, zs_X11_proofs⟩ (fun l => CT_fr (A := fun q => a0 ≤ q) (F := F1 D a0 s im fr bY tr ln bl bo g lg) (fun q (hq : AC a0 q) => hq.1) F1_st (kc11_proofs l D (AC a0) ad K (S3 s ic t) Q qa tp s bo e uc lr nx SL hN hM hPL hCH hZ)) rfl (fun H h => cR11 H h.1) (fun H h => ⟨CW_3r (Sa_0) (Sa_1.trans S3_1) (Sa_2.trans S3_2) h.1, h.2⟩) ⟨by decide, by decide⟩ (Nat.add_zero _) (Nat.add_zero _) ⟨by show 106 + 6 * i ≤ 600000; omega, by show 3901 + 42 * i ≤ 7302250; omega⟩ (rest := []) (by rw [had]; rfl) (Nat.le_of_ble_eq_true rfl) (fun _ => [vI (q_proofs s)]) (fun _ => rfl) (fun u hu => ?_)
  refine v_P (P' := fun H => CW D (AC a0) ad K (S3 s ic t) Q qa tp bo e uc lr nx H ∧ F1 D a0 s im fr bY tr ln bl bo g lg H) (fun H h => ⟨CW_3 Sa_0 (Sa_1.trans S3_1) (Sa_2.trans S3_2) h.1, h.2⟩) ?_
  refine v_aload_n hG dL_law_822 rfl 1 rfl ?_
  refine v_callV (k1' := 106 + 6 * i) (k2' := 3901 + 42 * i) hG dL_law_823 zc_X12_proofs ⟨zl_L_118, zi_X12_proofs, zs_X12_proofs⟩ (fun l => CT_fr (A := fun q => a0 ≤ q) (F := F2 D a0 ad K (S3 s ic t) Q qa tp bo e uc lr nx) (fun q (hq : AM a0 q) => by have := hq.1; omega) F2_st (k_proofs l D (AM a0) (amL a0) s im fr bY tr ln bl bo g lg hN hM hPL)) rfl (fun H h => ⟨12, _, _, h.2.1.1 0 _ rfl, rfl, rfl⟩) (fun H h => ⟨h.2.1, h.1, h.2.2⟩) ⟨by decide, by decide⟩ (Nat.add_zero _) (Nat.add_zero _) ⟨by show 106 + 6 * i ≤ 600000; omega, by show 3901 + 42 * i ≤ 7302250; omega⟩ (rest := [vI (q_proofs s)]) rfl (Nat.le_of_ble_eq_true rfl) (fun _ => [vI (q_proofs s), vI (q_proofs s)]) (fun _ => rfl) (fun v hv => ?_)
  refine v_P (P' := LWP D a0 ad K Q qa tp s im ic t fr bY tr ln bl bo g lg e uc lr nx) (fun H h => ⟨h.2.1, h.1, h.2.2⟩) ?_
  refine v_icmp_eqR (tgt := 1310) hG dL_law_826 (by decide) ?_
  refine v_widen (k1' := 106 + 6 * (i + 1)) (k2' := 3901 + 42 * (i + 1)) (by omega) (by omega) ?_
  exact hE _ _ _ _ _ _ _ _ _ _ _ _ _ _ _ _ _ _ _ _ _ _ _ had (hLI)
set_option maxHeartbeats 4000000 in
set_option maxRecDepth 100000 in
theorem law_mends {D : Dx} {G : Gx} {b L a0 i : Nat} {xs : Nat → Int32} (hG : Ok D (fun q => a0 ≤ q) G cL_law 4 RL room_1) (hLG : LG b L xs a0 G) (hL : L ≤ 2560) (hi : 5 * i + 5 ≤ L) (hE : LEnd D G b a0 i) (ad : Nat → Nat) (K : Int → Int) (Q : Nat → Int → Int) (qa : Nat → Int → Int) (tp : Nat → Nat) (s im ic t fr bY tr ln bl bo g lg e uc lr nx : Int → Int) (SL SLi : List Int) (had : ad 0 = a0) (hLI : LI s im ic t g e Q qa SL SLi) : V G (106 + 6 * i) (3901 + 42 * i) (LWP D a0 ad K Q qa tp s im ic t fr bY tr ln bl bo g lg e uc lr nx) 831 [(3, vI (5 * (i : Int))), (2, .ref (a0 + 97)), (1, .ref a0), (0, .ref b)] [] := by
  obtain ⟨⟨hS, hZ⟩, ⟨hSi, hZi⟩, ⟨hi43, hi44⟩, ⟨hPs, hPi⟩, hTt, hZm, hg1, hgi, he1, he0, hg8a, hg8b⟩ := id hLI
  obtain ⟨hN, hM, hPL, hHE, hT, hWW, hSE, hPN, hBK, hTS, h44, h0, h1p, h49, hZO⟩ := id hS
  have hTB := SI_TB hS
  have hTBi := SI_TB hSi
  have hCH := PLA_CHP hPs hS
  have hCHi := PLA_CHP hPi hSi
  refine v_aload_n hG dL_law_831 rfl 2 rfl ?_
  refine v_callV (k1' := 106 + 6 * i) (k2' := 3901 + 42 * i) hG dL_law_832 zc_X11_mends ⟨zl_L_119, zi_X11_mends, zs_X11_mends⟩ (fun l => CT_fr (A := fun q => a0 ≤ q) (F := F1 D a0 s im fr bY tr ln bl bo g lg) (fun q (hq : AC a0 q) => hq.1) F1_st (kc11_mends l D (AC a0) ad K (S3 s ic t) Q qa tp s t bo e uc lr nx SL hTt hTB hN hM hPL hCH hT hZ)) rfl (fun H h => cR11 H h.1) (fun H h => ⟨CW_3r (Sa_0) (Sa_1.trans (Sb_1.trans S3_1)) (Sa_2.trans Sb_2) h.1, h.2⟩) ⟨by decide, by decide⟩ (Nat.add_zero _) (Nat.add_zero _) ⟨by show 106 + 6 * i ≤ 600000; omega, by show 3901 + 42 * i ≤ 7302250; omega⟩ (rest := []) (by rw [had]; rfl) (Nat.le_of_ble_eq_true rfl) (fun _ => [vI (bset (menF s) (s 43).toNat)]) (fun _ => rfl) (fun u hu => ?_)
  have hu : TB u := hu
  refine v_P (P' := fun H => CW D (AC a0) ad K (S3 s ic u) Q qa tp bo e uc lr nx H ∧ F1 D a0 s im fr bY tr ln bl bo g lg H) (fun H h => ⟨CW_3 Sa_0 (Sa_1.trans (Sb_1.trans S3_1)) (Sa_2.trans Sb_2) h.1, h.2⟩) ?_
  refine v_aload_n hG dL_law_835 rfl 1 rfl ?_
  refine v_callV (k1' := 106 + 6 * i) (k2' := 3901 + 42 * i) hG dL_law_836 zc_X12_mends ⟨zl_L_122, zi_X12_mends, zs_X12_mends⟩ (fun l => CT_fr (A := fun q => a0 ≤ q) (F := F2 D a0 ad K (S3 s ic u) Q qa tp bo e uc lr nx) (fun q (hq : AM a0 q) => by have := hq.1; omega) F2_st (k_mends l D (AM a0) (amL a0) s im fr bY tr ln bl bo g lg hN hM hPL hT)) rfl (fun H h => ⟨12, _, _, h.2.1.1 0 _ rfl, rfl, rfl⟩) (fun H h => ⟨h.2.1, h.1, h.2.2⟩) ⟨by decide, by decide⟩ (Nat.add_zero _) (Nat.add_zero _) ⟨by show 106 + 6 * i ≤ 600000; omega, by show 3901 + 42 * i ≤ 7302250; omega⟩ (rest := [vI (bset (menF s) (s 43).toNat)]) rfl (Nat.le_of_ble_eq_true rfl) (fun _ => [vI (bset (menF s) (s 43).toNat), vI (bset (menF s) (s 43).toNat)]) (fun _ => rfl) (fun v hv => ?_)
  refine v_P (P' := LWP D a0 ad K Q qa tp s im ic u v bY tr ln bl bo g lg e uc lr nx) (fun H h => ⟨h.2.1, h.1, h.2.2⟩) ?_
  refine v_icmp_eqR (tgt := 1310) hG dL_law_839 (by decide) ?_
  refine v_widen (k1' := 106 + 6 * (i + 1)) (k2' := 3901 + 42 * (i + 1)) (by omega) (by omega) ?_
  exact hE _ _ _ _ _ _ _ _ _ _ _ _ _ _ _ _ _ _ _ _ _ _ _ had (LI_t hLI hu)
set_option maxHeartbeats 4000000 in
set_option maxRecDepth 100000 in
theorem law_worth {D : Dx} {G : Gx} {b L a0 i : Nat} {xs : Nat → Int32} (hG : Ok D (fun q => a0 ≤ q) G cL_law 4 RL room_1) (hLG : LG b L xs a0 G) (hL : L ≤ 2560) (hi : 5 * i + 5 ≤ L) (hE : LEnd D G b a0 i) (ad : Nat → Nat) (K : Int → Int) (Q : Nat → Int → Int) (qa : Nat → Int → Int) (tp : Nat → Nat) (s im ic t fr bY tr ln bl bo g lg e uc lr nx : Int → Int) (SL SLi : List Int) (had : ad 0 = a0) (hLI : LI s im ic t g e Q qa SL SLi) : V G (106 + 6 * i) (3901 + 42 * i) (LWP D a0 ad K Q qa tp s im ic t fr bY tr ln bl bo g lg e uc lr nx) 844 [(3, vI (5 * (i : Int))), (2, .ref (a0 + 97)), (1, .ref a0), (0, .ref b)] [] := by
  obtain ⟨⟨hS, hZ⟩, ⟨hSi, hZi⟩, ⟨hi43, hi44⟩, ⟨hPs, hPi⟩, hTt, hZm, hg1, hgi, he1, he0, hg8a, hg8b⟩ := id hLI
  obtain ⟨hN, hM, hPL, hHE, hT, hWW, hSE, hPN, hBK, hTS, h44, h0, h1p, h49, hZO⟩ := id hS
  have hTB := SI_TB hS
  have hTBi := SI_TB hSi
  have hCH := PLA_CHP hPs hS
  have hCHi := PLA_CHP hPi hSi
  refine v_aload_n hG dL_law_844 rfl 2 rfl ?_
  refine v_aload_n hG dL_law_845 rfl 3 rfl ?_
  refine v_iload_n hG dL_law_846 rfl 0 rfl ?_
  refine v_iconst hG dL_law_847 ?_
  refine v_iadd hG dL_law_848 ?_
  refine v_sld hG hLG dL_law_849 hL (by omega) ?_
  refine v_callV (k1' := 106 + 6 * i) (k2' := 3901 + 42 * i) hG dL_law_850 zc_X11_worth ⟨zl_L_123, zi_X11_worth, zs_X11_worth⟩ (fun l => CT_fr (A := fun q => a0 ≤ q) (F := F1 D a0 s im fr bY tr ln bl bo g lg) (fun q (hq : AC a0 q) => hq.1) F1_st (kc11_worth l D (AC a0) ad K (S3 s ic t) Q qa tp s t bo e uc lr nx ((xs (5 * (i : Int) + 1).toNat).toInt) (ii_rng _) SL hTt hTB hN hM hPL hCH hT)) rfl (fun H h => cR11 H h.1) (fun H h => ⟨CW_3r (Sa_0) (Sa_1.trans (Sb_1.trans S3_1)) (Sa_2.trans Sb_2) h.1, h.2⟩) ⟨by decide, by decide⟩ (Nat.add_zero _) (Nat.add_zero _) ⟨by show 106 + 6 * i ≤ 600000; omega, by show 3901 + 42 * i ≤ 7302250; omega⟩ (rest := []) (by rw [had]; rfl) (Nat.le_of_ble_eq_true rfl) (fun _ => [vI (a_worth s ((xs (5 * (i : Int) + 1).toNat).toInt))]) (fun _ => rfl) (fun u hu => ?_)
  have hu : TB u := hu
  refine v_P (P' := fun H => CW D (AC a0) ad K (S3 s ic u) Q qa tp bo e uc lr nx H ∧ F1 D a0 s im fr bY tr ln bl bo g lg H) (fun H h => ⟨CW_3 Sa_0 (Sa_1.trans (Sb_1.trans S3_1)) (Sa_2.trans Sb_2) h.1, h.2⟩) ?_
  refine v_aload_n hG dL_law_853 rfl 1 rfl ?_
  refine v_aload_n hG dL_law_854 rfl 3 rfl ?_
  refine v_iload_n hG dL_law_855 rfl 0 rfl ?_
  refine v_iconst hG dL_law_856 ?_
  refine v_iadd hG dL_law_857 ?_
  refine v_sld hG hLG dL_law_858 hL (by omega) ?_
  refine v_callV (k1' := 106 + 6 * i) (k2' := 3901 + 42 * i) hG dL_law_859 zc_X12_worth ⟨zl_L_126, zi_X12_worth, zs_X12_worth⟩ (fun l => CT_fr (A := fun q => a0 ≤ q) (F := F2 D a0 ad K (S3 s ic u) Q qa tp bo e uc lr nx) (fun q (hq : AM a0 q) => by have := hq.1; omega) F2_st (k_worth l D (AM a0) (amL a0) s im fr bY tr ln bl bo g lg ((xs (5 * (i : Int) + 1).toNat).toInt) (ii_rng _) hN hM hPL hT)) rfl (fun H h => ⟨12, _, _, h.2.1.1 0 _ rfl, rfl, rfl⟩) (fun H h => ⟨h.2.1, h.1, h.2.2⟩) ⟨by decide, by decide⟩ (Nat.add_zero _) (Nat.add_zero _) ⟨by show 106 + 6 * i ≤ 600000; omega, by show 3901 + 42 * i ≤ 7302250; omega⟩ (rest := [vI (a_worth s ((xs (5 * (i : Int) + 1).toNat).toInt))]) rfl (Nat.le_of_ble_eq_true rfl) (fun _ => [vI (a_worth s ((xs (5 * (i : Int) + 1).toNat).toInt)), vI (a_worth s ((xs (5 * (i : Int) + 1).toNat).toInt))]) (fun _ => rfl) (fun v hv => ?_)
  refine v_P (P' := LWP D a0 ad K Q qa tp s im ic u v bY tr ln bl bo g lg e uc lr nx) (fun H h => ⟨h.2.1, h.1, h.2.2⟩) ?_
  refine v_icmp_eqR (tgt := 1310) hG dL_law_862 (by decide) ?_
  refine v_widen (k1' := 106 + 6 * (i + 1)) (k2' := 3901 + 42 * (i + 1)) (by omega) (by omega) ?_
  exact hE _ _ _ _ _ _ _ _ _ _ _ _ _ _ _ _ _ _ _ _ _ _ _ had (LI_t hLI hu)
set_option maxHeartbeats 4000000 in
set_option maxRecDepth 100000 in
theorem law_best {D : Dx} {G : Gx} {b L a0 i : Nat} {xs : Nat → Int32} (hG : Ok D (fun q => a0 ≤ q) G cL_law 4 RL room_1) (hLG : LG b L xs a0 G) (hL : L ≤ 2560) (hi : 5 * i + 5 ≤ L) (hE : LEnd D G b a0 i) (ad : Nat → Nat) (K : Int → Int) (Q : Nat → Int → Int) (qa : Nat → Int → Int) (tp : Nat → Nat) (s im ic t fr bY tr ln bl bo g lg e uc lr nx : Int → Int) (SL SLi : List Int) (had : ad 0 = a0) (hLI : LI s im ic t g e Q qa SL SLi) : V G (106 + 6 * i) (3901 + 42 * i) (LWP D a0 ad K Q qa tp s im ic t fr bY tr ln bl bo g lg e uc lr nx) 867 [(3, vI (5 * (i : Int))), (2, .ref (a0 + 97)), (1, .ref a0), (0, .ref b)] [] := by
  obtain ⟨⟨hS, hZ⟩, ⟨hSi, hZi⟩, ⟨hi43, hi44⟩, ⟨hPs, hPi⟩, hTt, hZm, hg1, hgi, he1, he0, hg8a, hg8b⟩ := id hLI
  obtain ⟨hN, hM, hPL, hHE, hT, hWW, hSE, hPN, hBK, hTS, h44, h0, h1p, h49, hZO⟩ := id hS
  have hTB := SI_TB hS
  have hTBi := SI_TB hSi
  have hCH := PLA_CHP hPs hS
  have hCHi := PLA_CHP hPi hSi
  refine v_aload_n hG dL_law_867 rfl 2 rfl ?_
  refine v_callV (k1' := 106 + 6 * i) (k2' := 3901 + 42 * i) hG dL_law_868 zc_X11_best ⟨zl_L_127, zi_X11_best, zs_X11_best⟩ (fun l => CT_fr (A := fun q => a0 ≤ q) (F := F1 D a0 s im fr bY tr ln bl bo g lg) (fun q (hq : AC a0 q) => hq.1) F1_st (kc11_best l D (AC a0) ad K (S3 s ic t) Q qa tp s t bo e uc lr nx SL hTt hTB hN hM hPL hCH hT)) rfl (fun H h => cR11 H h.1) (fun H h => ⟨CW_3r (Sa_0) (Sa_1.trans (Sb_1.trans S3_1)) (Sa_2.trans Sb_2) h.1, h.2⟩) ⟨by decide, by decide⟩ (Nat.add_zero _) (Nat.add_zero _) ⟨by show 106 + 6 * i ≤ 600000; omega, by show 3901 + 42 * i ≤ 7302250; omega⟩ (rest := []) (by rw [had]; rfl) (Nat.le_of_ble_eq_true rfl) (fun _ => [vI ((bestF 0 (worF s) (s 43).toNat).2)]) (fun _ => rfl) (fun u hu => ?_)
  have hu : TB u := hu
  refine v_P (P' := fun H => CW D (AC a0) ad K (S3 s ic u) Q qa tp bo e uc lr nx H ∧ F1 D a0 s im fr bY tr ln bl bo g lg H) (fun H h => ⟨CW_3 Sa_0 (Sa_1.trans (Sb_1.trans S3_1)) (Sa_2.trans Sb_2) h.1, h.2⟩) ?_
  refine v_aload_n hG dL_law_871 rfl 1 rfl ?_
  refine v_callV (k1' := 106 + 6 * i) (k2' := 3901 + 42 * i) hG dL_law_872 zc_X12_best ⟨zl_L_130, zi_X12_best, zs_X12_best⟩ (fun l => CT_fr (A := fun q => a0 ≤ q) (F := F2 D a0 ad K (S3 s ic u) Q qa tp bo e uc lr nx) (fun q (hq : AM a0 q) => by have := hq.1; omega) F2_st (k_best l D (AM a0) (amL a0) s im fr bY tr ln bl bo g lg hN hM hPL hT)) rfl (fun H h => ⟨12, _, _, h.2.1.1 0 _ rfl, rfl, rfl⟩) (fun H h => ⟨h.2.1, h.1, h.2.2⟩) ⟨by decide, by decide⟩ (Nat.add_zero _) (Nat.add_zero _) ⟨by show 106 + 6 * i ≤ 600000; omega, by show 3901 + 42 * i ≤ 7302250; omega⟩ (rest := [vI ((bestF 0 (worF s) (s 43).toNat).2)]) rfl (Nat.le_of_ble_eq_true rfl) (fun _ => [vI ((bestF 0 (worF s) (s 43).toNat).2), vI ((bestF 0 (worF s) (s 43).toNat).2)]) (fun _ => rfl) (fun v hv => ?_)
  refine v_P (P' := LWP D a0 ad K Q qa tp s im ic u v bY tr ln bl bo g lg e uc lr nx) (fun H h => ⟨h.2.1, h.1, h.2.2⟩) ?_
  refine v_icmp_eqR (tgt := 1310) hG dL_law_875 (by decide) ?_
  refine v_widen (k1' := 106 + 6 * (i + 1)) (k2' := 3901 + 42 * (i + 1)) (by omega) (by omega) ?_
  exact hE _ _ _ _ _ _ _ _ _ _ _ _ _ _ _ _ _ _ _ _ _ _ _ had (LI_t hLI hu)
set_option maxHeartbeats 4000000 in
set_option maxRecDepth 100000 in
theorem law_see {D : Dx} {G : Gx} {b L a0 i : Nat} {xs : Nat → Int32} (hG : Ok D (fun q => a0 ≤ q) G cL_law 4 RL room_1) (hLG : LG b L xs a0 G) (hL : L ≤ 2560) (hi : 5 * i + 5 ≤ L) (hE : LEnd D G b a0 i) (ad : Nat → Nat) (K : Int → Int) (Q : Nat → Int → Int) (qa : Nat → Int → Int) (tp : Nat → Nat) (s im ic t fr bY tr ln bl bo g lg e uc lr nx : Int → Int) (SL SLi : List Int) (had : ad 0 = a0) (hLI : LI s im ic t g e Q qa SL SLi) : V G (106 + 6 * i) (3901 + 42 * i) (LWP D a0 ad K Q qa tp s im ic t fr bY tr ln bl bo g lg e uc lr nx) 880 [(3, vI (5 * (i : Int))), (2, .ref (a0 + 97)), (1, .ref a0), (0, .ref b)] [] := by
  obtain ⟨⟨hS, hZ⟩, ⟨hSi, hZi⟩, ⟨hi43, hi44⟩, ⟨hPs, hPi⟩, hTt, hZm, hg1, hgi, he1, he0, hg8a, hg8b⟩ := id hLI
  obtain ⟨hN, hM, hPL, hHE, hT, hWW, hSE, hPN, hBK, hTS, h44, h0, h1p, h49, hZO⟩ := id hS
  have hTB := SI_TB hS
  have hTBi := SI_TB hSi
  have hCH := PLA_CHP hPs hS
  have hCHi := PLA_CHP hPi hSi
  refine v_aload_n hG dL_law_880 rfl 2 rfl ?_
  refine v_aload_n hG dL_law_881 rfl 3 rfl ?_
  refine v_iload_n hG dL_law_882 rfl 0 rfl ?_
  refine v_iconst hG dL_law_883 ?_
  refine v_iadd hG dL_law_884 ?_
  refine v_sld hG hLG dL_law_885 hL (by omega) ?_
  refine v_aload_n hG dL_law_886 rfl 3 rfl ?_
  refine v_iload_n hG dL_law_887 rfl 0 rfl ?_
  refine v_iconst hG dL_law_888 ?_
  refine v_iadd hG dL_law_889 ?_
  refine v_sld hG hLG dL_law_890 hL (by omega) ?_
  refine v_callV (k1' := 106 + 6 * i) (k2' := 3901 + 42 * i) hG dL_law_891 zc_X11_see ⟨zl_L_131, zi_X11_see, zs_X11_see⟩ (fun l => CT_fr (A := fun q => a0 ≤ q) (F := F1 D a0 s im fr bY tr ln bl bo g lg) (fun q (hq : AC a0 q) => hq.1) F1_st (kc11_see l D (AC a0) ad K (S3 s ic t) Q qa tp s bo e uc lr nx ((xs (5 * (i : Int) + 1).toNat).toInt) ((xs (5 * (i : Int) + 2).toNat).toInt) (ii_rng _) (ii_rng _) hTB hN)) rfl (fun H h => cR11 H h.1) (fun H h => ⟨CW_3r (Sa_0) (Sa_1.trans S3_1) (Sa_2.trans S3_2) h.1, h.2⟩) ⟨by decide, by decide⟩ (Nat.add_zero _) (Nat.add_zero _) ⟨by show 106 + 6 * i ≤ 600000; omega, by show 3901 + 42 * i ≤ 7302250; omega⟩ (rest := []) (by rw [had]; rfl) (Nat.le_of_ble_eq_true rfl) (fun _ => [vI (a_see s ((xs (5 * (i : Int) + 1).toNat).toInt) ((xs (5 * (i : Int) + 2).toNat).toInt))]) (fun _ => rfl) (fun u hu => ?_)
  refine v_P (P' := fun H => CW D (AC a0) ad K (S3 (f_see s ((xs (5 * (i : Int) + 1).toNat).toInt) ((xs (5 * (i : Int) + 2).toNat).toInt)) ic t) Q qa tp bo e uc lr nx H ∧ F1 D a0 s im fr bY tr ln bl bo g lg H) (fun H h => ⟨CW_3 Sa_0 (Sa_1.trans S3_1) (Sa_2.trans S3_2) h.1, h.2⟩) ?_
  refine v_aload_n hG dL_law_894 rfl 1 rfl ?_
  refine v_aload_n hG dL_law_895 rfl 3 rfl ?_
  refine v_iload_n hG dL_law_896 rfl 0 rfl ?_
  refine v_iconst hG dL_law_897 ?_
  refine v_iadd hG dL_law_898 ?_
  refine v_sld hG hLG dL_law_899 hL (by omega) ?_
  refine v_aload_n hG dL_law_900 rfl 3 rfl ?_
  refine v_iload_n hG dL_law_901 rfl 0 rfl ?_
  refine v_iconst hG dL_law_902 ?_
  refine v_iadd hG dL_law_903 ?_
  refine v_sld hG hLG dL_law_904 hL (by omega) ?_
  refine v_callV (k1' := 106 + 6 * i) (k2' := 3901 + 42 * i) hG dL_law_905 zc_X12_see ⟨zl_L_134, zi_X12_see, zs_X12_see⟩ (fun l => CT_fr (A := fun q => a0 ≤ q) (F := F2 D a0 ad K (S3 (f_see s ((xs (5 * (i : Int) + 1).toNat).toInt) ((xs (5 * (i : Int) + 2).toNat).toInt)) ic t) Q qa tp bo e uc lr nx) (fun q (hq : AM a0 q) => by have := hq.1; omega) F2_st (k_see l D (AM a0) (amL a0) s im fr bY tr ln bl bo g lg ((xs (5 * (i : Int) + 1).toNat).toInt) ((xs (5 * (i : Int) + 2).toNat).toInt) (ii_rng _) (ii_rng _) hN hSE)) rfl (fun H h => ⟨12, _, _, h.2.1.1 0 _ rfl, rfl, rfl⟩) (fun H h => ⟨h.2.1, h.1, h.2.2⟩) ⟨by decide, by decide⟩ (Nat.add_zero _) (Nat.add_zero _) ⟨by show 106 + 6 * i ≤ 600000; omega, by show 3901 + 42 * i ≤ 7302250; omega⟩ (rest := [vI (a_see s ((xs (5 * (i : Int) + 1).toNat).toInt) ((xs (5 * (i : Int) + 2).toNat).toInt))]) rfl (Nat.le_of_ble_eq_true rfl) (fun _ => [vI (a_see s ((xs (5 * (i : Int) + 1).toNat).toInt) ((xs (5 * (i : Int) + 2).toNat).toInt)), vI (a_see s ((xs (5 * (i : Int) + 1).toNat).toInt) ((xs (5 * (i : Int) + 2).toNat).toInt))]) (fun _ => rfl) (fun v hv => ?_)
  refine v_P (P' := LWP D a0 ad K Q qa tp (f_see s ((xs (5 * (i : Int) + 1).toNat).toInt) ((xs (5 * (i : Int) + 2).toNat).toInt)) im ic t fr bY tr ln bl bo g lg e uc lr nx) (fun H h => ⟨h.2.1, h.1, h.2.2⟩) ?_
  refine v_icmp_eqR (tgt := 1310) hG dL_law_908 (by decide) ?_
  refine v_widen (k1' := 106 + 6 * (i + 1)) (k2' := 3901 + 42 * (i + 1)) (by omega) (by omega) ?_
  exact hE _ _ _ _ _ _ _ _ _ _ _ _ _ _ _ _ _ _ _ _ _ _ _ had (LI_s hLI (ST_see hS hZ))
set_option maxHeartbeats 4000000 in
set_option maxRecDepth 100000 in
theorem law_ran {D : Dx} {G : Gx} {b L a0 i : Nat} {xs : Nat → Int32} (hG : Ok D (fun q => a0 ≤ q) G cL_law 4 RL room_1) (hLG : LG b L xs a0 G) (hL : L ≤ 2560) (hi : 5 * i + 5 ≤ L) (hE : LEnd D G b a0 i) (ad : Nat → Nat) (K : Int → Int) (Q : Nat → Int → Int) (qa : Nat → Int → Int) (tp : Nat → Nat) (s im ic t fr bY tr ln bl bo g lg e uc lr nx : Int → Int) (SL SLi : List Int) (had : ad 0 = a0) (hLI : LI s im ic t g e Q qa SL SLi) : V G (106 + 6 * i) (3901 + 42 * i) (LWP D a0 ad K Q qa tp s im ic t fr bY tr ln bl bo g lg e uc lr nx) 913 [(3, vI (5 * (i : Int))), (2, .ref (a0 + 97)), (1, .ref a0), (0, .ref b)] [] := by
  obtain ⟨⟨hS, hZ⟩, ⟨hSi, hZi⟩, ⟨hi43, hi44⟩, ⟨hPs, hPi⟩, hTt, hZm, hg1, hgi, he1, he0, hg8a, hg8b⟩ := id hLI
  obtain ⟨hN, hM, hPL, hHE, hT, hWW, hSE, hPN, hBK, hTS, h44, h0, h1p, h49, hZO⟩ := id hS
  have hTB := SI_TB hS
  have hTBi := SI_TB hSi
  have hCH := PLA_CHP hPs hS
  have hCHi := PLA_CHP hPi hSi
  refine v_aload_n hG dL_law_913 rfl 2 rfl ?_
  refine v_aload_n hG dL_law_914 rfl 3 rfl ?_
  refine v_iload_n hG dL_law_915 rfl 0 rfl ?_
  refine v_iconst hG dL_law_916 ?_
  refine v_iadd hG dL_law_917 ?_
  refine v_sld hG hLG dL_law_918 hL (by omega) ?_
  refine v_callV (k1' := 106 + 6 * i) (k2' := 3901 + 42 * i) hG dL_law_919 zc_X11_ran ⟨zl_L_135, zi_X11_ran, zs_X11_ran⟩ (fun l => CT_fr (A := fun q => a0 ≤ q) (F := F1 D a0 s im fr bY tr ln bl bo g lg) (fun q (hq : AC a0 q) => hq.1) F1_st (kc11_ran l D (AC a0) ad K (S3 s ic t) Q qa tp s bo e uc lr nx ((xs (5 * (i : Int) + 1).toNat).toInt) (ii_rng _) SL hTB hN hM hPL hCH hSE)) rfl (fun H h => cR11 H h.1) (fun H h => ⟨CW_3r (Sa_0) (Sa_1.trans S3_1) (Sa_2.trans S3_2) h.1, h.2⟩) ⟨by decide, by decide⟩ (Nat.add_zero _) (Nat.add_zero _) ⟨by show 106 + 6 * i ≤ 600000; omega, by show 3901 + 42 * i ≤ 7302250; omega⟩ (rest := []) (by rw [had]; rfl) (Nat.le_of_ble_eq_true rfl) (fun _ => [vI (a_ran s ((xs (5 * (i : Int) + 1).toNat).toInt))]) (fun _ => rfl) (fun u hu => ?_)
  refine v_P (P' := fun H => CW D (AC a0) ad K (S3 s ic t) Q qa tp bo e uc lr nx H ∧ F1 D a0 s im fr bY tr ln bl bo g lg H) (fun H h => ⟨CW_3 Sa_0 (Sa_1.trans S3_1) (Sa_2.trans S3_2) h.1, h.2⟩) ?_
  refine v_aload_n hG dL_law_922 rfl 1 rfl ?_
  refine v_aload_n hG dL_law_923 rfl 3 rfl ?_
  refine v_iload_n hG dL_law_924 rfl 0 rfl ?_
  refine v_iconst hG dL_law_925 ?_
  refine v_iadd hG dL_law_926 ?_
  refine v_sld hG hLG dL_law_927 hL (by omega) ?_
  refine v_callV (k1' := 106 + 6 * i) (k2' := 3901 + 42 * i) hG dL_law_928 zc_X12_ran ⟨zl_L_138, zi_X12_ran, zs_X12_ran⟩ (fun l => CT_fr (A := fun q => a0 ≤ q) (F := F2 D a0 ad K (S3 s ic t) Q qa tp bo e uc lr nx) (fun q (hq : AM a0 q) => by have := hq.1; omega) F2_st (k_ran l D (AM a0) (amL a0) s im fr bY tr ln bl bo g lg ((xs (5 * (i : Int) + 1).toNat).toInt) (ii_rng _) hN hM hPL hSE)) rfl (fun H h => ⟨12, _, _, h.2.1.1 0 _ rfl, rfl, rfl⟩) (fun H h => ⟨h.2.1, h.1, h.2.2⟩) ⟨by decide, by decide⟩ (Nat.add_zero _) (Nat.add_zero _) ⟨by show 106 + 6 * i ≤ 600000; omega, by show 3901 + 42 * i ≤ 7302250; omega⟩ (rest := [vI (a_ran s ((xs (5 * (i : Int) + 1).toNat).toInt))]) rfl (Nat.le_of_ble_eq_true rfl) (fun _ => [vI (a_ran s ((xs (5 * (i : Int) + 1).toNat).toInt)), vI (a_ran s ((xs (5 * (i : Int) + 1).toNat).toInt))]) (fun _ => rfl) (fun v hv => ?_)
  refine v_P (P' := LWP D a0 ad K Q qa tp s im ic t fr bY tr ln bl bo g lg e uc lr nx) (fun H h => ⟨h.2.1, h.1, h.2.2⟩) ?_
  refine v_icmp_eqR (tgt := 1310) hG dL_law_931 (by decide) ?_
  refine v_widen (k1' := 106 + 6 * (i + 1)) (k2' := 3901 + 42 * (i + 1)) (by omega) (by omega) ?_
  exact hE _ _ _ _ _ _ _ _ _ _ _ _ _ _ _ _ _ _ _ _ _ _ _ had (hLI)
set_option maxHeartbeats 4000000 in
set_option maxRecDepth 100000 in
theorem law_hand {D : Dx} {G : Gx} {b L a0 i : Nat} {xs : Nat → Int32} (hG : Ok D (fun q => a0 ≤ q) G cL_law 4 RL room_1) (hLG : LG b L xs a0 G) (hL : L ≤ 2560) (hi : 5 * i + 5 ≤ L) (hE : LEnd D G b a0 i) (ad : Nat → Nat) (K : Int → Int) (Q : Nat → Int → Int) (qa : Nat → Int → Int) (tp : Nat → Nat) (s im ic t fr bY tr ln bl bo g lg e uc lr nx : Int → Int) (SL SLi : List Int) (had : ad 0 = a0) (hLI : LI s im ic t g e Q qa SL SLi) : V G (106 + 6 * i) (3901 + 42 * i) (LWP D a0 ad K Q qa tp s im ic t fr bY tr ln bl bo g lg e uc lr nx) 936 [(3, vI (5 * (i : Int))), (2, .ref (a0 + 97)), (1, .ref a0), (0, .ref b)] [] := by
  obtain ⟨⟨hS, hZ⟩, ⟨hSi, hZi⟩, ⟨hi43, hi44⟩, ⟨hPs, hPi⟩, hTt, hZm, hg1, hgi, he1, he0, hg8a, hg8b⟩ := id hLI
  obtain ⟨hN, hM, hPL, hHE, hT, hWW, hSE, hPN, hBK, hTS, h44, h0, h1p, h49, hZO⟩ := id hS
  have hTB := SI_TB hS
  have hTBi := SI_TB hSi
  have hCH := PLA_CHP hPs hS
  have hCHi := PLA_CHP hPi hSi
  refine v_aload_n hG dL_law_936 rfl 2 rfl ?_
  refine v_aload_n hG dL_law_937 rfl 3 rfl ?_
  refine v_iload_n hG dL_law_938 rfl 0 rfl ?_
  refine v_iconst hG dL_law_939 ?_
  refine v_iadd hG dL_law_940 ?_
  refine v_sld hG hLG dL_law_941 hL (by omega) ?_
  refine v_callV (k1' := 106 + 6 * i) (k2' := 3901 + 42 * i) hG dL_law_942 zc_X11_hand ⟨zl_L_139, zi_X11_hand, zs_X11_hand⟩ (fun l => CT_fr (A := fun q => a0 ≤ q) (F := F1 D a0 s im fr bY tr ln bl bo g lg) (fun q (hq : AC a0 q) => hq.1) F1_st (kc11_hand l D (AC a0) ad K (S3 s ic t) Q qa tp s bo e uc lr nx ((xs (5 * (i : Int) + 1).toNat).toInt) (ii_rng _) SL hN hM hPL hCH hT)) rfl (fun H h => cR11 H h.1) (fun H h => ⟨CW_3r (Sa_0) (Sa_1.trans S3_1) (Sa_2.trans S3_2) h.1, h.2⟩) ⟨by decide, by decide⟩ (Nat.add_zero _) (Nat.add_zero _) ⟨by show 106 + 6 * i ≤ 600000; omega, by show 3901 + 42 * i ≤ 7302250; omega⟩ (rest := []) (by rw [had]; rfl) (Nat.le_of_ble_eq_true rfl) (fun _ => [vI (a_hand s SL ((xs (5 * (i : Int) + 1).toNat).toInt))]) (fun _ => rfl) (fun u hu => ?_)
  refine v_P (P' := fun H => CW D (AC a0) ad K (S3 s ic t) Q qa tp bo e uc lr nx H ∧ F1 D a0 s im fr bY tr ln bl bo g lg H) (fun H h => ⟨CW_3 Sa_0 (Sa_1.trans S3_1) (Sa_2.trans S3_2) h.1, h.2⟩) ?_
  refine v_aload_n hG dL_law_945 rfl 1 rfl ?_
  refine v_aload_n hG dL_law_946 rfl 3 rfl ?_
  refine v_iload_n hG dL_law_947 rfl 0 rfl ?_
  refine v_iconst hG dL_law_948 ?_
  refine v_iadd hG dL_law_949 ?_
  refine v_sld hG hLG dL_law_950 hL (by omega) ?_
  refine v_callV (k1' := 106 + 6 * i) (k2' := 3901 + 42 * i) hG dL_law_951 zc_X12_hand ⟨zl_L_142, zi_X12_hand, zs_X12_hand⟩ (fun l => CT_fr (A := fun q => a0 ≤ q) (F := F2 D a0 ad K (S3 s ic t) Q qa tp bo e uc lr nx) (fun q (hq : AM a0 q) => by have := hq.1; omega) F2_st (k_hand l D (AM a0) (amL a0) s im fr bY tr ln bl bo g lg ((xs (5 * (i : Int) + 1).toNat).toInt) SL (ii_rng _) hN hM hHE hT)) rfl (fun H h => ⟨12, _, _, h.2.1.1 0 _ rfl, rfl, rfl⟩) (fun H h => ⟨h.2.1, h.1, h.2.2⟩) ⟨by decide, by decide⟩ (Nat.add_zero _) (Nat.add_zero _) ⟨by show 106 + 6 * i ≤ 600000; omega, by show 3901 + 42 * i ≤ 7302250; omega⟩ (rest := [vI (a_hand s SL ((xs (5 * (i : Int) + 1).toNat).toInt))]) rfl (Nat.le_of_ble_eq_true rfl) (fun _ => [vI (a_hand s SL ((xs (5 * (i : Int) + 1).toNat).toInt)), vI (a_hand s SL ((xs (5 * (i : Int) + 1).toNat).toInt))]) (fun _ => rfl) (fun v hv => ?_)
  refine v_P (P' := LWP D a0 ad K Q qa tp s im ic t fr v.1 v.2 ln bl bo g lg e uc lr nx) (fun H h => ⟨h.2.1, h.1, h.2.2⟩) ?_
  refine v_icmp_eqR (tgt := 1310) hG dL_law_954 (by decide) ?_
  refine v_widen (k1' := 106 + 6 * (i + 1)) (k2' := 3901 + 42 * (i + 1)) (by omega) (by omega) ?_
  exact hE _ _ _ _ _ _ _ _ _ _ _ _ _ _ _ _ _ _ _ _ _ _ _ had (hLI)
set_option maxHeartbeats 4000000 in
set_option maxRecDepth 100000 in
theorem law_errs {D : Dx} {G : Gx} {b L a0 i : Nat} {xs : Nat → Int32} (hG : Ok D (fun q => a0 ≤ q) G cL_law 4 RL room_1) (hLG : LG b L xs a0 G) (hL : L ≤ 2560) (hi : 5 * i + 5 ≤ L) (hE : LEnd D G b a0 i) (ad : Nat → Nat) (K : Int → Int) (Q : Nat → Int → Int) (qa : Nat → Int → Int) (tp : Nat → Nat) (s im ic t fr bY tr ln bl bo g lg e uc lr nx : Int → Int) (SL SLi : List Int) (had : ad 0 = a0) (hLI : LI s im ic t g e Q qa SL SLi) : V G (106 + 6 * i) (3901 + 42 * i) (LWP D a0 ad K Q qa tp s im ic t fr bY tr ln bl bo g lg e uc lr nx) 959 [(3, vI (5 * (i : Int))), (2, .ref (a0 + 97)), (1, .ref a0), (0, .ref b)] [] := by
  obtain ⟨⟨hS, hZ⟩, ⟨hSi, hZi⟩, ⟨hi43, hi44⟩, ⟨hPs, hPi⟩, hTt, hZm, hg1, hgi, he1, he0, hg8a, hg8b⟩ := id hLI
  obtain ⟨hN, hM, hPL, hHE, hT, hWW, hSE, hPN, hBK, hTS, h44, h0, h1p, h49, hZO⟩ := id hS
  have hTB := SI_TB hS
  have hTBi := SI_TB hSi
  have hCH := PLA_CHP hPs hS
  have hCHi := PLA_CHP hPi hSi
  refine v_aload_n hG dL_law_959 rfl 2 rfl ?_
  refine v_callV (k1' := 106 + 6 * i) (k2' := 3901 + 42 * i) hG dL_law_960 zc_X11_errs ⟨zl_L_143, zi_X11_errs, zs_X11_errs⟩ (fun l => CT_fr (A := fun q => a0 ≤ q) (F := F1 D a0 s im fr bY tr ln bl bo g lg) (fun q (hq : AC a0 q) => hq.1) F1_st (kc11_errs l D (AC a0) ad K (S3 s ic t) Q qa tp s bo e uc lr nx hN hM hZ)) rfl (fun H h => cR11 H h.1) (fun H h => ⟨CW_3r (Sa_0) (Sa_1.trans S3_1) (Sa_2.trans S3_2) h.1, h.2⟩) ⟨by decide, by decide⟩ (Nat.add_zero _) (Nat.add_zero _) ⟨by show 106 + 6 * i ≤ 600000; omega, by show 3901 + 42 * i ≤ 7302250; omega⟩ (rest := []) (by rw [had]; rfl) (Nat.le_of_ble_eq_true rfl) (fun _ => [vI ((errB s 3).2)]) (fun _ => rfl) (fun u hu => ?_)
  refine v_P (P' := fun H => CW D (AC a0) ad K (S3 s ic t) Q qa tp bo e uc lr nx H ∧ F1 D a0 s im fr bY tr ln bl bo g lg H) (fun H h => ⟨CW_3 Sa_0 (Sa_1.trans S3_1) (Sa_2.trans S3_2) h.1, h.2⟩) ?_
  refine v_aload_n hG dL_law_963 rfl 1 rfl ?_
  refine v_callV (k1' := 106 + 6 * i) (k2' := 3901 + 42 * i) hG dL_law_964 zc_X12_errs ⟨zl_L_146, zi_X12_errs, zs_X12_errs⟩ (fun l => CT_fr (A := fun q => a0 ≤ q) (F := F2 D a0 ad K (S3 s ic t) Q qa tp bo e uc lr nx) (fun q (hq : AM a0 q) => by have := hq.1; omega) F2_st (k_errs l D (AM a0) (amL a0) s im fr bY tr ln bl bo g lg hN hM)) rfl (fun H h => ⟨12, _, _, h.2.1.1 0 _ rfl, rfl, rfl⟩) (fun H h => ⟨h.2.1, h.1, h.2.2⟩) ⟨by decide, by decide⟩ (Nat.add_zero _) (Nat.add_zero _) ⟨by show 106 + 6 * i ≤ 600000; omega, by show 3901 + 42 * i ≤ 7302250; omega⟩ (rest := [vI ((errB s 3).2)]) rfl (Nat.le_of_ble_eq_true rfl) (fun _ => [vI ((errB s 3).2), vI ((errB s 3).2)]) (fun _ => rfl) (fun v hv => ?_)
  refine v_P (P' := LWP D a0 ad K Q qa tp s im ic t fr bY tr ln bl bo g lg e uc lr nx) (fun H h => ⟨h.2.1, h.1, h.2.2⟩) ?_
  refine v_icmp_eqR (tgt := 1310) hG dL_law_967 (by decide) ?_
  refine v_widen (k1' := 106 + 6 * (i + 1)) (k2' := 3901 + 42 * (i + 1)) (by omega) (by omega) ?_
  exact hE _ _ _ _ _ _ _ _ _ _ _ _ _ _ _ _ _ _ _ _ _ _ _ had (hLI)
set_option maxHeartbeats 4000000 in
set_option maxRecDepth 100000 in
theorem law_odds {D : Dx} {G : Gx} {b L a0 i : Nat} {xs : Nat → Int32} (hG : Ok D (fun q => a0 ≤ q) G cL_law 4 RL room_1) (hLG : LG b L xs a0 G) (hL : L ≤ 2560) (hi : 5 * i + 5 ≤ L) (hE : LEnd D G b a0 i) (ad : Nat → Nat) (K : Int → Int) (Q : Nat → Int → Int) (qa : Nat → Int → Int) (tp : Nat → Nat) (s im ic t fr bY tr ln bl bo g lg e uc lr nx : Int → Int) (SL SLi : List Int) (had : ad 0 = a0) (hLI : LI s im ic t g e Q qa SL SLi) : V G (106 + 6 * i) (3901 + 42 * i) (LWP D a0 ad K Q qa tp s im ic t fr bY tr ln bl bo g lg e uc lr nx) 972 [(3, vI (5 * (i : Int))), (2, .ref (a0 + 97)), (1, .ref a0), (0, .ref b)] [] := by
  obtain ⟨⟨hS, hZ⟩, ⟨hSi, hZi⟩, ⟨hi43, hi44⟩, ⟨hPs, hPi⟩, hTt, hZm, hg1, hgi, he1, he0, hg8a, hg8b⟩ := id hLI
  obtain ⟨hN, hM, hPL, hHE, hT, hWW, hSE, hPN, hBK, hTS, h44, h0, h1p, h49, hZO⟩ := id hS
  have hTB := SI_TB hS
  have hTBi := SI_TB hSi
  have hCH := PLA_CHP hPs hS
  have hCHi := PLA_CHP hPi hSi
  refine v_aload_n hG dL_law_972 rfl 2 rfl ?_
  refine v_aload_n hG dL_law_973 rfl 3 rfl ?_
  refine v_iload_n hG dL_law_974 rfl 0 rfl ?_
  refine v_iconst hG dL_law_975 ?_
  refine v_iadd hG dL_law_976 ?_
  refine v_sld hG hLG dL_law_977 hL (by omega) ?_
  refine v_aload_n hG dL_law_978 rfl 3 rfl ?_
  refine v_iload_n hG dL_law_979 rfl 0 rfl ?_
  refine v_iconst hG dL_law_980 ?_
  refine v_iadd hG dL_law_981 ?_
  refine v_sld hG hLG dL_law_982 hL (by omega) ?_
  refine v_aload_n hG dL_law_983 rfl 3 rfl ?_
  refine v_iload_n hG dL_law_984 rfl 0 rfl ?_
  refine v_iconst hG dL_law_985 ?_
  refine v_iadd hG dL_law_986 ?_
  refine v_sld hG hLG dL_law_987 hL (by omega) ?_
  refine v_callV (k1' := 106 + 6 * i) (k2' := 3901 + 42 * i) hG dL_law_988 zc_X11_odds ⟨zl_L_147, zi_X11_odds, zs_X11_odds⟩ (fun l => CT_fr (A := fun q => a0 ≤ q) (F := F1 D a0 s im fr bY tr ln bl bo g lg) (fun q (hq : AC a0 q) => hq.1) F1_st (kc11_odds l D (AC a0) ad K (S3 s ic t) Q qa tp s bo e uc lr nx ((xs (5 * (i : Int) + 1).toNat).toInt) ((xs (5 * (i : Int) + 2).toNat).toInt) ((xs (5 * (i : Int) + 3).toNat).toInt) (ii_rng _) (ii_rng _) (ii_rng _) SL hN hM hPL hCH)) rfl (fun H h => cR11 H h.1) (fun H h => ⟨CW_3r (Sa_0) (Sa_1.trans S3_1) (Sa_2.trans S3_2) h.1, h.2⟩) ⟨by decide, by decide⟩ (Nat.add_zero _) (Nat.add_zero _) ⟨by show 106 + 6 * i ≤ 600000; omega, by show 3901 + 42 * i ≤ 7302250; omega⟩ (rest := []) (by rw [had]; rfl) (Nat.le_of_ble_eq_true rfl) (fun _ => [vL (a_odds s ((xs (5 * (i : Int) + 1).toNat).toInt) ((xs (5 * (i : Int) + 2).toNat).toInt) ((xs (5 * (i : Int) + 3).toNat).toInt))]) (fun _ => rfl) (fun u hu => ?_)
  refine v_P (P' := fun H => CW D (AC a0) ad K (S3 s ic t) Q qa tp bo e uc lr nx H ∧ F1 D a0 s im fr bY tr ln bl bo g lg H) (fun H h => ⟨CW_3 Sa_0 (Sa_1.trans S3_1) (Sa_2.trans S3_2) h.1, h.2⟩) ?_
  refine v_aload_n hG dL_law_991 rfl 1 rfl ?_
  refine v_aload_n hG dL_law_992 rfl 3 rfl ?_
  refine v_iload_n hG dL_law_993 rfl 0 rfl ?_
  refine v_iconst hG dL_law_994 ?_
  refine v_iadd hG dL_law_995 ?_
  refine v_sld hG hLG dL_law_996 hL (by omega) ?_
  refine v_aload_n hG dL_law_997 rfl 3 rfl ?_
  refine v_iload_n hG dL_law_998 rfl 0 rfl ?_
  refine v_iconst hG dL_law_999 ?_
  refine v_iadd hG dL_law_1000 ?_
  refine v_sld hG hLG dL_law_1001 hL (by omega) ?_
  refine v_aload_n hG dL_law_1002 rfl 3 rfl ?_
  refine v_iload_n hG dL_law_1003 rfl 0 rfl ?_
  refine v_iconst hG dL_law_1004 ?_
  refine v_iadd hG dL_law_1005 ?_
  refine v_sld hG hLG dL_law_1006 hL (by omega) ?_
  refine v_callV (k1' := 106 + 6 * i) (k2' := 3901 + 42 * i) hG dL_law_1007 zc_X12_odds ⟨zl_L_151, zi_X12_odds, zs_X12_odds⟩ (fun l => CT_fr (A := fun q => a0 ≤ q) (F := F2 D a0 ad K (S3 s ic t) Q qa tp bo e uc lr nx) (fun q (hq : AM a0 q) => by have := hq.1; omega) F2_st (k_odds l D (AM a0) (amL a0) s im fr bY tr ln bl bo g lg ((xs (5 * (i : Int) + 1).toNat).toInt) ((xs (5 * (i : Int) + 2).toNat).toInt) ((xs (5 * (i : Int) + 3).toNat).toInt) (ii_rng _) (ii_rng _) (ii_rng _) hN hM hPL)) rfl (fun H h => ⟨12, _, _, h.2.1.1 0 _ rfl, rfl, rfl⟩) (fun H h => ⟨h.2.1, h.1, h.2.2⟩) ⟨by decide, by decide⟩ (Nat.add_zero _) (Nat.add_zero _) ⟨by show 106 + 6 * i ≤ 600000; omega, by show 3901 + 42 * i ≤ 7302250; omega⟩ (rest := [vL (a_odds s ((xs (5 * (i : Int) + 1).toNat).toInt) ((xs (5 * (i : Int) + 2).toNat).toInt) ((xs (5 * (i : Int) + 3).toNat).toInt))]) rfl (Nat.le_of_ble_eq_true rfl) (fun _ => [vL (a_odds s ((xs (5 * (i : Int) + 1).toNat).toInt) ((xs (5 * (i : Int) + 2).toNat).toInt) ((xs (5 * (i : Int) + 3).toNat).toInt)), vL (a_odds s ((xs (5 * (i : Int) + 1).toNat).toInt) ((xs (5 * (i : Int) + 2).toNat).toInt) ((xs (5 * (i : Int) + 3).toNat).toInt))]) (fun _ => rfl) (fun v hv => ?_)
  refine v_P (P' := LWP D a0 ad K Q qa tp s im ic t fr bY tr ln bl bo g lg e uc lr nx) (fun H h => ⟨h.2.1, h.1, h.2.2⟩) ?_
  refine v_lcmpR hG dL_law_1010 ?_
  refine v_if_eq (tgt := 1310) hG dL_law_1011 (by decide) (by decide) (fun _ => ?_) (fun h => absurd rfl h)
  refine v_widen (k1' := 106 + 6 * (i + 1)) (k2' := 3901 + 42 * (i + 1)) (by omega) (by omega) ?_
  exact hE _ _ _ _ _ _ _ _ _ _ _ _ _ _ _ _ _ _ _ _ _ _ _ had (hLI)
set_option maxHeartbeats 4000000 in
set_option maxRecDepth 100000 in
theorem law_mean {D : Dx} {G : Gx} {b L a0 i : Nat} {xs : Nat → Int32} (hG : Ok D (fun q => a0 ≤ q) G cL_law 4 RL room_1) (hLG : LG b L xs a0 G) (hL : L ≤ 2560) (hi : 5 * i + 5 ≤ L) (hE : LEnd D G b a0 i) (ad : Nat → Nat) (K : Int → Int) (Q : Nat → Int → Int) (qa : Nat → Int → Int) (tp : Nat → Nat) (s im ic t fr bY tr ln bl bo g lg e uc lr nx : Int → Int) (SL SLi : List Int) (had : ad 0 = a0) (hLI : LI s im ic t g e Q qa SL SLi) : V G (106 + 6 * i) (3901 + 42 * i) (LWP D a0 ad K Q qa tp s im ic t fr bY tr ln bl bo g lg e uc lr nx) 1016 [(3, vI (5 * (i : Int))), (2, .ref (a0 + 97)), (1, .ref a0), (0, .ref b)] [] := by
  obtain ⟨⟨hS, hZ⟩, ⟨hSi, hZi⟩, ⟨hi43, hi44⟩, ⟨hPs, hPi⟩, hTt, hZm, hg1, hgi, he1, he0, hg8a, hg8b⟩ := id hLI
  obtain ⟨hN, hM, hPL, hHE, hT, hWW, hSE, hPN, hBK, hTS, h44, h0, h1p, h49, hZO⟩ := id hS
  have hTB := SI_TB hS
  have hTBi := SI_TB hSi
  have hCH := PLA_CHP hPs hS
  have hCHi := PLA_CHP hPi hSi
  refine v_aload_n hG dL_law_1016 rfl 2 rfl ?_
  refine v_aload_n hG dL_law_1017 rfl 3 rfl ?_
  refine v_iload_n hG dL_law_1018 rfl 0 rfl ?_
  refine v_iconst hG dL_law_1019 ?_
  refine v_iadd hG dL_law_1020 ?_
  refine v_sld hG hLG dL_law_1021 hL (by omega) ?_
  refine v_aload_n hG dL_law_1022 rfl 3 rfl ?_
  refine v_iload_n hG dL_law_1023 rfl 0 rfl ?_
  refine v_iconst hG dL_law_1024 ?_
  refine v_iadd hG dL_law_1025 ?_
  refine v_sld hG hLG dL_law_1026 hL (by omega) ?_
  refine v_callV (k1' := 106 + 6 * i) (k2' := 3901 + 42 * i) hG dL_law_1027 zc_X11_mean ⟨zl_L_152, zi_X11_mean, zs_X11_mean⟩ (fun l => CT_fr (A := fun q => a0 ≤ q) (F := F1 D a0 s im fr bY tr ln bl bo g lg) (fun q (hq : AC a0 q) => hq.1) F1_st (kc11_mean l D (AC a0) ad K (S3 s ic t) Q qa tp s bo e uc lr nx ((xs (5 * (i : Int) + 1).toNat).toInt) ((xs (5 * (i : Int) + 2).toNat).toInt) (ii_rng _) (ii_rng _) SL hN hM hPL hCH)) rfl (fun H h => cR11 H h.1) (fun H h => ⟨CW_3r (Sa_0) (Sa_1.trans S3_1) (Sa_2.trans S3_2) h.1, h.2⟩) ⟨by decide, by decide⟩ (Nat.add_zero _) (Nat.add_zero _) ⟨by show 106 + 6 * i ≤ 600000; omega, by show 3901 + 42 * i ≤ 7302250; omega⟩ (rest := []) (by rw [had]; rfl) (Nat.le_of_ble_eq_true rfl) (fun _ => [vL (a_mean s ((xs (5 * (i : Int) + 1).toNat).toInt) ((xs (5 * (i : Int) + 2).toNat).toInt))]) (fun _ => rfl) (fun u hu => ?_)
  refine v_P (P' := fun H => CW D (AC a0) ad K (S3 s ic t) Q qa tp bo e uc lr nx H ∧ F1 D a0 s im fr bY tr ln bl bo g lg H) (fun H h => ⟨CW_3 Sa_0 (Sa_1.trans S3_1) (Sa_2.trans S3_2) h.1, h.2⟩) ?_
  refine v_aload_n hG dL_law_1030 rfl 1 rfl ?_
  refine v_aload_n hG dL_law_1031 rfl 3 rfl ?_
  refine v_iload_n hG dL_law_1032 rfl 0 rfl ?_
  refine v_iconst hG dL_law_1033 ?_
  refine v_iadd hG dL_law_1034 ?_
  refine v_sld hG hLG dL_law_1035 hL (by omega) ?_
  refine v_aload_n hG dL_law_1036 rfl 3 rfl ?_
  refine v_iload_n hG dL_law_1037 rfl 0 rfl ?_
  refine v_iconst hG dL_law_1038 ?_
  refine v_iadd hG dL_law_1039 ?_
  refine v_sld hG hLG dL_law_1040 hL (by omega) ?_
  refine v_callV (k1' := 106 + 6 * i) (k2' := 3901 + 42 * i) hG dL_law_1041 zc_X12_mean ⟨zl_L_156, zi_X12_mean, zs_X12_mean⟩ (fun l => CT_fr (A := fun q => a0 ≤ q) (F := F2 D a0 ad K (S3 s ic t) Q qa tp bo e uc lr nx) (fun q (hq : AM a0 q) => by have := hq.1; omega) F2_st (k_mean l D (AM a0) (amL a0) s im fr bY tr ln bl bo g lg ((xs (5 * (i : Int) + 1).toNat).toInt) ((xs (5 * (i : Int) + 2).toNat).toInt) (ii_rng _) (ii_rng _) hN hM hPL)) rfl (fun H h => ⟨12, _, _, h.2.1.1 0 _ rfl, rfl, rfl⟩) (fun H h => ⟨h.2.1, h.1, h.2.2⟩) ⟨by decide, by decide⟩ (Nat.add_zero _) (Nat.add_zero _) ⟨by show 106 + 6 * i ≤ 600000; omega, by show 3901 + 42 * i ≤ 7302250; omega⟩ (rest := [vL (a_mean s ((xs (5 * (i : Int) + 1).toNat).toInt) ((xs (5 * (i : Int) + 2).toNat).toInt))]) rfl (Nat.le_of_ble_eq_true rfl) (fun _ => [vL (a_mean s ((xs (5 * (i : Int) + 1).toNat).toInt) ((xs (5 * (i : Int) + 2).toNat).toInt)), vL (a_mean s ((xs (5 * (i : Int) + 1).toNat).toInt) ((xs (5 * (i : Int) + 2).toNat).toInt))]) (fun _ => rfl) (fun v hv => ?_)
  refine v_P (P' := LWP D a0 ad K Q qa tp s im ic t fr bY tr ln bl bo g lg e uc lr nx) (fun H h => ⟨h.2.1, h.1, h.2.2⟩) ?_
  refine v_lcmpR hG dL_law_1044 ?_
  refine v_if_eq (tgt := 1310) hG dL_law_1045 (by decide) (by decide) (fun _ => ?_) (fun h => absurd rfl h)
  refine v_widen (k1' := 106 + 6 * (i + 1)) (k2' := 3901 + 42 * (i + 1)) (by omega) (by omega) ?_
  exact hE _ _ _ _ _ _ _ _ _ _ _ _ _ _ _ _ _ _ _ _ _ _ _ had (hLI)
set_option maxHeartbeats 4000000 in
set_option maxRecDepth 100000 in
theorem law_plan {D : Dx} {G : Gx} {b L a0 i : Nat} {xs : Nat → Int32} (hG : Ok D (fun q => a0 ≤ q) G cL_law 4 RL room_1) (hLG : LG b L xs a0 G) (hL : L ≤ 2560) (hi : 5 * i + 5 ≤ L) (hE : LEnd D G b a0 i) (ad : Nat → Nat) (K : Int → Int) (Q : Nat → Int → Int) (qa : Nat → Int → Int) (tp : Nat → Nat) (s im ic t fr bY tr ln bl bo g lg e uc lr nx : Int → Int) (SL SLi : List Int) (had : ad 0 = a0) (hLI : LI s im ic t g e Q qa SL SLi) : V G (106 + 6 * i) (3901 + 42 * i) (LWP D a0 ad K Q qa tp s im ic t fr bY tr ln bl bo g lg e uc lr nx) 1050 [(3, vI (5 * (i : Int))), (2, .ref (a0 + 97)), (1, .ref a0), (0, .ref b)] [] := by
  obtain ⟨⟨hS, hZ⟩, ⟨hSi, hZi⟩, ⟨hi43, hi44⟩, ⟨hPs, hPi⟩, hTt, hZm, hg1, hgi, he1, he0, hg8a, hg8b⟩ := id hLI
  obtain ⟨hN, hM, hPL, hHE, hT, hWW, hSE, hPN, hBK, hTS, h44, h0, h1p, h49, hZO⟩ := id hS
  have hTB := SI_TB hS
  have hTBi := SI_TB hSi
  have hCH := PLA_CHP hPs hS
  have hCHi := PLA_CHP hPi hSi
  refine v_aload_n hG dL_law_1050 rfl 2 rfl ?_
  refine v_aload_n hG dL_law_1051 rfl 3 rfl ?_
  refine v_iload_n hG dL_law_1052 rfl 0 rfl ?_
  refine v_iconst hG dL_law_1053 ?_
  refine v_iadd hG dL_law_1054 ?_
  refine v_sld hG hLG dL_law_1055 hL (by omega) ?_
  refine v_aload_n hG dL_law_1056 rfl 3 rfl ?_
  refine v_iload_n hG dL_law_1057 rfl 0 rfl ?_
  refine v_iconst hG dL_law_1058 ?_
  refine v_iadd hG dL_law_1059 ?_
  refine v_sld hG hLG dL_law_1060 hL (by omega) ?_
  refine v_callV (k1' := 106 + 6 * i) (k2' := 3901 + 42 * i) hG dL_law_1061 zc_X11_plan ⟨zl_L_157, zi_X11_plan, zs_X11_plan⟩ (fun l => CT_fr (A := fun q => a0 ≤ q) (F := F1 D a0 s im fr bY tr ln bl bo g lg) (fun q (hq : AC a0 q) => hq.1) F1_st (kc11_plan l D (AC a0) ad K (S3 s ic t) Q qa tp s bo e uc lr nx ((xs (5 * (i : Int) + 1).toNat).toInt) ((xs (5 * (i : Int) + 2).toNat).toInt) (ii_rng _) (ii_rng _) hTB hN)) rfl (fun H h => cR11 H h.1) (fun H h => ⟨CW_3r (Sa_0) (Sa_1.trans S3_1) (Sa_2.trans S3_2) h.1, h.2⟩) ⟨by decide, by decide⟩ (Nat.add_zero _) (Nat.add_zero _) ⟨by show 106 + 6 * i ≤ 600000; omega, by show 3901 + 42 * i ≤ 7302250; omega⟩ (rest := []) (by rw [had]; rfl) (Nat.le_of_ble_eq_true rfl) (fun _ => [vI (a_plan s ((xs (5 * (i : Int) + 1).toNat).toInt) ((xs (5 * (i : Int) + 2).toNat).toInt))]) (fun _ => rfl) (fun u hu => ?_)
  refine v_P (P' := fun H => CW D (AC a0) ad K (S3 (f_plan s ((xs (5 * (i : Int) + 1).toNat).toInt) ((xs (5 * (i : Int) + 2).toNat).toInt)) ic t) Q qa tp bo e uc lr nx H ∧ F1 D a0 s im fr bY tr ln bl bo g lg H) (fun H h => ⟨CW_3 Sa_0 (Sa_1.trans S3_1) (Sa_2.trans S3_2) h.1, h.2⟩) ?_
  refine v_aload_n hG dL_law_1064 rfl 1 rfl ?_
  refine v_aload_n hG dL_law_1065 rfl 3 rfl ?_
  refine v_iload_n hG dL_law_1066 rfl 0 rfl ?_
  refine v_iconst hG dL_law_1067 ?_
  refine v_iadd hG dL_law_1068 ?_
  refine v_sld hG hLG dL_law_1069 hL (by omega) ?_
  refine v_aload_n hG dL_law_1070 rfl 3 rfl ?_
  refine v_iload_n hG dL_law_1071 rfl 0 rfl ?_
  refine v_iconst hG dL_law_1072 ?_
  refine v_iadd hG dL_law_1073 ?_
  refine v_sld hG hLG dL_law_1074 hL (by omega) ?_
  refine v_callV (k1' := 106 + 6 * i) (k2' := 3901 + 42 * i) hG dL_law_1075 zc_X12_plan ⟨zl_L_160, zi_X12_plan, zs_X12_plan⟩ (fun l => CT_fr (A := fun q => a0 ≤ q) (F := F2 D a0 ad K (S3 (f_plan s ((xs (5 * (i : Int) + 1).toNat).toInt) ((xs (5 * (i : Int) + 2).toNat).toInt)) ic t) Q qa tp bo e uc lr nx) (fun q (hq : AM a0 q) => by have := hq.1; omega) F2_st (k_plan l D (AM a0) (amL a0) s im fr bY tr ln bl bo g lg ((xs (5 * (i : Int) + 1).toNat).toInt) ((xs (5 * (i : Int) + 2).toNat).toInt) (ii_rng _) (ii_rng _) hN hPN)) rfl (fun H h => ⟨12, _, _, h.2.1.1 0 _ rfl, rfl, rfl⟩) (fun H h => ⟨h.2.1, h.1, h.2.2⟩) ⟨by decide, by decide⟩ (Nat.add_zero _) (Nat.add_zero _) ⟨by show 106 + 6 * i ≤ 600000; omega, by show 3901 + 42 * i ≤ 7302250; omega⟩ (rest := [vI (a_plan s ((xs (5 * (i : Int) + 1).toNat).toInt) ((xs (5 * (i : Int) + 2).toNat).toInt))]) rfl (Nat.le_of_ble_eq_true rfl) (fun _ => [vI (a_plan s ((xs (5 * (i : Int) + 1).toNat).toInt) ((xs (5 * (i : Int) + 2).toNat).toInt)), vI (a_plan s ((xs (5 * (i : Int) + 1).toNat).toInt) ((xs (5 * (i : Int) + 2).toNat).toInt))]) (fun _ => rfl) (fun v hv => ?_)
  refine v_P (P' := LWP D a0 ad K Q qa tp (f_plan s ((xs (5 * (i : Int) + 1).toNat).toInt) ((xs (5 * (i : Int) + 2).toNat).toInt)) im ic t fr bY tr ln bl bo g lg e uc lr nx) (fun H h => ⟨h.2.1, h.1, h.2.2⟩) ?_
  refine v_icmp_eqR (tgt := 1310) hG dL_law_1078 (by decide) ?_
  refine v_widen (k1' := 106 + 6 * (i + 1)) (k2' := 3901 + 42 * (i + 1)) (by omega) (by omega) ?_
  exact hE _ _ _ _ _ _ _ _ _ _ _ _ _ _ _ _ _ _ _ _ _ _ _ had (LI_s hLI (ST_plan hS hZ))
set_option maxHeartbeats 4000000 in
set_option maxRecDepth 100000 in
theorem law_done {D : Dx} {G : Gx} {b L a0 i : Nat} {xs : Nat → Int32} (hG : Ok D (fun q => a0 ≤ q) G cL_law 4 RL room_1) (hLG : LG b L xs a0 G) (hL : L ≤ 2560) (hi : 5 * i + 5 ≤ L) (hE : LEnd D G b a0 i) (ad : Nat → Nat) (K : Int → Int) (Q : Nat → Int → Int) (qa : Nat → Int → Int) (tp : Nat → Nat) (s im ic t fr bY tr ln bl bo g lg e uc lr nx : Int → Int) (SL SLi : List Int) (had : ad 0 = a0) (hLI : LI s im ic t g e Q qa SL SLi) : V G (106 + 6 * i) (3901 + 42 * i) (LWP D a0 ad K Q qa tp s im ic t fr bY tr ln bl bo g lg e uc lr nx) 1083 [(3, vI (5 * (i : Int))), (2, .ref (a0 + 97)), (1, .ref a0), (0, .ref b)] [] := by
  obtain ⟨⟨hS, hZ⟩, ⟨hSi, hZi⟩, ⟨hi43, hi44⟩, ⟨hPs, hPi⟩, hTt, hZm, hg1, hgi, he1, he0, hg8a, hg8b⟩ := id hLI
  obtain ⟨hN, hM, hPL, hHE, hT, hWW, hSE, hPN, hBK, hTS, h44, h0, h1p, h49, hZO⟩ := id hS
  have hTB := SI_TB hS
  have hTBi := SI_TB hSi
  have hCH := PLA_CHP hPs hS
  have hCHi := PLA_CHP hPi hSi
  refine v_aload_n hG dL_law_1083 rfl 2 rfl ?_
  refine v_aload_n hG dL_law_1084 rfl 3 rfl ?_
  refine v_iload_n hG dL_law_1085 rfl 0 rfl ?_
  refine v_iconst hG dL_law_1086 ?_
  refine v_iadd hG dL_law_1087 ?_
  refine v_sld hG hLG dL_law_1088 hL (by omega) ?_
  refine v_callV (k1' := 106 + 6 * i) (k2' := 3901 + 42 * i) hG dL_law_1089 zc_X11_done ⟨zl_L_161, zi_X11_done, zs_X11_done⟩ (fun l => CT_fr (A := fun q => a0 ≤ q) (F := F1 D a0 s im fr bY tr ln bl bo g lg) (fun q (hq : AC a0 q) => hq.1) F1_st (kc11_done l D (AC a0) ad K (S3 s ic t) Q qa tp s t bo e uc lr nx ((xs (5 * (i : Int) + 1).toNat).toInt) (ii_rng _) SL hTt hTB hN hM hPL hCH hT hZ hWW hPN (by omega))) rfl (fun H h => cR11 H h.1) (fun H h => ⟨CW_3r (Sa_0) (Sa_1.trans (Sb_1.trans S3_1)) (Sa_2.trans Sb_2) h.1, h.2⟩) ⟨by decide, by decide⟩ (Nat.add_zero _) (Nat.add_zero _) ⟨by show 106 + 6 * i ≤ 600000; omega, by show 3901 + 42 * i ≤ 7302250; omega⟩ (rest := []) (by rw [had]; rfl) (Nat.le_of_ble_eq_true rfl) (fun _ => [vI (a_done s SL ((xs (5 * (i : Int) + 1).toNat).toInt))]) (fun _ => rfl) (fun u hu => ?_)
  have hu : TB u := hu
  refine v_P (P' := fun H => CW D (AC a0) ad K (S3 s ic u) Q qa tp bo e uc lr nx H ∧ F1 D a0 s im fr bY tr ln bl bo g lg H) (fun H h => ⟨CW_3 Sa_0 (Sa_1.trans (Sb_1.trans S3_1)) (Sa_2.trans Sb_2) h.1, h.2⟩) ?_
  refine v_aload_n hG dL_law_1092 rfl 1 rfl ?_
  refine v_aload_n hG dL_law_1093 rfl 3 rfl ?_
  refine v_iload_n hG dL_law_1094 rfl 0 rfl ?_
  refine v_iconst hG dL_law_1095 ?_
  refine v_iadd hG dL_law_1096 ?_
  refine v_sld hG hLG dL_law_1097 hL (by omega) ?_
  refine v_callV (k1' := 106 + 6 * i) (k2' := 3901 + 42 * i) hG dL_law_1098 zc_X12_done ⟨zl_L_164, zi_X12_done, zs_X12_done⟩ (fun l => CT_fr (A := fun q => a0 ≤ q) (F := F2 D a0 ad K (S3 s ic u) Q qa tp bo e uc lr nx) (fun q (hq : AM a0 q) => by have := hq.1; omega) F2_st (k_done l D (AM a0) (amL a0) s im fr bY tr ln bl bo g lg ((xs (5 * (i : Int) + 1).toNat).toInt) SL (ii_rng _) hN hM hPL hHE hT hWW hPN)) rfl (fun H h => ⟨12, _, _, h.2.1.1 0 _ rfl, rfl, rfl⟩) (fun H h => ⟨h.2.1, h.1, h.2.2⟩) ⟨by decide, by decide⟩ (Nat.add_zero _) (Nat.add_zero _) ⟨by show 106 + 6 * i ≤ 600000; omega, by show 3901 + 42 * i ≤ 7302250; omega⟩ (rest := [vI (a_done s SL ((xs (5 * (i : Int) + 1).toNat).toInt))]) rfl (Nat.le_of_ble_eq_true rfl) (fun _ => [vI (a_done s SL ((xs (5 * (i : Int) + 1).toNat).toInt)), vI (a_done s SL ((xs (5 * (i : Int) + 1).toNat).toInt))]) (fun _ => rfl) (fun v hv => ?_)
  refine v_P (P' := LWP D a0 ad K Q qa tp s im ic u v.1 v.2.1 v.2.2 ln bl bo g lg e uc lr nx) (fun H h => ⟨h.2.1, h.1, h.2.2⟩) ?_
  refine v_icmp_eqR (tgt := 1310) hG dL_law_1101 (by decide) ?_
  refine v_widen (k1' := 106 + 6 * (i + 1)) (k2' := 3901 + 42 * (i + 1)) (by omega) (by omega) ?_
  exact hE _ _ _ _ _ _ _ _ _ _ _ _ _ _ _ _ _ _ _ _ _ _ _ had (LI_t hLI hu)
set_option maxHeartbeats 4000000 in
set_option maxRecDepth 100000 in
theorem law_book {D : Dx} {G : Gx} {b L a0 i : Nat} {xs : Nat → Int32} (hG : Ok D (fun q => a0 ≤ q) G cL_law 4 RL room_1) (hLG : LG b L xs a0 G) (hL : L ≤ 2560) (hi : 5 * i + 5 ≤ L) (hE : LEnd D G b a0 i) (ad : Nat → Nat) (K : Int → Int) (Q : Nat → Int → Int) (qa : Nat → Int → Int) (tp : Nat → Nat) (s im ic t fr bY tr ln bl bo g lg e uc lr nx : Int → Int) (SL SLi : List Int) (had : ad 0 = a0) (hLI : LI s im ic t g e Q qa SL SLi) : V G (106 + 6 * i) (3901 + 42 * i) (LWP D a0 ad K Q qa tp s im ic t fr bY tr ln bl bo g lg e uc lr nx) 1106 [(3, vI (5 * (i : Int))), (2, .ref (a0 + 97)), (1, .ref a0), (0, .ref b)] [] := by
  obtain ⟨⟨hS, hZ⟩, ⟨hSi, hZi⟩, ⟨hi43, hi44⟩, ⟨hPs, hPi⟩, hTt, hZm, hg1, hgi, he1, he0, hg8a, hg8b⟩ := id hLI
  obtain ⟨hN, hM, hPL, hHE, hT, hWW, hSE, hPN, hBK, hTS, h44, h0, h1p, h49, hZO⟩ := id hS
  have hTB := SI_TB hS
  have hTBi := SI_TB hSi
  have hCH := PLA_CHP hPs hS
  have hCHi := PLA_CHP hPi hSi
  refine v_aload_n hG dL_law_1106 rfl 2 rfl ?_
  refine v_aload_n hG dL_law_1107 rfl 3 rfl ?_
  refine v_iload_n hG dL_law_1108 rfl 0 rfl ?_
  refine v_iconst hG dL_law_1109 ?_
  refine v_iadd hG dL_law_1110 ?_
  refine v_sld hG hLG dL_law_1111 hL (by omega) ?_
  refine v_aload_n hG dL_law_1112 rfl 3 rfl ?_
  refine v_iload_n hG dL_law_1113 rfl 0 rfl ?_
  refine v_iconst hG dL_law_1114 ?_
  refine v_iadd hG dL_law_1115 ?_
  refine v_sld hG hLG dL_law_1116 hL (by omega) ?_
  refine v_aload_n hG dL_law_1117 rfl 3 rfl ?_
  refine v_iload_n hG dL_law_1118 rfl 0 rfl ?_
  refine v_iconst hG dL_law_1119 ?_
  refine v_iadd hG dL_law_1120 ?_
  refine v_sld hG hLG dL_law_1121 hL (by omega) ?_
  refine v_callV (k1' := 106 + 6 * i) (k2' := 3901 + 42 * i) hG dL_law_1122 zc_X11_book ⟨zl_L_165, zi_X11_book, zs_X11_book⟩ (fun l => CT_fr (A := fun q => a0 ≤ q) (F := F1 D a0 s im fr bY tr ln bl bo g lg) (fun q (hq : AC a0 q) => hq.1) F1_st (kc11_book l D (AC a0) ad K (S3 s ic t) Q qa tp s bo e uc lr nx ((xs (5 * (i : Int) + 1).toNat).toInt) ((xs (5 * (i : Int) + 2).toNat).toInt) ((xs (5 * (i : Int) + 3).toNat).toInt) (ii_rng _) (ii_rng _) (ii_rng _) hTB hN)) rfl (fun H h => cR11 H h.1) (fun H h => ⟨CW_3r (Sa_0) (Sa_1.trans S3_1) (Sa_2.trans S3_2) h.1, h.2⟩) ⟨by decide, by decide⟩ (Nat.add_zero _) (Nat.add_zero _) ⟨by show 106 + 6 * i ≤ 600000; omega, by show 3901 + 42 * i ≤ 7302250; omega⟩ (rest := []) (by rw [had]; rfl) (Nat.le_of_ble_eq_true rfl) (fun _ => [vI (a_book s ((xs (5 * (i : Int) + 1).toNat).toInt) ((xs (5 * (i : Int) + 2).toNat).toInt) ((xs (5 * (i : Int) + 3).toNat).toInt))]) (fun _ => rfl) (fun u hu => ?_)
  refine v_P (P' := fun H => CW D (AC a0) ad K (S3 (f_book s ((xs (5 * (i : Int) + 1).toNat).toInt) ((xs (5 * (i : Int) + 2).toNat).toInt) ((xs (5 * (i : Int) + 3).toNat).toInt)) ic t) Q qa tp bo e uc lr nx H ∧ F1 D a0 s im fr bY tr ln bl bo g lg H) (fun H h => ⟨CW_3 Sa_0 (Sa_1.trans S3_1) (Sa_2.trans S3_2) h.1, h.2⟩) ?_
  refine v_aload_n hG dL_law_1125 rfl 1 rfl ?_
  refine v_aload_n hG dL_law_1126 rfl 3 rfl ?_
  refine v_iload_n hG dL_law_1127 rfl 0 rfl ?_
  refine v_iconst hG dL_law_1128 ?_
  refine v_iadd hG dL_law_1129 ?_
  refine v_sld hG hLG dL_law_1130 hL (by omega) ?_
  refine v_aload_n hG dL_law_1131 rfl 3 rfl ?_
  refine v_iload_n hG dL_law_1132 rfl 0 rfl ?_
  refine v_iconst hG dL_law_1133 ?_
  refine v_iadd hG dL_law_1134 ?_
  refine v_sld hG hLG dL_law_1135 hL (by omega) ?_
  refine v_aload_n hG dL_law_1136 rfl 3 rfl ?_
  refine v_iload_n hG dL_law_1137 rfl 0 rfl ?_
  refine v_iconst hG dL_law_1138 ?_
  refine v_iadd hG dL_law_1139 ?_
  refine v_sld hG hLG dL_law_1140 hL (by omega) ?_
  refine v_callV (k1' := 106 + 6 * i) (k2' := 3901 + 42 * i) hG dL_law_1141 zc_X12_book ⟨zl_L_168, zi_X12_book, zs_X12_book⟩ (fun l => CT_fr (A := fun q => a0 ≤ q) (F := F2 D a0 ad K (S3 (f_book s ((xs (5 * (i : Int) + 1).toNat).toInt) ((xs (5 * (i : Int) + 2).toNat).toInt) ((xs (5 * (i : Int) + 3).toNat).toInt)) ic t) Q qa tp bo e uc lr nx) (fun q (hq : AM a0 q) => by have := hq.1; omega) F2_st (k_book l D (AM a0) (amL a0) s im fr bY tr ln bl bo g lg ((xs (5 * (i : Int) + 1).toNat).toInt) ((xs (5 * (i : Int) + 2).toNat).toInt) ((xs (5 * (i : Int) + 3).toNat).toInt) (ii_rng _) (ii_rng _) (ii_rng _) hN hBK)) rfl (fun H h => ⟨12, _, _, h.2.1.1 0 _ rfl, rfl, rfl⟩) (fun H h => ⟨h.2.1, h.1, h.2.2⟩) ⟨by decide, by decide⟩ (Nat.add_zero _) (Nat.add_zero _) ⟨by show 106 + 6 * i ≤ 600000; omega, by show 3901 + 42 * i ≤ 7302250; omega⟩ (rest := [vI (a_book s ((xs (5 * (i : Int) + 1).toNat).toInt) ((xs (5 * (i : Int) + 2).toNat).toInt) ((xs (5 * (i : Int) + 3).toNat).toInt))]) rfl (Nat.le_of_ble_eq_true rfl) (fun _ => [vI (a_book s ((xs (5 * (i : Int) + 1).toNat).toInt) ((xs (5 * (i : Int) + 2).toNat).toInt) ((xs (5 * (i : Int) + 3).toNat).toInt)), vI (a_book s ((xs (5 * (i : Int) + 1).toNat).toInt) ((xs (5 * (i : Int) + 2).toNat).toInt) ((xs (5 * (i : Int) + 3).toNat).toInt))]) (fun _ => rfl) (fun v hv => ?_)
  refine v_P (P' := LWP D a0 ad K Q qa tp (f_book s ((xs (5 * (i : Int) + 1).toNat).toInt) ((xs (5 * (i : Int) + 2).toNat).toInt) ((xs (5 * (i : Int) + 3).toNat).toInt)) im ic t fr bY tr ln bl bo g lg e uc lr nx) (fun H h => ⟨h.2.1, h.1, h.2.2⟩) ?_
  refine v_icmp_eqR (tgt := 1310) hG dL_law_1144 (by decide) ?_
  refine v_widen (k1' := 106 + 6 * (i + 1)) (k2' := 3901 + 42 * (i + 1)) (by omega) (by omega) ?_
  exact hE _ _ _ _ _ _ _ _ _ _ _ _ _ _ _ _ _ _ _ _ _ _ _ had (LI_s hLI (ST_book hS hZ))
set_option maxHeartbeats 4000000 in
set_option maxRecDepth 100000 in
theorem law_looked {D : Dx} {G : Gx} {b L a0 i : Nat} {xs : Nat → Int32} (hG : Ok D (fun q => a0 ≤ q) G cL_law 4 RL room_1) (hLG : LG b L xs a0 G) (hL : L ≤ 2560) (hi : 5 * i + 5 ≤ L) (hE : LEnd D G b a0 i) (ad : Nat → Nat) (K : Int → Int) (Q : Nat → Int → Int) (qa : Nat → Int → Int) (tp : Nat → Nat) (s im ic t fr bY tr ln bl bo g lg e uc lr nx : Int → Int) (SL SLi : List Int) (had : ad 0 = a0) (hLI : LI s im ic t g e Q qa SL SLi) : V G (106 + 6 * i) (3901 + 42 * i) (LWP D a0 ad K Q qa tp s im ic t fr bY tr ln bl bo g lg e uc lr nx) 1149 [(3, vI (5 * (i : Int))), (2, .ref (a0 + 97)), (1, .ref a0), (0, .ref b)] [] := by
  obtain ⟨⟨hS, hZ⟩, ⟨hSi, hZi⟩, ⟨hi43, hi44⟩, ⟨hPs, hPi⟩, hTt, hZm, hg1, hgi, he1, he0, hg8a, hg8b⟩ := id hLI
  obtain ⟨hN, hM, hPL, hHE, hT, hWW, hSE, hPN, hBK, hTS, h44, h0, h1p, h49, hZO⟩ := id hS
  have hTB := SI_TB hS
  have hTBi := SI_TB hSi
  have hCH := PLA_CHP hPs hS
  have hCHi := PLA_CHP hPi hSi
  refine v_aload_n hG dL_law_1149 rfl 2 rfl ?_
  refine v_callV (k1' := 106 + 6 * i) (k2' := 3901 + 42 * i) hG dL_law_1150 zc_X11_looked ⟨zl_L_169, zi_X11_looked, zs_X11_looked⟩ (fun l => CT_fr (A := fun q => a0 ≤ q) (F := F1 D a0 s im fr bY tr ln bl bo g lg) (fun q (hq : AC a0 q) => hq.1) F1_st (kc11_looked l D (AC a0) ad K (S3 s ic t) Q qa tp s bo e uc lr nx SL hTB hN hM hPL hCH hBK)) rfl (fun H h => cR11 H h.1) (fun H h => ⟨CW_3r (Sa_0) (Sa_1.trans S3_1) (Sa_2.trans S3_2) h.1, h.2⟩) ⟨by decide, by decide⟩ (Nat.add_zero _) (Nat.add_zero _) ⟨by show 106 + 6 * i ≤ 600000; omega, by show 3901 + 42 * i ≤ 7302250; omega⟩ (rest := []) (by rw [had]; rfl) (Nat.le_of_ble_eq_true rfl) (fun _ => [vI (a_looked s)]) (fun _ => rfl) (fun u hu => ?_)
  refine v_P (P' := fun H => CW D (AC a0) ad K (S3 s ic t) Q qa tp bo e uc lr nx H ∧ F1 D a0 s im fr bY tr ln bl bo g lg H) (fun H h => ⟨CW_3 Sa_0 (Sa_1.trans S3_1) (Sa_2.trans S3_2) h.1, h.2⟩) ?_
  refine v_aload_n hG dL_law_1153 rfl 1 rfl ?_
  refine v_callV (k1' := 106 + 6 * i) (k2' := 3901 + 42 * i) hG dL_law_1154 zc_X12_looked ⟨zl_L_172, zi_X12_looked, zs_X12_looked⟩ (fun l => CT_fr (A := fun q => a0 ≤ q) (F := F2 D a0 ad K (S3 s ic t) Q qa tp bo e uc lr nx) (fun q (hq : AM a0 q) => by have := hq.1; omega) F2_st (k_looked l D (AM a0) (amL a0) s im fr bY tr ln bl bo g lg hN hM hPL hBK)) rfl (fun H h => ⟨12, _, _, h.2.1.1 0 _ rfl, rfl, rfl⟩) (fun H h => ⟨h.2.1, h.1, h.2.2⟩) ⟨by decide, by decide⟩ (Nat.add_zero _) (Nat.add_zero _) ⟨by show 106 + 6 * i ≤ 600000; omega, by show 3901 + 42 * i ≤ 7302250; omega⟩ (rest := [vI (a_looked s)]) rfl (Nat.le_of_ble_eq_true rfl) (fun _ => [vI (a_looked s), vI (a_looked s)]) (fun _ => rfl) (fun v hv => ?_)
  refine v_P (P' := LWP D a0 ad K Q qa tp s im ic t fr bY tr ln bl bo g lg e uc lr nx) (fun H h => ⟨h.2.1, h.1, h.2.2⟩) ?_
  refine v_icmp_eqR (tgt := 1310) hG dL_law_1157 (by decide) ?_
  refine v_widen (k1' := 106 + 6 * (i + 1)) (k2' := 3901 + 42 * (i + 1)) (by omega) (by omega) ?_
  exact hE _ _ _ _ _ _ _ _ _ _ _ _ _ _ _ _ _ _ _ _ _ _ _ had (hLI)
set_option maxHeartbeats 4000000 in
set_option maxRecDepth 100000 in
theorem law_act {D : Dx} {G : Gx} {b L a0 i : Nat} {xs : Nat → Int32} (hG : Ok D (fun q => a0 ≤ q) G cL_law 4 RL room_1) (hLG : LG b L xs a0 G) (hL : L ≤ 2560) (hi : 5 * i + 5 ≤ L) (hE : LEnd D G b a0 i) (ad : Nat → Nat) (K : Int → Int) (Q : Nat → Int → Int) (qa : Nat → Int → Int) (tp : Nat → Nat) (s im ic t fr bY tr ln bl bo g lg e uc lr nx : Int → Int) (SL SLi : List Int) (had : ad 0 = a0) (hLI : LI s im ic t g e Q qa SL SLi) : V G (106 + 6 * i) (3901 + 42 * i) (LWP D a0 ad K Q qa tp s im ic t fr bY tr ln bl bo g lg e uc lr nx) 1162 [(3, vI (5 * (i : Int))), (2, .ref (a0 + 97)), (1, .ref a0), (0, .ref b)] [] := by
  obtain ⟨⟨hS, hZ⟩, ⟨hSi, hZi⟩, ⟨hi43, hi44⟩, ⟨hPs, hPi⟩, hTt, hZm, hg1, hgi, he1, he0, hg8a, hg8b⟩ := id hLI
  obtain ⟨hN, hM, hPL, hHE, hT, hWW, hSE, hPN, hBK, hTS, h44, h0, h1p, h49, hZO⟩ := id hS
  have hTB := SI_TB hS
  have hTBi := SI_TB hSi
  have hCH := PLA_CHP hPs hS
  have hCHi := PLA_CHP hPi hSi
  refine v_aload_n hG dL_law_1162 rfl 2 rfl ?_
  refine v_aload_n hG dL_law_1163 rfl 3 rfl ?_
  refine v_iload_n hG dL_law_1164 rfl 0 rfl ?_
  refine v_iconst hG dL_law_1165 ?_
  refine v_iadd hG dL_law_1166 ?_
  refine v_sld hG hLG dL_law_1167 hL (by omega) ?_
  refine v_aload_n hG dL_law_1168 rfl 3 rfl ?_
  refine v_iload_n hG dL_law_1169 rfl 0 rfl ?_
  refine v_iconst hG dL_law_1170 ?_
  refine v_iadd hG dL_law_1171 ?_
  refine v_sld hG hLG dL_law_1172 hL (by omega) ?_
  refine v_aload_n hG dL_law_1173 rfl 3 rfl ?_
  refine v_iload_n hG dL_law_1174 rfl 0 rfl ?_
  refine v_iconst hG dL_law_1175 ?_
  refine v_iadd hG dL_law_1176 ?_
  refine v_sld hG hLG dL_law_1177 hL (by omega) ?_
  refine v_callV (k1' := 106 + 6 * i) (k2' := 3901 + 42 * i) hG dL_law_1178 zc_X11_act ⟨zl_L_173, zi_X11_act, zs_X11_act⟩ (fun l => CT_fr (A := fun q => a0 ≤ q) (F := F1 D a0 s im fr bY tr ln bl bo g lg) (fun q (hq : AC a0 q) => hq.1) F1_st (kc11_act l D (AC a0) ad K (S3 s ic t) Q qa tp s bo e uc lr nx ((xs (5 * (i : Int) + 1).toNat).toInt) ((xs (5 * (i : Int) + 2).toNat).toInt) ((xs (5 * (i : Int) + 3).toNat).toInt) (ii_rng _) (ii_rng _) (ii_rng _) hN hM)) rfl (fun H h => cR11 H h.1) (fun H h => ⟨CW_3r (Sa_0) (Sa_1.trans S3_1) (Sa_2.trans S3_2) h.1, h.2⟩) ⟨by decide, by decide⟩ (Nat.add_zero _) (Nat.add_zero _) ⟨by show 106 + 6 * i ≤ 600000; omega, by show 3901 + 42 * i ≤ 7302250; omega⟩ (rest := []) (by rw [had]; rfl) (Nat.le_of_ble_eq_true rfl) (fun _ => [vI (a_act s ((xs (5 * (i : Int) + 1).toNat).toInt) ((xs (5 * (i : Int) + 2).toNat).toInt) ((xs (5 * (i : Int) + 3).toNat).toInt))]) (fun _ => rfl) (fun u hu => ?_)
  refine v_P (P' := fun H => CW D (AC a0) ad K (S3 s ic t) Q qa tp (rbo bo 0 (l_act s ((xs (5 * (i : Int) + 1).toNat).toInt) ((xs (5 * (i : Int) + 2).toNat).toInt))) (sU e 0 ((l_act s ((xs (5 * (i : Int) + 1).toNat).toInt) ((xs (5 * (i : Int) + 2).toNat).toInt)).length : Int)) uc lr nx H ∧ F1 D a0 s im fr bY tr ln bl bo g lg H) (fun H h => ⟨CW_3 Sa_0 (Sa_1.trans S3_1) (Sa_2.trans S3_2) h.1, h.2⟩) ?_
  refine v_aload_n hG dL_law_1181 rfl 1 rfl ?_
  refine v_aload_n hG dL_law_1182 rfl 3 rfl ?_
  refine v_iload_n hG dL_law_1183 rfl 0 rfl ?_
  refine v_iconst hG dL_law_1184 ?_
  refine v_iadd hG dL_law_1185 ?_
  refine v_sld hG hLG dL_law_1186 hL (by omega) ?_
  refine v_aload_n hG dL_law_1187 rfl 3 rfl ?_
  refine v_iload_n hG dL_law_1188 rfl 0 rfl ?_
  refine v_iconst hG dL_law_1189 ?_
  refine v_iadd hG dL_law_1190 ?_
  refine v_sld hG hLG dL_law_1191 hL (by omega) ?_
  refine v_aload_n hG dL_law_1192 rfl 3 rfl ?_
  refine v_iload_n hG dL_law_1193 rfl 0 rfl ?_
  refine v_iconst hG dL_law_1194 ?_
  refine v_iadd hG dL_law_1195 ?_
  refine v_sld hG hLG dL_law_1196 hL (by omega) ?_
  refine v_callV (k1' := 106 + 6 * i) (k2' := 3901 + 42 * i) hG dL_law_1197 zc_X12_act ⟨zl_L_176, zi_X12_act, zs_X12_act⟩ (fun l => CT_fr (A := fun q => a0 ≤ q) (F := F2 D a0 ad K (S3 s ic t) Q qa tp (rbo bo 0 (l_act s ((xs (5 * (i : Int) + 1).toNat).toInt) ((xs (5 * (i : Int) + 2).toNat).toInt))) (sU e 0 ((l_act s ((xs (5 * (i : Int) + 1).toNat).toInt) ((xs (5 * (i : Int) + 2).toNat).toInt)).length : Int)) uc lr nx) (fun q (hq : AM a0 q) => by have := hq.1; omega) F2_st (k_act l D (AM a0) (amL a0) s im fr bY tr ln bl bo g lg ((xs (5 * (i : Int) + 1).toNat).toInt) ((xs (5 * (i : Int) + 2).toNat).toInt) ((xs (5 * (i : Int) + 3).toNat).toInt) (ii_rng _) (ii_rng _) hN hM)) rfl (fun H h => ⟨12, _, _, h.2.1.1 0 _ rfl, rfl, rfl⟩) (fun H h => ⟨h.2.1, h.1, h.2.2⟩) ⟨by decide, by decide⟩ (Nat.add_zero _) (Nat.add_zero _) ⟨by show 106 + 6 * i ≤ 600000; omega, by show 3901 + 42 * i ≤ 7302250; omega⟩ (rest := [vI (a_act s ((xs (5 * (i : Int) + 1).toNat).toInt) ((xs (5 * (i : Int) + 2).toNat).toInt) ((xs (5 * (i : Int) + 3).toNat).toInt))]) rfl (Nat.le_of_ble_eq_true rfl) (fun _ => [vI (a_act s ((xs (5 * (i : Int) + 1).toNat).toInt) ((xs (5 * (i : Int) + 2).toNat).toInt) ((xs (5 * (i : Int) + 3).toNat).toInt)), vI (a_act s ((xs (5 * (i : Int) + 1).toNat).toInt) ((xs (5 * (i : Int) + 2).toNat).toInt) ((xs (5 * (i : Int) + 3).toNat).toInt))]) (fun _ => rfl) (fun v hv => ?_)
  have hv : v 8 = ((l_act s ((xs (5 * (i : Int) + 1).toNat).toInt) ((xs (5 * (i : Int) + 2).toNat).toInt)).length : Int) ∧ v 1 = g 1 := hv
  refine v_P (P' := LWP D a0 ad K Q qa tp s im ic t fr bY tr ln bl (rbo bo 0 (l_act s ((xs (5 * (i : Int) + 1).toNat).toInt) ((xs (5 * (i : Int) + 2).toNat).toInt))) v lg (sU e 0 ((l_act s ((xs (5 * (i : Int) + 1).toNat).toInt) ((xs (5 * (i : Int) + 2).toNat).toInt)).length : Int)) uc lr nx) (fun H h => ⟨h.2.1, h.1, h.2.2⟩) ?_
  refine v_icmp_eqR (tgt := 1310) hG dL_law_1200 (by decide) ?_
  refine v_widen (k1' := 106 + 6 * (i + 1)) (k2' := 3901 + 42 * (i + 1)) (by omega) (by omega) ?_
  exact hE _ _ _ _ _ _ _ _ _ _ _ _ _ _ _ _ _ _ _ _ _ _ _ had (LI_act hLI hv.2 hv.1 l_act_len)
set_option maxHeartbeats 4000000 in
set_option maxRecDepth 100000 in
theorem law_trace {D : Dx} {G : Gx} {b L a0 i : Nat} {xs : Nat → Int32} (hG : Ok D (fun q => a0 ≤ q) G cL_law 4 RL room_1) (hLG : LG b L xs a0 G) (hL : L ≤ 2560) (hi : 5 * i + 5 ≤ L) (hE : LEnd D G b a0 i) (ad : Nat → Nat) (K : Int → Int) (Q : Nat → Int → Int) (qa : Nat → Int → Int) (tp : Nat → Nat) (s im ic t fr bY tr ln bl bo g lg e uc lr nx : Int → Int) (SL SLi : List Int) (had : ad 0 = a0) (hLI : LI s im ic t g e Q qa SL SLi) : V G (106 + 6 * i) (3901 + 42 * i) (LWP D a0 ad K Q qa tp s im ic t fr bY tr ln bl bo g lg e uc lr nx) 1205 [(3, vI (5 * (i : Int))), (2, .ref (a0 + 97)), (1, .ref a0), (0, .ref b)] [] := by
  obtain ⟨⟨hS, hZ⟩, ⟨hSi, hZi⟩, ⟨hi43, hi44⟩, ⟨hPs, hPi⟩, hTt, hZm, hg1, hgi, he1, he0, hg8a, hg8b⟩ := id hLI
  obtain ⟨hN, hM, hPL, hHE, hT, hWW, hSE, hPN, hBK, hTS, h44, h0, h1p, h49, hZO⟩ := id hS
  have hTB := SI_TB hS
  have hTBi := SI_TB hSi
  have hCH := PLA_CHP hPs hS
  have hCHi := PLA_CHP hPi hSi
  refine v_aload_n hG dL_law_1205 rfl 2 rfl ?_
  refine v_aload_n hG dL_law_1206 rfl 3 rfl ?_
  refine v_iload_n hG dL_law_1207 rfl 0 rfl ?_
  refine v_iconst hG dL_law_1208 ?_
  refine v_iadd hG dL_law_1209 ?_
  refine v_sld hG hLG dL_law_1210 hL (by omega) ?_
  refine v_callV (k1' := 106 + 6 * i) (k2' := 3901 + 42 * i) hG dL_law_1211 zc_X11_trace ⟨zl_L_177, zi_X11_trace, zs_X11_trace⟩ (fun l => CT_fr (A := fun q => a0 ≤ q) (F := F1 D a0 s im fr bY tr ln bl bo g lg) (fun q (hq : AC a0 q) => hq.1) F1_st (kc11_trace l D (AC a0) ad K (S3 s ic t) Q qa tp s bo e uc lr nx ((xs (5 * (i : Int) + 1).toNat).toInt) (ii_rng _) (by omega))) rfl (fun H h => cR11 H h.1) (fun H h => ⟨CW_3r (Sa_0) (Sa_1.trans S3_1) (Sa_2.trans S3_2) h.1, h.2⟩) ⟨by decide, by decide⟩ (Nat.add_zero _) (Nat.add_zero _) ⟨by show 106 + 6 * i ≤ 600000; omega, by show 3901 + 42 * i ≤ 7302250; omega⟩ (rest := []) (by rw [had]; rfl) (Nat.le_of_ble_eq_true rfl) (fun _ => [vI (if 0 ≤ ((xs (5 * (i : Int) + 1).toNat).toInt) ∧ ((xs (5 * (i : Int) + 1).toNat).toInt) ≤ (if 20 ≤ e 0 then 20 else e 0) - 1 then bo ((xs (5 * (i : Int) + 1).toNat).toInt) else -1)]) (fun _ => rfl) (fun u hu => ?_)
  refine v_P (P' := fun H => CW D (AC a0) ad K (S3 s ic t) Q qa tp bo e uc lr nx H ∧ F1 D a0 s im fr bY tr ln bl bo g lg H) (fun H h => ⟨CW_3 Sa_0 (Sa_1.trans S3_1) (Sa_2.trans S3_2) h.1, h.2⟩) ?_
  refine v_aload_n hG dL_law_1214 rfl 1 rfl ?_
  refine v_aload_n hG dL_law_1215 rfl 3 rfl ?_
  refine v_iload_n hG dL_law_1216 rfl 0 rfl ?_
  refine v_iconst hG dL_law_1217 ?_
  refine v_iadd hG dL_law_1218 ?_
  refine v_sld hG hLG dL_law_1219 hL (by omega) ?_
  refine v_callV (k1' := 106 + 6 * i) (k2' := 3901 + 42 * i) hG dL_law_1220 zc_X12_trace ⟨zl_L_180, zi_X12_trace, zs_X12_trace⟩ (fun l => CT_fr (A := fun q => a0 ≤ q) (F := F2 D a0 ad K (S3 s ic t) Q qa tp bo e uc lr nx) (fun q (hq : AM a0 q) => by have := hq.1; omega) F2_st (k_trace l D (AM a0) (amL a0) s im fr bY tr ln bl bo g lg ((xs (5 * (i : Int) + 1).toNat).toInt) (ii_rng _) (by omega))) rfl (fun H h => ⟨12, _, _, h.2.1.1 0 _ rfl, rfl, rfl⟩) (fun H h => ⟨h.2.1, h.1, h.2.2⟩) ⟨by decide, by decide⟩ (Nat.add_zero _) (Nat.add_zero _) ⟨by show 106 + 6 * i ≤ 600000; omega, by show 3901 + 42 * i ≤ 7302250; omega⟩ (rest := [vI (if 0 ≤ ((xs (5 * (i : Int) + 1).toNat).toInt) ∧ ((xs (5 * (i : Int) + 1).toNat).toInt) ≤ (if 20 ≤ e 0 then 20 else e 0) - 1 then bo ((xs (5 * (i : Int) + 1).toNat).toInt) else -1)]) rfl (Nat.le_of_ble_eq_true rfl) (fun _ => [vI (a_trace bo g ((xs (5 * (i : Int) + 1).toNat).toInt)), vI (if 0 ≤ ((xs (5 * (i : Int) + 1).toNat).toInt) ∧ ((xs (5 * (i : Int) + 1).toNat).toInt) ≤ (if 20 ≤ e 0 then 20 else e 0) - 1 then bo ((xs (5 * (i : Int) + 1).toNat).toInt) else -1)]) (fun _ => rfl) (fun v hv => ?_)
  refine v_P (P' := LWP D a0 ad K Q qa tp s im ic t fr bY tr ln bl bo g lg e uc lr nx) (fun H h => ⟨h.2.1, h.1, h.2.2⟩) ?_
  rw [show (if 0 ≤ ((xs (5 * (i : Int) + 1).toNat).toInt) ∧ ((xs (5 * (i : Int) + 1).toNat).toInt) ≤ (if 20 ≤ e 0 then 20 else e 0) - 1 then bo ((xs (5 * (i : Int) + 1).toNat).toInt) else -1 : Int) = a_trace bo g ((xs (5 * (i : Int) + 1).toNat).toInt) from by unfold a_trace; rw [he0]]
  refine v_icmp_eqR (tgt := 1310) hG dL_law_1223 (by decide) ?_
  refine v_widen (k1' := 106 + 6 * (i + 1)) (k2' := 3901 + 42 * (i + 1)) (by omega) (by omega) ?_
  exact hE _ _ _ _ _ _ _ _ _ _ _ _ _ _ _ _ _ _ _ _ _ _ _ had (hLI)
set_option maxHeartbeats 4000000 in
set_option maxRecDepth 100000 in
theorem law_as {D : Dx} {G : Gx} {b L a0 i : Nat} {xs : Nat → Int32} (hG : Ok D (fun q => a0 ≤ q) G cL_law 4 RL room_1) (hLG : LG b L xs a0 G) (hL : L ≤ 2560) (hi : 5 * i + 5 ≤ L) (hE : LEnd D G b a0 i) (ad : Nat → Nat) (K : Int → Int) (Q : Nat → Int → Int) (qa : Nat → Int → Int) (tp : Nat → Nat) (s im ic t fr bY tr ln bl bo g lg e uc lr nx : Int → Int) (SL SLi : List Int) (had : ad 0 = a0) (hLI : LI s im ic t g e Q qa SL SLi) : V G (106 + 6 * i) (3901 + 42 * i) (LWP D a0 ad K Q qa tp s im ic t fr bY tr ln bl bo g lg e uc lr nx) 1228 [(3, vI (5 * (i : Int))), (2, .ref (a0 + 97)), (1, .ref a0), (0, .ref b)] [] := by
  obtain ⟨⟨hS, hZ⟩, ⟨hSi, hZi⟩, ⟨hi43, hi44⟩, ⟨hPs, hPi⟩, hTt, hZm, hg1, hgi, he1, he0, hg8a, hg8b⟩ := id hLI
  obtain ⟨hN, hM, hPL, hHE, hT, hWW, hSE, hPN, hBK, hTS, h44, h0, h1p, h49, hZO⟩ := id hS
  have hTB := SI_TB hS
  have hTBi := SI_TB hSi
  have hCH := PLA_CHP hPs hS
  have hCHi := PLA_CHP hPi hSi
  refine v_aload_n hG dL_law_1228 rfl 2 rfl ?_
  refine v_aload_n hG dL_law_1229 rfl 3 rfl ?_
  refine v_iload_n hG dL_law_1230 rfl 0 rfl ?_
  refine v_iconst hG dL_law_1231 ?_
  refine v_iadd hG dL_law_1232 ?_
  refine v_sld hG hLG dL_law_1233 hL (by omega) ?_
  refine v_aload_n hG dL_law_1234 rfl 3 rfl ?_
  refine v_iload_n hG dL_law_1235 rfl 0 rfl ?_
  refine v_iconst hG dL_law_1236 ?_
  refine v_iadd hG dL_law_1237 ?_
  refine v_sld hG hLG dL_law_1238 hL (by omega) ?_
  refine v_callV (k1' := 106 + 6 * i) (k2' := 3901 + 42 * i) hG dL_law_1239 zc_X11_as ⟨zl_L_181, zi_X11_as, zs_X11_as⟩ (fun l => CT_fr (A := fun q => a0 ≤ q) (F := F1 D a0 s im fr bY tr ln bl bo g lg) (fun q (hq : AC a0 q) => hq.1) F1_st (kc11_as l D (AC a0) ad K (S3 s ic t) Q qa tp s bo e uc lr nx ((xs (5 * (i : Int) + 1).toNat).toInt) ((xs (5 * (i : Int) + 2).toNat).toInt) (ii_rng _) (ii_rng _) hN hM)) rfl (fun H h => cR11 H h.1) (fun H h => ⟨CW_3r (Sa_0) (Sa_1.trans S3_1) (Sa_2.trans S3_2) h.1, h.2⟩) ⟨by decide, by decide⟩ (Nat.add_zero _) (Nat.add_zero _) ⟨by show 106 + 6 * i ≤ 600000; omega, by show 3901 + 42 * i ≤ 7302250; omega⟩ (rest := []) (by rw [had]; rfl) (Nat.le_of_ble_eq_true rfl) (fun _ => [vI (a_as s ((xs (5 * (i : Int) + 1).toNat).toInt) ((xs (5 * (i : Int) + 2).toNat).toInt))]) (fun _ => rfl) (fun u hu => ?_)
  refine v_P (P' := fun H => CW D (AC a0) ad K (S3 s ic t) Q qa tp bo e uc lr nx H ∧ F1 D a0 s im fr bY tr ln bl bo g lg H) (fun H h => ⟨CW_3 Sa_0 (Sa_1.trans S3_1) (Sa_2.trans S3_2) h.1, h.2⟩) ?_
  refine v_aload_n hG dL_law_1242 rfl 1 rfl ?_
  refine v_aload_n hG dL_law_1243 rfl 3 rfl ?_
  refine v_iload_n hG dL_law_1244 rfl 0 rfl ?_
  refine v_iconst hG dL_law_1245 ?_
  refine v_iadd hG dL_law_1246 ?_
  refine v_sld hG hLG dL_law_1247 hL (by omega) ?_
  refine v_aload_n hG dL_law_1248 rfl 3 rfl ?_
  refine v_iload_n hG dL_law_1249 rfl 0 rfl ?_
  refine v_iconst hG dL_law_1250 ?_
  refine v_iadd hG dL_law_1251 ?_
  refine v_sld hG hLG dL_law_1252 hL (by omega) ?_
  refine v_callV (k1' := 106 + 6 * i) (k2' := 3901 + 42 * i) hG dL_law_1253 zc_X12_as ⟨zl_L_184, zi_X12_as, zs_X12_as⟩ (fun l => CT_fr (A := fun q => a0 ≤ q) (F := F2 D a0 ad K (S3 s ic t) Q qa tp bo e uc lr nx) (fun q (hq : AM a0 q) => by have := hq.1; omega) F2_st (k_as l D (AM a0) (amL a0) s im fr bY tr ln bl bo g lg ((xs (5 * (i : Int) + 1).toNat).toInt) ((xs (5 * (i : Int) + 2).toNat).toInt) (ii_rng _) (ii_rng _) hN hM)) rfl (fun H h => ⟨12, _, _, h.2.1.1 0 _ rfl, rfl, rfl⟩) (fun H h => ⟨h.2.1, h.1, h.2.2⟩) ⟨by decide, by decide⟩ (Nat.add_zero _) (Nat.add_zero _) ⟨by show 106 + 6 * i ≤ 600000; omega, by show 3901 + 42 * i ≤ 7302250; omega⟩ (rest := [vI (a_as s ((xs (5 * (i : Int) + 1).toNat).toInt) ((xs (5 * (i : Int) + 2).toNat).toInt))]) rfl (Nat.le_of_ble_eq_true rfl) (fun _ => [vI (a_as s ((xs (5 * (i : Int) + 1).toNat).toInt) ((xs (5 * (i : Int) + 2).toNat).toInt)), vI (a_as s ((xs (5 * (i : Int) + 1).toNat).toInt) ((xs (5 * (i : Int) + 2).toNat).toInt))]) (fun _ => rfl) (fun v hv => ?_)
  refine v_P (P' := LWP D a0 ad K Q qa tp s im ic t fr bY tr ln bl bo g lg e uc lr nx) (fun H h => ⟨h.2.1, h.1, h.2.2⟩) ?_
  refine v_icmp_eqR (tgt := 1310) hG dL_law_1256 (by decide) ?_
  refine v_widen (k1' := 106 + 6 * (i + 1)) (k2' := 3901 + 42 * (i + 1)) (by omega) (by omega) ?_
  exact hE _ _ _ _ _ _ _ _ _ _ _ _ _ _ _ _ _ _ _ _ _ _ _ had (hLI)
set_option maxHeartbeats 4000000 in
set_option maxRecDepth 100000 in
theorem law_image {D : Dx} {G : Gx} {b L a0 i : Nat} {xs : Nat → Int32} (hG : Ok D (fun q => a0 ≤ q) G cL_law 4 RL room_1) (hLG : LG b L xs a0 G) (hL : L ≤ 2560) (hi : 5 * i + 5 ≤ L) (hE : LEnd D G b a0 i) (ad : Nat → Nat) (K : Int → Int) (Q : Nat → Int → Int) (qa : Nat → Int → Int) (tp : Nat → Nat) (s im ic t fr bY tr ln bl bo g lg e uc lr nx : Int → Int) (SL SLi : List Int) (had : ad 0 = a0) (hLI : LI s im ic t g e Q qa SL SLi) : V G (106 + 6 * i) (3901 + 42 * i) (LWP D a0 ad K Q qa tp s im ic t fr bY tr ln bl bo g lg e uc lr nx) 1261 [(3, vI (5 * (i : Int))), (2, .ref (a0 + 97)), (1, .ref a0), (0, .ref b)] [] := by
  obtain ⟨⟨hS, hZ⟩, ⟨hSi, hZi⟩, ⟨hi43, hi44⟩, ⟨hPs, hPi⟩, hTt, hZm, hg1, hgi, he1, he0, hg8a, hg8b⟩ := id hLI
  obtain ⟨hN, hM, hPL, hHE, hT, hWW, hSE, hPN, hBK, hTS, h44, h0, h1p, h49, hZO⟩ := id hS
  have hTB := SI_TB hS
  have hTBi := SI_TB hSi
  have hCH := PLA_CHP hPs hS
  have hCHi := PLA_CHP hPi hSi
  refine v_aload_n hG dL_law_1261 rfl 2 rfl ?_
  refine v_callV (k1' := 106 + 6 * i) (k2' := 3901 + 42 * i) hG dL_law_1262 zc_X11_image ⟨zl_L_185, zi_X11_image, zs_X11_image⟩ (fun l => CT_fr (A := fun q => a0 ≤ q) (F := F1 D a0 s im fr bY tr ln bl bo g lg) (fun q (hq : AC a0 q) => hq.1) F1_st (kc11_image l D (AC a0) ad K (S3 s ic t) Q qa tp s ic bo e uc lr nx SL hTBi hTB hN hM hPL hCH)) rfl (fun H h => cR11 H h.1) (fun H h => ⟨CW_3r (Sa_0) (Sa_1.trans Sc_1) (Sa_2.trans (Sc_2.trans S3_2)) h.1, h.2⟩) ⟨by decide, by decide⟩ (Nat.add_zero _) (Nat.add_zero _) ⟨by show 106 + 6 * i ≤ 600000; omega, by show 3901 + 42 * i ≤ 7302250; omega⟩ (rest := []) (by rw [had]; rfl) (Nat.le_of_ble_eq_true rfl) (fun _ => [vI (s 43)]) (fun _ => rfl) (fun u hu => ?_)
  refine v_P (P' := fun H => CW D (AC a0) ad K (S3 s s t) Q qa tp bo (sU e 1 1) uc lr nx H ∧ F1 D a0 s im fr bY tr ln bl bo g lg H) (fun H h => ⟨CW_3 Sa_0 (Sa_1.trans Sc_1) (Sa_2.trans (Sc_2.trans S3_2)) h.1, h.2⟩) ?_
  refine v_aload_n hG dL_law_1265 rfl 1 rfl ?_
  refine v_callV (k1' := 106 + 6 * i) (k2' := 3901 + 42 * i) hG dL_law_1266 zc_X12_image ⟨zl_L_188, zi_X12_image, zs_X12_image⟩ (fun l => CT_fr (A := fun q => a0 ≤ q) (F := F2 D a0 ad K (S3 s s t) Q qa tp bo (sU e 1 1) uc lr nx) (fun q (hq : AM a0 q) => by have := hq.1; omega) F2_st (k_image l D (AM a0) (amL a0) s im fr bY tr ln bl bo g lg)) rfl (fun H h => ⟨12, _, _, h.2.1.1 0 _ rfl, rfl, rfl⟩) (fun H h => ⟨h.2.1, h.1, h.2.2⟩) ⟨by decide, by decide⟩ (Nat.add_zero _) (Nat.add_zero _) ⟨by show 106 + 6 * i ≤ 600000; omega, by show 3901 + 42 * i ≤ 7302250; omega⟩ (rest := [vI (s 43)]) rfl (Nat.le_of_ble_eq_true rfl) (fun _ => [vI (s 43), vI (s 43)]) (fun _ => rfl) (fun v hv => ?_)
  refine v_P (P' := LWP D a0 ad K Q qa tp s (cpy 973 s im) s t fr bY tr ln bl bo (sU g 1 1) lg (sU e 1 1) uc lr nx) (fun H h => ⟨h.2.1, h.1, h.2.2⟩) ?_
  refine v_icmp_eqR (tgt := 1310) hG dL_law_1269 (by decide) ?_
  refine v_widen (k1' := 106 + 6 * (i + 1)) (k2' := 3901 + 42 * (i + 1)) (by omega) (by omega) ?_
  exact hE _ _ _ _ _ _ _ _ _ _ _ _ _ _ _ _ _ _ _ _ _ _ _ had (LI_image hLI)
set_option maxHeartbeats 4000000 in
set_option maxRecDepth 100000 in
theorem law_undo {D : Dx} {G : Gx} {b L a0 i : Nat} {xs : Nat → Int32} (hG : Ok D (fun q => a0 ≤ q) G cL_law 4 RL room_1) (hLG : LG b L xs a0 G) (hL : L ≤ 2560) (hi : 5 * i + 5 ≤ L) (hE : LEnd D G b a0 i) (ad : Nat → Nat) (K : Int → Int) (Q : Nat → Int → Int) (qa : Nat → Int → Int) (tp : Nat → Nat) (s im ic t fr bY tr ln bl bo g lg e uc lr nx : Int → Int) (SL SLi : List Int) (had : ad 0 = a0) (hLI : LI s im ic t g e Q qa SL SLi) : V G (106 + 6 * i) (3901 + 42 * i) (LWP D a0 ad K Q qa tp s im ic t fr bY tr ln bl bo g lg e uc lr nx) 1274 [(3, vI (5 * (i : Int))), (2, .ref (a0 + 97)), (1, .ref a0), (0, .ref b)] [] := by
  obtain ⟨⟨hS, hZ⟩, ⟨hSi, hZi⟩, ⟨hi43, hi44⟩, ⟨hPs, hPi⟩, hTt, hZm, hg1, hgi, he1, he0, hg8a, hg8b⟩ := id hLI
  obtain ⟨hN, hM, hPL, hHE, hT, hWW, hSE, hPN, hBK, hTS, h44, h0, h1p, h49, hZO⟩ := id hS
  have hTB := SI_TB hS
  have hTBi := SI_TB hSi
  have hCH := PLA_CHP hPs hS
  have hCHi := PLA_CHP hPi hSi
  refine v_aload_n hG dL_law_1274 rfl 2 rfl ?_
  refine v_callV (k1' := 106 + 6 * i) (k2' := 3901 + 42 * i) hG dL_law_1275 zc_X11_undo ⟨zl_L_189, zi_X11_undo, zs_X11_undo⟩ (fun l => CT_fr (A := fun q => a0 ≤ q) (F := F1 D a0 s im fr bY tr ln bl bo g lg) (fun q (hq : AC a0 q) => hq.1) F1_st (kc11_undo l D (AC a0) ad K (S3 s ic t) Q qa tp ic s bo e uc lr nx SLi hTB hTBi hSi.1 hSi.2.1 hSi.2.2.1 hCHi (by omega))) rfl (fun H h => cR11 H h.1) (fun H h => ⟨CW_3r (Sc_0.trans Sa_0) Sc_1 (Sc_2.trans (Sa_2.trans S3_2)) h.1, h.2⟩) ⟨by decide, by decide⟩ (Nat.add_zero _) (Nat.add_zero _) ⟨by show 106 + 6 * i ≤ 600000; omega, by show 3901 + 42 * i ≤ 7302250; omega⟩ (rest := []) (by rw [had]; rfl) (Nat.le_of_ble_eq_true rfl) (fun _ => [vI (if e 1 = 1 then ic 43 else -3)]) (fun _ => rfl) (fun u hu => ?_)
  refine v_P (P' := fun H => CW D (AC a0) ad K (S3 (if g 1 = 0 then s else cpy 973 im s) ic t) Q qa tp bo e uc lr nx H ∧ F1 D a0 s im fr bY tr ln bl bo g lg H) (fun H h => ⟨CW_3 (Sc_0.trans (Sa_0.trans (LI_undo hLI).2.1.symm)) Sc_1 (Sc_2.trans (Sa_2.trans S3_2)) h.1, h.2⟩) ?_
  refine v_aload_n hG dL_law_1278 rfl 1 rfl ?_
  refine v_callV (k1' := 106 + 6 * i) (k2' := 3901 + 42 * i) hG dL_law_1279 zc_X12_undo ⟨zl_L_192, zi_X12_undo, zs_X12_undo⟩ (fun l => CT_fr (A := fun q => a0 ≤ q) (F := F2 D a0 ad K (S3 (if g 1 = 0 then s else cpy 973 im s) ic t) Q qa tp bo e uc lr nx) (fun q (hq : AM a0 q) => by have := hq.1; omega) F2_st (k_undo l D (AM a0) (amL a0) s im fr bY tr ln bl bo g lg (by omega))) rfl (fun H h => ⟨12, _, _, h.2.1.1 0 _ rfl, rfl, rfl⟩) (fun H h => ⟨h.2.1, h.1, h.2.2⟩) ⟨by decide, by decide⟩ (Nat.add_zero _) (Nat.add_zero _) ⟨by show 106 + 6 * i ≤ 600000; omega, by show 3901 + 42 * i ≤ 7302250; omega⟩ (rest := [vI (if e 1 = 1 then ic 43 else -3)]) rfl (Nat.le_of_ble_eq_true rfl) (fun _ => [vI (if g 1 = 0 then -3 else cpy 973 im s 43), vI (if e 1 = 1 then ic 43 else -3)]) (fun _ => rfl) (fun v hv => ?_)
  refine v_P (P' := LWP D a0 ad K Q qa tp (if g 1 = 0 then s else cpy 973 im s) im ic t fr bY tr ln bl bo g lg e uc lr nx) (fun H h => ⟨h.2.1, h.1, h.2.2⟩) ?_
  rw [show (if e 1 = 1 then ic 43 else -3 : Int) = if g 1 = 0 then -3 else cpy 973 im s 43 from (LI_undo hLI).2.2.symm]
  refine v_icmp_eqR (tgt := 1310) hG dL_law_1282 (by decide) ?_
  refine v_widen (k1' := 106 + 6 * (i + 1)) (k2' := 3901 + 42 * (i + 1)) (by omega) (by omega) ?_
  exact hE _ _ _ _ _ _ _ _ _ _ _ _ _ _ _ _ _ _ _ _ _ _ _ had ((LI_undo hLI).1)
set_option maxHeartbeats 4000000 in
set_option maxRecDepth 100000 in
theorem law_count {D : Dx} {G : Gx} {b L a0 i : Nat} {xs : Nat → Int32} (hG : Ok D (fun q => a0 ≤ q) G cL_law 4 RL room_1) (hLG : LG b L xs a0 G) (hL : L ≤ 2560) (hi : 5 * i + 5 ≤ L) (hE : LEnd D G b a0 i) (ad : Nat → Nat) (K : Int → Int) (Q : Nat → Int → Int) (qa : Nat → Int → Int) (tp : Nat → Nat) (s im ic t fr bY tr ln bl bo g lg e uc lr nx : Int → Int) (SL SLi : List Int) (had : ad 0 = a0) (hLI : LI s im ic t g e Q qa SL SLi) : V G (106 + 6 * i) (3901 + 42 * i) (LWP D a0 ad K Q qa tp s im ic t fr bY tr ln bl bo g lg e uc lr nx) 1287 [(3, vI (5 * (i : Int))), (2, .ref (a0 + 97)), (1, .ref a0), (0, .ref b)] [] := by
  obtain ⟨⟨hS, hZ⟩, ⟨hSi, hZi⟩, ⟨hi43, hi44⟩, ⟨hPs, hPi⟩, hTt, hZm, hg1, hgi, he1, he0, hg8a, hg8b⟩ := id hLI
  obtain ⟨hN, hM, hPL, hHE, hT, hWW, hSE, hPN, hBK, hTS, h44, h0, h1p, h49, hZO⟩ := id hS
  have hTB := SI_TB hS
  have hTBi := SI_TB hSi
  have hCH := PLA_CHP hPs hS
  have hCHi := PLA_CHP hPi hSi
  refine v_aload_n hG dL_law_1287 rfl 2 rfl ?_
  refine v_aload_n hG dL_law_1288 rfl 3 rfl ?_
  refine v_iload_n hG dL_law_1289 rfl 0 rfl ?_
  refine v_iconst hG dL_law_1290 ?_
  refine v_iadd hG dL_law_1291 ?_
  refine v_sld hG hLG dL_law_1292 hL (by omega) ?_
  refine v_callV (k1' := 106 + 6 * i) (k2' := 3901 + 42 * i) hG dL_law_1293 zc_X11_count ⟨zl_L_193, zi_X11_count, zs_X11_count⟩ (fun l => CT_fr (A := fun q => a0 ≤ q) (F := F1 D a0 s im fr bY tr ln bl bo g lg) (fun q (hq : AC a0 q) => hq.1) F1_st (kc11_count l D (AC a0) ad K (S3 s ic t) Q qa tp s bo e uc lr nx ((xs (5 * (i : Int) + 1).toNat).toInt) (ii_rng _))) rfl (fun H h => cR11 H h.1) (fun H h => ⟨CW_3r (Sa_0) (Sa_1.trans S3_1) (Sa_2.trans S3_2) h.1, h.2⟩) ⟨by decide, by decide⟩ (Nat.add_zero _) (Nat.add_zero _) ⟨by show 106 + 6 * i ≤ 600000; omega, by show 3901 + 42 * i ≤ 7302250; omega⟩ (rest := []) (by rw [had]; rfl) (Nat.le_of_ble_eq_true rfl) (fun _ => [vI (if ((xs (5 * (i : Int) + 1).toNat).toInt) = 6 then e 0 else if 0 ≤ ((xs (5 * (i : Int) + 1).toNat).toInt) ∧ ((xs (5 * (i : Int) + 1).toNat).toInt) ≤ 5 then s (43 + ((xs (5 * (i : Int) + 1).toNat).toInt)) else -1)]) (fun _ => rfl) (fun u hu => ?_)
  refine v_P (P' := fun H => CW D (AC a0) ad K (S3 s ic t) Q qa tp bo e uc lr nx H ∧ F1 D a0 s im fr bY tr ln bl bo g lg H) (fun H h => ⟨CW_3 Sa_0 (Sa_1.trans S3_1) (Sa_2.trans S3_2) h.1, h.2⟩) ?_
  refine v_aload_n hG dL_law_1296 rfl 1 rfl ?_
  refine v_aload_n hG dL_law_1297 rfl 3 rfl ?_
  refine v_iload_n hG dL_law_1298 rfl 0 rfl ?_
  refine v_iconst hG dL_law_1299 ?_
  refine v_iadd hG dL_law_1300 ?_
  refine v_sld hG hLG dL_law_1301 hL (by omega) ?_
  refine v_callV (k1' := 106 + 6 * i) (k2' := 3901 + 42 * i) hG dL_law_1302 zc_X12_count ⟨zl_L_196, zi_X12_count, zs_X12_count⟩ (fun l => CT_fr (A := fun q => a0 ≤ q) (F := F2 D a0 ad K (S3 s ic t) Q qa tp bo e uc lr nx) (fun q (hq : AM a0 q) => by have := hq.1; omega) F2_st (k_count l D (AM a0) (amL a0) s im fr bY tr ln bl bo g lg ((xs (5 * (i : Int) + 1).toNat).toInt) (ii_rng _) (by omega))) rfl (fun H h => ⟨12, _, _, h.2.1.1 0 _ rfl, rfl, rfl⟩) (fun H h => ⟨h.2.1, h.1, h.2.2⟩) ⟨by decide, by decide⟩ (Nat.add_zero _) (Nat.add_zero _) ⟨by show 106 + 6 * i ≤ 600000; omega, by show 3901 + 42 * i ≤ 7302250; omega⟩ (rest := [vI (if ((xs (5 * (i : Int) + 1).toNat).toInt) = 6 then e 0 else if 0 ≤ ((xs (5 * (i : Int) + 1).toNat).toInt) ∧ ((xs (5 * (i : Int) + 1).toNat).toInt) ≤ 5 then s (43 + ((xs (5 * (i : Int) + 1).toNat).toInt)) else -1)]) rfl (Nat.le_of_ble_eq_true rfl) (fun _ => [vI (a_count s g ((xs (5 * (i : Int) + 1).toNat).toInt)), vI (if ((xs (5 * (i : Int) + 1).toNat).toInt) = 6 then e 0 else if 0 ≤ ((xs (5 * (i : Int) + 1).toNat).toInt) ∧ ((xs (5 * (i : Int) + 1).toNat).toInt) ≤ 5 then s (43 + ((xs (5 * (i : Int) + 1).toNat).toInt)) else -1)]) (fun _ => rfl) (fun v hv => ?_)
  refine v_P (P' := LWP D a0 ad K Q qa tp s im ic t fr bY tr ln bl bo g lg e uc lr nx) (fun H h => ⟨h.2.1, h.1, h.2.2⟩) ?_
  rw [show (if ((xs (5 * (i : Int) + 1).toNat).toInt) = 6 then e 0 else if 0 ≤ ((xs (5 * (i : Int) + 1).toNat).toInt) ∧ ((xs (5 * (i : Int) + 1).toNat).toInt) ≤ 5 then s (43 + ((xs (5 * (i : Int) + 1).toNat).toInt)) else -1 : Int) = a_count s g ((xs (5 * (i : Int) + 1).toNat).toInt) from by unfold a_count; rw [he0]]
  refine v_icmp_eqR (tgt := 1310) hG dL_law_1305 (by decide) ?_
  refine v_widen (k1' := 106 + 6 * (i + 1)) (k2' := 3901 + 42 * (i + 1)) (by omega) (by omega) ?_
  exact hE _ _ _ _ _ _ _ _ _ _ _ _ _ _ _ _ _ _ _ _ _ _ _ had (hLI)
