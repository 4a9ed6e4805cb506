/-! WHAT STAYS SO over the law's calls -/
theorem ZU_eq {s t : Int → Int} (h43 : t 43 = s 43) (h8 : s 43 ≤ 8) (h : ∀ q : Int, 11 ≤ q → q < 43 → t q = s q) (hz : ZU s) : ZU t := by
  intro m h0 h1 h2
  rw [h43] at h1
  rw [h (11 + m) (by omega) (by omega)] at h2
  rw [h (19 + m) (by omega) (by omega), h (27 + m) (by omega) (by omega), h (35 + m) (by omega) (by omega)]
  exact hz m h0 h1 h2
/-- a row that comes of another, plates as they were -/
def ST (s t : Int → Int) (SL : List Int) : Prop := SI t SL ∧ ZU t ∧ s 43 ≤ t 43 ∧ ∀ q : Int, q = 44 ∨ 258 ≤ q → t q = s q
theorem ST_id {s : Int → Int} {SL : List Int} (h : SI s SL) (hz : ZU s) : ST s s SL := ⟨h, hz, Int.le_refl _, fun _ _ => rfl⟩
theorem SI_TB {s : Int → Int} {SL : List Int} (h : SI s SL) : TB s := by
  obtain ⟨-, -, -, -, -, -, a7, a8, a9, a10, -⟩ := h
  exact ⟨a7.1, a8.1, a9.1, a10.1⟩
theorem ST_hand {s t : Int → Int} {SL : List Int} (hz : ZU s) (h8 : s 43 ≤ 8) (hS : SI t SL) (h : ∀ q : Int, ¬ ((45 ≤ q ∧ q < 49) ∨ (106 ≤ q ∧ q < 258)) → t q = s q) : ST s t SL :=
  ⟨hS, ZU_eq (h 43 (by omega)) h8 (fun q h1 h2 => h q (by omega)) hz, by rw [h 43 (by omega)]; omega, fun q hq => h q (by omega)⟩
theorem ST_feed {s : Int → Int} {SL : List Int} {x : Int} (h : SI s SL) (hz : ZU s) : ST s (f_feed s x) SL := by
  have hb := SI_TB h
  have h8 := h.1.2
  unfold TB at hb
  refine ST_hand hz h8 (SI_feed h) (fun q hq => ?_)
  unfold f_feed
  (repeat' split) <;> first | rfl | (simp only [sU_at]; (repeat' split) <;> first | rfl | omega)
theorem ST_see {s : Int → Int} {SL : List Int} {m d : Int} (h : SI s SL) (hz : ZU s) : ST s (f_see s m d) SL := by
  have hb := SI_TB h
  have h8 := h.1.2
  unfold TB at hb
  refine ST_hand hz h8 (SI_see h) (fun q hq => ?_)
  unfold f_see
  (repeat' split) <;> first | rfl | (simp only [sU_at]; (repeat' split) <;> first | rfl | omega)
theorem ST_plan {s : Int → Int} {SL : List Int} {w m : Int} (h : SI s SL) (hz : ZU s) : ST s (f_plan s w m) SL := by
  have hb := SI_TB h
  have h8 := h.1.2
  unfold TB at hb
  refine ST_hand hz h8 (SI_plan h) (fun q hq => ?_)
  unfold f_plan
  (repeat' split) <;> first | rfl | (simp only [sU_at]; (repeat' split) <;> first | rfl | omega)
theorem ST_book {s : Int → Int} {SL : List Int} {m n d : Int} (h : SI s SL) (hz : ZU s) : ST s (f_book s m n d) SL := by
  have hb := SI_TB h
  have h8 := h.1.2
  unfold TB at hb
  refine ST_hand hz h8 (SI_book h) (fun q hq => ?_)
  unfold f_book
  (repeat' split) <;> first | rfl | (simp only [sU_at]; (repeat' split) <;> first | rfl | omega)
theorem ST_lo {s t : Int → Int} {SL : List Int} (hS : SI t SL) (hz : ZU t) (h : LoEq s t) : ST s t SL := ⟨hS, hz, by rw [h 43 (by omega)]; omega, fun q hq => h q (by omega)⟩
theorem flawF_r9 {k r d : Int} (hd : 0 ≤ d) : 0 ≤ flawF k r d ∧ flawF k r d ≤ 3 := by
  unfold flawF
  (repeat' split) <;> omega
theorem ST_cut {s : Int → Int} {SL : List Int} {m d : Int} (h : SI s SL) (hz : ZU s) : ST s (f_cut s SL m d) SL := by
  have h8 := h.1.2
  unfold f_cut
  split
  · split
    · split
      · exact ST_id h hz
      · split
        · exact ST_id h hz
        · have hm8 : 0 ≤ m ∧ m < 8 := by omega
          refine ST_lo (SI_cut h (by omega) (flawF_r9 (by omega)) (by omega)) (fun k k0 k1 k2 => ?_) (p_cut_lo hm8)
          rw [p_cut_lo hm8 43 (by omega)] at k1
          rw [p_cut_at hm8] at k2
          by_cases e : k = m
          · subst e
            exfalso
            apply k2
            rw [if_neg (by omega), if_neg (by omega), if_neg (by omega), if_neg (by omega), if_pos rfl]
          · rw [if_neg (by omega), if_neg (by omega), if_neg (by omega), if_neg (by omega), if_neg (by omega), if_neg (by omega)] at k2
            have hk := hz k k0 k1 k2
            rw [p_cut_at hm8, p_cut_at hm8, p_cut_at hm8]
            refine ⟨?_, ?_, ?_⟩ <;> (repeat' split) <;> omega
    · exact ST_id h hz
  · exact ST_id h hz
theorem ST_rest {s : Int → Int} {SL : List Int} {n : Int} (h : SI s SL) (hz : ZU s) : ST s (f_rest s n) SL := by
  have h8 := h.1.2
  unfold f_rest
  split
  · split
    · exact ST_id h hz
    · refine ST_lo (SI_rest h (by omega) (by omega)) (ZU_eq (p_rest_lo s n 43 (by omega)) h8 (fun q h1 h2 => ?_) hz) (p_rest_lo s n)
      rw [p_rest_at, if_neg (by omega), if_neg (by omega)]
  · exact ST_id h hz
theorem ST_mend {s : Int → Int} {SL : List Int} {m : Int} (h : SI s SL) (hz : ZU s) : ST s (f_mend s m) SL := by
  have h8 := h.1.2
  unfold f_mend
  split
  · split
    · split
      · exact ST_id h hz
      · split
        · exact ST_id h hz
        · have hm8 : 0 ≤ m ∧ m < 8 := by omega
          refine ST_lo (SI_mend h (by omega) (by omega)) (fun k k0 k1 k2 => ?_) (p_mend_lo hm8)
          rw [p_mend_lo hm8 43 (by omega)] at k1
          rw [p_mend_at hm8] at k2
          by_cases e : k = m
          · subst e
            rw [if_neg (by omega), if_neg (by omega), if_neg (by omega), if_neg (by omega), if_neg (by omega)] at k2
            omega
          · rw [if_neg (by omega), if_neg (by omega), if_neg (by omega), if_neg (by omega), if_neg (by omega)] at k2
            have hk := hz k k0 k1 k2
            rw [p_mend_at hm8, p_mend_at hm8, p_mend_at hm8]
            refine ⟨?_, ?_, ?_⟩ <;> (repeat' split) <;> omega
    · exact ST_id h hz
  · exact ST_id h hz
theorem ST_over {s : Int → Int} {SL : List Int} {m : Int} (h : SI s SL) (hz : ZU s) : ST s (f_over s m) SL := by
  have h8 := h.1.2
  unfold f_over
  split
  · split
    · split
      · exact ST_id h hz
      · have hm8 : 0 ≤ m ∧ m < 8 := by omega
        refine ST_lo (SI_over h (by omega) (by omega)) (fun k k0 k1 k2 => ?_) (p_over_lo hm8)
        rw [p_over_lo hm8 43 (by omega)] at k1
        rw [p_over_at hm8] at k2
        by_cases e : k = m
        · subst e
          rw [if_neg (by omega), if_neg (by omega), if_neg (by omega), if_neg (by omega)] at k2
          omega
        · rw [if_neg (by omega), if_neg (by omega), if_neg (by omega), if_neg (by omega)] at k2
          have hk := hz k k0 k1 k2
          rw [p_over_at hm8, p_over_at hm8, p_over_at hm8]
          refine ⟨?_, ?_, ?_⟩ <;> (repeat' split) <;> omega
    · exact ST_id h hz
  · exact ST_id h hz
theorem ST_print {s : Int → Int} {SL : List Int} {n : Int} (h : SI s SL) (hz : ZU s) : ST s (f_print s n) SL := by
  have h8 := h.1.2
  unfold f_print
  split
  · refine ST_lo (SI_print h (by omega)) (fun k k0 k1 k2 => ?_) (p_print_lo h8)
    rw [p_print_lo h8 43 (by omega)] at k1
    have e : ∀ q : Int, q ≠ 1 → ¬ (27 ≤ q ∧ q < 27 + s 43) → p_print s n q = s q := fun q q1 q2 => by
      show capk _ _ _ = _
      unfold capk
      rw [if_neg q2, sU_ne q1, p_prints_at, if_neg q2, sU_ne q1]
    rw [e _ (by omega) (by omega)] at k2
    have hk := hz k k0 k1 k2
    rw [e (19 + k) (by omega) (by omega), e (35 + k) (by omega) (by omega)]
    refine ⟨hk.1, ?_, hk.2.2⟩
    show capk _ _ _ = _
    unfold capk
    rw [if_pos (by omega), sU_ne (by omega), p_prints_at, if_pos (by omega), sU_ne (by omega), show (27 + k - 16 : Int) = 11 + k by omega, sU_ne (by omega), if_neg k2, hk.2.1]
    unfold clamp
    rw [if_neg (by omega), if_neg (by omega)]
    omega
  · exact ST_id h hz
theorem ST_row {s : Int → Int} {SL : List Int} {m k n : Int} (h : SI s SL) (hz : ZU s) : ST s (f_row s m k n) SL := by
  unfold f_row
  split
  · split
    · split
      · split
        · obtain ⟨⟨n1, n2⟩, a2, a3, a4, a5, a6, a7, a8, a9, a10, a11, a12, a13, a14, a15⟩ := h
          have hn : ∀ q : Int, q ≠ 74 + 4 * m + k → sU s (74 + 4 * m + k) n q = s q := fun q hq => sU_ne hq
          refine ⟨⟨by unfold NM; rw [hn 43 (by omega)]; exact ⟨n1, n2⟩, fun x x0 x1 => ?_, PL_eq (fun q hq => hn q (by omega)) a3, HE_eq (fun q hq => hn q (by omega)) a4, by unfold TI; rw [hn 2 (by omega)]; exact a5, fun x x0 x1 => ?_, SE_eq (fun q hq => hn q (by omega)) a7, PN_eq (fun q hq => hn q (by omega)) a8, BK_eq (fun q hq => hn q (by omega)) a9, TS_eq (fun q hq => hn q (by omega)) a10, by rw [hn 44 (by omega)]; exact a11, by rw [hn 0 (by omega)]; exact a12, by rw [hn 1 (by omega)]; exact a13, by rw [hn 44 (by omega), hn 49 (by omega)]; exact a14, fun q hq => by rw [hn q (by omega)]; exact a15 q hq⟩, ZU_eq (hn 43 (by omega)) n2 (fun q h1 h2 => hn q (by omega)) hz, by rw [hn 43 (by omega)]; omega, fun q hq => hn q (by omega)⟩
          · rw [hn 43 (by omega)] at x1
            have hk := a2 x x0 x1
            unfold MK at hk ⊢
            rw [hn (50 + x) (by omega), hn (58 + x) (by omega), hn (66 + x) (by omega), hn (3 + x) (by omega), hn (11 + x) (by omega), hn (19 + x) (by omega), hn (27 + x) (by omega), hn (35 + x) (by omega)]
            refine ⟨hk.1, hk.2.1, hk.2.2.1, hk.2.2.2.1, hk.2.2.2.2.1, hk.2.2.2.2.2.1, hk.2.2.2.2.2.2.1, hk.2.2.2.2.2.2.2.1, fun q q0 q4 => ?_⟩
            rw [sU_at]
            split
            · omega
            · exact hk.2.2.2.2.2.2.2.2 q q0 q4
          · rw [hn 43 (by omega)] at x1
            rw [hn (27 + x) (by omega)]; exact a6 x x0 x1
        · exact ST_id h hz
      · exact ST_id h hz
    · exact ST_id h hz
  · exact ST_id h hz
theorem ST_mark {s : Int → Int} {SL : List Int} {kd vv pl dp : Int} (h : SI s SL) (hz : ZU s) : ST s (f_mark s kd vv pl dp) SL := by
  unfold f_mark
  split
  · split
    · split
      · split
        · split
          · exact ST_id h hz
          · obtain ⟨⟨n1, n2⟩, a2, a3, a4, a5, a6, a7, a8, a9, a10, a11, a12, a13, a14, a15⟩ := h
            have h8 : 0 ≤ s 43 ∧ s 43 < 8 := by omega
            have hp : p_mark s kd vv pl dp = sU (mkr s (s 43) kd vv pl dp) 43 (s 43 + 1) := rfl
            have e43 : p_mark s kd vv pl dp 43 = s 43 + 1 := by rw [hp]; exact sU_eq
            have hn : ∀ j : Int, j ≠ 43 → (j ≠ 50 + s 43 ∧ j ≠ 58 + s 43 ∧ j ≠ 66 + s 43 ∧ j ≠ 3 + s 43 ∧ j ≠ 11 + s 43 ∧ j ≠ 19 + s 43 ∧ j ≠ 27 + s 43 ∧ j ≠ 35 + s 43) → ¬ (74 + 4 * s 43 ≤ j ∧ j < 74 + 4 * s 43 + 4) → p_mark s kd vv pl dp j = s j := fun j h1 h2 h3 => by
              rw [hp, sU_ne h1, mkr_old h8 h2 h3]
            have hi : ∀ j : Int, (j < 3 ∨ (43 < j ∧ j < 50) ∨ 106 ≤ j) → p_mark s kd vv pl dp j = s j := fun j hj => hn j (by omega) (by omega) (by omega)
            obtain ⟨⟨b1, b2, b3⟩, ⟨b4, b5, b6, b7, b8⟩, b9⟩ := mkr_new (s := s) (kd := kd) (vv := vv) (pl := pl) (dp := dp) h8
            have hx : ∀ j : Int, j ≠ 43 → p_mark s kd vv pl dp j = mkr s (s 43) kd vv pl dp j := fun j hj => by rw [hp]; exact sU_ne hj
            refine ⟨⟨by unfold NM; rw [e43]; omega, fun x x0 x1 => ?_, PL_eq (fun q hq => hi q (by omega)) a3, HE_eq (fun q hq => hi q (by omega)) a4, by unfold TI; rw [hi 2 (by omega)]; exact a5, fun x x0 x1 => ?_, ?_, ?_, ?_, TS_eq (fun q hq => hi q (by omega)) a10, by rw [hi 44 (by omega)]; exact a11, by rw [hi 0 (by omega)]; exact a12, by rw [hi 1 (by omega)]; exact a13, by rw [hi 44 (by omega), hi 49 (by omega)]; exact a14, fun q hq => by rw [hi q (by omega)]; exact a15 q hq⟩, fun x x0 x1 x2 => ?_, by rw [e43]; omega, fun q hq => hi q (by omega)⟩
            · rw [e43] at x1
              by_cases e : x = s 43
              · subst e
                unfold MK
                rw [hx _ (by omega), hx _ (by omega), hx _ (by omega), hx _ (by omega), hx _ (by omega), hx _ (by omega), hx _ (by omega), hx _ (by omega), b1, b2, b3, b4, b5, b6, b7, b8]
                refine ⟨by omega, by omega, by omega, by omega, by omega, by omega, by omega, by omega, fun q q0 q4 => ?_⟩
                rw [hx _ (by omega), b9 q q0 q4]; omega
              · have hk := a2 x x0 (by omega)
                unfold MK at hk ⊢
                rw [hn (50 + x) (by omega) (by omega) (by omega), hn (58 + x) (by omega) (by omega) (by omega), hn (66 + x) (by omega) (by omega) (by omega), hn (3 + x) (by omega) (by omega) (by omega), hn (11 + x) (by omega) (by omega) (by omega), hn (19 + x) (by omega) (by omega) (by omega), hn (27 + x) (by omega) (by omega) (by omega), hn (35 + x) (by omega) (by omega) (by omega)]
                refine ⟨hk.1, hk.2.1, hk.2.2.1, hk.2.2.2.1, hk.2.2.2.2.1, hk.2.2.2.2.2.1, hk.2.2.2.2.2.2.1, hk.2.2.2.2.2.2.2.1, fun q q0 q4 => ?_⟩
                rw [hn _ (by omega) (by omega) (by omega)]
                exact hk.2.2.2.2.2.2.2.2 q q0 q4
            · rw [e43] at x1
              by_cases e : x = s 43
              · subst e; rw [hx _ (by omega), b7]; omega
              · rw [hn (27 + x) (by omega) (by omega) (by omega)]; exact a6 x x0 (by omega)
            · unfold SE at a7 ⊢
              rw [hi 45 (by omega), e43]
              refine ⟨a7.1, fun k k0 k1 => ?_⟩
              rw [hi (106 + k) (by omega), hi (112 + k) (by omega)]
              have := a7.2 k k0 k1
              omega
            · unfold PN at a8 ⊢
              rw [hi 46 (by omega), e43]
              refine ⟨a8.1, fun k k0 k1 => ?_⟩
              rw [hi (118 + k) (by omega), hi (126 + k) (by omega)]
              have := a8.2 k k0 k1
              exact ⟨this.1, fun q => by have := this.2 q; omega⟩
            · unfold BK at a9 ⊢
              rw [hi 47 (by omega), e43]
              refine ⟨a9.1, fun k k0 k1 => ?_⟩
              rw [hi (134 + k) (by omega), hi (142 + k) (by omega), hi (150 + k) (by omega)]
              have := a9.2 k k0 k1
              omega
            · rw [e43] at x1
              by_cases e : x = s 43
              · subst e
                rw [hx _ (by omega), hx _ (by omega), hx _ (by omega)]
                exact ⟨b6, b7, b8⟩
              · rw [hn (11 + x) (by omega) (by omega) (by omega)] at x2
                rw [hn (19 + x) (by omega) (by omega) (by omega), hn (27 + x) (by omega) (by omega) (by omega), hn (35 + x) (by omega) (by omega) (by omega)]
                exact hz x x0 (by omega) x2
        · exact ST_id h hz
      · exact ST_id h hz
    · exact ST_id h hz
  · exact ST_id h hz
/-! plates -/
def HL (s : Int → Int) (p : Int) (L : List Int) : Prop := L.length ≤ 140 ∧ s (268 + p) = (L.length : Int) ∧ ∀ j : Nat, j < L.length → s (273 + 140 * p + (j : Int)) = L.getD j 0
def PLA (Q qa : Nat → Int → Int) (s : Int → Int) : Prop := (PLS Q qa 5 [] ∧ Q 5 4 = 20 ∧ Q 5 5 = 8) ∧ ∀ p : Nat, (p : Int) < s 44 → ∃ L : List Int, PLS Q qa p L ∧ HL s p L ∧ Q p 4 = (if s (258 + p) < 1 then 1 else s (258 + p)) ∧ Q p 5 = s (263 + p)
theorem PLA_eq {Q qa : Nat → Int → Int} {s t : Int → Int} (h : ∀ q : Int, q = 44 ∨ 258 ≤ q → t q = s q) (hp : PLA Q qa s) : PLA Q qa t := by
  refine ⟨hp.1, fun p hp1 => ?_⟩
  rw [h 44 (by omega)] at hp1
  obtain ⟨L, l1, l2, l3, l4⟩ := hp.2 p hp1
  refine ⟨L, l1, ⟨l2.1, by rw [h _ (by omega)]; exact l2.2.1, fun j hj => by rw [h _ (by omega)]; exact l2.2.2 j hj⟩, ?_, ?_⟩
  · rw [h (258 + p) (by omega)]; exact l3
  · rw [h (263 + p) (by omega)]; exact l4
theorem PLA_CHP {Q qa : Nat → Int → Int} {s : Int → Int} {SL : List Int} (hp : PLA Q qa s) (h : SI s SL) : CHP Q qa s SL := by
  obtain ⟨-, -, a3, a4, -, -, -, -, -, -, a11, -, -, a14, -⟩ := h
  unfold CHP hc q_wear q_mend
  rcases a4.2.2 with ⟨q1, q2⟩ | ⟨q1, q2, q3, q4⟩
  · rw [if_pos q1, if_pos q1, if_pos q1, q2]
    exact ⟨by decide, hp.1.1, hp.1.2.1, hp.1.2.2⟩
  · have hn : ¬ s 49 = -1 := by omega
    rw [if_neg hn, if_neg hn, if_neg hn]
    have hc9 : ((s 49).toNat : Int) = s 49 := by omega
    obtain ⟨L, l1, l2, l3, l4⟩ := hp.2 (s 49).toNat (by omega)
    rw [hc9] at l3 l4
    unfold HL at l2
    rw [hc9] at l2
    have hLS : L = SL := by
      have e1 : L.length = SL.length := by have := l2.2.1; omega
      apply List.ext_getElem? 
      intro j
      by_cases hj : j < L.length
      · have g1 := l2.2.2 j hj
        have g2 := q4 j (by omega)
        rw [g1] at g2
        rw [List.getD_eq_getElem?_getD, List.getD_eq_getElem?_getD] at g2
        rw [List.getElem?_eq_getElem hj, List.getElem?_eq_getElem (show j < SL.length by omega)] at g2 ⊢
        exact congrArg some g2
      · rw [List.getElem?_eq_none (by omega), List.getElem?_eq_none (by omega)]
    subst hLS
    exact ⟨by omega, l1, l3, l4⟩
theorem plate_at {s : Int → Int} (hT : TS s) (ha : 0 ≤ s 44 ∧ s 44 ≤ 4) (j : Int) (h : 258 ≤ j) (h1 : j ≠ 258 + s 44) (h2 : j ≠ 263 + s 44) (h3 : j ≠ 268 + s 44) (h4 : ¬ (273 + 140 * s 44 ≤ j ∧ j < 273 + 140 * s 44 + 140)) : f_plate s j = s j := by
  have hq := (plR_PQ hT ha).2.2.2.2 j h1 h2 h3 h4
  have e : rs0 s j = s j := by
    unfold rs0
    rw [sU_ne (by omega), sU_ne (by omega), sU_ne (by omega), sU_ne (by omega)]
  have h5 : ¬ s 44 = 5 := by omega
  unfold f_plate
  rw [if_neg h5]
  split
  · rw [sU_ne (by omega), sU_ne (by omega), hq, e]
  · rw [hq, e]
theorem plate_num {s : Int → Int} (hT : TS s) (ha : 0 ≤ s 44 ∧ s 44 ≤ 4) : f_plate s (258 + s 44) = (plR s).2 (258 + s 44) ∧ f_plate s (263 + s 44) = (plR s).2 (263 + s 44) ∧ f_plate s (268 + s 44) = (plR s).2 (268 + s 44) ∧ ∀ j : Int, 273 ≤ j → f_plate s j = (plR s).2 j := by
  have h5 : ¬ s 44 = 5 := by omega
  unfold f_plate
  rw [if_neg h5]
  split
  · refine ⟨?_, ?_, ?_, fun j hj => ?_⟩ <;> rw [sU_ne (by omega), sU_ne (by omega)]
  · exact ⟨rfl, rfl, rfl, fun _ _ => rfl⟩
theorem plate_lo {s : Int → Int} (hT : TS s) (ha : 0 ≤ s 44 ∧ s 44 ≤ 4) (j : Int) (h : j < 258) (h48 : j ≠ 48) (h44 : j ≠ 44) (h49 : j ≠ 49) : f_plate s j = s j := by
  by_cases hok : okP s
  · rw [(fp_yes hT ha hok).2 j h, sU_ne h44, sU_ne h49, sU_ne h48]
  · rw [(fp_no hT ha hok).2 j h, sU_ne h48]
theorem SI_plate {s : Int → Int} {SL : List Int} (h : SI s SL) (h5 : ¬ s 44 = 5) : SI (f_plate s) (@ite _ (okP s) (Classical.propDecidable _) (plS s) SL) ∧ f_plate s 44 = (@ite _ (okP s) (Classical.propDecidable _) (s 44 + 1) (s 44)) := by
  obtain ⟨⟨n1, n2⟩, a2, a3, a4, a5, a6, a7, a8, a9, a10, a11, a12, a13, a14, a15⟩ := h
  have ha : 0 ≤ s 44 ∧ s 44 ≤ 4 := by omega
  have hq := plR_PQ a10 ha
  have hnum := plate_num a10 ha
  have hlo : ∀ j : Int, j < 258 → j ≠ 48 → j ≠ 44 → j ≠ 49 → f_plate s j = s j := fun j => plate_lo a10 ha j
  have h48 : f_plate s 48 = 0 := by
    by_cases hok : okP s
    · rw [(fp_yes a10 ha hok).2 48 (by decide), sU_ne (by decide), sU_ne (by decide), sU_eq]
    · rw [(fp_no a10 ha hok).2 48 (by decide), sU_eq]
  have hat : ∀ j : Int, 258 ≤ j → j ≠ 258 + s 44 → j ≠ 263 + s 44 → j ≠ 268 + s 44 → ¬ (273 + 140 * s 44 ≤ j ∧ j < 273 + 140 * s 44 + 140) → f_plate s j = s j := fun j => plate_at a10 ha j
  have hp5 : ∀ p : Int, 0 ≤ p → p < 5 → (0 ≤ f_plate s (258 + p) ∧ f_plate s (258 + p) ≤ 99) ∧ (0 ≤ f_plate s (263 + p) ∧ f_plate s (263 + p) ≤ 99) := fun p p0 p1 => by
    by_cases e : p = s 44
    · subst e
      rw [hnum.1, hnum.2.1]
      exact ⟨hq.2.2.1, hq.2.2.2.1⟩
    · rw [hat _ (by omega) (by omega) (by omega) (by omega) (by omega), hat _ (by omega) (by omega) (by omega) (by omega) (by omega)]
      exact a3.2 p p0 p1
  have hN : NM (f_plate s) := by unfold NM; rw [hlo 43 (by decide) (by decide) (by decide) (by decide)]; exact ⟨n1, n2⟩
  have hM : GM (f_plate s) := fun m h1 h2 => by
    rw [hlo 43 (by decide) (by decide) (by decide) (by decide)] at h2
    exact MK_eq ⟨h1, by omega⟩ (fun q q1 q2 q3 => hlo q (by omega) (by omega) (by omega) (by omega)) (a2 m h1 h2)
  have hW : WW (f_plate s) := fun m h1 h2 => by
    rw [hlo 43 (by decide) (by decide) (by decide) (by decide)] at h2
    rw [hlo (27 + m) (by omega) (by omega) (by omega) (by omega)]
    exact a6 m h1 h2
  have hT5 : TI (f_plate s) := by unfold TI; rw [hlo 2 (by decide) (by decide) (by decide) (by decide)]; exact a5
  have hSE : SE (f_plate s) := SE_eq (fun q hq => hlo q (by omega) (by omega) (by omega) (by omega)) a7
  have hPN : PN (f_plate s) := PN_eq (fun q hq => hlo q (by omega) (by omega) (by omega) (by omega)) a8
  have hBK : BK (f_plate s) := BK_eq (fun q hq => hlo q (by omega) (by omega) (by omega) (by omega)) a9
  have hTS : TS (f_plate s) := ⟨by rw [h48]; omega, fun p p0 p1 => by rw [h48] at p1; omega⟩
  have h0 : f_plate s 0 = s 0 := hlo 0 (by decide) (by decide) (by decide) (by decide)
  have h1 : f_plate s 1 = s 1 := hlo 1 (by decide) (by decide) (by decide) (by decide)
  have hZO : ZO (f_plate s) := fun q hq => by
    by_cases e : q < 258
    · rw [hlo q e (by omega) (by omega) (by omega)]; exact a15 q hq
    · rw [hat q (by omega) (by omega) (by omega) (by omega) (by omega)]; exact a15 q hq
  by_cases hok : okP s
  · have e44 : f_plate s 44 = s 44 + 1 := by rw [(fp_yes a10 ha hok).2 44 (by decide), sU_eq]
    have e49 : f_plate s 49 = s 44 := by rw [(fp_yes a10 ha hok).2 49 (by decide), sU_ne (by decide), sU_eq]
    rw [if_pos hok, if_pos hok]
    refine ⟨⟨hN, hM, ⟨by rw [e49]; omega, hp5⟩, plate_HE a10 ha hok, hT5, hW, hSE, hPN, hBK, hTS, by rw [e44]; omega, by rw [h0]; exact a12, by rw [h1]; exact a13, by rw [e44, e49]; omega, hZO⟩, e44⟩
  · have e44 : f_plate s 44 = s 44 := by rw [(fp_no a10 ha hok).2 44 (by decide), sU_ne (by decide)]
    have e49 : f_plate s 49 = s 49 := by rw [(fp_no a10 ha hok).2 49 (by decide), sU_ne (by decide)]
    rw [if_neg hok, if_neg hok]
    refine ⟨⟨hN, hM, ⟨by rw [e49]; exact a3.1, hp5⟩, ?_, hT5, hW, hSE, hPN, hBK, hTS, by rw [e44]; exact a11, by rw [h0]; exact a12, by rw [h1]; exact a13, by rw [e44, e49]; exact a14, hZO⟩, e44⟩
    unfold HE at a4 ⊢
    rw [e49]
    refine ⟨a4.1, a4.2.1, ?_⟩
    rcases a4.2.2 with q | ⟨q1, q2, q3, q4⟩
    · exact Or.inl q
    · have := a4.2.1
      exact Or.inr ⟨q1, q2, by rw [hat _ (by omega) (by omega) (by omega) (by omega) (by omega)]; exact q3, fun j hj => by rw [hat _ (by omega) (by omega) (by omega) (by omega) (by omega)]; exact q4 j hj⟩
theorem PLS_eq {Q qa Q' qa' : Nat → Int → Int} {p : Nat} {L : List Int} (h : Q' p = Q p) (h0 : qa' (6 * 0 + p) = qa (6 * 0 + p)) (h1 : qa' (6 * 1 + p) = qa (6 * 1 + p)) (h2 : qa' (6 * 2 + p) = qa (6 * 2 + p)) (h3 : qa' (6 * 3 + p) = qa (6 * 3 + p)) (hp : PLS Q qa p L) : PLS Q' qa' p L := by
  obtain ⟨CL, c1, c2, c3⟩ := hp
  exact ⟨CL, c1, by rw [h, h0, h1, h2, h3]; exact c2, c3⟩
theorem q4_off {qa : Nat → Int → Int} {p c j : Nat} {w0 w1 w2 w3 : Int → Int} (hp : p < 6) (hc : c < 6) (h : c ≠ p) (hj : j < 4) : q4 qa p w0 w1 w2 w3 (6 * j + c) = qa (6 * j + c) := by
  unfold q4
  rw [if_neg (by omega), if_neg (by omega), if_neg (by omega), if_neg (by omega)]
/-- plates that are not written on stay -/
theorem PLA_off {Q qa : Nat → Int → Int} {s q w0 w1 w2 w3 : Int → Int} {p : Nat} (hp5 : p < 5) (hs : s 44 ≤ (p : Int)) (h : PLA Q qa s) : PLA (uS Q p q) (q4 qa p w0 w1 w2 w3) s := by
  have key : ∀ c : Nat, c < 6 → c ≠ p → uS Q p q c = Q c ∧ ∀ j, j < 4 → q4 qa p w0 w1 w2 w3 (6 * j + c) = qa (6 * j + c) := fun c hc hn => ⟨uS_ne hn, fun j hj => q4_off (by omega) hc hn hj⟩
  refine ⟨?_, fun c hc => ?_⟩
  · obtain ⟨k1, k2⟩ := key 5 (by omega) (by omega)
    rw [k1]
    exact ⟨PLS_eq k1 (k2 0 (by omega)) (k2 1 (by omega)) (k2 2 (by omega)) (k2 3 (by omega)) h.1.1, h.1.2⟩
  · obtain ⟨k1, k2⟩ := key c (by omega) (by omega)
    rw [k1]
    obtain ⟨L, l1, l2⟩ := h.2 c hc
    exact ⟨L, PLS_eq k1 (k2 0 (by omega)) (k2 1 (by omega)) (k2 2 (by omega)) (k2 3 (by omega)) l1, l2⟩
theorem PLA_plate {Q qa : Nat → Int → Int} {s q w0 w1 w2 w3 : Int → Int} {SL : List Int} {p : Nat} (hS : SI s SL) (h5 : ¬ s 44 = 5) (hp : (p : Int) = s 44) (hL : okP s → PLT s q w0 w1 w2 w3) (h : PLA Q qa s) : PLA (uS Q p q) (q4 qa p w0 w1 w2 w3) (f_plate s) := by
  have hoff := PLA_off (q := q) (w0 := w0) (w1 := w1) (w2 := w2) (w3 := w3) (p := p) (by have := hS.2.2.2.2.2.2.2.2.2.2.1; omega) (by omega) h
  obtain ⟨hI, h44⟩ := SI_plate hS h5
  obtain ⟨n, a2, a3, a4, a5, a6, a7, a8, a9, a10, a11, -⟩ := hS
  have ha : 0 ≤ s 44 ∧ s 44 ≤ 4 := by omega
  have hat : ∀ j : Int, 258 ≤ j → j ≠ 258 + s 44 → j ≠ 263 + s 44 → j ≠ 268 + s 44 → ¬ (273 + 140 * s 44 ≤ j ∧ j < 273 + 140 * s 44 + 140) → f_plate s j = s j := fun j => plate_at a10 ha j
  refine ⟨hoff.1, fun c hc => ?_⟩
  by_cases e : c = p
  · subst e
    by_cases hok : okP s
    · obtain ⟨⟨CL, c1, c2⟩, c3, c4⟩ := hL hok
      have hnum := plate_num a10 ha
      have hq := plR_PQ a10 ha
      have hlen := plS_len a10 ha
      have hwf : wfS (plS s) 0 := (plate_HE a10 ha hok).1
      refine ⟨plS s, ⟨CL, c1, ?_, hwf⟩, ⟨by omega, ?_, fun j hj => ?_⟩, ?_, ?_⟩
      · rw [uS_eq, q4_0 (by omega), q4_1 (by omega), q4_2 (by omega), q4_3 (by omega)]; exact c2
      · rw [hp, hnum.2.2.1]; exact hq.1
      · rw [hp, hnum.2.2.2 _ (by omega)]; exact hq.2.1 j hj
      · rw [uS_eq, hp, hnum.1]; exact c3
      · rw [uS_eq, hp, hnum.2.1]; exact c4
    · rw [h44, if_neg hok] at hc
      omega
  · have hc2 : (c : Int) < s 44 := by
      rw [h44] at hc
      split at hc <;> omega
    obtain ⟨L, l1, l2, l3, l4⟩ := hoff.2 c hc2
    have hl := l2.1
    refine ⟨L, l1, ⟨l2.1, by rw [hat _ (by omega) (by omega) (by omega) (by omega) (by omega)]; exact l2.2.1, fun j hj => by rw [hat _ (by omega) (by omega) (by omega) (by omega) (by omega)]; exact l2.2.2 j hj⟩, ?_, ?_⟩
    · rw [hat (258 + c) (by omega) (by omega) (by omega) (by omega) (by omega)]; exact l3
    · rw [hat (263 + c) (by omega) (by omega) (by omega) (by omega) (by omega)]; exact l4
/-! the law's state -/
def LI (s im ic t g e : Int → Int) (Q qa : Nat → Int → Int) (SL SLi : List Int) : Prop := (SI s SL ∧ ZU s) ∧ (SI ic SLi ∧ ZU ic) ∧ (ic 43 ≤ s 43 ∧ ic 44 ≤ s 44) ∧ (PLA Q qa s ∧ PLA Q qa ic) ∧ TB t ∧ ZO im ∧ (g 1 = 0 ∨ g 1 = 1) ∧ (g 1 = 1 → im = ic) ∧ (e 1 = g 1 ∧ e 0 = g 8 ∧ 0 ≤ g 8 ∧ g 8 ≤ 1000)
section LIS
variable {s im ic t g e : Int → Int} {Q qa : Nat → Int → Int} {SL SLi : List Int}
theorem LI_s {s' : Int → Int} (h : LI s im ic t g e Q qa SL SLi) (hs : ST s s' SL) : LI s' im ic t g e Q qa SL SLi := by
  obtain ⟨b1, b2, b3, b4, b5, b6, b7, b8, b9⟩ := h
  obtain ⟨c1, c2, c3, c4⟩ := hs
  exact ⟨⟨c1, c2⟩, b2, ⟨by omega, by rw [c4 44 (by omega)]; exact b3.2⟩, ⟨PLA_eq c4 b4.1, b4.2⟩, b5, b6, b7, b8, b9⟩
theorem LI_t {t' : Int → Int} (h : LI s im ic t g e Q qa SL SLi) (ht : TB t') : LI s im ic t' g e Q qa SL SLi := by
  obtain ⟨b1, b2, b3, b4, b5, b6, b7, b8, b9⟩ := h
  exact ⟨b1, b2, b3, b4, ht, b6, b7, b8, b9⟩
theorem LI_g {g' : Int → Int} (h : LI s im ic t g e Q qa SL SLi) (h1 : g' 1 = g 1) (h8 : g' 8 = g 8) : LI s im ic t g' e Q qa SL SLi := by
  obtain ⟨b1, b2, b3, b4, b5, b6, b7, b8, b9⟩ := h
  exact ⟨b1, b2, b3, b4, b5, b6, by rw [h1]; exact b7, by rw [h1]; exact b8, by rw [h1, h8]; exact b9⟩
theorem LI_act {g' : Int → Int} {n : Nat} (h : LI s im ic t g e Q qa SL SLi) (h1 : g' 1 = g 1) (h8 : g' 8 = (n : Int)) (hn : n ≤ 1000) : LI s im ic t g' (sU e 0 (n : Int)) Q qa SL SLi := by
  obtain ⟨b1, b2, b3, b4, b5, b6, b7, b8, b9⟩ := h
  exact ⟨b1, b2, b3, b4, b5, b6, by rw [h1]; exact b7, by rw [h1]; exact b8, by rw [sU_ne (by decide), h1]; exact b9.1, by rw [sU_eq, h8], by rw [h8]; omega, by rw [h8]; omega⟩
theorem cpy_ZO {f g : Int → Int} (hf : ZO f) (hg : ZO g) : cpy 973 f g = f := by
  funext q
  unfold cpy
  split
  · rfl
  · rename_i hq
    rw [hg q hq, hf q hq]
theorem SI_ZO (h : SI s SL) : ZO s := h.2.2.2.2.2.2.2.2.2.2.2.2.2.2
theorem LI_image (h : LI s im ic t g e Q qa SL SLi) : LI s (cpy 973 s im) s t (sU g 1 1) (sU e 1 1) Q qa SL SL := by
  obtain ⟨b1, b2, b3, b4, b5, b6, b7, b8, b9⟩ := h
  have hz := SI_ZO b1.1
  have ec : cpy 973 s im = s := cpy_ZO hz b6
  rw [ec]
  exact ⟨b1, b1, ⟨Int.le_refl _, Int.le_refl _⟩, ⟨b4.1, b4.1⟩, b5, hz, Or.inr sU_eq, fun _ => rfl, by rw [sU_eq, sU_eq], by rw [sU_ne (by decide), sU_ne (by decide)]; exact b9.2.1, by rw [sU_ne (by decide)]; exact b9.2.2⟩
theorem LI_undo (h : LI s im ic t g e Q qa SL SLi) : LI (if g 1 = 0 then s else cpy 973 im s) im ic t g e Q qa (if g 1 = 0 then SL else SLi) SLi ∧ (if g 1 = 0 then s else cpy 973 im s) = (if e 1 = 1 then ic else s) ∧ (if g 1 = 0 then (-3 : Int) else cpy 973 im s 43) = (if e 1 = 1 then ic 43 else -3) := by
  have h9 := h
  obtain ⟨b1, b2, b3, b4, b5, b6, b7, b8, b9⟩ := h
  rcases b7 with q | q
  · rw [if_pos q, if_pos q, if_pos q, if_neg (by omega), if_neg (by omega)]
    exact ⟨h9, rfl, rfl⟩
  · have hq : ¬ g 1 = 0 := by omega
    have he : e 1 = 1 := by omega
    have ei := b8 q
    have ec : cpy 973 im s = ic := by rw [ei]; exact cpy_ZO (SI_ZO b2.1) (SI_ZO b1.1)
    rw [if_neg hq, if_neg hq, if_neg hq, if_pos he, if_pos he, ec]
    exact ⟨⟨b2, b2, ⟨Int.le_refl _, Int.le_refl _⟩, ⟨b4.2, b4.2⟩, b5, b6, Or.inr q, b8, b9⟩, rfl, rfl⟩
theorem LI_plate {q w0 w1 w2 w3 : Int → Int} {p : Nat} (h : LI s im ic t g e Q qa SL SLi) (h5 : ¬ s 44 = 5) (hp : (p : Int) = s 44) (hL : okP s → PLT s q w0 w1 w2 w3) : LI (f_plate s) im ic t g e (uS Q p q) (q4 qa p w0 w1 w2 w3) (@ite _ (okP s) (Classical.propDecidable _) (plS s) SL) SLi := by
  obtain ⟨b1, b2, b3, b4, b5, b6, b7, b8, b9⟩ := h
  obtain ⟨c1, c2⟩ := SI_plate b1.1 h5
  have hT := b1.1.2.2.2.2.2.2.2.2.2.1
  have ha : 0 ≤ s 44 ∧ s 44 ≤ 4 := by have := b1.1.2.2.2.2.2.2.2.2.2.2.1; omega
  have h43 : f_plate s 43 = s 43 := plate_lo hT ha 43 (by decide) (by decide) (by decide) (by decide)
  refine ⟨⟨c1, ZU_eq h43 b1.1.1.2 (fun q h1 h2 => plate_lo hT ha q (by omega) (by omega) (by omega) (by omega)) b1.2⟩, b2, ⟨by rw [h43]; exact b3.1, by rw [c2]; split <;> omega⟩, ⟨PLA_plate b1.1 h5 hp hL b4.1, PLA_off (by omega) (by omega) b4.2⟩, b5, b6, b7, b8, b9⟩
end LIS
