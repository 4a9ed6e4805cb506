/-! WHAT STAYS SO of the model's row -/
def ZO (s : Int → Int) : Prop := ∀ q : Int, ¬ (0 ≤ q ∧ q < 973) → s q = 0
def SI (s : Int → Int) (SL : List Int) : Prop := NM s ∧ GM s ∧ PL s ∧ HE s SL ∧ TI s ∧ WW s ∧ SE s ∧ PN s ∧ BK s ∧ TS s ∧ (0 ≤ s 44 ∧ s 44 ≤ 5) ∧ (0 ≤ s 0 ∧ s 0 ≤ 100000) ∧ (0 ≤ s 1 ∧ s 1 ≤ 9999) ∧ s 49 < s 44 ∧ ZO s
theorem lo_SE {s t : Int → Int} (h : LoEq s t) (hS : SE s) : SE t := by
  have h45 := hS.1
  unfold SE at *
  rw [h 45 (by omega), h 43 (by omega)]
  refine ⟨hS.1, fun k h1 h2 => ?_⟩
  rw [h (106 + k) (by omega), h (112 + k) (by omega)]
  exact hS.2 k h1 h2
theorem lo_PN {s t : Int → Int} (h : LoEq s t) (hS : PN s) : PN t := by
  unfold PN at *
  rw [h 46 (by omega), h 43 (by omega)]
  refine ⟨hS.1, fun k h1 h2 => ?_⟩
  rw [h (118 + k) (by omega), h (126 + k) (by omega)]
  exact hS.2 k h1 h2
theorem lo_BK {s t : Int → Int} (h : LoEq s t) (hS : BK s) : BK t := by
  unfold BK at *
  rw [h 47 (by omega), h 43 (by omega)]
  refine ⟨hS.1, fun k h1 h2 => ?_⟩
  rw [h (134 + k) (by omega), h (142 + k) (by omega), h (150 + k) (by omega)]
  exact hS.2 k h1 h2
theorem lo_TS {s t : Int → Int} (h : LoEq s t) (hS : TS s) : TS t := by
  unfold TS at *
  rw [h 48 (by omega)]
  refine ⟨hS.1, fun k h1 h2 => ?_⟩
  rw [h (158 + k) (by omega)]
  exact hS.2 k h1 h2
theorem lo_ZO {s t : Int → Int} (h : LoEq s t) (hS : ZO s) : ZO t := fun q hq => by
  rw [h q (by omega)]; exact hS q hq
theorem SI_lo {s t : Int → Int} {SL : List Int} (hS : SI s SL) (h : LoEq s t) (hM : GM t) (hT : TI t) (hW : WW t) (h0 : 0 ≤ t 0 ∧ t 0 ≤ 100000) (h1 : 0 ≤ t 1 ∧ t 1 ≤ 9999) : SI t SL := by
  obtain ⟨a1, a2, a3, a4, a5, a6, a7, a8, a9, a10, a11, a12, a13, a14, a15⟩ := hS
  refine ⟨lo_NM h a1, hM, lo_PL h a3, lo_HE h a4, hT, hW, lo_SE h a7, lo_PN h a8, lo_BK h a9, lo_TS h a10, ?_, h0, h1, ?_, lo_ZO h a15⟩
  · rw [h 44 (by omega)]; exact a11
  · rw [h 44 (by omega), h 49 (by omega)]; exact a14
theorem SI_cut {s : Int → Int} {SL : List Int} {f m : Int} (hS : SI s SL) (hm : 0 ≤ m ∧ m < s 43) (hf : 0 ≤ f ∧ f ≤ 3) (h9 : s 0 ≤ 99000) : SI (p_cut s f m) SL := by
  have hS2 := hS
  obtain ⟨⟨n1, n2⟩, a2, a3, a4, a5, a6, a7, a8, a9, a10, a11, a12, a13, -⟩ := hS2
  have h8 : 0 ≤ m ∧ m < 8 := by omega
  have hn := q_needs_rng (a2 m hm.1 hm.2)
  refine SI_lo hS (p_cut_lo h8) (GM_lo (p_cut_lo h8) (fun k h1 h2 => MK_cut h8 ⟨h1, by omega⟩ hf (a2 k h1 h2))) ?_ ?_ ?_ ?_
  · unfold TI; rw [p_cut_at h8, if_pos rfl]; exact clamp_rng _ (by omega)
  · intro k h1 h2
    rw [p_cut_lo h8 43 (by omega)] at h2
    have := a6 k h1 h2
    rw [p_cut_at h8]
    (repeat' split) <;> omega
  · rw [p_cut_at h8, if_neg (by omega), if_pos rfl]; omega
  · rw [p_cut_at h8]
    (repeat' split) <;> omega
theorem SI_mend {s : Int → Int} {SL : List Int} {m : Int} (hS : SI s SL) (hm : 0 ≤ m ∧ m < s 43) (h9 : s 0 ≤ 99000) : SI (p_mend s m) SL := by
  have hS2 := hS
  obtain ⟨⟨n1, n2⟩, a2, a3, a4, a5, a6, a7, a8, a9, a10, a11, a12, a13, -⟩ := hS2
  have h8 : 0 ≤ m ∧ m < 8 := by omega
  have hn := q_mend_rng a3
  refine SI_lo hS (p_mend_lo h8) (GM_lo (p_mend_lo h8) (fun k h1 h2 => MK_mend h8 ⟨h1, by omega⟩ (a2 k h1 h2))) ?_ ?_ ?_ ?_
  · unfold TI; rw [p_mend_at h8, if_pos rfl]; exact clamp_rng _ (by omega)
  · intro k h1 h2
    rw [p_mend_lo h8 43 (by omega)] at h2
    have := a6 k h1 h2
    rw [p_mend_at h8]
    (repeat' split) <;> omega
  · rw [p_mend_at h8]
    (repeat' split) <;> omega
  · rw [p_mend_at h8]
    (repeat' split) <;> omega
theorem SI_over {s : Int → Int} {SL : List Int} {m : Int} (hS : SI s SL) (hm : 0 ≤ m ∧ m < s 43) (h9 : s 0 ≤ 99000) : SI (p_over s m) SL := by
  have hS2 := hS
  obtain ⟨⟨n1, n2⟩, a2, a3, a4, a5, a6, a7, a8, a9, a10, a11, a12, a13, -⟩ := hS2
  have h8 : 0 ≤ m ∧ m < 8 := by omega
  have hn := q_needs_rng (a2 m hm.1 hm.2)
  refine SI_lo hS (p_over_lo h8) (GM_over ⟨n1, n2⟩ h8 a2) ?_ ?_ ?_ ?_
  · unfold TI; rw [p_over_at h8, if_pos rfl]; exact clamp_rng _ (by omega)
  · intro k h1 h2
    rw [p_over_lo h8 43 (by omega)] at h2
    have := a6 k h1 h2
    rw [p_over_at h8]
    (repeat' split) <;> omega
  · rw [p_over_at h8]
    (repeat' split) <;> omega
  · rw [p_over_at h8]
    (repeat' split) <;> omega
theorem SI_rest {s : Int → Int} {SL : List Int} {n : Int} (hS : SI s SL) (hn : 0 ≤ n ∧ n ≤ 60) (h9 : s 0 ≤ 99000) : SI (p_rest s n) SL := by
  have hS2 := hS
  obtain ⟨⟨n1, n2⟩, a2, a3, a4, a5, a6, a7, a8, a9, a10, a11, a12, a13, -⟩ := hS2
  refine SI_lo hS (p_rest_lo s n) (GM_lo (p_rest_lo s n) (fun k h1 h2 => MK_rest ⟨h1, by omega⟩ (a2 k h1 h2))) ?_ ?_ ?_ ?_
  · unfold TI; rw [p_rest_at, if_pos rfl]; exact clamp_rng _ (by omega)
  · intro k h1 h2
    rw [p_rest_lo s n 43 (by omega)] at h2
    have := a6 k h1 h2
    rw [p_rest_at]
    (repeat' split) <;> omega
  · rw [p_rest_at]
    (repeat' split) <;> omega
  · rw [p_rest_at]
    (repeat' split) <;> omega
theorem SI_print {s : Int → Int} {SL : List Int} {n : Int} (hS : SI s SL) (hn : 0 ≤ n ∧ n ≤ 999) : SI (p_print s n) SL := by
  have hS2 := hS
  obtain ⟨⟨n1, n2⟩, a2, a3, a4, a5, a6, a7, a8, a9, a10, a11, a12, a13, -⟩ := hS2
  have hl := p_print_lo (n := n) n2
  have e0 : p_print s n 0 = s 0 := by
    show capk _ _ _ = _
    unfold capk
    rw [if_neg (by omega), sU_ne (by omega), p_prints_at, if_neg (by omega), sU_ne (by omega)]
  have e1 : p_print s n 1 = clamp (p_prints s n 1) 0 9999 := by
    show capk _ _ _ = _
    unfold capk
    rw [if_neg (by omega), sU_eq]
  have e2 : p_print s n 2 = s 2 := by
    show capk _ _ _ = _
    unfold capk
    rw [if_neg (by omega), sU_ne (by omega), p_prints_at, if_neg (by omega), sU_ne (by omega)]
  refine SI_lo hS hl (GM_print ⟨n1, n2⟩ a2 a6 hn) ?_ ?_ ?_ ?_
  · unfold TI; rw [e2]; exact a5
  · intro k h1 h2
    rw [hl 43 (by omega)] at h2
    show capk _ _ _ ≤ _
    unfold capk
    rw [if_pos (by omega)]
    exact (clamp_rng _ (by omega)).2
  · rw [e0]; exact a12
  · rw [e1]; exact clamp_rng _ (by omega)
/-- what is told by hand: only s 45.. and the rows behind it may differ -/
theorem MK_eq {s t : Int → Int} {m : Int} (h8 : 0 ≤ m ∧ m < 8) (h : ∀ q : Int, 3 ≤ q → q < 106 → ¬ (43 ≤ q ∧ q < 50) → t q = s q) (hk : MK s m) : MK t m := by
  unfold MK at *
  rw [h (50 + m) (by omega) (by omega) (by omega), h (58 + m) (by omega) (by omega) (by omega), h (66 + m) (by omega) (by omega) (by omega), h (3 + m) (by omega) (by omega) (by omega), h (11 + m) (by omega) (by omega) (by omega), h (19 + m) (by omega) (by omega) (by omega), h (27 + m) (by omega) (by omega) (by omega), h (35 + m) (by omega) (by omega) (by omega)]
  exact ⟨hk.1, hk.2.1, hk.2.2.1, hk.2.2.2.1, hk.2.2.2.2.1, hk.2.2.2.2.2.1, hk.2.2.2.2.2.2.1, hk.2.2.2.2.2.2.2.1, fun q h1 h2 => by rw [h (74 + 4 * m + q) (by omega) (by omega) (by omega)]; exact hk.2.2.2.2.2.2.2.2 q h1 h2⟩
theorem PL_eq {s t : Int → Int} (h : ∀ q : Int, q = 49 ∨ (258 ≤ q ∧ q < 268) → t q = s q) (hk : PL s) : PL t := by
  unfold PL at *
  rw [h 49 (by omega)]
  refine ⟨hk.1, fun p h1 h2 => ?_⟩
  rw [h (258 + p) (by omega), h (263 + p) (by omega)]
  exact hk.2 p h1 h2
theorem HE_eq {s t : Int → Int} {SL : List Int} (h : ∀ q : Int, q = 49 ∨ (268 ≤ q ∧ q < 973) → t q = s q) (hk : HE s SL) : HE t SL := by
  unfold HE at *
  rw [h 49 (by omega)]
  refine ⟨hk.1, hk.2.1, ?_⟩
  rcases hk.2.2 with q | ⟨q1, q2, q3, q4⟩
  · exact Or.inl q
  · have := hk.2.1
    exact Or.inr ⟨q1, q2, by rw [h _ (by omega)]; exact q3, fun j hj => by rw [h _ (by omega)]; exact q4 j hj⟩
theorem SI_hand {s t : Int → Int} {SL : List Int} (hS : SI s SL) (h : ∀ q : Int, ¬ ((45 ≤ q ∧ q < 49) ∨ (106 ≤ q ∧ q < 258)) → t q = s q) (hE : SE t) (hP : PN t) (hB : BK t) (hT : TS t) : SI t SL := by
  obtain ⟨⟨n1, n2⟩, a2, a3, a4, a5, a6, a7, a8, a9, a10, a11, a12, a13, a14, a15⟩ := hS
  refine ⟨by unfold NM; rw [h 43 (by omega)]; exact ⟨n1, n2⟩, fun m h1 h2 => ?_, PL_eq (fun q hq => h q (by omega)) a3, HE_eq (fun q hq => h q (by omega)) a4, by unfold TI; rw [h 2 (by omega)]; exact a5, fun m h1 h2 => ?_, hE, hP, hB, hT, by rw [h 44 (by omega)]; exact a11, by rw [h 0 (by omega)]; exact a12, by rw [h 1 (by omega)]; exact a13, by rw [h 44 (by omega), h 49 (by omega)]; exact a14, fun q hq => by rw [h q (by omega)]; exact a15 q hq⟩
  · rw [h 43 (by omega)] at h2
    exact MK_eq ⟨h1, by omega⟩ (fun q q1 q2 q3 => h q (by omega)) (a2 m h1 h2)
  · rw [h 43 (by omega)] at h2
    rw [h (27 + m) (by omega)]; exact a6 m h1 h2
