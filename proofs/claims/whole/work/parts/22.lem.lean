/-! THE CHANGES, and what they leave -/
def flawF (kind risk d : Int) : Int := if d < risk then (if d % 3 + 1 = 2 then (if kind = 5 then 1 else d % 3 + 1) else d % 3 + 1) else 0
def p_tire (s : Int → Int) (n : Int) : Int → Int := sU s 2 (clamp (s 2 + n) 0 99)
def p_cut4 (s : Int → Int) (f m : Int) : Int → Int := sU (sU (sU (sU s (19 + m) f) (11 + m) 1) (27 + m) 0) (35 + m) 0
def p_cut5 (s : Int → Int) (f m : Int) : Int → Int := sU (p_cut4 s f m) 0 (s 0 + q_needs (p_cut4 s f m) m)
def p_cut (s : Int → Int) (f m : Int) : Int → Int := p_tire (p_cut5 s f m) (q_needs (p_cut5 s f m) m / 2)
def p_mend (s : Int → Int) (m : Int) : Int → Int := p_tire (sU (sU (sU (sU s 0 (s 0 + q_mend s)) (19 + m) 0) (35 + m) (s (35 + m) + (if 9 ≤ s (35 + m) then 0 else 1))) (27 + m) 0) 5
def p_over (s : Int → Int) (m : Int) : Int → Int := p_tire (sU (sU (sU s 0 (s 0 + q_needs s m / 2)) (27 + m) 0) (3 + m) (s (3 + m) + (if 9 ≤ s (3 + m) then 0 else 1))) 3
def p_rest (s : Int → Int) (n : Int) : Int → Int := p_tire (sU s 0 (s 0 + n)) (-2 * n)
def prk (s : Int → Int) (n k : Int) : Int → Int := fun q => if 27 ≤ q ∧ q < 27 + k then s q + (if s (q - 16) = 1 then n else 0) else s q
def p_prints (s : Int → Int) (n : Int) : Int → Int := prk (sU s 1 (s 1 + n)) n (s 43)
def capk (s : Int → Int) (k : Int) : Int → Int := fun q => if 27 ≤ q ∧ q < 27 + k then clamp (s q) 0 9999 else s q
def p_print (s : Int → Int) (n : Int) : Int → Int := capk (sU (p_prints s n) 1 (clamp (p_prints s n 1) 0 9999)) (s 43)
theorem sU_at (f : Int → Int) (j v q : Int) : sU f j v q = if q = j then v else f q := rfl
theorem q_needs_sU {s : Int → Int} {j v m : Int} (h1 : 50 + m ≠ j) (h2 : 3 + m ≠ j) (h3 : 58 + m ≠ j) : q_needs (sU s j v) m = q_needs s m := by
  unfold q_needs
  rw [sU_ne h1, sU_ne h2, sU_ne h3]
theorem p_cut4_needs {s : Int → Int} {f m : Int} (hm : 0 ≤ m ∧ m < 8) : q_needs (p_cut4 s f m) m = q_needs s m := by
  unfold p_cut4
  rw [q_needs_sU (by omega) (by omega) (by omega), q_needs_sU (by omega) (by omega) (by omega), q_needs_sU (by omega) (by omega) (by omega), q_needs_sU (by omega) (by omega) (by omega)]
theorem p_cut5_needs {s : Int → Int} {f m : Int} (hm : 0 ≤ m ∧ m < 8) : q_needs (p_cut5 s f m) m = q_needs s m := by
  unfold p_cut5
  rw [q_needs_sU (by omega) (by omega) (by omega), p_cut4_needs hm]
theorem p_cut_at {s : Int → Int} {f m : Int} (hm : 0 ≤ m ∧ m < 8) (q : Int) : p_cut s f m q = if q = 2 then clamp (s 2 + q_needs s m / 2) 0 99 else if q = 0 then s 0 + q_needs s m else if q = 35 + m then 0 else if q = 27 + m then 0 else if q = 11 + m then 1 else if q = 19 + m then f else s q := by
  unfold p_cut p_tire
  rw [p_cut5_needs hm, sU_at]
  have e : p_cut5 s f m 2 = s 2 := by
    unfold p_cut5 p_cut4
    rw [sU_ne (by omega), sU_ne (by omega), sU_ne (by omega), sU_ne (by omega), sU_ne (by omega)]
  rw [e]
  by_cases h2 : q = 2
  · rw [if_pos h2, if_pos h2]
  · rw [if_neg h2, if_neg h2]
    unfold p_cut5
    rw [sU_at, p_cut4_needs hm]
    by_cases h0 : q = 0
    · rw [if_pos h0, if_pos h0]
    · rw [if_neg h0, if_neg h0]
      rfl
theorem p_mend_at {s : Int → Int} {m : Int} (hm : 0 ≤ m ∧ m < 8) (q : Int) : p_mend s m q = if q = 2 then clamp (s 2 + 5) 0 99 else if q = 27 + m then 0 else if q = 35 + m then s (35 + m) + (if 9 ≤ s (35 + m) then 0 else 1) else if q = 19 + m then 0 else if q = 0 then s 0 + q_mend s else s q := by
  unfold p_mend p_tire
  rw [sU_at, show (sU (sU (sU (sU s 0 (s 0 + q_mend s)) (19 + m) 0) (35 + m) (s (35 + m) + (if 9 ≤ s (35 + m) then 0 else 1))) (27 + m) 0) 2 = s 2 by rw [sU_ne (by omega), sU_ne (by omega), sU_ne (by omega), sU_ne (by omega)]]
  rfl
theorem p_over_at {s : Int → Int} {m : Int} (hm : 0 ≤ m ∧ m < 8) (q : Int) : p_over s m q = if q = 2 then clamp (s 2 + 3) 0 99 else if q = 3 + m then s (3 + m) + (if 9 ≤ s (3 + m) then 0 else 1) else if q = 27 + m then 0 else if q = 0 then s 0 + q_needs s m / 2 else s q := by
  unfold p_over p_tire
  rw [sU_at, show (sU (sU (sU s 0 (s 0 + q_needs s m / 2)) (27 + m) 0) (3 + m) (s (3 + m) + (if 9 ≤ s (3 + m) then 0 else 1))) 2 = s 2 by rw [sU_ne (by omega), sU_ne (by omega), sU_ne (by omega)]]
  rfl
theorem p_rest_at {s : Int → Int} {n : Int} (q : Int) : p_rest s n q = if q = 2 then clamp (s 2 + -2 * n) 0 99 else if q = 0 then s 0 + n else s q := by
  unfold p_rest p_tire
  rw [sU_at, sU_ne (show (2 : Int) ≠ 0 by omega)]
  rfl
theorem p_prints_at {s : Int → Int} {n : Int} (q : Int) : p_prints s n q = if 27 ≤ q ∧ q < 27 + s 43 then (sU s 1 (s 1 + n)) q + (if (sU s 1 (s 1 + n)) (q - 16) = 1 then n else 0) else (sU s 1 (s 1 + n)) q := rfl
/-- only what stands below 43 may differ -/
def LoEq (s s' : Int → Int) : Prop := ∀ q : Int, ¬ (0 ≤ q ∧ q < 43) → s' q = s q
theorem LoEq.rf (s : Int → Int) : LoEq s s := fun _ _ => rfl
theorem LoEq.tr {s t u : Int → Int} (h : LoEq s t) (h2 : LoEq t u) : LoEq s u := fun q hq => (h2 q hq).trans (h q hq)
theorem lo_NM {s t : Int → Int} (h : LoEq s t) (hN : NM s) : NM t := by
  unfold NM at *
  rw [h 43 (by omega)]; exact hN
theorem lo_PL {s t : Int → Int} (h : LoEq s t) (hP : PL s) : PL t := by
  unfold PL at *
  rw [h 49 (by omega)]
  refine ⟨hP.1, fun p h1 h2 => ?_⟩
  rw [h (258 + p) (by omega), h (263 + p) (by omega)]
  exact hP.2 p h1 h2
theorem lo_HE {s t : Int → Int} {SL : List Int} (h : LoEq s t) (hE : HE s SL) : HE t SL := by
  unfold HE at *
  rw [h 49 (by omega)]
  refine ⟨hE.1, hE.2.1, ?_⟩
  rcases hE.2.2 with q | ⟨q1, q2, q3, q4⟩
  · exact Or.inl q
  · exact Or.inr ⟨q1, q2, by rw [h _ (by omega)]; exact q3, fun j hj => by rw [h _ (by omega)]; exact q4 j hj⟩
theorem lo_wear {s t : Int → Int} (h : LoEq s t) (hP : PL s) : q_wear t = q_wear s := by
  have := hP.1
  unfold q_wear
  rw [h 49 (by omega)]
  by_cases h9 : s 49 = -1
  · simp only [if_pos h9]
  · simp only [if_neg h9]
    rw [h (258 + s 49) (by omega)]
theorem lo_mend {s t : Int → Int} (h : LoEq s t) (hP : PL s) : q_mend t = q_mend s := by
  have := hP.1
  unfold q_mend
  rw [h 49 (by omega)]
  by_cases h9 : s 49 = -1
  · simp only [if_pos h9]
  · simp only [if_neg h9]
    rw [h (263 + s 49) (by omega)]
theorem sU_lo {s : Int → Int} {j v : Int} (h : 0 ≤ j ∧ j < 43) : LoEq s (sU s j v) := fun q hq => sU_ne (by omega)
theorem p_tire_lo (s : Int → Int) (n : Int) : LoEq s (p_tire s n) := sU_lo (by omega)
theorem p_cut4_lo {s : Int → Int} {f m : Int} (hm : 0 ≤ m ∧ m < 8) : LoEq s (p_cut4 s f m) := (((sU_lo (by omega)).tr (sU_lo (by omega))).tr (sU_lo (by omega))).tr (sU_lo (by omega))
theorem p_cut5_lo {s : Int → Int} {f m : Int} (hm : 0 ≤ m ∧ m < 8) : LoEq s (p_cut5 s f m) := (p_cut4_lo hm).tr (sU_lo (by omega))
theorem p_cut_lo {s : Int → Int} {f m : Int} (hm : 0 ≤ m ∧ m < 8) : LoEq s (p_cut s f m) := (p_cut5_lo hm).tr (p_tire_lo _ _)
theorem p_mend_lo {s : Int → Int} {m : Int} (hm : 0 ≤ m ∧ m < 8) : LoEq s (p_mend s m) := ((((sU_lo (by omega)).tr (sU_lo (by omega))).tr (sU_lo (by omega))).tr (sU_lo (by omega))).tr (p_tire_lo _ _)
theorem p_over_lo {s : Int → Int} {m : Int} (hm : 0 ≤ m ∧ m < 8) : LoEq s (p_over s m) := (((sU_lo (by omega)).tr (sU_lo (by omega))).tr (sU_lo (by omega))).tr (p_tire_lo _ _)
theorem p_rest_lo (s : Int → Int) (n : Int) : LoEq s (p_rest s n) := (sU_lo (by omega)).tr (p_tire_lo _ _)
theorem prk_lo {s : Int → Int} {n k : Int} (hk : k ≤ 8) : LoEq s (prk s n k) := fun q hq => if_neg (by omega)
theorem p_prints_lo {s : Int → Int} {n : Int} (h : s 43 ≤ 8) : LoEq s (p_prints s n) := (sU_lo (by omega)).tr (prk_lo h)
theorem capk_lo {s : Int → Int} {k : Int} (hk : k ≤ 8) : LoEq s (capk s k) := fun q hq => if_neg (by omega)
theorem p_print_lo {s : Int → Int} {n : Int} (h : s 43 ≤ 8) : LoEq s (p_print s n) := ((p_prints_lo h).tr (sU_lo (by omega))).tr (capk_lo h)
/-- a mark's numbers behind a change: the five that may change are as they must be -/
theorem MK_lo {s t : Int → Int} {m : Int} (hm : 0 ≤ m) (h : LoEq s t) (hk : MK s m) (h3 : 1 ≤ t (3 + m) ∧ t (3 + m) ≤ 9) (h11 : 0 ≤ t (11 + m) ∧ t (11 + m) ≤ 1) (h19 : 0 ≤ t (19 + m) ∧ t (19 + m) ≤ 3) (h27 : 0 ≤ t (27 + m) ∧ t (27 + m) ≤ 20000) (h35 : 0 ≤ t (35 + m) ∧ t (35 + m) ≤ 9) : MK t m := by
  obtain ⟨k1, k2, k3, -, -, -, -, -, k9⟩ := hk
  unfold MK
  rw [h (50 + m) (by omega), h (58 + m) (by omega), h (66 + m) (by omega)]
  exact ⟨k1, k2, k3, h3, h11, h19, h27, h35, fun q h1 h2 => by rw [h (74 + 4 * m + q) (by omega)]; exact k9 q h1 h2⟩
theorem MK_cut4 {s : Int → Int} {f m : Int} (hm : 0 ≤ m ∧ m < 8) (hf : 0 ≤ f ∧ f ≤ 3) (hk : MK s m) : MK (p_cut4 s f m) m := by
  have h4 := hk.2.2.2.1
  refine MK_lo hm.1 (p_cut4_lo hm) hk ?_ ?_ ?_ ?_ ?_
  all_goals (unfold p_cut4; rw [sU_at, sU_at, sU_at, sU_at])
  all_goals ((repeat' split) <;> omega)
theorem MK_sU0 {s : Int → Int} {j v m : Int} (hm : 0 ≤ m ∧ m < 8) (hj : 0 ≤ j ∧ j ≤ 2) (hk : MK s m) : MK (sU s j v) m := by
  refine MK_lo hm.1 (sU_lo (by omega)) hk ?_ ?_ ?_ ?_ ?_
  all_goals rw [sU_ne (by omega)]
  · exact hk.2.2.2.1
  · exact hk.2.2.2.2.1
  · exact hk.2.2.2.2.2.1
  · exact hk.2.2.2.2.2.2.1
  · exact hk.2.2.2.2.2.2.2.1
theorem MK_cut5 {s : Int → Int} {f m : Int} (hm : 0 ≤ m ∧ m < 8) (hf : 0 ≤ f ∧ f ≤ 3) (hk : MK s m) : MK (p_cut5 s f m) m := MK_sU0 hm (by omega) (MK_cut4 hm hf hk)
theorem MK_cut {s : Int → Int} {f m m' : Int} (hm : 0 ≤ m ∧ m < 8) (hm' : 0 ≤ m' ∧ m' < 8) (hf : 0 ≤ f ∧ f ≤ 3) (hk : MK s m') : MK (p_cut s f m) m' := by
  have h4 := hk.2.2.2.1; have h5 := hk.2.2.2.2.1; have h6 := hk.2.2.2.2.2.1; have h7 := hk.2.2.2.2.2.2.1; have h8 := hk.2.2.2.2.2.2.2.1
  refine MK_lo hm'.1 (p_cut_lo hm) hk ?_ ?_ ?_ ?_ ?_
  all_goals rw [p_cut_at hm]
  all_goals ((repeat' split) <;> omega)
theorem MK_mend {s : Int → Int} {m m' : Int} (hm : 0 ≤ m ∧ m < 8) (hm' : 0 ≤ m' ∧ m' < 8) (hk : MK s m') : MK (p_mend s m) m' := by
  have h4 := hk.2.2.2.1; have h5 := hk.2.2.2.2.1; have h6 := hk.2.2.2.2.2.1; have h7 := hk.2.2.2.2.2.2.1; have h8 := hk.2.2.2.2.2.2.2.1
  refine MK_lo hm'.1 (p_mend_lo hm) hk ?_ ?_ ?_ ?_ ?_
  all_goals rw [p_mend_at hm]
  · (repeat' split) <;> omega
  · (repeat' split) <;> omega
  · (repeat' split) <;> omega
  · (repeat' split) <;> omega
  · by_cases e : m' = m
    · subst e; (repeat' split) <;> omega
    · (repeat' split) <;> omega
theorem MK_over {s : Int → Int} {m m' : Int} (hm : 0 ≤ m ∧ m < 8) (hm' : 0 ≤ m' ∧ m' < 8) (hk : MK s m') : MK (p_over s m) m' := by
  have h4 := hk.2.2.2.1; have h5 := hk.2.2.2.2.1; have h6 := hk.2.2.2.2.2.1; have h7 := hk.2.2.2.2.2.2.1; have h8 := hk.2.2.2.2.2.2.2.1
  refine MK_lo hm'.1 (p_over_lo hm) hk ?_ ?_ ?_ ?_ ?_
  all_goals rw [p_over_at hm]
  · by_cases e : m' = m
    · subst e; (repeat' split) <;> omega
    · (repeat' split) <;> omega
  · (repeat' split) <;> omega
  · (repeat' split) <;> omega
  · (repeat' split) <;> omega
  · (repeat' split) <;> omega
theorem MK_rest {s : Int → Int} {n m' : Int} (hm' : 0 ≤ m' ∧ m' < 8) (hk : MK s m') : MK (p_rest s n) m' := by
  have h4 := hk.2.2.2.1; have h5 := hk.2.2.2.2.1; have h6 := hk.2.2.2.2.2.1; have h7 := hk.2.2.2.2.2.2.1; have h8 := hk.2.2.2.2.2.2.2.1
  refine MK_lo hm'.1 (p_rest_lo s n) hk ?_ ?_ ?_ ?_ ?_
  all_goals rw [p_rest_at]
  all_goals ((repeat' split) <;> omega)
theorem MK_prints {s : Int → Int} {n m' : Int} (hN : s 43 ≤ 8) (hm' : 0 ≤ m' ∧ m' < s 43) (hk : MK s m') (hn : 0 ≤ n ∧ s (27 + m') + n ≤ 20000) : MK (p_prints s n) m' := by
  have h4 := hk.2.2.2.1; have h5 := hk.2.2.2.2.1; have h6 := hk.2.2.2.2.2.1; have h7 := hk.2.2.2.2.2.2.1; have h8 := hk.2.2.2.2.2.2.2.1
  refine MK_lo hm'.1 (p_prints_lo hN) hk ?_ ?_ ?_ ?_ ?_
  all_goals (rw [p_prints_at]; simp only [sU_at])
  all_goals ((repeat' split) <;> omega)
theorem MK_print {s : Int → Int} {n m' : Int} (hN : s 43 ≤ 8) (hm' : 0 ≤ m' ∧ m' < s 43) (hk : MK s m') (hn : 0 ≤ n ∧ s (27 + m') + n ≤ 20000) : MK (p_print s n) m' := by
  have hk2 := MK_prints hN hm' hk hn
  have h4 := hk2.2.2.2.1; have h5 := hk2.2.2.2.2.1; have h6 := hk2.2.2.2.2.2.1; have h7 := hk2.2.2.2.2.2.2.1; have h8 := hk2.2.2.2.2.2.2.2.1
  refine MK_lo hm'.1 ((sU_lo (s := p_prints s n) (j := 1) (v := clamp (p_prints s n 1) 0 9999) (by omega)).tr (capk_lo hN)) hk2 ?_ ?_ ?_ ?_ ?_
  · show 1 ≤ capk _ _ _ ∧ capk _ _ _ ≤ 9
    unfold capk; rw [if_neg (by omega), sU_ne (by omega)]; exact h4
  · show 0 ≤ capk _ _ _ ∧ capk _ _ _ ≤ 1
    unfold capk; rw [if_neg (by omega), sU_ne (by omega)]; exact h5
  · show 0 ≤ capk _ _ _ ∧ capk _ _ _ ≤ 3
    unfold capk; rw [if_neg (by omega), sU_ne (by omega)]; exact h6
  · show 0 ≤ capk _ _ _ ∧ capk _ _ _ ≤ 20000
    unfold capk; rw [if_pos (by omega)]
    have := clamp_rng (sU (p_prints s n) 1 (clamp (p_prints s n 1) 0 9999) (27 + m')) (low := 0) (high := 9999) (by omega); omega
  · show 0 ≤ capk _ _ _ ∧ capk _ _ _ ≤ 9
    unfold capk; rw [if_neg (by omega), sU_ne (by omega)]; exact h8
