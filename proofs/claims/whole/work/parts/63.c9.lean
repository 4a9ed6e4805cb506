/-! THE CLASS: tables by the model's row -/
theorem TB_tix {s : Int → Int} {t : Nat} (h : TB s) (ht : t < 4) : 0 ≤ s (tix t) ∧ s (tix t) ≤ 100 := by
  unfold TB at h
  rcases (show t = 0 ∨ t = 1 ∨ t = 2 ∨ t = 3 by omega) with rfl | rfl | rfl | rfl
  · show 0 ≤ s 48 ∧ s 48 ≤ 100; omega
  · show 0 ≤ s 45 ∧ s 45 ≤ 100; omega
  · show 0 ≤ s 46 ∧ s 46 ≤ 100; omega
  · show 0 ≤ s 47 ∧ s 47 ≤ 100; omega
theorem MA_eq {K s s' mB : Int → Int} {rB : Nat → Int → Int} {b : Nat} {x : Int} (hx : 0 ≤ x ∧ x < 8) (hs : ∀ q : Int, (3 ≤ q ∧ q < 43) ∨ (50 ≤ q ∧ q < 106) → s' q = s q) (h : MA K s mB rB b x) : MA K s' mB rB b x := by
  unfold MA at *
  rw [hs (50 + x) (by omega), hs (58 + x) (by omega), hs (66 + x) (by omega), hs (3 + x) (by omega), hs (11 + x) (by omega), hs (19 + x) (by omega), hs (27 + x) (by omega), hs (35 + x) (by omega)]
  exact ⟨h.1, h.2.1, fun q q0 q4 => by rw [hs _ (by omega)]; exact h.2.2 q q0 q4⟩
theorem TA_tc {s : Int → Int} {tc tc' : Nat → Int → Int} {b : Nat} (h : TA s tc b) (hq : ∀ t : Nat, t < 4 → tc' (4 * b + t) = tc (4 * b + t)) : TA s tc' b := by
  unfold TA at *
  rw [hq 0 (by omega), hq 1 (by omega), hq 2 (by omega), hq 3 (by omega)]
  exact h
theorem Ag_tz {K s hB mB : Int → Int} {rB : Nat → Int → Int} {b : Nat} {tz tz' : Int → Int} {tc tc' : Nat → Int → Int} (h : Ag K s hB mB rB b tz tc) (h1 : tz' = tz) (hq : ∀ t : Nat, t < 4 → tc' (4 * b + t) = tc (4 * b + t)) : Ag K s hB mB rB b tz' tc' := by
  subst h1
  exact ⟨h.1, h.2.1, h.2.2.1, TA_tc h.2.2.2 hq⟩
theorem Ag_add0 {K s hB mB : Int → Int} {rB : Nat → Int → Int} {b : Nat} {tz : Int → Int} {tc : Nat → Int → Int} {u v w : Int} (hT : TB s) (hlt : s 48 < 100) (h : Ag K s hB mB rB b tz tc) : Ag K (sU (sU s (158 + s 48) u) 48 (s 48 + 1)) hB mB rB b (sU tz (0 : Nat) (s 48 + 1)) (uS tc (4 * b + 0) (addF (tc (4 * b + 0)) (s 48 * 1) 1 u v w)) := by
  obtain ⟨⟨h0, h1, h2, h3, h4, h5⟩, ⟨t0, t1, t2, t3⟩, hm, ⟨a1, a2, a3, a4⟩⟩ := h
  have hT2 := hT
  obtain ⟨b1, b2, b3, b4⟩ := hT2
  have hs : ∀ q : Int, ¬ (q = 48 ∨ (158 ≤ q ∧ q < 258)) → (sU (sU s (158 + s 48) u) 48 (s 48 + 1)) q = s q := fun q hq => by rw [sU_ne (by omega), sU_ne (by omega)]
  have hsz : (sU (sU s (158 + s 48) u) 48 (s 48 + 1)) 48 = s 48 + 1 := sU_eq
  refine ⟨⟨by rw [hs 0 (by omega)]; exact h0, by rw [hs 1 (by omega)]; exact h1, by rw [hs 2 (by omega)]; exact h2, by rw [hs 43 (by omega)]; exact h3, by rw [hs 44 (by omega)]; exact h4, by rw [hs 49 (by omega)]; exact h5⟩, ⟨by rw [show ((0 : Nat) : Int) = 0 from rfl, sU_eq]; exact (hsz).symm, by rw [sU_ne (by omega), hs 45 (by omega)]; exact t1, by rw [sU_ne (by omega), hs 46 (by omega)]; exact t2, by rw [sU_ne (by omega), hs 47 (by omega)]; exact t3⟩, fun x g1 g2 g3 => ?_, ⟨by
    rw [uS_eq]
    intro i g1 g2
    rw [sU_eq] at g2
    by_cases e : i = s 48
    · subst e
      rw [sU_ne (show (158 : Int) + s 48 ≠ 48 by omega), sU_eq]; unfold addF; rw [if_pos (by omega)]; first | rw [if_pos (by omega)] | (rw [if_neg (by omega)]; first | rw [if_pos (by omega)] | rw [if_neg (by omega)])
    · rw [sU_ne (by omega), sU_ne (by omega)]; unfold addF; rw [if_neg (by omega)]; exact a1 i g1 (by omega), by rw [uS_ne (by omega), hs 45 (by omega)]; exact fun i g1 g2 => by rw [hs _ (by omega), hs _ (by omega)]; exact a2 i g1 g2, by rw [uS_ne (by omega), hs 46 (by omega)]; exact fun i g1 g2 => by rw [hs _ (by omega), hs _ (by omega)]; exact a3 i g1 g2, by rw [uS_ne (by omega), hs 47 (by omega)]; exact fun i g1 g2 => by rw [hs _ (by omega), hs _ (by omega), hs _ (by omega)]; exact a4 i g1 g2⟩⟩
  rw [hs 43 (by omega)] at g2
  exact MA_eq ⟨g1, g3⟩ (fun q hq => hs q (by omega)) (hm x g1 g2 g3)
theorem Ag_emp0 {K s hB mB : Int → Int} {rB : Nat → Int → Int} {b : Nat} {tz : Int → Int} {tc : Nat → Int → Int} (hT : TB s) (h : Ag K s hB mB rB b tz tc) : Ag K (sU s 48 0) hB mB rB b (sU tz (0 : Nat) 0) tc := by
  obtain ⟨⟨h0, h1, h2, h3, h4, h5⟩, ⟨t0, t1, t2, t3⟩, hm, ⟨a1, a2, a3, a4⟩⟩ := h
  obtain ⟨b1, b2, b3, b4⟩ := hT
  refine ⟨⟨by rw [sU_ne (by omega)]; exact h0, by rw [sU_ne (by omega)]; exact h1, by rw [sU_ne (by omega)]; exact h2, by rw [sU_ne (by omega)]; exact h3, by rw [sU_ne (by omega)]; exact h4, by rw [sU_ne (by omega)]; exact h5⟩, ⟨by rw [show ((0 : Nat) : Int) = 0 from rfl, sU_eq, sU_eq], by rw [sU_ne (by omega), sU_ne (by omega)]; exact t1, by rw [sU_ne (by omega), sU_ne (by omega)]; exact t2, by rw [sU_ne (by omega), sU_ne (by omega)]; exact t3⟩, fun x g1 g2 g3 => ?_, ⟨fun i g1 g2 => by rw [sU_eq] at g2; omega, by rw [sU_ne (by omega)]; exact fun i g1 g2 => by rw [sU_ne (by omega), sU_ne (by omega)]; exact a2 i g1 g2, by rw [sU_ne (by omega)]; exact fun i g1 g2 => by rw [sU_ne (by omega), sU_ne (by omega)]; exact a3 i g1 g2, by rw [sU_ne (by omega)]; exact fun i g1 g2 => by rw [sU_ne (by omega), sU_ne (by omega), sU_ne (by omega)]; exact a4 i g1 g2⟩⟩
  rw [sU_ne (by omega)] at g2
  exact MA_eq ⟨g1, g3⟩ (fun q hq => sU_ne (by omega)) (hm x g1 g2 g3)
theorem Ag_add1 {K s hB mB : Int → Int} {rB : Nat → Int → Int} {b : Nat} {tz : Int → Int} {tc : Nat → Int → Int} {u v w : Int} (hT : TB s) (hlt : s 45 < 6) (h : Ag K s hB mB rB b tz tc) : Ag K (sU (sU (sU s (106 + s 45) u) (112 + s 45) v) 45 (s 45 + 1)) hB mB rB b (sU tz (1 : Nat) (s 45 + 1)) (uS tc (4 * b + 1) (addF (tc (4 * b + 1)) (s 45 * 2) 2 u v w)) := by
  obtain ⟨⟨h0, h1, h2, h3, h4, h5⟩, ⟨t0, t1, t2, t3⟩, hm, ⟨a1, a2, a3, a4⟩⟩ := h
  have hT2 := hT
  obtain ⟨b1, b2, b3, b4⟩ := hT2
  have hs : ∀ q : Int, ¬ (q = 45 ∨ (106 ≤ q ∧ q < 118)) → (sU (sU (sU s (106 + s 45) u) (112 + s 45) v) 45 (s 45 + 1)) q = s q := fun q hq => by rw [sU_ne (by omega), sU_ne (by omega), sU_ne (by omega)]
  have hsz : (sU (sU (sU s (106 + s 45) u) (112 + s 45) v) 45 (s 45 + 1)) 45 = s 45 + 1 := sU_eq
  refine ⟨⟨by rw [hs 0 (by omega)]; exact h0, by rw [hs 1 (by omega)]; exact h1, by rw [hs 2 (by omega)]; exact h2, by rw [hs 43 (by omega)]; exact h3, by rw [hs 44 (by omega)]; exact h4, by rw [hs 49 (by omega)]; exact h5⟩, ⟨by rw [sU_ne (by omega), hs 48 (by omega)]; exact t0, by rw [show ((1 : Nat) : Int) = 1 from rfl, sU_eq]; exact (hsz).symm, by rw [sU_ne (by omega), hs 46 (by omega)]; exact t2, by rw [sU_ne (by omega), hs 47 (by omega)]; exact t3⟩, fun x g1 g2 g3 => ?_, ⟨by rw [uS_ne (by omega), hs 48 (by omega)]; exact fun i g1 g2 => by rw [hs _ (by omega)]; exact a1 i g1 g2, by
    rw [uS_eq]
    intro i g1 g2
    rw [sU_eq] at g2
    by_cases e : i = s 45
    · subst e
      exact ⟨by rw [sU_ne (show (106 : Int) + s 45 ≠ 45 by omega), sU_ne (show (106 : Int) + s 45 ≠ 112 + s 45 by omega), sU_eq]; unfold addF; rw [if_pos (by omega)]; first | rw [if_pos (by omega)] | (rw [if_neg (by omega)]; first | rw [if_pos (by omega)] | rw [if_neg (by omega)]), by rw [sU_ne (show (112 : Int) + s 45 ≠ 45 by omega), sU_eq]; unfold addF; rw [if_pos (by omega)]; first | rw [if_pos (by omega)] | (rw [if_neg (by omega)]; first | rw [if_pos (by omega)] | rw [if_neg (by omega)])⟩
    · exact ⟨by rw [sU_ne (by omega), sU_ne (by omega), sU_ne (by omega)]; unfold addF; rw [if_neg (by omega)]; exact (a2 i g1 (by omega)).1, by rw [sU_ne (by omega), sU_ne (by omega), sU_ne (by omega)]; unfold addF; rw [if_neg (by omega)]; exact (a2 i g1 (by omega)).2⟩, by rw [uS_ne (by omega), hs 46 (by omega)]; exact fun i g1 g2 => by rw [hs _ (by omega), hs _ (by omega)]; exact a3 i g1 g2, by rw [uS_ne (by omega), hs 47 (by omega)]; exact fun i g1 g2 => by rw [hs _ (by omega), hs _ (by omega), hs _ (by omega)]; exact a4 i g1 g2⟩⟩
  rw [hs 43 (by omega)] at g2
  exact MA_eq ⟨g1, g3⟩ (fun q hq => hs q (by omega)) (hm x g1 g2 g3)
theorem Ag_emp1 {K s hB mB : Int → Int} {rB : Nat → Int → Int} {b : Nat} {tz : Int → Int} {tc : Nat → Int → Int} (hT : TB s) (h : Ag K s hB mB rB b tz tc) : Ag K (sU s 45 0) hB mB rB b (sU tz (1 : Nat) 0) tc := by
  obtain ⟨⟨h0, h1, h2, h3, h4, h5⟩, ⟨t0, t1, t2, t3⟩, hm, ⟨a1, a2, a3, a4⟩⟩ := h
  obtain ⟨b1, b2, b3, b4⟩ := hT
  refine ⟨⟨by rw [sU_ne (by omega)]; exact h0, by rw [sU_ne (by omega)]; exact h1, by rw [sU_ne (by omega)]; exact h2, by rw [sU_ne (by omega)]; exact h3, by rw [sU_ne (by omega)]; exact h4, by rw [sU_ne (by omega)]; exact h5⟩, ⟨by rw [sU_ne (by omega), sU_ne (by omega)]; exact t0, by rw [show ((1 : Nat) : Int) = 1 from rfl, sU_eq, sU_eq], by rw [sU_ne (by omega), sU_ne (by omega)]; exact t2, by rw [sU_ne (by omega), sU_ne (by omega)]; exact t3⟩, fun x g1 g2 g3 => ?_, ⟨by rw [sU_ne (by omega)]; exact fun i g1 g2 => by rw [sU_ne (by omega)]; exact a1 i g1 g2, fun i g1 g2 => by rw [sU_eq] at g2; omega, by rw [sU_ne (by omega)]; exact fun i g1 g2 => by rw [sU_ne (by omega), sU_ne (by omega)]; exact a3 i g1 g2, by rw [sU_ne (by omega)]; exact fun i g1 g2 => by rw [sU_ne (by omega), sU_ne (by omega), sU_ne (by omega)]; exact a4 i g1 g2⟩⟩
  rw [sU_ne (by omega)] at g2
  exact MA_eq ⟨g1, g3⟩ (fun q hq => sU_ne (by omega)) (hm x g1 g2 g3)
theorem Ag_add2 {K s hB mB : Int → Int} {rB : Nat → Int → Int} {b : Nat} {tz : Int → Int} {tc : Nat → Int → Int} {u v w : Int} (hT : TB s) (hlt : s 46 < 8) (h : Ag K s hB mB rB b tz tc) : Ag K (sU (sU (sU s (118 + s 46) u) (126 + s 46) v) 46 (s 46 + 1)) hB mB rB b (sU tz (2 : Nat) (s 46 + 1)) (uS tc (4 * b + 2) (addF (tc (4 * b + 2)) (s 46 * 2) 2 u v w)) := by
  obtain ⟨⟨h0, h1, h2, h3, h4, h5⟩, ⟨t0, t1, t2, t3⟩, hm, ⟨a1, a2, a3, a4⟩⟩ := h
  have hT2 := hT
  obtain ⟨b1, b2, b3, b4⟩ := hT2
  have hs : ∀ q : Int, ¬ (q = 46 ∨ (118 ≤ q ∧ q < 134)) → (sU (sU (sU s (118 + s 46) u) (126 + s 46) v) 46 (s 46 + 1)) q = s q := fun q hq => by rw [sU_ne (by omega), sU_ne (by omega), sU_ne (by omega)]
  have hsz : (sU (sU (sU s (118 + s 46) u) (126 + s 46) v) 46 (s 46 + 1)) 46 = s 46 + 1 := sU_eq
  refine ⟨⟨by rw [hs 0 (by omega)]; exact h0, by rw [hs 1 (by omega)]; exact h1, by rw [hs 2 (by omega)]; exact h2, by rw [hs 43 (by omega)]; exact h3, by rw [hs 44 (by omega)]; exact h4, by rw [hs 49 (by omega)]; exact h5⟩, ⟨by rw [sU_ne (by omega), hs 48 (by omega)]; exact t0, by rw [sU_ne (by omega), hs 45 (by omega)]; exact t1, by rw [show ((2 : Nat) : Int) = 2 from rfl, sU_eq]; exact (hsz).symm, by rw [sU_ne (by omega), hs 47 (by omega)]; exact t3⟩, fun x g1 g2 g3 => ?_, ⟨by rw [uS_ne (by omega), hs 48 (by omega)]; exact fun i g1 g2 => by rw [hs _ (by omega)]; exact a1 i g1 g2, by rw [uS_ne (by omega), hs 45 (by omega)]; exact fun i g1 g2 => by rw [hs _ (by omega), hs _ (by omega)]; exact a2 i g1 g2, by
    rw [uS_eq]
    intro i g1 g2
    rw [sU_eq] at g2
    by_cases e : i = s 46
    · subst e
      exact ⟨by rw [sU_ne (show (118 : Int) + s 46 ≠ 46 by omega), sU_ne (show (118 : Int) + s 46 ≠ 126 + s 46 by omega), sU_eq]; unfold addF; rw [if_pos (by omega)]; first | rw [if_pos (by omega)] | (rw [if_neg (by omega)]; first | rw [if_pos (by omega)] | rw [if_neg (by omega)]), by rw [sU_ne (show (126 : Int) + s 46 ≠ 46 by omega), sU_eq]; unfold addF; rw [if_pos (by omega)]; first | rw [if_pos (by omega)] | (rw [if_neg (by omega)]; first | rw [if_pos (by omega)] | rw [if_neg (by omega)])⟩
    · exact ⟨by rw [sU_ne (by omega), sU_ne (by omega), sU_ne (by omega)]; unfold addF; rw [if_neg (by omega)]; exact (a3 i g1 (by omega)).1, by rw [sU_ne (by omega), sU_ne (by omega), sU_ne (by omega)]; unfold addF; rw [if_neg (by omega)]; exact (a3 i g1 (by omega)).2⟩, by rw [uS_ne (by omega), hs 47 (by omega)]; exact fun i g1 g2 => by rw [hs _ (by omega), hs _ (by omega), hs _ (by omega)]; exact a4 i g1 g2⟩⟩
  rw [hs 43 (by omega)] at g2
  exact MA_eq ⟨g1, g3⟩ (fun q hq => hs q (by omega)) (hm x g1 g2 g3)
theorem Ag_emp2 {K s hB mB : Int → Int} {rB : Nat → Int → Int} {b : Nat} {tz : Int → Int} {tc : Nat → Int → Int} (hT : TB s) (h : Ag K s hB mB rB b tz tc) : Ag K (sU s 46 0) hB mB rB b (sU tz (2 : Nat) 0) tc := by
  obtain ⟨⟨h0, h1, h2, h3, h4, h5⟩, ⟨t0, t1, t2, t3⟩, hm, ⟨a1, a2, a3, a4⟩⟩ := h
  obtain ⟨b1, b2, b3, b4⟩ := hT
  refine ⟨⟨by rw [sU_ne (by omega)]; exact h0, by rw [sU_ne (by omega)]; exact h1, by rw [sU_ne (by omega)]; exact h2, by rw [sU_ne (by omega)]; exact h3, by rw [sU_ne (by omega)]; exact h4, by rw [sU_ne (by omega)]; exact h5⟩, ⟨by rw [sU_ne (by omega), sU_ne (by omega)]; exact t0, by rw [sU_ne (by omega), sU_ne (by omega)]; exact t1, by rw [show ((2 : Nat) : Int) = 2 from rfl, sU_eq, sU_eq], by rw [sU_ne (by omega), sU_ne (by omega)]; exact t3⟩, fun x g1 g2 g3 => ?_, ⟨by rw [sU_ne (by omega)]; exact fun i g1 g2 => by rw [sU_ne (by omega)]; exact a1 i g1 g2, by rw [sU_ne (by omega)]; exact fun i g1 g2 => by rw [sU_ne (by omega), sU_ne (by omega)]; exact a2 i g1 g2, fun i g1 g2 => by rw [sU_eq] at g2; omega, by rw [sU_ne (by omega)]; exact fun i g1 g2 => by rw [sU_ne (by omega), sU_ne (by omega), sU_ne (by omega)]; exact a4 i g1 g2⟩⟩
  rw [sU_ne (by omega)] at g2
  exact MA_eq ⟨g1, g3⟩ (fun q hq => sU_ne (by omega)) (hm x g1 g2 g3)
theorem Ag_add3 {K s hB mB : Int → Int} {rB : Nat → Int → Int} {b : Nat} {tz : Int → Int} {tc : Nat → Int → Int} {u v w : Int} (hT : TB s) (hlt : s 47 < 8) (h : Ag K s hB mB rB b tz tc) : Ag K (sU (sU (sU (sU s (134 + s 47) u) (142 + s 47) v) (150 + s 47) w) 47 (s 47 + 1)) hB mB rB b (sU tz (3 : Nat) (s 47 + 1)) (uS tc (4 * b + 3) (addF (tc (4 * b + 3)) (s 47 * 3) 3 u v w)) := by
  obtain ⟨⟨h0, h1, h2, h3, h4, h5⟩, ⟨t0, t1, t2, t3⟩, hm, ⟨a1, a2, a3, a4⟩⟩ := h
  have hT2 := hT
  obtain ⟨b1, b2, b3, b4⟩ := hT2
  have hs : ∀ q : Int, ¬ (q = 47 ∨ (134 ≤ q ∧ q < 158)) → (sU (sU (sU (sU s (134 + s 47) u) (142 + s 47) v) (150 + s 47) w) 47 (s 47 + 1)) q = s q := fun q hq => by rw [sU_ne (by omega), sU_ne (by omega), sU_ne (by omega), sU_ne (by omega)]
  have hsz : (sU (sU (sU (sU s (134 + s 47) u) (142 + s 47) v) (150 + s 47) w) 47 (s 47 + 1)) 47 = s 47 + 1 := sU_eq
  refine ⟨⟨by rw [hs 0 (by omega)]; exact h0, by rw [hs 1 (by omega)]; exact h1, by rw [hs 2 (by omega)]; exact h2, by rw [hs 43 (by omega)]; exact h3, by rw [hs 44 (by omega)]; exact h4, by rw [hs 49 (by omega)]; exact h5⟩, ⟨by rw [sU_ne (by omega), hs 48 (by omega)]; exact t0, by rw [sU_ne (by omega), hs 45 (by omega)]; exact t1, by rw [sU_ne (by omega), hs 46 (by omega)]; exact t2, by rw [show ((3 : Nat) : Int) = 3 from rfl, sU_eq]; exact (hsz).symm⟩, fun x g1 g2 g3 => ?_, ⟨by rw [uS_ne (by omega), hs 48 (by omega)]; exact fun i g1 g2 => by rw [hs _ (by omega)]; exact a1 i g1 g2, by rw [uS_ne (by omega), hs 45 (by omega)]; exact fun i g1 g2 => by rw [hs _ (by omega), hs _ (by omega)]; exact a2 i g1 g2, by rw [uS_ne (by omega), hs 46 (by omega)]; exact fun i g1 g2 => by rw [hs _ (by omega), hs _ (by omega)]; exact a3 i g1 g2, by
    rw [uS_eq]
    intro i g1 g2
    rw [sU_eq] at g2
    by_cases e : i = s 47
    · subst e
      exact ⟨by rw [sU_ne (show (134 : Int) + s 47 ≠ 47 by omega), sU_ne (show (134 : Int) + s 47 ≠ 150 + s 47 by omega), sU_ne (show (134 : Int) + s 47 ≠ 142 + s 47 by omega), sU_eq]; unfold addF; rw [if_pos (by omega)]; first | rw [if_pos (by omega)] | (rw [if_neg (by omega)]; first | rw [if_pos (by omega)] | rw [if_neg (by omega)]), by rw [sU_ne (show (142 : Int) + s 47 ≠ 47 by omega), sU_ne (show (142 : Int) + s 47 ≠ 150 + s 47 by omega), sU_eq]; unfold addF; rw [if_pos (by omega)]; first | rw [if_pos (by omega)] | (rw [if_neg (by omega)]; first | rw [if_pos (by omega)] | rw [if_neg (by omega)]), by rw [sU_ne (show (150 : Int) + s 47 ≠ 47 by omega), sU_eq]; unfold addF; rw [if_pos (by omega)]; first | rw [if_pos (by omega)] | (rw [if_neg (by omega)]; first | rw [if_pos (by omega)] | rw [if_neg (by omega)])⟩
    · exact ⟨by rw [sU_ne (by omega), sU_ne (by omega), sU_ne (by omega), sU_ne (by omega)]; unfold addF; rw [if_neg (by omega)]; exact (a4 i g1 (by omega)).1, by rw [sU_ne (by omega), sU_ne (by omega), sU_ne (by omega), sU_ne (by omega)]; unfold addF; rw [if_neg (by omega)]; exact (a4 i g1 (by omega)).2.1, by rw [sU_ne (by omega), sU_ne (by omega), sU_ne (by omega), sU_ne (by omega)]; unfold addF; rw [if_neg (by omega)]; exact (a4 i g1 (by omega)).2.2⟩⟩⟩
  rw [hs 43 (by omega)] at g2
  exact MA_eq ⟨g1, g3⟩ (fun q hq => hs q (by omega)) (hm x g1 g2 g3)
theorem Ag_emp3 {K s hB mB : Int → Int} {rB : Nat → Int → Int} {b : Nat} {tz : Int → Int} {tc : Nat → Int → Int} (hT : TB s) (h : Ag K s hB mB rB b tz tc) : Ag K (sU s 47 0) hB mB rB b (sU tz (3 : Nat) 0) tc := by
  obtain ⟨⟨h0, h1, h2, h3, h4, h5⟩, ⟨t0, t1, t2, t3⟩, hm, ⟨a1, a2, a3, a4⟩⟩ := h
  obtain ⟨b1, b2, b3, b4⟩ := hT
  refine ⟨⟨by rw [sU_ne (by omega)]; exact h0, by rw [sU_ne (by omega)]; exact h1, by rw [sU_ne (by omega)]; exact h2, by rw [sU_ne (by omega)]; exact h3, by rw [sU_ne (by omega)]; exact h4, by rw [sU_ne (by omega)]; exact h5⟩, ⟨by rw [sU_ne (by omega), sU_ne (by omega)]; exact t0, by rw [sU_ne (by omega), sU_ne (by omega)]; exact t1, by rw [sU_ne (by omega), sU_ne (by omega)]; exact t2, by rw [show ((3 : Nat) : Int) = 3 from rfl, sU_eq, sU_eq]⟩, fun x g1 g2 g3 => ?_, ⟨by rw [sU_ne (by omega)]; exact fun i g1 g2 => by rw [sU_ne (by omega)]; exact a1 i g1 g2, by rw [sU_ne (by omega)]; exact fun i g1 g2 => by rw [sU_ne (by omega), sU_ne (by omega)]; exact a2 i g1 g2, by rw [sU_ne (by omega)]; exact fun i g1 g2 => by rw [sU_ne (by omega), sU_ne (by omega)]; exact a3 i g1 g2, fun i g1 g2 => by rw [sU_eq] at g2; omega⟩⟩
  rw [sU_ne (by omega)] at g2
  exact MA_eq ⟨g1, g3⟩ (fun q hq => sU_ne (by omega)) (hm x g1 g2 g3)
theorem kt0_isFull (l : Launch) (D : Dx) (A : Nat → Prop) (ad : Nat → Nat) (K : Int → Int) (S Q qa : Nat → Int → Int) (tp : Nat → Nat) (s bo e uc lr nx : Int → Int) (b : Nat) (hb : b < 3) (hTB : TB s) : CT l D A yX7_isFull cX7_isFull 1 (some .boolean) { frames := 0, cells := 0, slots := 0, locals := 0 } [.ref (kT ad b 0)] (CW D A ad K (uS S b s) Q qa tp bo e uc lr nx) (fun _ : Unit => some (vI (bi (100 < (s 48 + 1) * 1)))) (fun _ => True) (fun _ => CW D A ad K (uS S b s) Q qa tp bo e uc lr nx) := by
  refine CT_map (I := CI K (uS S b s)) (S := Unit) (P := fun i => XW D A ad K i.1.1 i.1.2.1 i.1.2.2.1 i.1.2.2.2.1 i.1.2.2.2.2 Q qa tp bo e uc lr nx) (rv := fun _ _ => some (vI (bi (100 < (s 48 + 1) * 1)))) (φ := fun _ _ => True) (P1 := fun i _ => XW D A ad K i.1.1 i.1.2.1 i.1.2.2.1 i.1.2.2.2.1 i.1.2.2.2.2 Q qa tp bo e uc lr nx) (fun H h => CW_I h) (fun i => ?_) (fun i u _ => ⟨(), rfl, trivial, fun H h => ⟨_, _, _, _, _, i.2, h⟩⟩)
  have e9 := tz_ag (t := 0) (i.2.at hb) (by decide)
  have k9 := kc7_isFull l D A ad K i.1.1 i.1.2.1 i.1.2.2.1 i.1.2.2.2.1 i.1.2.2.2.2 Q qa tp bo e uc lr nx b 0 (i.1.2.2.2.1 b (0 : Nat)) (i.1.2.2.2.2 (4 * b + 0)) hb (by decide) (by rw [e9]; have := TB_tix (t := 0) hTB (by decide); omega)
  rw [XT_self, e9] at k9
  exact k9
theorem kt0_empty (l : Launch) (D : Dx) (A : Nat → Prop) (ad : Nat → Nat) (K : Int → Int) (S Q qa : Nat → Int → Int) (tp : Nat → Nat) (s bo e uc lr nx : Int → Int) (b : Nat) (hb : b < 3) (hTB : TB s) : CT l D A yX7_empty cX7_empty 1 (some .int) { frames := 0, cells := 0, slots := 0, locals := 0 } [.ref (kT ad b 0)] (CW D A ad K (uS S b s) Q qa tp bo e uc lr nx) (fun _ : Unit => some (vI 0)) (fun _ => True) (fun _ => CW D A ad K (uS S b (sU s 48 0)) Q qa tp bo e uc lr nx) := by
  refine CT_map (I := CI K (uS S b s)) (S := Unit) (P := fun i => XW D A ad K i.1.1 i.1.2.1 i.1.2.2.1 i.1.2.2.2.1 i.1.2.2.2.2 Q qa tp bo e uc lr nx) (rv := fun _ _ => some (vI 0)) (φ := fun _ _ => True) (P1 := fun i _ => XT D A ad K i.1.1 i.1.2.1 i.1.2.2.1 i.1.2.2.2.1 i.1.2.2.2.2 Q qa tp bo e uc lr nx b 0 0 (i.1.2.2.2.2 (4 * b + 0))) (fun H h => CW_I h) (fun i => ?_) (fun i u _ => ⟨(), rfl, trivial, fun H h => ⟨_, _, _, _, _, AG_upd (hB' := i.1.1) (mB' := i.1.2.1) (rB' := i.1.2.2.1) (tz' := uS i.1.2.2.2.1 b (sU (i.1.2.2.2.1 b) (0 : Nat) 0)) (tc' := uS i.1.2.2.2.2 (4 * b + 0) (i.1.2.2.2.2 (4 * b + 0))) hb i.2 (fun g => by rw [uS_eq, uS_self]; exact Ag_emp0 hTB g) (fun c hc1 h3 g => by rw [uS_ne hc1, uS_self]; exact g), h⟩⟩)
  have k9 := kc7_empty l D A ad K i.1.1 i.1.2.1 i.1.2.2.1 i.1.2.2.2.1 i.1.2.2.2.2 Q qa tp bo e uc lr nx b 0 (i.1.2.2.2.1 b (0 : Nat)) (i.1.2.2.2.2 (4 * b + 0)) hb (by decide)
  rw [XT_self] at k9
  exact k9
theorem kt0_add (l : Launch) (D : Dx) (A : Nat → Prop) (ad : Nat → Nat) (K : Int → Int) (S Q qa : Nat → Int → Int) (tp : Nat → Nat) (s bo e uc lr nx : Int → Int) (b : Nat) (hb : b < 3) (u v w : Int) (hTB : TB s) (hlt : s 48 < 100) : CT l D A yX7_add cX7_add 6 (some .int) { frames := 1, cells := 0, slots := 0, locals := 20 } [.ref (kT ad b 0), vI u, vI v, vI w] (CW D A ad K (uS S b s) Q qa tp bo e uc lr nx) (fun _ : Unit => some (vI (s 48 + 1))) (fun _ => True) (fun _ => CW D A ad K (uS S b (sU (sU s (158 + s 48) u) 48 (s 48 + 1))) Q qa tp bo e uc lr nx) := by
  refine CT_map (I := CI K (uS S b s)) (S := Unit) (P := fun i => XW D A ad K i.1.1 i.1.2.1 i.1.2.2.1 i.1.2.2.2.1 i.1.2.2.2.2 Q qa tp bo e uc lr nx) (rv := fun _ _ => some (vI (s 48 + 1))) (φ := fun _ _ => True) (P1 := fun i _ => XT D A ad K i.1.1 i.1.2.1 i.1.2.2.1 i.1.2.2.2.1 i.1.2.2.2.2 Q qa tp bo e uc lr nx b 0 (s 48 + 1) (addF (i.1.2.2.2.2 (4 * b + 0)) (s 48 * 1) 1 u v w)) (fun H h => CW_I h) (fun i => ?_) (fun i q _ => ⟨(), rfl, trivial, fun H h => ⟨_, _, _, _, _, AG_upd (hB' := i.1.1) (mB' := i.1.2.1) (rB' := i.1.2.2.1) (tz' := uS i.1.2.2.2.1 b (sU (i.1.2.2.2.1 b) (0 : Nat) (s 48 + 1))) (tc' := uS i.1.2.2.2.2 (4 * b + 0) (addF (i.1.2.2.2.2 (4 * b + 0)) (s 48 * 1) 1 u v w)) hb i.2 (fun g => by rw [uS_eq]; exact Ag_add0 hTB hlt g) (fun c hc1 h3 g => Ag_tz g (uS_ne hc1) (fun t ht => uS_ne (by omega))), h⟩⟩)
  have e9 := tz_ag (t := 0) (i.2.at hb) (by decide)
  have e8 : i.1.2.2.2.1 b (0 : Nat) = s 48 := e9
  have hb9 := TB_tix (t := 0) hTB (by decide)
  have k9 := kc7_add l D A ad K i.1.1 i.1.2.1 i.1.2.2.1 i.1.2.2.2.1 i.1.2.2.2.2 Q qa tp bo e uc lr nx b 0 (i.1.2.2.2.1 b (0 : Nat)) (i.1.2.2.2.2 (4 * b + 0)) hb (by decide) u v w (by rw [e9]; omega) (by rw [e8]; show (s 48 + 1) * 1 ≤ 100; omega)
  rw [XT_self, e8] at k9
  exact k9
theorem kt1_isFull (l : Launch) (D : Dx) (A : Nat → Prop) (ad : Nat → Nat) (K : Int → Int) (S Q qa : Nat → Int → Int) (tp : Nat → Nat) (s bo e uc lr nx : Int → Int) (b : Nat) (hb : b < 3) (hTB : TB s) : CT l D A yX7_isFull cX7_isFull 1 (some .boolean) { frames := 0, cells := 0, slots := 0, locals := 0 } [.ref (kT ad b 1)] (CW D A ad K (uS S b s) Q qa tp bo e uc lr nx) (fun _ : Unit => some (vI (bi (12 < (s 45 + 1) * 2)))) (fun _ => True) (fun _ => CW D A ad K (uS S b s) Q qa tp bo e uc lr nx) := by
  refine CT_map (I := CI K (uS S b s)) (S := Unit) (P := fun i => XW D A ad K i.1.1 i.1.2.1 i.1.2.2.1 i.1.2.2.2.1 i.1.2.2.2.2 Q qa tp bo e uc lr nx) (rv := fun _ _ => some (vI (bi (12 < (s 45 + 1) * 2)))) (φ := fun _ _ => True) (P1 := fun i _ => XW D A ad K i.1.1 i.1.2.1 i.1.2.2.1 i.1.2.2.2.1 i.1.2.2.2.2 Q qa tp bo e uc lr nx) (fun H h => CW_I h) (fun i => ?_) (fun i u _ => ⟨(), rfl, trivial, fun H h => ⟨_, _, _, _, _, i.2, h⟩⟩)
  have e9 := tz_ag (t := 1) (i.2.at hb) (by decide)
  have k9 := kc7_isFull l D A ad K i.1.1 i.1.2.1 i.1.2.2.1 i.1.2.2.2.1 i.1.2.2.2.2 Q qa tp bo e uc lr nx b 1 (i.1.2.2.2.1 b (1 : Nat)) (i.1.2.2.2.2 (4 * b + 1)) hb (by decide) (by rw [e9]; have := TB_tix (t := 1) hTB (by decide); omega)
  rw [XT_self, e9] at k9
  exact k9
theorem kt1_empty (l : Launch) (D : Dx) (A : Nat → Prop) (ad : Nat → Nat) (K : Int → Int) (S Q qa : Nat → Int → Int) (tp : Nat → Nat) (s bo e uc lr nx : Int → Int) (b : Nat) (hb : b < 3) (hTB : TB s) : CT l D A yX7_empty cX7_empty 1 (some .int) { frames := 0, cells := 0, slots := 0, locals := 0 } [.ref (kT ad b 1)] (CW D A ad K (uS S b s) Q qa tp bo e uc lr nx) (fun _ : Unit => some (vI 0)) (fun _ => True) (fun _ => CW D A ad K (uS S b (sU s 45 0)) Q qa tp bo e uc lr nx) := by
  refine CT_map (I := CI K (uS S b s)) (S := Unit) (P := fun i => XW D A ad K i.1.1 i.1.2.1 i.1.2.2.1 i.1.2.2.2.1 i.1.2.2.2.2 Q qa tp bo e uc lr nx) (rv := fun _ _ => some (vI 0)) (φ := fun _ _ => True) (P1 := fun i _ => XT D A ad K i.1.1 i.1.2.1 i.1.2.2.1 i.1.2.2.2.1 i.1.2.2.2.2 Q qa tp bo e uc lr nx b 1 0 (i.1.2.2.2.2 (4 * b + 1))) (fun H h => CW_I h) (fun i => ?_) (fun i u _ => ⟨(), rfl, trivial, fun H h => ⟨_, _, _, _, _, AG_upd (hB' := i.1.1) (mB' := i.1.2.1) (rB' := i.1.2.2.1) (tz' := uS i.1.2.2.2.1 b (sU (i.1.2.2.2.1 b) (1 : Nat) 0)) (tc' := uS i.1.2.2.2.2 (4 * b + 1) (i.1.2.2.2.2 (4 * b + 1))) hb i.2 (fun g => by rw [uS_eq, uS_self]; exact Ag_emp1 hTB g) (fun c hc1 h3 g => by rw [uS_ne hc1, uS_self]; exact g), h⟩⟩)
  have k9 := kc7_empty l D A ad K i.1.1 i.1.2.1 i.1.2.2.1 i.1.2.2.2.1 i.1.2.2.2.2 Q qa tp bo e uc lr nx b 1 (i.1.2.2.2.1 b (1 : Nat)) (i.1.2.2.2.2 (4 * b + 1)) hb (by decide)
  rw [XT_self] at k9
  exact k9
theorem kt1_add (l : Launch) (D : Dx) (A : Nat → Prop) (ad : Nat → Nat) (K : Int → Int) (S Q qa : Nat → Int → Int) (tp : Nat → Nat) (s bo e uc lr nx : Int → Int) (b : Nat) (hb : b < 3) (u v w : Int) (hTB : TB s) (hlt : s 45 < 6) : CT l D A yX7_add cX7_add 6 (some .int) { frames := 1, cells := 0, slots := 0, locals := 20 } [.ref (kT ad b 1), vI u, vI v, vI w] (CW D A ad K (uS S b s) Q qa tp bo e uc lr nx) (fun _ : Unit => some (vI (s 45 + 1))) (fun _ => True) (fun _ => CW D A ad K (uS S b (sU (sU (sU s (106 + s 45) u) (112 + s 45) v) 45 (s 45 + 1))) Q qa tp bo e uc lr nx) := by
  refine CT_map (I := CI K (uS S b s)) (S := Unit) (P := fun i => XW D A ad K i.1.1 i.1.2.1 i.1.2.2.1 i.1.2.2.2.1 i.1.2.2.2.2 Q qa tp bo e uc lr nx) (rv := fun _ _ => some (vI (s 45 + 1))) (φ := fun _ _ => True) (P1 := fun i _ => XT D A ad K i.1.1 i.1.2.1 i.1.2.2.1 i.1.2.2.2.1 i.1.2.2.2.2 Q qa tp bo e uc lr nx b 1 (s 45 + 1) (addF (i.1.2.2.2.2 (4 * b + 1)) (s 45 * 2) 2 u v w)) (fun H h => CW_I h) (fun i => ?_) (fun i q _ => ⟨(), rfl, trivial, fun H h => ⟨_, _, _, _, _, AG_upd (hB' := i.1.1) (mB' := i.1.2.1) (rB' := i.1.2.2.1) (tz' := uS i.1.2.2.2.1 b (sU (i.1.2.2.2.1 b) (1 : Nat) (s 45 + 1))) (tc' := uS i.1.2.2.2.2 (4 * b + 1) (addF (i.1.2.2.2.2 (4 * b + 1)) (s 45 * 2) 2 u v w)) hb i.2 (fun g => by rw [uS_eq]; exact Ag_add1 hTB hlt g) (fun c hc1 h3 g => Ag_tz g (uS_ne hc1) (fun t ht => uS_ne (by omega))), h⟩⟩)
  have e9 := tz_ag (t := 1) (i.2.at hb) (by decide)
  have e8 : i.1.2.2.2.1 b (1 : Nat) = s 45 := e9
  have hb9 := TB_tix (t := 1) hTB (by decide)
  have k9 := kc7_add l D A ad K i.1.1 i.1.2.1 i.1.2.2.1 i.1.2.2.2.1 i.1.2.2.2.2 Q qa tp bo e uc lr nx b 1 (i.1.2.2.2.1 b (1 : Nat)) (i.1.2.2.2.2 (4 * b + 1)) hb (by decide) u v w (by rw [e9]; omega) (by rw [e8]; show (s 45 + 1) * 2 ≤ 12; omega)
  rw [XT_self, e8] at k9
  exact k9
theorem kt1_at0 (l : Launch) (D : Dx) (A : Nat → Prop) (ad : Nat → Nat) (K : Int → Int) (S Q qa : Nat → Int → Int) (tp : Nat → Nat) (s bo e uc lr nx : Int → Int) (b : Nat) (hb : b < 3) (r : Int) (hTB : TB s) (hrr : 0 ≤ r ∧ r < s 45) : CT l D A yX7_at cX7_at 3 (some .int) { frames := 1, cells := 0, slots := 0, locals := 22 } [.ref (kT ad b 1), vI r, vI 0] (CW D A ad K (uS S b s) Q qa tp bo e uc lr nx) (fun _ : Unit => some (vI (s (106 + r)))) (fun _ => True) (fun _ => CW D A ad K (uS S b s) Q qa tp bo e uc lr nx) := by
  refine CT_map (I := CI K (uS S b s)) (S := Unit) (P := fun i => XW D A ad K i.1.1 i.1.2.1 i.1.2.2.1 i.1.2.2.2.1 i.1.2.2.2.2 Q qa tp bo e uc lr nx) (rv := fun _ _ => some (vI (s (106 + r)))) (φ := fun _ _ => True) (P1 := fun i _ => XW D A ad K i.1.1 i.1.2.1 i.1.2.2.1 i.1.2.2.2.1 i.1.2.2.2.2 Q qa tp bo e uc lr nx) (fun H h => CW_I h) (fun i => ?_) (fun i u _ => ⟨(), rfl, trivial, fun H h => ⟨_, _, _, _, _, i.2, h⟩⟩)
  have e9 := tz_ag (t := 1) (i.2.at hb) (by decide)
  have e8 : i.1.2.2.2.1 b (1 : Nat) = s 45 := e9
  have hb9 := TB_tix (t := 1) hTB (by decide)
  have e7 : i.1.2.2.2.2 (4 * b + 1) (2 * r) = s (106 + r) := ((i.2.at hb).2.2.2.2.1 r hrr.1 hrr.2).1
  have e6 : r * tcol 1 + 0 = 2 * r := by show r * 2 + 0 = 2 * r; omega
  have hTB2 := hTB
  unfold TB at hTB2
  have k9 := kc7_at l D A ad K i.1.1 i.1.2.1 i.1.2.2.1 i.1.2.2.2.1 i.1.2.2.2.2 Q qa tp bo e uc lr nx b 1 (i.1.2.2.2.1 b (1 : Nat)) (i.1.2.2.2.2 (4 * b + 1)) hb (by decide) r 0 (by rw [e9]; omega) (by rw [e8]; exact hrr) (by show (0 : Int) ≤ 0 ∧ (0 : Int) < 2; omega) (by rw [e8]; show s 45 * 2 ≤ 12; omega)
  rw [XT_self, e6, e7] at k9
  exact k9
theorem kt1_at1 (l : Launch) (D : Dx) (A : Nat → Prop) (ad : Nat → Nat) (K : Int → Int) (S Q qa : Nat → Int → Int) (tp : Nat → Nat) (s bo e uc lr nx : Int → Int) (b : Nat) (hb : b < 3) (r : Int) (hTB : TB s) (hrr : 0 ≤ r ∧ r < s 45) : CT l D A yX7_at cX7_at 3 (some .int) { frames := 1, cells := 0, slots := 0, locals := 22 } [.ref (kT ad b 1), vI r, vI 1] (CW D A ad K (uS S b s) Q qa tp bo e uc lr nx) (fun _ : Unit => some (vI (s (112 + r)))) (fun _ => True) (fun _ => CW D A ad K (uS S b s) Q qa tp bo e uc lr nx) := by
  refine CT_map (I := CI K (uS S b s)) (S := Unit) (P := fun i => XW D A ad K i.1.1 i.1.2.1 i.1.2.2.1 i.1.2.2.2.1 i.1.2.2.2.2 Q qa tp bo e uc lr nx) (rv := fun _ _ => some (vI (s (112 + r)))) (φ := fun _ _ => True) (P1 := fun i _ => XW D A ad K i.1.1 i.1.2.1 i.1.2.2.1 i.1.2.2.2.1 i.1.2.2.2.2 Q qa tp bo e uc lr nx) (fun H h => CW_I h) (fun i => ?_) (fun i u _ => ⟨(), rfl, trivial, fun H h => ⟨_, _, _, _, _, i.2, h⟩⟩)
  have e9 := tz_ag (t := 1) (i.2.at hb) (by decide)
  have e8 : i.1.2.2.2.1 b (1 : Nat) = s 45 := e9
  have hb9 := TB_tix (t := 1) hTB (by decide)
  have e7 : i.1.2.2.2.2 (4 * b + 1) (2 * r + 1) = s (112 + r) := ((i.2.at hb).2.2.2.2.1 r hrr.1 hrr.2).2
  have e6 : r * tcol 1 + 1 = 2 * r + 1 := by show r * 2 + 1 = 2 * r + 1; omega
  have hTB2 := hTB
  unfold TB at hTB2
  have k9 := kc7_at l D A ad K i.1.1 i.1.2.1 i.1.2.2.1 i.1.2.2.2.1 i.1.2.2.2.2 Q qa tp bo e uc lr nx b 1 (i.1.2.2.2.1 b (1 : Nat)) (i.1.2.2.2.2 (4 * b + 1)) hb (by decide) r 1 (by rw [e9]; omega) (by rw [e8]; exact hrr) (by show (0 : Int) ≤ 1 ∧ (1 : Int) < 2; omega) (by rw [e8]; show s 45 * 2 ≤ 12; omega)
  rw [XT_self, e6, e7] at k9
  exact k9
theorem kt2_isFull (l : Launch) (D : Dx) (A : Nat → Prop) (ad : Nat → Nat) (K : Int → Int) (S Q qa : Nat → Int → Int) (tp : Nat → Nat) (s bo e uc lr nx : Int → Int) (b : Nat) (hb : b < 3) (hTB : TB s) : CT l D A yX7_isFull cX7_isFull 1 (some .boolean) { frames := 0, cells := 0, slots := 0, locals := 0 } [.ref (kT ad b 2)] (CW D A ad K (uS S b s) Q qa tp bo e uc lr nx) (fun _ : Unit => some (vI (bi (16 < (s 46 + 1) * 2)))) (fun _ => True) (fun _ => CW D A ad K (uS S b s) Q qa tp bo e uc lr nx) := by
  refine CT_map (I := CI K (uS S b s)) (S := Unit) (P := fun i => XW D A ad K i.1.1 i.1.2.1 i.1.2.2.1 i.1.2.2.2.1 i.1.2.2.2.2 Q qa tp bo e uc lr nx) (rv := fun _ _ => some (vI (bi (16 < (s 46 + 1) * 2)))) (φ := fun _ _ => True) (P1 := fun i _ => XW D A ad K i.1.1 i.1.2.1 i.1.2.2.1 i.1.2.2.2.1 i.1.2.2.2.2 Q qa tp bo e uc lr nx) (fun H h => CW_I h) (fun i => ?_) (fun i u _ => ⟨(), rfl, trivial, fun H h => ⟨_, _, _, _, _, i.2, h⟩⟩)
  have e9 := tz_ag (t := 2) (i.2.at hb) (by decide)
  have k9 := kc7_isFull l D A ad K i.1.1 i.1.2.1 i.1.2.2.1 i.1.2.2.2.1 i.1.2.2.2.2 Q qa tp bo e uc lr nx b 2 (i.1.2.2.2.1 b (2 : Nat)) (i.1.2.2.2.2 (4 * b + 2)) hb (by decide) (by rw [e9]; have := TB_tix (t := 2) hTB (by decide); omega)
  rw [XT_self, e9] at k9
  exact k9
theorem kt2_empty (l : Launch) (D : Dx) (A : Nat → Prop) (ad : Nat → Nat) (K : Int → Int) (S Q qa : Nat → Int → Int) (tp : Nat → Nat) (s bo e uc lr nx : Int → Int) (b : Nat) (hb : b < 3) (hTB : TB s) : CT l D A yX7_empty cX7_empty 1 (some .int) { frames := 0, cells := 0, slots := 0, locals := 0 } [.ref (kT ad b 2)] (CW D A ad K (uS S b s) Q qa tp bo e uc lr nx) (fun _ : Unit => some (vI 0)) (fun _ => True) (fun _ => CW D A ad K (uS S b (sU s 46 0)) Q qa tp bo e uc lr nx) := by
  refine CT_map (I := CI K (uS S b s)) (S := Unit) (P := fun i => XW D A ad K i.1.1 i.1.2.1 i.1.2.2.1 i.1.2.2.2.1 i.1.2.2.2.2 Q qa tp bo e uc lr nx) (rv := fun _ _ => some (vI 0)) (φ := fun _ _ => True) (P1 := fun i _ => XT D A ad K i.1.1 i.1.2.1 i.1.2.2.1 i.1.2.2.2.1 i.1.2.2.2.2 Q qa tp bo e uc lr nx b 2 0 (i.1.2.2.2.2 (4 * b + 2))) (fun H h => CW_I h) (fun i => ?_) (fun i u _ => ⟨(), rfl, trivial, fun H h => ⟨_, _, _, _, _, AG_upd (hB' := i.1.1) (mB' := i.1.2.1) (rB' := i.1.2.2.1) (tz' := uS i.1.2.2.2.1 b (sU (i.1.2.2.2.1 b) (2 : Nat) 0)) (tc' := uS i.1.2.2.2.2 (4 * b + 2) (i.1.2.2.2.2 (4 * b + 2))) hb i.2 (fun g => by rw [uS_eq, uS_self]; exact Ag_emp2 hTB g) (fun c hc1 h3 g => by rw [uS_ne hc1, uS_self]; exact g), h⟩⟩)
  have k9 := kc7_empty l D A ad K i.1.1 i.1.2.1 i.1.2.2.1 i.1.2.2.2.1 i.1.2.2.2.2 Q qa tp bo e uc lr nx b 2 (i.1.2.2.2.1 b (2 : Nat)) (i.1.2.2.2.2 (4 * b + 2)) hb (by decide)
  rw [XT_self] at k9
  exact k9
theorem kt2_add (l : Launch) (D : Dx) (A : Nat → Prop) (ad : Nat → Nat) (K : Int → Int) (S Q qa : Nat → Int → Int) (tp : Nat → Nat) (s bo e uc lr nx : Int → Int) (b : Nat) (hb : b < 3) (u v w : Int) (hTB : TB s) (hlt : s 46 < 8) : CT l D A yX7_add cX7_add 6 (some .int) { frames := 1, cells := 0, slots := 0, locals := 20 } [.ref (kT ad b 2), vI u, vI v, vI w] (CW D A ad K (uS S b s) Q qa tp bo e uc lr nx) (fun _ : Unit => some (vI (s 46 + 1))) (fun _ => True) (fun _ => CW D A ad K (uS S b (sU (sU (sU s (118 + s 46) u) (126 + s 46) v) 46 (s 46 + 1))) Q qa tp bo e uc lr nx) := by
  refine CT_map (I := CI K (uS S b s)) (S := Unit) (P := fun i => XW D A ad K i.1.1 i.1.2.1 i.1.2.2.1 i.1.2.2.2.1 i.1.2.2.2.2 Q qa tp bo e uc lr nx) (rv := fun _ _ => some (vI (s 46 + 1))) (φ := fun _ _ => True) (P1 := fun i _ => XT D A ad K i.1.1 i.1.2.1 i.1.2.2.1 i.1.2.2.2.1 i.1.2.2.2.2 Q qa tp bo e uc lr nx b 2 (s 46 + 1) (addF (i.1.2.2.2.2 (4 * b + 2)) (s 46 * 2) 2 u v w)) (fun H h => CW_I h) (fun i => ?_) (fun i q _ => ⟨(), rfl, trivial, fun H h => ⟨_, _, _, _, _, AG_upd (hB' := i.1.1) (mB' := i.1.2.1) (rB' := i.1.2.2.1) (tz' := uS i.1.2.2.2.1 b (sU (i.1.2.2.2.1 b) (2 : Nat) (s 46 + 1))) (tc' := uS i.1.2.2.2.2 (4 * b + 2) (addF (i.1.2.2.2.2 (4 * b + 2)) (s 46 * 2) 2 u v w)) hb i.2 (fun g => by rw [uS_eq]; exact Ag_add2 hTB hlt g) (fun c hc1 h3 g => Ag_tz g (uS_ne hc1) (fun t ht => uS_ne (by omega))), h⟩⟩)
  have e9 := tz_ag (t := 2) (i.2.at hb) (by decide)
  have e8 : i.1.2.2.2.1 b (2 : Nat) = s 46 := e9
  have hb9 := TB_tix (t := 2) hTB (by decide)
  have k9 := kc7_add l D A ad K i.1.1 i.1.2.1 i.1.2.2.1 i.1.2.2.2.1 i.1.2.2.2.2 Q qa tp bo e uc lr nx b 2 (i.1.2.2.2.1 b (2 : Nat)) (i.1.2.2.2.2 (4 * b + 2)) hb (by decide) u v w (by rw [e9]; omega) (by rw [e8]; show (s 46 + 1) * 2 ≤ 16; omega)
  rw [XT_self, e8] at k9
  exact k9
theorem kt2_at0 (l : Launch) (D : Dx) (A : Nat → Prop) (ad : Nat → Nat) (K : Int → Int) (S Q qa : Nat → Int → Int) (tp : Nat → Nat) (s bo e uc lr nx : Int → Int) (b : Nat) (hb : b < 3) (r : Int) (hTB : TB s) (hrr : 0 ≤ r ∧ r < s 46) : CT l D A yX7_at cX7_at 3 (some .int) { frames := 1, cells := 0, slots := 0, locals := 22 } [.ref (kT ad b 2), vI r, vI 0] (CW D A ad K (uS S b s) Q qa tp bo e uc lr nx) (fun _ : Unit => some (vI (s (118 + r)))) (fun _ => True) (fun _ => CW D A ad K (uS S b s) Q qa tp bo e uc lr nx) := by
  refine CT_map (I := CI K (uS S b s)) (S := Unit) (P := fun i => XW D A ad K i.1.1 i.1.2.1 i.1.2.2.1 i.1.2.2.2.1 i.1.2.2.2.2 Q qa tp bo e uc lr nx) (rv := fun _ _ => some (vI (s (118 + r)))) (φ := fun _ _ => True) (P1 := fun i _ => XW D A ad K i.1.1 i.1.2.1 i.1.2.2.1 i.1.2.2.2.1 i.1.2.2.2.2 Q qa tp bo e uc lr nx) (fun H h => CW_I h) (fun i => ?_) (fun i u _ => ⟨(), rfl, trivial, fun H h => ⟨_, _, _, _, _, i.2, h⟩⟩)
  have e9 := tz_ag (t := 2) (i.2.at hb) (by decide)
  have e8 : i.1.2.2.2.1 b (2 : Nat) = s 46 := e9
  have hb9 := TB_tix (t := 2) hTB (by decide)
  have e7 : i.1.2.2.2.2 (4 * b + 2) (2 * r) = s (118 + r) := ((i.2.at hb).2.2.2.2.2.1 r hrr.1 hrr.2).1
  have e6 : r * tcol 2 + 0 = 2 * r := by show r * 2 + 0 = 2 * r; omega
  have hTB2 := hTB
  unfold TB at hTB2
  have k9 := kc7_at l D A ad K i.1.1 i.1.2.1 i.1.2.2.1 i.1.2.2.2.1 i.1.2.2.2.2 Q qa tp bo e uc lr nx b 2 (i.1.2.2.2.1 b (2 : Nat)) (i.1.2.2.2.2 (4 * b + 2)) hb (by decide) r 0 (by rw [e9]; omega) (by rw [e8]; exact hrr) (by show (0 : Int) ≤ 0 ∧ (0 : Int) < 2; omega) (by rw [e8]; show s 46 * 2 ≤ 16; omega)
  rw [XT_self, e6, e7] at k9
  exact k9
theorem kt2_at1 (l : Launch) (D : Dx) (A : Nat → Prop) (ad : Nat → Nat) (K : Int → Int) (S Q qa : Nat → Int → Int) (tp : Nat → Nat) (s bo e uc lr nx : Int → Int) (b : Nat) (hb : b < 3) (r : Int) (hTB : TB s) (hrr : 0 ≤ r ∧ r < s 46) : CT l D A yX7_at cX7_at 3 (some .int) { frames := 1, cells := 0, slots := 0, locals := 22 } [.ref (kT ad b 2), vI r, vI 1] (CW D A ad K (uS S b s) Q qa tp bo e uc lr nx) (fun _ : Unit => some (vI (s (126 + r)))) (fun _ => True) (fun _ => CW D A ad K (uS S b s) Q qa tp bo e uc lr nx) := by
  refine CT_map (I := CI K (uS S b s)) (S := Unit) (P := fun i => XW D A ad K i.1.1 i.1.2.1 i.1.2.2.1 i.1.2.2.2.1 i.1.2.2.2.2 Q qa tp bo e uc lr nx) (rv := fun _ _ => some (vI (s (126 + r)))) (φ := fun _ _ => True) (P1 := fun i _ => XW D A ad K i.1.1 i.1.2.1 i.1.2.2.1 i.1.2.2.2.1 i.1.2.2.2.2 Q qa tp bo e uc lr nx) (fun H h => CW_I h) (fun i => ?_) (fun i u _ => ⟨(), rfl, trivial, fun H h => ⟨_, _, _, _, _, i.2, h⟩⟩)
  have e9 := tz_ag (t := 2) (i.2.at hb) (by decide)
  have e8 : i.1.2.2.2.1 b (2 : Nat) = s 46 := e9
  have hb9 := TB_tix (t := 2) hTB (by decide)
  have e7 : i.1.2.2.2.2 (4 * b + 2) (2 * r + 1) = s (126 + r) := ((i.2.at hb).2.2.2.2.2.1 r hrr.1 hrr.2).2
  have e6 : r * tcol 2 + 1 = 2 * r + 1 := by show r * 2 + 1 = 2 * r + 1; omega
  have hTB2 := hTB
  unfold TB at hTB2
  have k9 := kc7_at l D A ad K i.1.1 i.1.2.1 i.1.2.2.1 i.1.2.2.2.1 i.1.2.2.2.2 Q qa tp bo e uc lr nx b 2 (i.1.2.2.2.1 b (2 : Nat)) (i.1.2.2.2.2 (4 * b + 2)) hb (by decide) r 1 (by rw [e9]; omega) (by rw [e8]; exact hrr) (by show (0 : Int) ≤ 1 ∧ (1 : Int) < 2; omega) (by rw [e8]; show s 46 * 2 ≤ 16; omega)
  rw [XT_self, e6, e7] at k9
  exact k9
theorem kt3_isFull (l : Launch) (D : Dx) (A : Nat → Prop) (ad : Nat → Nat) (K : Int → Int) (S Q qa : Nat → Int → Int) (tp : Nat → Nat) (s bo e uc lr nx : Int → Int) (b : Nat) (hb : b < 3) (hTB : TB s) : CT l D A yX7_isFull cX7_isFull 1 (some .boolean) { frames := 0, cells := 0, slots := 0, locals := 0 } [.ref (kT ad b 3)] (CW D A ad K (uS S b s) Q qa tp bo e uc lr nx) (fun _ : Unit => some (vI (bi (24 < (s 47 + 1) * 3)))) (fun _ => True) (fun _ => CW D A ad K (uS S b s) Q qa tp bo e uc lr nx) := by
  refine CT_map (I := CI K (uS S b s)) (S := Unit) (P := fun i => XW D A ad K i.1.1 i.1.2.1 i.1.2.2.1 i.1.2.2.2.1 i.1.2.2.2.2 Q qa tp bo e uc lr nx) (rv := fun _ _ => some (vI (bi (24 < (s 47 + 1) * 3)))) (φ := fun _ _ => True) (P1 := fun i _ => XW D A ad K i.1.1 i.1.2.1 i.1.2.2.1 i.1.2.2.2.1 i.1.2.2.2.2 Q qa tp bo e uc lr nx) (fun H h => CW_I h) (fun i => ?_) (fun i u _ => ⟨(), rfl, trivial, fun H h => ⟨_, _, _, _, _, i.2, h⟩⟩)
  have e9 := tz_ag (t := 3) (i.2.at hb) (by decide)
  have k9 := kc7_isFull l D A ad K i.1.1 i.1.2.1 i.1.2.2.1 i.1.2.2.2.1 i.1.2.2.2.2 Q qa tp bo e uc lr nx b 3 (i.1.2.2.2.1 b (3 : Nat)) (i.1.2.2.2.2 (4 * b + 3)) hb (by decide) (by rw [e9]; have := TB_tix (t := 3) hTB (by decide); omega)
  rw [XT_self, e9] at k9
  exact k9
theorem kt3_empty (l : Launch) (D : Dx) (A : Nat → Prop) (ad : Nat → Nat) (K : Int → Int) (S Q qa : Nat → Int → Int) (tp : Nat → Nat) (s bo e uc lr nx : Int → Int) (b : Nat) (hb : b < 3) (hTB : TB s) : CT l D A yX7_empty cX7_empty 1 (some .int) { frames := 0, cells := 0, slots := 0, locals := 0 } [.ref (kT ad b 3)] (CW D A ad K (uS S b s) Q qa tp bo e uc lr nx) (fun _ : Unit => some (vI 0)) (fun _ => True) (fun _ => CW D A ad K (uS S b (sU s 47 0)) Q qa tp bo e uc lr nx) := by
  refine CT_map (I := CI K (uS S b s)) (S := Unit) (P := fun i => XW D A ad K i.1.1 i.1.2.1 i.1.2.2.1 i.1.2.2.2.1 i.1.2.2.2.2 Q qa tp bo e uc lr nx) (rv := fun _ _ => some (vI 0)) (φ := fun _ _ => True) (P1 := fun i _ => XT D A ad K i.1.1 i.1.2.1 i.1.2.2.1 i.1.2.2.2.1 i.1.2.2.2.2 Q qa tp bo e uc lr nx b 3 0 (i.1.2.2.2.2 (4 * b + 3))) (fun H h => CW_I h) (fun i => ?_) (fun i u _ => ⟨(), rfl, trivial, fun H h => ⟨_, _, _, _, _, AG_upd (hB' := i.1.1) (mB' := i.1.2.1) (rB' := i.1.2.2.1) (tz' := uS i.1.2.2.2.1 b (sU (i.1.2.2.2.1 b) (3 : Nat) 0)) (tc' := uS i.1.2.2.2.2 (4 * b + 3) (i.1.2.2.2.2 (4 * b + 3))) hb i.2 (fun g => by rw [uS_eq, uS_self]; exact Ag_emp3 hTB g) (fun c hc1 h3 g => by rw [uS_ne hc1, uS_self]; exact g), h⟩⟩)
  have k9 := kc7_empty l D A ad K i.1.1 i.1.2.1 i.1.2.2.1 i.1.2.2.2.1 i.1.2.2.2.2 Q qa tp bo e uc lr nx b 3 (i.1.2.2.2.1 b (3 : Nat)) (i.1.2.2.2.2 (4 * b + 3)) hb (by decide)
  rw [XT_self] at k9
  exact k9
theorem kt3_add (l : Launch) (D : Dx) (A : Nat → Prop) (ad : Nat → Nat) (K : Int → Int) (S Q qa : Nat → Int → Int) (tp : Nat → Nat) (s bo e uc lr nx : Int → Int) (b : Nat) (hb : b < 3) (u v w : Int) (hTB : TB s) (hlt : s 47 < 8) : CT l D A yX7_add cX7_add 6 (some .int) { frames := 1, cells := 0, slots := 0, locals := 20 } [.ref (kT ad b 3), vI u, vI v, vI w] (CW D A ad K (uS S b s) Q qa tp bo e uc lr nx) (fun _ : Unit => some (vI (s 47 + 1))) (fun _ => True) (fun _ => CW D A ad K (uS S b (sU (sU (sU (sU s (134 + s 47) u) (142 + s 47) v) (150 + s 47) w) 47 (s 47 + 1))) Q qa tp bo e uc lr nx) := by
  refine CT_map (I := CI K (uS S b s)) (S := Unit) (P := fun i => XW D A ad K i.1.1 i.1.2.1 i.1.2.2.1 i.1.2.2.2.1 i.1.2.2.2.2 Q qa tp bo e uc lr nx) (rv := fun _ _ => some (vI (s 47 + 1))) (φ := fun _ _ => True) (P1 := fun i _ => XT D A ad K i.1.1 i.1.2.1 i.1.2.2.1 i.1.2.2.2.1 i.1.2.2.2.2 Q qa tp bo e uc lr nx b 3 (s 47 + 1) (addF (i.1.2.2.2.2 (4 * b + 3)) (s 47 * 3) 3 u v w)) (fun H h => CW_I h) (fun i => ?_) (fun i q _ => ⟨(), rfl, trivial, fun H h => ⟨_, _, _, _, _, AG_upd (hB' := i.1.1) (mB' := i.1.2.1) (rB' := i.1.2.2.1) (tz' := uS i.1.2.2.2.1 b (sU (i.1.2.2.2.1 b) (3 : Nat) (s 47 + 1))) (tc' := uS i.1.2.2.2.2 (4 * b + 3) (addF (i.1.2.2.2.2 (4 * b + 3)) (s 47 * 3) 3 u v w)) hb i.2 (fun g => by rw [uS_eq]; exact Ag_add3 hTB hlt g) (fun c hc1 h3 g => Ag_tz g (uS_ne hc1) (fun t ht => uS_ne (by omega))), h⟩⟩)
  have e9 := tz_ag (t := 3) (i.2.at hb) (by decide)
  have e8 : i.1.2.2.2.1 b (3 : Nat) = s 47 := e9
  have hb9 := TB_tix (t := 3) hTB (by decide)
  have k9 := kc7_add l D A ad K i.1.1 i.1.2.1 i.1.2.2.1 i.1.2.2.2.1 i.1.2.2.2.2 Q qa tp bo e uc lr nx b 3 (i.1.2.2.2.1 b (3 : Nat)) (i.1.2.2.2.2 (4 * b + 3)) hb (by decide) u v w (by rw [e9]; omega) (by rw [e8]; show (s 47 + 1) * 3 ≤ 24; omega)
  rw [XT_self, e8] at k9
  exact k9
theorem kt3_at0 (l : Launch) (D : Dx) (A : Nat → Prop) (ad : Nat → Nat) (K : Int → Int) (S Q qa : Nat → Int → Int) (tp : Nat → Nat) (s bo e uc lr nx : Int → Int) (b : Nat) (hb : b < 3) (r : Int) (hTB : TB s) (hrr : 0 ≤ r ∧ r < s 47) : CT l D A yX7_at cX7_at 3 (some .int) { frames := 1, cells := 0, slots := 0, locals := 22 } [.ref (kT ad b 3), vI r, vI 0] (CW D A ad K (uS S b s) Q qa tp bo e uc lr nx) (fun _ : Unit => some (vI (s (134 + r)))) (fun _ => True) (fun _ => CW D A ad K (uS S b s) Q qa tp bo e uc lr nx) := by
  refine CT_map (I := CI K (uS S b s)) (S := Unit) (P := fun i => XW D A ad K i.1.1 i.1.2.1 i.1.2.2.1 i.1.2.2.2.1 i.1.2.2.2.2 Q qa tp bo e uc lr nx) (rv := fun _ _ => some (vI (s (134 + r)))) (φ := fun _ _ => True) (P1 := fun i _ => XW D A ad K i.1.1 i.1.2.1 i.1.2.2.1 i.1.2.2.2.1 i.1.2.2.2.2 Q qa tp bo e uc lr nx) (fun H h => CW_I h) (fun i => ?_) (fun i u _ => ⟨(), rfl, trivial, fun H h => ⟨_, _, _, _, _, i.2, h⟩⟩)
  have e9 := tz_ag (t := 3) (i.2.at hb) (by decide)
  have e8 : i.1.2.2.2.1 b (3 : Nat) = s 47 := e9
  have hb9 := TB_tix (t := 3) hTB (by decide)
  have e7 : i.1.2.2.2.2 (4 * b + 3) (3 * r) = s (134 + r) := ((i.2.at hb).2.2.2.2.2.2 r hrr.1 hrr.2).1
  have e6 : r * tcol 3 + 0 = 3 * r := by show r * 3 + 0 = 3 * r; omega
  have hTB2 := hTB
  unfold TB at hTB2
  have k9 := kc7_at l D A ad K i.1.1 i.1.2.1 i.1.2.2.1 i.1.2.2.2.1 i.1.2.2.2.2 Q qa tp bo e uc lr nx b 3 (i.1.2.2.2.1 b (3 : Nat)) (i.1.2.2.2.2 (4 * b + 3)) hb (by decide) r 0 (by rw [e9]; omega) (by rw [e8]; exact hrr) (by show (0 : Int) ≤ 0 ∧ (0 : Int) < 3; omega) (by rw [e8]; show s 47 * 3 ≤ 24; omega)
  rw [XT_self, e6, e7] at k9
  exact k9
theorem kt3_at1 (l : Launch) (D : Dx) (A : Nat → Prop) (ad : Nat → Nat) (K : Int → Int) (S Q qa : Nat → Int → Int) (tp : Nat → Nat) (s bo e uc lr nx : Int → Int) (b : Nat) (hb : b < 3) (r : Int) (hTB : TB s) (hrr : 0 ≤ r ∧ r < s 47) : CT l D A yX7_at cX7_at 3 (some .int) { frames := 1, cells := 0, slots := 0, locals := 22 } [.ref (kT ad b 3), vI r, vI 1] (CW D A ad K (uS S b s) Q qa tp bo e uc lr nx) (fun _ : Unit => some (vI (s (142 + r)))) (fun _ => True) (fun _ => CW D A ad K (uS S b s) Q qa tp bo e uc lr nx) := by
  refine CT_map (I := CI K (uS S b s)) (S := Unit) (P := fun i => XW D A ad K i.1.1 i.1.2.1 i.1.2.2.1 i.1.2.2.2.1 i.1.2.2.2.2 Q qa tp bo e uc lr nx) (rv := fun _ _ => some (vI (s (142 + r)))) (φ := fun _ _ => True) (P1 := fun i _ => XW D A ad K i.1.1 i.1.2.1 i.1.2.2.1 i.1.2.2.2.1 i.1.2.2.2.2 Q qa tp bo e uc lr nx) (fun H h => CW_I h) (fun i => ?_) (fun i u _ => ⟨(), rfl, trivial, fun H h => ⟨_, _, _, _, _, i.2, h⟩⟩)
  have e9 := tz_ag (t := 3) (i.2.at hb) (by decide)
  have e8 : i.1.2.2.2.1 b (3 : Nat) = s 47 := e9
  have hb9 := TB_tix (t := 3) hTB (by decide)
  have e7 : i.1.2.2.2.2 (4 * b + 3) (3 * r + 1) = s (142 + r) := ((i.2.at hb).2.2.2.2.2.2 r hrr.1 hrr.2).2.1
  have e6 : r * tcol 3 + 1 = 3 * r + 1 := by show r * 3 + 1 = 3 * r + 1; omega
  have hTB2 := hTB
  unfold TB at hTB2
  have k9 := kc7_at l D A ad K i.1.1 i.1.2.1 i.1.2.2.1 i.1.2.2.2.1 i.1.2.2.2.2 Q qa tp bo e uc lr nx b 3 (i.1.2.2.2.1 b (3 : Nat)) (i.1.2.2.2.2 (4 * b + 3)) hb (by decide) r 1 (by rw [e9]; omega) (by rw [e8]; exact hrr) (by show (0 : Int) ≤ 1 ∧ (1 : Int) < 3; omega) (by rw [e8]; show s 47 * 3 ≤ 24; omega)
  rw [XT_self, e6, e7] at k9
  exact k9
theorem kt3_at2 (l : Launch) (D : Dx) (A : Nat → Prop) (ad : Nat → Nat) (K : Int → Int) (S Q qa : Nat → Int → Int) (tp : Nat → Nat) (s bo e uc lr nx : Int → Int) (b : Nat) (hb : b < 3) (r : Int) (hTB : TB s) (hrr : 0 ≤ r ∧ r < s 47) : CT l D A yX7_at cX7_at 3 (some .int) { frames := 1, cells := 0, slots := 0, locals := 22 } [.ref (kT ad b 3), vI r, vI 2] (CW D A ad K (uS S b s) Q qa tp bo e uc lr nx) (fun _ : Unit => some (vI (s (150 + r)))) (fun _ => True) (fun _ => CW D A ad K (uS S b s) Q qa tp bo e uc lr nx) := by
  refine CT_map (I := CI K (uS S b s)) (S := Unit) (P := fun i => XW D A ad K i.1.1 i.1.2.1 i.1.2.2.1 i.1.2.2.2.1 i.1.2.2.2.2 Q qa tp bo e uc lr nx) (rv := fun _ _ => some (vI (s (150 + r)))) (φ := fun _ _ => True) (P1 := fun i _ => XW D A ad K i.1.1 i.1.2.1 i.1.2.2.1 i.1.2.2.2.1 i.1.2.2.2.2 Q qa tp bo e uc lr nx) (fun H h => CW_I h) (fun i => ?_) (fun i u _ => ⟨(), rfl, trivial, fun H h => ⟨_, _, _, _, _, i.2, h⟩⟩)
  have e9 := tz_ag (t := 3) (i.2.at hb) (by decide)
  have e8 : i.1.2.2.2.1 b (3 : Nat) = s 47 := e9
  have hb9 := TB_tix (t := 3) hTB (by decide)
  have e7 : i.1.2.2.2.2 (4 * b + 3) (3 * r + 2) = s (150 + r) := ((i.2.at hb).2.2.2.2.2.2 r hrr.1 hrr.2).2.2
  have e6 : r * tcol 3 + 2 = 3 * r + 2 := by show r * 3 + 2 = 3 * r + 2; omega
  have hTB2 := hTB
  unfold TB at hTB2
  have k9 := kc7_at l D A ad K i.1.1 i.1.2.1 i.1.2.2.1 i.1.2.2.2.1 i.1.2.2.2.2 Q qa tp bo e uc lr nx b 3 (i.1.2.2.2.1 b (3 : Nat)) (i.1.2.2.2.2 (4 * b + 3)) hb (by decide) r 2 (by rw [e9]; omega) (by rw [e8]; exact hrr) (by show (0 : Int) ≤ 2 ∧ (2 : Int) < 3; omega) (by rw [e8]; show s 47 * 3 ≤ 24; omega)
  rw [XT_self, e6, e7] at k9
  exact k9
