/-! BEHIND plate() -/
theorem PQ_cl {s0 : Int → Int} {c : Nat → Int} {n p : Nat} {a : Int} {L : List Int} {t : Int → Int} (h : CE c n) (hn : n ≤ 100) (hp : p ≤ n) (ha : 0 ≤ a ∧ a ≤ 4) (hq : PQ s0 a L t) (hL : L.length ≤ p) : PQ s0 a (L ++ clL c p) (clS c p t a) := by
  have m5 := much_rng (w := 5) (kind := -10) h (by decide) hp
  have m6 := much_rng (w := 6) (kind := -200) h (by decide) hp
  have t3 := tellF_rng (w := 3) h (by decide) hp
  have t4 := tellF_rng (w := 4) h (by decide) hp
  obtain ⟨a1, a2, a3⟩ := m5
  obtain ⟨b1, b2, b3⟩ := m6
  have hid : PQ s0 a (L ++ []) t := by rw [List.append_nil]; exact hq
  unfold clL clS
  by_cases q1 : c p = 109
  · rw [if_pos q1, if_pos q1]
    split
    · exact PQ_num ha hq (by omega) (Or.inr rfl) t4.2.2
    · exact hid
  · rw [if_neg q1, if_neg q1]
    by_cases q2 : c p = 114
    · rw [if_pos q2, if_pos q2]
      exact PQ_em ha hq (by omega)
    · rw [if_neg q2, if_neg q2]
      by_cases q3 : c p = 115
      · rw [if_pos q3, if_pos q3]
        exact PQ_em ha hq (by omega)
      · rw [if_neg q3, if_neg q3]
        split
        · split
          · exact PQ_num ha hq (by omega) (Or.inl rfl) t3.2.2
          · exact hid
        · exact hid
