/-! BEHIND plate() -/
theorem PQ_cl {s0 : Int → Int} {c : Nat → Int} {n p : Nat} {a : Int} {L : List Int} {t : Int → Int} (h : CE c n) (hn : n ≤ 100) (hp : p ≤ n) (ha : 0 ≤ a ∧ a ≤ 4) (hq : PQ s0 a L t) (hL : L.length ≤ p) : PQ s0 a (L ++ clL c p) (clS c p t a) := by
  have m5 := much_rng (w := 5) (kind := -10) h (by decide) hp
  have m6 := much_rng (w := 6) (kind := -200) h (by decide) hp
  have t3 := tellF_rng (w := 3) h (by decide) hp
  have t4 := tellF_rng (w := 4) h (by decide) hp
  obtain ⟨a1, a2, a3⟩ := m5
  obtain ⟨b1, b2, b3⟩ := m6
  have hid : PQ s0 a (L ++ []) t := by rw [List.append_nil]; exact hq
  unfold clL clS
  by_cases q1 : c p = 109
  · rw [if_pos q1, if_pos q1]
    split
    · exact PQ_num ha hq (by omega) (Or.inr rfl) t4.2.2
    · exact hid
  · rw [if_neg q1, if_neg q1]
    by_cases q2 : c p = 114
    · rw [if_pos q2, if_pos q2]
      exact PQ_em ha hq (by omega)
    · rw [if_neg q2, if_neg q2]
      by_cases q3 : c p = 115
      · rw [if_pos q3, if_pos q3]
        exact PQ_em ha hq (by omega)
      · rw [if_neg q3, if_neg q3]
        split
        · split
          · exact PQ_num ha hq (by omega) (Or.inl rfl) t3.2.2
          · exact hid
        · exact hid
theorem PQ_pl {s0 : Int → Int} {c : Nat → Int} {n : Nat} {a : Int} (h : CE c n) (hn : n ≤ 100) (ha : 0 ≤ a ∧ a ≤ 4) (hq : PQ s0 a [] s0) : ∀ k, PQ s0 a (plL c s0 a k) (plI c s0 a k).2
  | 0 => by
    have := PQ_cl (p := 0) h hn (Nat.zero_le n) ha hq (Nat.le_refl 0)
    rw [List.nil_append] at this
    exact this
  | k + 1 => by
    have ih := PQ_pl h hn ha hq k
    unfold plI plL
    by_cases q : (plI c s0 a k).1.2 = true ∧ c (plI c s0 a k).1.1 = 59
    · rw [if_pos q, if_pos q]
      have hl := h.lt (p := (plI c s0 a k).1.1) (by rw [q.2]; decide)
      have hi := (plI_inv (s0 := s0) h ha hq.1 k).2.1
      rw [ih.1] at hi
      exact PQ_cl h hn hl ha ih (by omega)
    · rw [if_neg q, if_neg q]
      exact ih
theorem rs0_PQ {s : Int → Int} (ha : 0 ≤ s 44 ∧ s 44 ≤ 4) : PQ (rs0 s) (s 44) [] (rs0 s) := by
  refine ⟨sU_eq, fun j hj => absurd hj (Nat.not_lt_zero j), ?_, ?_, fun q _ _ _ _ => rfl⟩
  · unfold rs0
    rw [sU_ne (by omega), sU_ne (by omega), sU_eq]; omega
  · unfold rs0
    rw [sU_ne (by omega), sU_eq]; omega
theorem plR_PQ {s : Int → Int} (hT : TS s) (ha : 0 ≤ s 44 ∧ s 44 ≤ 4) : PQ (rs0 s) (s 44) (plL (chT s) (rs0 s) (s 44) 9) (plR s).2 := PQ_pl (chT_CE hT) (by have := hT.1; omega) ha (rs0_PQ ha) 9
def okP (s : Int → Int) : Prop := (plR s).1.2 = true ∧ ((plR s).1.1 : Int) = s 48
def plS (s : Int → Int) : List Int := plL (chT s) (rs0 s) (s 44) 9
theorem plS_len {s : Int → Int} (hT : TS s) (ha : 0 ≤ s 44 ∧ s 44 ≤ 4) : (plS s).length ≤ 100 := by
  have h1 := (plR_PQ hT ha).1
  have h2 := plI_inv (s0 := rs0 s) (chT_CE hT) ha sU_eq 9
  have h3 := h2.2.1.2
  have h4 := h2.1
  have h5 := hT.1
  have e : (plI (chT s) (rs0 s) (s 44) 9).2 (268 + s 44) = ((plS s).length : Int) := h1
  rw [e] at h3
  omega
theorem plate_HE {s : Int → Int} (hT : TS s) (ha : 0 ≤ s 44 ∧ s 44 ≤ 4) (hok : okP s) : HE (f_plate s) (plS s) := by
  have hq := plR_PQ hT ha
  have hl := plS_len hT ha
  have e : f_plate s = sU (sU (plR s).2 44 (s 44 + 1)) 49 (s 44) := by
    unfold f_plate
    rw [if_neg (by omega)]
    exact if_pos hok
  rw [e]
  have e49 : sU (sU (plR s).2 44 (s 44 + 1)) 49 (s 44) 49 = s 44 := sU_eq
  refine ⟨?_, by omega, Or.inr ⟨by rw [e49]; exact ha.1, by rw [e49]; exact ha.2, ?_, fun j hj => ?_⟩⟩
  · have := pl_ok (chT_CE hT) (s0 := rs0 s) ha sU_eq 9 hok.1 [] trivial
    rw [List.append_nil] at this
    exact this
  · rw [e49, sU_ne (by omega), sU_ne (by omega)]
    exact hq.1
  · rw [e49, sU_ne (by omega), sU_ne (by omega)]
    exact hq.2.1 j hj
