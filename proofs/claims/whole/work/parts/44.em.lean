/-! WHERE THE STEPS LIE -/
theorem emS_q {a : Int} (ha : 0 ≤ a ∧ a ≤ 4) : ∀ {L : List Int} {s : Int → Int} {m : Nat}, s (268 + a) = m → m + L.length ≤ 140 → (∀ q : Int, q ≠ 268 + a → ¬ (273 + 140 * a + m ≤ q ∧ q < 273 + 140 * a + m + L.length) → emS s a L q = s q) ∧ ∀ j : Nat, j < L.length → emS s a L (273 + 140 * a + m + j) = L.getD j 0
  | [], s, m, _, _ => ⟨fun _ _ _ => rfl, fun j hj => absurd hj (Nat.not_lt_zero j)⟩
  | x :: r, s, m, hm, hl => by
    rw [List.length_cons] at hl
    have e1 : em1 s a x (268 + a) = ((m + 1 : Nat) : Int) := by
      show sU _ _ _ _ = _
      rw [sU_eq, hm]; omega
    obtain ⟨i1, i2⟩ := emS_q ha (L := r) (s := em1 s a x) (m := m + 1) e1 (by omega)
    refine ⟨fun q h1 h2 => ?_, fun j hj => ?_⟩
    · rw [List.length_cons] at h2
      show emS (em1 s a x) a r q = s q
      rw [i1 q h1 (by omega)]
      unfold em1
      rw [sU_ne h1, sU_ne (by omega)]
    · show emS (em1 s a x) a r _ = _
      cases j with
      | zero =>
        rw [i1 _ (by omega) (by omega)]
        unfold em1
        rw [sU_ne (by omega), show 273 + 140 * a + (m : Int) + ((0 : Nat) : Int) = 273 + 140 * a + s (268 + a) by omega, sU_eq]
        rfl
      | succ j =>
        rw [List.length_cons] at hj
        have := i2 j (by omega)
        rw [show 273 + 140 * a + (m : Int) + ((j + 1 : Nat) : Int) = 273 + 140 * a + ((m + 1 : Nat) : Int) + j by omega]
        exact this
/-- behind k clauses more: how many steps, which; the numbers told; all else is as it was -/
def PQ (s0 : Int → Int) (a : Int) (L : List Int) (t : Int → Int) : Prop :=
  t (268 + a) = L.length ∧ (∀ j : Nat, j < L.length → t (273 + 140 * a + j) = L.getD j 0) ∧ (0 ≤ t (258 + a) ∧ t (258 + a) ≤ 99) ∧ (0 ≤ t (263 + a) ∧ t (263 + a) ≤ 99) ∧ ∀ q : Int, q ≠ 258 + a → q ≠ 263 + a → q ≠ 268 + a → ¬ (273 + 140 * a ≤ q ∧ q < 273 + 140 * a + 140) → t q = s0 q
theorem PQ_num {s0 : Int → Int} {a v j : Int} {L : List Int} {t : Int → Int} (ha : 0 ≤ a ∧ a ≤ 4) (h : PQ s0 a L t) (hL : L.length ≤ 140) (hj : j = 258 + a ∨ j = 263 + a) (hv : 0 ≤ v ∧ v ≤ 99) : PQ s0 a (L ++ []) (sU t j v) := by
  obtain ⟨h1, h2, h3, h4, h5⟩ := h
  rw [List.append_nil]
  refine ⟨by rw [sU_ne (by omega)]; exact h1, fun k hk => by rw [sU_ne (by omega)]; exact h2 k hk, ?_, ?_, fun q q1 q2 q3 q4 => by rw [sU_ne (by omega)]; exact h5 q q1 q2 q3 q4⟩
  · rw [sU_at]; split <;> omega
  · rw [sU_at]; split <;> omega
theorem PQ_em {s0 : Int → Int} {a : Int} {L M : List Int} {t : Int → Int} (ha : 0 ≤ a ∧ a ≤ 4) (h : PQ s0 a L t) (hL : L.length + M.length ≤ 140) : PQ s0 a (L ++ M) (emS t a M) := by
  obtain ⟨h1, h2, h3, h4, h5⟩ := h
  obtain ⟨i1, i2⟩ := emS_q ha (L := M) (s := t) (m := L.length) h1 hL
  refine ⟨by rw [emS_268, h1, List.length_append]; omega, fun j hj => ?_, ?_, ?_, fun q q1 q2 q3 q4 => ?_⟩
  · rw [List.length_append] at hj
    by_cases q : j < L.length
    · rw [i1 _ (by omega) (by omega), h2 j q]
      simp [List.getD, List.getElem?_append_left q]
    · have := i2 (j - L.length) (by omega)
      rw [show 273 + 140 * a + (L.length : Int) + ((j - L.length : Nat) : Int) = 273 + 140 * a + j by omega] at this
      rw [this]
      simp [List.getD, List.getElem?_append_right (Nat.le_of_not_lt q)]
  · rw [i1 _ (by omega) (by omega)]; exact h3
  · rw [i1 _ (by omega) (by omega)]; exact h4
  · rw [i1 _ q3 (by omega)]; exact h5 q q1 q2 q3 q4
