/-! THE STEPS OF A PLATE, as one list -/
theorem wfS_end {op : Int} {r : List Int} (h1 : -299 ≤ op) (h2 : op ≤ -10) (h3 : op ≤ -200 ∨ -109 ≤ op) (h4 : wfS r 0) : wfS (op :: r) 1 := by
  unfold wfS
  rw [if_neg (by omega), if_neg (by omega), if_neg (by omega)]
  exact ⟨rfl, h1, h3, h4⟩
theorem much_ok {c : Nat → Int} {n w p : Nat} {kind : Int} (h : CE c n) (hw : w < 7) (hp : p ≤ n) (hk : kind = -10 ∨ kind = -200) (hok : (muchF c w kind p).2.1 = true) : ∀ rest, wfS rest 0 → wfS ((muchF c w kind p).2.2 ++ rest) 0 := by
  obtain ⟨t1, t2, t3, t4⟩ := tellF_rng h hw hp
  have hm := (mustF_rng (x := 32) (ok := (tellF c w p).1.2) h (by decide) t2).2.1
  have hok : (someA c (mustF c 32 (tellF c w p).1)).2.1 = true := hok
  intro rest hr
  show wfS (((someA c (mustF c 32 (tellF c w p).1)).2.2 ++ (if (someA c (mustF c 32 (tellF c w p).1)).2.1 = true then [kind - (tellF c w p).2] else [])) ++ rest) 0
  rw [if_pos hok]
  by_cases hu : (mustF c 32 (tellF c w p).1).2 = true
  · have e : someA c (mustF c 32 (tellF c w p).1) = someF (facF c 5) c (mustF c 32 (tellF c w p).1).1 := if_pos hu
    rw [e] at hok ⊢
    rw [List.append_assoc]
    refine some_ok (K := 11) h hm (fun x hx hxo => fac_ok h 5 x hx hxo) hok 0 _ (by omega) ?_
    exact wfS_end (by omega) (by omega) (by omega) hr
  · have e : someA c (mustF c 32 (tellF c w p).1) = ((mustF c 32 (tellF c w p).1).1, false, []) := if_neg hu
    rw [e] at hok
    exact Bool.noConfusion hok
def clL (c : Nat → Int) (p : Nat) : List Int := if c p = 109 then [] else if c p = 114 then (muchF c 5 (-10) p).2.2 else if c p = 115 then (muchF c 6 (-200) p).2.2 else []
theorem cl_ok {c : Nat → Int} {n p : Nat} (h : CE c n) (hp : p ≤ n) (hok : (clF c p).2 = true) : ∀ rest, wfS rest 0 → wfS (clL c p ++ rest) 0 := by
  intro rest hr
  unfold clF at hok
  unfold clL
  by_cases q1 : c p = 109
  · rw [if_pos q1]; exact hr
  · rw [if_neg q1] at hok ⊢
    by_cases q2 : c p = 114
    · rw [if_pos q2] at hok ⊢
      exact much_ok h (by decide) hp (Or.inl rfl) hok rest hr
    · rw [if_neg q2] at hok ⊢
      by_cases q3 : c p = 115
      · rw [if_pos q3] at hok ⊢
        exact much_ok h (by decide) hp (Or.inr rfl) hok rest hr
      · rw [if_neg q3]; exact hr
def plL (c : Nat → Int) (s0 : Int → Int) (a : Int) : Nat → List Int
  | 0 => clL c 0
  | k + 1 => if (plI c s0 a k).1.2 = true ∧ c (plI c s0 a k).1.1 = 59 then plL c s0 a k ++ clL c ((plI c s0 a k).1.1 + 1) else plL c s0 a k
theorem pl_ok {c : Nat → Int} {n : Nat} {s0 : Int → Int} {a : Int} (h : CE c n) (ha : 0 ≤ a ∧ a ≤ 4) (hs : s0 (268 + a) = 0) : ∀ k, (plI c s0 a k).1.2 = true → ∀ rest, wfS rest 0 → wfS (plL c s0 a k ++ rest) 0
  | 0, hok => cl_ok h (Nat.zero_le n) hok
  | k + 1, hok => by
    intro rest hr
    unfold plI at hok
    unfold plL
    by_cases q : (plI c s0 a k).1.2 = true ∧ c (plI c s0 a k).1.1 = 59
    · rw [if_pos q] at hok ⊢
      have hl := h.lt (p := (plI c s0 a k).1.1) (by rw [q.2]; decide)
      rw [List.append_assoc]
      exact pl_ok h ha hs k q.1 _ (cl_ok h hl hok rest hr)
    · rw [if_neg q] at hok ⊢
      exact pl_ok h ha hs k hok rest hr
