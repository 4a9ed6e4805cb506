/-! WHAT A TAPE IS READ AS: places are numbers, c p the sign at p (-1 behind the end) -/
abbrev isDp (x : Int) : Prop := 48 ≤ x ∧ x ≤ 57
def mustF (c : Nat → Int) (x : Int) (u : Nat × Bool) : Nat × Bool := if u.2 = true ∧ c u.1 = x then (u.1 + 1, true) else (u.1, false)
def spF (c : Nat → Int) (w : Nat) : Nat → Nat × Bool → Nat × Bool
  | 0, u => u
  | k + 1, u => mustF c (zch w (k : Int)) (spF c w k u)
def figF (c : Nat → Int) (u : Nat × Bool) : (Nat × Bool) × Int := if u.2 = true ∧ isDp (c u.1) then (if isDp (c (u.1 + 1)) ∧ 0 < c u.1 - 48 then ((u.1 + 2, true), 10 * (c u.1 - 48) + c (u.1 + 1) - 48) else ((u.1 + 1, true), c u.1 - 48)) else ((u.1, false), 0)
def zix (w : Nat) (x : Int) : Int := leastM (fun k => decide (zch w (k : Int) = x)) (zn w).toNat
abbrev R3 : Type := Nat × Bool × List Int
def atomF (c : Nat → Int) (p : Nat) : R3 :=
  if zix 1 (c p) = -1 then (p, false, []) else if zix 2 (c (p + 1)) = -1 then (p + 1, false, []) else
  ((figF c (p + 2, true)).1.1, (figF c (p + 2, true)).1.2, if (figF c (p + 2, true)).1.2 = true then [zix 1 (c p) + 8 * zix 2 (c (p + 1)) + 32 * (figF c (p + 2, true)).2] else [])
def evL (f : Nat → R3) (c : Nat → Int) (sep op : Int) : Nat → R3 → R3
  | 0, r => r
  | F + 1, r => if r.2.1 = true ∧ c r.1 = sep then evL f c sep op F ((f (r.1 + 1)).1, (f (r.1 + 1)).2.1, r.2.2 ++ (f (r.1 + 1)).2.2 ++ (if (f (r.1 + 1)).2.1 = true then [op] else [])) else r
def everyF (f : Nat → R3) (c : Nat → Int) (p : Nat) : R3 := evL f c 38 (-2) 101 (f p)
def someF (f : Nat → R3) (c : Nat → Int) (p : Nat) : R3 := evL (everyF f c) c 124 (-3) 101 (everyF f c p)
def facF (c : Nat → Int) : Nat → Nat → R3
  | 0, p => if c p = 33 ∨ c p = 40 then (p, false, []) else atomF c p
  | o + 1, p => if c p = 33 then ((facF c o (p + 1)).1, (facF c o (p + 1)).2.1, (facF c o (p + 1)).2.2 ++ (if (facF c o (p + 1)).2.1 = true then [-1] else []))
    else if c p = 40 then ((mustF c 41 ((someF (facF c o) c (p + 1)).1, (someF (facF c o) c (p + 1)).2.1)).1, (mustF c 41 ((someF (facF c o) c (p + 1)).1, (someF (facF c o) c (p + 1)).2.1)).2, (someF (facF c o) c (p + 1)).2.2)
    else atomF c p
/-- how far: forth, not behind the end n; as many steps at most as signs -/
def RB (n p : Nat) (r : R3) : Prop := p ≤ r.1 ∧ r.1 ≤ n ∧ r.2.2.length + p ≤ r.1
def CE (c : Nat → Int) (n : Nat) : Prop := ∀ p, (c p = -1 ↔ n ≤ p) ∧ -1 ≤ c p ∧ c p ≤ 127
theorem CE.lt {c : Nat → Int} {n p : Nat} (h : CE c n) (h2 : c p ≠ -1) : p < n := by
  rcases Nat.lt_or_ge p n with q | q
  · exact q
  · exact absurd ((h p).1.mpr q) h2
theorem mustF_rng {c : Nat → Int} {n p : Nat} {x : Int} {ok : Bool} (h : CE c n) (hx : x ≠ -1) (hp : p ≤ n) : p ≤ (mustF c x (p, ok)).1 ∧ (mustF c x (p, ok)).1 ≤ n ∧ ((mustF c x (p, ok)).2 = true → (mustF c x (p, ok)).1 = p + 1) := by
  unfold mustF
  split
  · rename_i q
    have := h.lt (p := p) (by rw [q.2]; exact hx)
    exact ⟨Nat.le_succ p, this, fun _ => rfl⟩
  · exact ⟨Nat.le_refl p, hp, fun e => Bool.noConfusion e⟩
theorem figF_rng {c : Nat → Int} {n p : Nat} {ok : Bool} (h : CE c n) (hp : p ≤ n) : p ≤ (figF c (p, ok)).1.1 ∧ (figF c (p, ok)).1.1 ≤ n ∧ ((figF c (p, ok)).1.2 = true → p + 1 ≤ (figF c (p, ok)).1.1) ∧ 0 ≤ (figF c (p, ok)).2 ∧ (figF c (p, ok)).2 ≤ 99 := by
  unfold figF
  split
  · rename_i q
    have h1 := h.lt (p := p) (by have := q.2.1; show c p ≠ -1; have : 48 ≤ c p := this; omega)
    have q1 : 48 ≤ c p := q.2.1
    have q2 : c p ≤ 57 := q.2.2
    split
    · rename_i z
      have h2 := h.lt (p := p + 1) (by have : 48 ≤ c (p + 1) := z.1.1; omega)
      have z1 : 48 ≤ c (p + 1) := z.1.1
      have z2 : c (p + 1) ≤ 57 := z.1.2
      refine ⟨by show p ≤ p + 2; omega, by show p + 2 ≤ n; omega, fun _ => by show p + 1 ≤ p + 2; omega, ?_, ?_⟩
      · show 0 ≤ 10 * (c p - 48) + c (p + 1) - 48; omega
      · show 10 * (c p - 48) + c (p + 1) - 48 ≤ 99; omega
    · refine ⟨by show p ≤ p + 1; omega, h1, fun _ => Nat.le_refl _, ?_, ?_⟩
      · show 0 ≤ c p - 48; omega
      · show c p - 48 ≤ 99; omega
  · exact ⟨Nat.le_refl p, hp, fun e => Bool.noConfusion e, Int.le_refl _, by show (0 : Int) ≤ 99; omega⟩
theorem zix_rng (w : Nat) (x : Int) : -1 ≤ zix w x ∧ zix w x < (zn w).toNat := leastM_rng _ _
theorem zix_end {w : Nat} (hw : w < 7) : zix w (-1) = -1 := by
  refine leastM_none.mpr (fun k hk => decide_eq_false ?_)
  have h1 := zn_rng w hw
  have := zch_rng w hw (k := (k : Int)) (by omega)
  omega
theorem atomF_rng {c : Nat → Int} {n p : Nat} (h : CE c n) (hp : p ≤ n) : RB n p (atomF c p) := by
  unfold atomF
  split
  · exact ⟨Nat.le_refl p, hp, by simp⟩
  · rename_i q1
    have h1 := h.lt (p := p) (fun e => q1 (by rw [e]; exact zix_end (by decide)))
    split
    · exact ⟨Nat.le_succ p, h1, by show 0 + p ≤ p + 1; omega⟩
    · rename_i q2
      have h2 := h.lt (p := p + 1) (fun e => q2 (by rw [e]; exact zix_end (by decide)))
      have hf := figF_rng (ok := true) h (p := p + 2) (by omega)
      refine ⟨by show p ≤ (figF c (p + 2, true)).1.1; omega, hf.2.1, ?_⟩
      show List.length (if (figF c (p + 2, true)).1.2 = true then _ else _) + p ≤ (figF c (p + 2, true)).1.1
      split
      · show 1 + p ≤ _; omega
      · show 0 + p ≤ _; omega
theorem evL_rng {f : Nat → R3} {c : Nat → Int} {sep op : Int} {n : Nat} (h : CE c n) (hs : sep ≠ -1) (hf : ∀ p, p ≤ n → RB n p (f p)) {p : Nat} : ∀ (F : Nat) (r : R3), RB n p r → RB n p (evL f c sep op F r)
  | 0, r, hr => hr
  | F + 1, r, hr => by
    unfold evL
    split
    · rename_i q
      have h1 := h.lt (p := r.1) (by rw [q.2]; exact hs)
      obtain ⟨a1, a2, a3⟩ := hf (r.1 + 1) h1
      obtain ⟨b1, b2, b3⟩ := hr
      refine evL_rng h hs hf F _ ⟨by show p ≤ (f (r.1 + 1)).1; omega, a2, ?_⟩
      show List.length (r.2.2 ++ (f (r.1 + 1)).2.2 ++ (if (f (r.1 + 1)).2.1 = true then [op] else [])) + p ≤ (f (r.1 + 1)).1
      rw [List.length_append, List.length_append]
      have : List.length (if (f (r.1 + 1)).2.1 = true then [op] else []) ≤ 1 := by split <;> simp
      omega
    · exact hr
theorem everyF_rng {f : Nat → R3} {c : Nat → Int} {n : Nat} (h : CE c n) (hf : ∀ p, p ≤ n → RB n p (f p)) {p : Nat} (hp : p ≤ n) : RB n p (everyF f c p) := evL_rng h (by decide) hf _ _ (hf p hp)
theorem someF_rng {f : Nat → R3} {c : Nat → Int} {n : Nat} (h : CE c n) (hf : ∀ p, p ≤ n → RB n p (f p)) {p : Nat} (hp : p ≤ n) : RB n p (someF f c p) := evL_rng h (by decide) (fun _ q => everyF_rng h hf q) _ _ (everyF_rng h hf hp)
theorem facF_rng {c : Nat → Int} {n : Nat} (h : CE c n) : ∀ (o p : Nat), p ≤ n → RB n p (facF c o p)
  | 0, p, hp => by
    unfold facF
    split
    · exact ⟨Nat.le_refl p, hp, by simp⟩
    · exact atomF_rng h hp
  | o + 1, p, hp => by
    unfold facF
    split
    · rename_i q
      have h1 := h.lt (p := p) (by rw [q]; decide)
      obtain ⟨a1, a2, a3⟩ := facF_rng h o (p + 1) h1
      refine ⟨by show p ≤ (facF c o (p + 1)).1; omega, a2, ?_⟩
      show List.length ((facF c o (p + 1)).2.2 ++ (if (facF c o (p + 1)).2.1 = true then [-1] else [])) + p ≤ (facF c o (p + 1)).1
      rw [List.length_append]
      have : List.length (if (facF c o (p + 1)).2.1 = true then [(-1 : Int)] else []) ≤ 1 := by split <;> simp
      omega
    · split
      · rename_i q
        have h1 := h.lt (p := p) (by rw [q]; decide)
        obtain ⟨a1, a2, a3⟩ := someF_rng h (fun x hx => facF_rng h o x hx) (p := p + 1) h1
        have hm := mustF_rng (x := 41) (ok := (someF (facF c o) c (p + 1)).2.1) h (by decide) a2
        refine ⟨by show p ≤ (mustF _ _ _).1; omega, hm.2.1, ?_⟩
        show List.length (someF (facF c o) c (p + 1)).2.2 + p ≤ (mustF _ _ _).1
        omega
      · exact atomF_rng h hp
