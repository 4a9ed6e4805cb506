/-! WHAT IS READ IS WELL FORMED: K: how many truths more may stand at once -/
def OKL (K : Nat) (L : List Int) : Prop := ∀ (d : Nat) (rest : List Int), d + K ≤ 20 → wfS rest (d + 1) → wfS (L ++ rest) d
theorem OKL.mono {K K' : Nat} {L : List Int} (h : OKL K L) (hk : K ≤ K') : OKL K' L := fun d rest h1 h2 => h d rest (by omega) h2
theorem wfS_pos {op : Int} {r : List Int} {d : Nat} (h : 0 ≤ op) (h1 : op % 8 < 6) (h2 : op / 8 % 4 < 3) (h3 : op < 4000) (h4 : d < 20) (h5 : wfS r (d + 1)) : wfS (op :: r) d := by
  unfold wfS
  rw [if_pos h]
  exact ⟨h1, h2, h3, h4, h5⟩
theorem wfS_not {r : List Int} {d : Nat} (h1 : 1 ≤ d) (h2 : wfS r d) : wfS (-1 :: r) d := by
  unfold wfS
  rw [if_neg (by omega), if_pos rfl]
  exact ⟨h1, h2⟩
theorem wfS_bin {op : Int} {r : List Int} {d : Nat} (h : op = -2 ∨ op = -3) (h1 : 2 ≤ d) (h2 : wfS r (d - 1)) : wfS (op :: r) d := by
  unfold wfS
  rw [if_neg (by omega), if_neg (by omega), if_pos (by omega)]
  exact ⟨h, h1, h2⟩
theorem atom_ok {c : Nat → Int} {n p : Nat} (h : CE c n) (hp : p ≤ n) (hok : (atomF c p).2.1 = true) : OKL 1 (atomF c p).2.2 := by
  unfold atomF at hok ⊢
  by_cases q1 : zix 1 (c p) = -1
  · rw [if_pos q1] at hok; exact Bool.noConfusion hok
  · rw [if_neg q1] at hok ⊢
    by_cases q2 : zix 2 (c (p + 1)) = -1
    · rw [if_pos q2] at hok; exact Bool.noConfusion hok
    · rw [if_neg q2] at hok ⊢
      have hok : (figF c (p + 2, true)).1.2 = true := hok
      intro d rest h1 h2
      show wfS ((if (figF c (p + 2, true)).1.2 = true then _ else _) ++ rest) d
      rw [if_pos hok]
      have l1 := h.lt (p := p) (fun e => q1 (by rw [e]; exact zix_end (by decide)))
      have l2 := h.lt (p := p + 1) (fun e => q2 (by rw [e]; exact zix_end (by decide)))
      have hf := (figF_rng (ok := true) h (p := p + 2) (by omega)).2.2.2
      have z1 := zix_rng 1 (c p)
      have z2 := zix_rng 2 (c (p + 1))
      have e1 : (zn 1).toNat = 6 := by decide +kernel
      have e2 : (zn 2).toNat = 3 := by decide +kernel
      rw [e1] at z1
      rw [e2] at z2
      exact wfS_pos (by omega) (by omega) (by omega) (by omega) (by omega) h2
theorem evL_ok {f : Nat → R3} {c : Nat → Int} {sep op : Int} {n K : Nat} (h : CE c n) (hs : sep ≠ -1) (ho : op = -2 ∨ op = -3) (hf : ∀ p, p ≤ n → (f p).2.1 = true → OKL K (f p).2.2) : ∀ (F : Nat) (r : R3), (r.2.1 = true → OKL (K + 1) r.2.2) → (evL f c sep op F r).2.1 = true → OKL (K + 1) (evL f c sep op F r).2.2
  | 0, r, hr, hok => hr hok
  | F + 1, r, hr, hok => by
    unfold evL at hok ⊢
    by_cases q : r.2.1 = true ∧ c r.1 = sep
    · rw [if_pos q] at hok ⊢
      have hl := h.lt (p := r.1) (by rw [q.2]; exact hs)
      refine evL_ok h hs ho hf F _ (fun hk => ?_) hok
      have hk : (f (r.1 + 1)).2.1 = true := hk
      show OKL (K + 1) (r.2.2 ++ (f (r.1 + 1)).2.2 ++ (if (f (r.1 + 1)).2.1 = true then [op] else []))
      rw [if_pos hk]
      intro d rest h1 h2
      rw [List.append_assoc, List.append_assoc]
      refine hr q.1 d _ h1 (hf _ hl hk (d + 1) _ (by omega) ?_)
      exact wfS_bin ho (by omega) h2
    · rw [if_neg q] at hok ⊢
      exact hr hok
theorem every_ok {f : Nat → R3} {c : Nat → Int} {n K p : Nat} (h : CE c n) (hp : p ≤ n) (hf : ∀ p, p ≤ n → (f p).2.1 = true → OKL K (f p).2.2) (hok : (everyF f c p).2.1 = true) : OKL (K + 1) (everyF f c p).2.2 := evL_ok h (by decide) (Or.inl rfl) hf _ _ (fun q => (hf p hp q).mono (Nat.le_succ K)) hok
theorem some_ok {f : Nat → R3} {c : Nat → Int} {n K p : Nat} (h : CE c n) (hp : p ≤ n) (hf : ∀ p, p ≤ n → (f p).2.1 = true → OKL K (f p).2.2) (hok : (someF f c p).2.1 = true) : OKL (K + 2) (someF f c p).2.2 := evL_ok (K := K + 1) h (by decide) (Or.inr rfl) (fun p hp q => every_ok h hp hf q) _ _ (fun q => (every_ok h hp hf q).mono (Nat.le_succ _)) hok
theorem fac_ok {c : Nat → Int} {n : Nat} (h : CE c n) : ∀ (o p : Nat), p ≤ n → (facF c o p).2.1 = true → OKL (2 * o + 1) (facF c o p).2.2
  | 0, p, hp, hok => by
    unfold facF at hok ⊢
    by_cases q : c p = 33 ∨ c p = 40
    · rw [if_pos q] at hok; exact Bool.noConfusion hok
    · rw [if_neg q] at hok ⊢
      exact atom_ok h hp hok
  | o + 1, p, hp, hok => by
    unfold facF at hok ⊢
    by_cases q : c p = 33
    · rw [if_pos q] at hok ⊢
      have hl := h.lt (p := p) (by rw [q]; decide)
      have hok : (facF c o (p + 1)).2.1 = true := hok
      show OKL _ ((facF c o (p + 1)).2.2 ++ (if (facF c o (p + 1)).2.1 = true then [-1] else []))
      rw [if_pos hok]
      intro d rest h1 h2
      rw [List.append_assoc]
      exact fac_ok h o (p + 1) hl hok d _ (by omega) (wfS_not (by omega) h2)
    · rw [if_neg q] at hok ⊢
      by_cases q2 : c p = 40
      · rw [if_pos q2] at hok ⊢
        have hl := h.lt (p := p) (by rw [q2]; decide)
        have hs : (someF (facF c o) c (p + 1)).2.1 = true := by
          have hok : (mustF c 41 ((someF (facF c o) c (p + 1)).1, (someF (facF c o) c (p + 1)).2.1)).2 = true := hok
          unfold mustF at hok
          by_cases z : (someF (facF c o) c (p + 1)).2.1 = true ∧ c (someF (facF c o) c (p + 1)).1 = 41
          · exact z.1
          · rw [if_neg z] at hok; exact Bool.noConfusion hok
        exact (some_ok h hl (fun x hx hxo => fac_ok h o x hx hxo) hs).mono (by omega)
      · rw [if_neg q2] at hok ⊢
        exact (atom_ok h hp hok).mono (by omega)
