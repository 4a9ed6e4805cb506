/-! THE CLASS: reading a tape, a clause -/
def EL (L : List Int) : Prop := ∀ o ∈ L, okO o
theorem fig_99 (c : Nat → Int) (u : Nat × Bool) : 0 ≤ (figF c u).2 ∧ (figF c u).2 ≤ 99 := by
  unfold figF
  split
  · rename_i q
    have q1 : 48 ≤ c u.1 := q.2.1
    have q2 : c u.1 ≤ 57 := q.2.2
    split
    · rename_i z
      have z1 : 48 ≤ c (u.1 + 1) := z.1.1
      have z2 : c (u.1 + 1) ≤ 57 := z.1.2
      constructor
      · show 0 ≤ 10 * (c u.1 - 48) + c (u.1 + 1) - 48; omega
      · show 10 * (c u.1 - 48) + c (u.1 + 1) - 48 ≤ 99; omega
    · constructor
      · show 0 ≤ c u.1 - 48; omega
      · show c u.1 - 48 ≤ 99; omega
  · exact ⟨Int.le_refl _, by show (0 : Int) ≤ 99; omega⟩
theorem EL_app {L M : List Int} (h : EL L) (h2 : EL M) : EL (L ++ M) := fun o ho => by
  rcases List.mem_append.mp ho with q | q
  · exact h o q
  · exact h2 o q
theorem EL_nil : EL [] := fun o ho => absurd ho List.not_mem_nil
theorem EL_1 {x : Int} (h : okO x) : EL [x] := fun o ho => by
  rw [List.mem_singleton.mp ho]; exact h
theorem EL_if {p : Prop} [Decidable p] {L M : List Int} (h : p → EL L) (h2 : EL M) : EL (if p then L else M) := by
  split
  · rename_i q; exact h q
  · exact h2
theorem atom_el (c : Nat → Int) (p : Nat) : EL (atomF c p).2.2 := by
  unfold atomF
  split
  · exact EL_nil
  · rename_i q1
    split
    · exact EL_nil
    · rename_i q2
      refine EL_if (fun _ => EL_1 ?_) EL_nil
      have hz := zn_12
      have r1 := zix_rng 1 (c p)
      have r2 := zix_rng 2 (c (p + 1))
      rw [hz.1] at r1
      rw [hz.2] at r2
      have hn := fig_99 c (p + 2, true)
      constructor <;> omega
theorem evL_el {f : Nat → R3} {c : Nat → Int} {sep op : Int} (hop : okO op) (hf : ∀ p, EL (f p).2.2) : ∀ (F : Nat) (r : R3), EL r.2.2 → EL (evL f c sep op F r).2.2
  | 0, r, h => h
  | F + 1, r, h => by
    unfold evL
    split
    · exact evL_el hop hf F _ (EL_app (EL_app h (hf _)) (EL_if (fun _ => EL_1 hop) EL_nil))
    · exact h
theorem every_el {f : Nat → R3} {c : Nat → Int} (hf : ∀ p, EL (f p).2.2) (p : Nat) : EL (everyF f c p).2.2 := evL_el ⟨by decide, by decide⟩ hf _ _ (hf p)
theorem some_el {f : Nat → R3} {c : Nat → Int} (hf : ∀ p, EL (f p).2.2) (p : Nat) : EL (someF f c p).2.2 := evL_el ⟨by decide, by decide⟩ (fun p => every_el hf p) _ _ (every_el hf p)
theorem fac_el (c : Nat → Int) : ∀ (o p : Nat), EL (facF c o p).2.2
  | 0, p => by rw [fac_0]; exact atom_el c p
  | o + 1, p => by
    unfold facF
    split
    · exact EL_app (fac_el c o (p + 1)) (EL_if (fun _ => EL_1 ⟨by decide, by decide⟩) EL_nil)
    · split
      · exact some_el (fun x => fac_el c o x) (p + 1)
      · exact atom_el c p
theorem wd_pos {c : Nat → Int} {p : Nat} (h : (wdF c p).1.2 = true) : ∃ a P : Nat, a < 4 ∧ c p = zch 0 (4 * (a : Int)) ∧ spF c (3 + a) 4 (p, true) = (P, true) ∧ wdF c p = ((P, true), (a : Int)) := by
  have key : ∀ a : Nat, a < 4 → c p = zch 0 (4 * (a : Int)) → ∃ a P : Nat, a < 4 ∧ c p = zch 0 (4 * (a : Int)) ∧ spF c (3 + a) 4 (p, true) = (P, true) ∧ wdF c p = ((P, true), (a : Int)) := fun a ha hc => by
    have e := wd_at ha hc
    rw [e] at h
    have e2 : spF c (3 + a) 4 (p, true) = ((spF c (3 + a) 4 (p, true)).1, true) := Prod.ext rfl h
    exact ⟨a, _, ha, hc, e2, by rw [e, ← e2]⟩
  obtain ⟨z0, z1, z2, z3⟩ := z0_a
  by_cases h0 : c p = 119
  · exact key 0 (by decide) (h0.trans z0.symm)
  by_cases h1 : c p = 109
  · exact key 1 (by decide) (h1.trans z1.symm)
  by_cases h2 : c p = 114
  · exact key 2 (by decide) (h2.trans z2.symm)
  by_cases h3 : c p = 115
  · exact key 3 (by decide) (h3.trans z3.symm)
  unfold wdF at h
  rw [if_neg h0, if_neg h1, if_neg h2, if_neg h3] at h
  exact Bool.noConfusion h
theorem tl_a {c : Nat → Int} {a p : Nat} (ha : a < 4) : tellF c (3 + a) p = figF c (mustF c 32 (spF c (3 + a) 4 (p, true))) := by
  have e : ∀ a, a < 4 → (zn (3 + a)).toNat = 5 ∧ zch (3 + a) ((4 : Nat) : Int) = 32 := by decide +kernel
  obtain ⟨e1, e2⟩ := e a ha
  unfold tellF
  rw [e1, ← e2]
  rfl
theorem fig_f {c : Nat → Int} {u : Nat × Bool} (h : u.2 = false) : figF c u = ((u.1, false), 0) := if_neg (fun q => by rw [h] at q; exact Bool.noConfusion q.1)
theorem must_f {c : Nat → Int} {x : Int} {u : Nat × Bool} (h : u.2 = false) : mustF c x u = (u.1, false) := if_neg (fun q => by rw [h] at q; exact Bool.noConfusion q.1)
def claF (c : Nat → Int) (p : Nat) : Cla := if c p = 119 then (0, (tellF c 3 p).2, []) else if c p = 109 then (1, (tellF c 4 p).2, []) else if c p = 114 then (2, (tellF c 5 p).2, (someA c (mustF c 32 (tellF c 5 p).1)).2.2) else (3, (tellF c 6 p).2, (someA c (mustF c 32 (tellF c 6 p).1)).2.2)
theorem cl_01 {c : Nat → Int} {a p : Nat} (ha : a < 2) (hc : c p = zch 0 (4 * (a : Int))) : clF c p = (tellF c (3 + a) p).1 ∧ claF c p = ((a : Int), (tellF c (3 + a) p).2, []) := by
  obtain ⟨z0, z1, z2, z3⟩ := z0_a
  unfold clF claF
  rcases (show a = 0 ∨ a = 1 by omega) with rfl | rfl
  · rw [show (4 * ((0 : Nat) : Int)) = 0 from rfl, z0] at hc
    rw [if_neg (by omega), if_neg (by omega), if_neg (by omega), if_pos hc, if_pos hc]
    exact ⟨rfl, rfl⟩
  · rw [show (4 * ((1 : Nat) : Int)) = 4 from rfl, z1] at hc
    rw [if_pos hc, if_neg (by omega), if_pos hc]
    exact ⟨rfl, rfl⟩
theorem cl_23 {c : Nat → Int} {a p : Nat} (ha : 2 ≤ a ∧ a < 4) (hc : c p = zch 0 (4 * (a : Int))) : clF c p = ((someA c (mustF c 32 (tellF c (3 + a) p).1)).1, (someA c (mustF c 32 (tellF c (3 + a) p).1)).2.1) ∧ claF c p = ((a : Int), (tellF c (3 + a) p).2, (someA c (mustF c 32 (tellF c (3 + a) p).1)).2.2) := by
  obtain ⟨z0, z1, z2, z3⟩ := z0_a
  unfold clF claF
  rcases (show a = 2 ∨ a = 3 by omega) with rfl | rfl
  · rw [show (4 * ((2 : Nat) : Int)) = 8 from rfl, z2] at hc
    rw [if_neg (by omega), if_pos hc, if_neg (by omega), if_neg (by omega), if_pos hc]
    exact ⟨rfl, rfl⟩
  · rw [show (4 * ((3 : Nat) : Int)) = 12 from rfl, z3] at hc
    rw [if_neg (by omega), if_neg (by omega), if_pos hc, if_neg (by omega), if_neg (by omega), if_neg (by omega)]
    exact ⟨rfl, rfl⟩
/-- the number's place behind the word: not ok, so the clause isn't -/
theorem cl_tf {c : Nat → Int} {a p : Nat} (ha : a < 4) (hc : c p = zch 0 (4 * (a : Int))) (h : (tellF c (3 + a) p).1.2 = false) : clF c p = ((tellF c (3 + a) p).1.1, false) := by
  by_cases q : a < 2
  · rw [(cl_01 q hc).1]; exact Prod.ext rfl h
  · rw [(cl_23 (by omega) hc).1, must_f h]; rfl
theorem cl_w {c : Nat → Int} {p : Nat} (h : ¬ (wdF c p).1.2 = true) : clF c p = ((wdF c p).1.1, false) := by
  have key : ∀ a : Nat, a < 4 → c p = zch 0 (4 * (a : Int)) → clF c p = ((wdF c p).1.1, false) := fun a ha hc => by
    have e := wd_at ha hc
    rw [e] at h
    have hf : (spF c (3 + a) 4 (p, true)).2 = false := Bool.eq_false_iff.mpr h
    have et : tellF c (3 + a) p = (((spF c (3 + a) 4 (p, true)).1, false), 0) := by rw [tl_a ha, must_f hf]; exact fig_f rfl
    rw [cl_tf ha hc (by rw [et]), et, e]
  obtain ⟨z0, z1, z2, z3⟩ := z0_a
  by_cases h0 : c p = 119
  · exact key 0 (by decide) (h0.trans z0.symm)
  by_cases h1 : c p = 109
  · exact key 1 (by decide) (h1.trans z1.symm)
  by_cases h2 : c p = 114
  · exact key 2 (by decide) (h2.trans z2.symm)
  by_cases h3 : c p = 115
  · exact key 3 (by decide) (h3.trans z3.symm)
  unfold wdF clF
  rw [if_neg h0, if_neg h1, if_neg h2, if_neg h3, if_neg h1, if_neg h2, if_neg h3, if_neg h0]
theorem tl_n {c : Nat → Int} {a p P : Nat} (ha : a < 4) (hu : spF c (3 + a) 4 (p, true) = (P, true)) (h : ¬ c P = 32) : tellF c (3 + a) p = ((P, false), 0) := by
  rw [tl_a ha, hu, show mustF c 32 (P, true) = (P, false) from if_neg (fun q => h q.2)]; exact fig_f rfl
theorem tl_y {c : Nat → Int} {a p P : Nat} (ha : a < 4) (hu : spF c (3 + a) 4 (p, true) = (P, true)) (h : c P = 32) : tellF c (3 + a) p = figF c (P + 1, true) := by
  rw [tl_a ha, hu, show mustF c 32 (P, true) = (P + 1, true) from if_pos ⟨rfl, h⟩]
theorem clx_n {c : Nat → Int} {a p P : Nat} (ha : a < 4) (hc : c p = zch 0 (4 * (a : Int))) (hu : spF c (3 + a) 4 (p, true) = (P, true)) (h : ¬ c P = 32) : clF c p = (P, false) := by
  have et := tl_n ha hu h
  rw [cl_tf ha hc (by rw [et]), et]
theorem clx_f {c : Nat → Int} {a p P : Nat} (ha : a < 4) (hc : c p = zch 0 (4 * (a : Int))) (hu : spF c (3 + a) 4 (p, true) = (P, true)) (h : c P = 32) (hf : (figF c (P + 1, true)).1.2 = false) : clF c p = ((figF c (P + 1, true)).1.1, false) := by
  have et := tl_y ha hu h
  rw [cl_tf ha hc (by rw [et]; exact hf), et]
theorem clx_t {c : Nat → Int} {a p P F : Nat} {n : Int} (ha : a < 2) (hc : c p = zch 0 (4 * (a : Int))) (hu : spF c (3 + a) 4 (p, true) = (P, true)) (h : c P = 32) (hf : figF c (P + 1, true) = ((F, true), n)) : clF c p = (F, true) ∧ claF c p = ((a : Int), n, []) := by
  have et := tl_y (by omega) hu h
  obtain ⟨e1, e2⟩ := cl_01 ha hc
  rw [et, hf] at e1 e2
  exact ⟨e1, e2⟩
theorem clx_m {c : Nat → Int} {a p P F : Nat} {n : Int} (ha : 2 ≤ a ∧ a < 4) (hc : c p = zch 0 (4 * (a : Int))) (hu : spF c (3 + a) 4 (p, true) = (P, true)) (h : c P = 32) (hf : figF c (P + 1, true) = ((F, true), n)) (h2 : ¬ c F = 32) : clF c p = (F, false) := by
  have et := tl_y (by omega) hu h
  have e1 := (cl_23 ha hc).1
  rw [et, hf, show mustF c 32 (F, true) = (F, false) from if_neg (fun q => h2 q.2)] at e1
  exact e1
theorem clx_y {c : Nat → Int} {a p P F : Nat} {n : Int} (ha : 2 ≤ a ∧ a < 4) (hc : c p = zch 0 (4 * (a : Int))) (hu : spF c (3 + a) 4 (p, true) = (P, true)) (h : c P = 32) (hf : figF c (P + 1, true) = ((F, true), n)) (h2 : c F = 32) : clF c p = ((someF (facF c 5) c (F + 1)).1, (someF (facF c 5) c (F + 1)).2.1) ∧ claF c p = ((a : Int), n, (someF (facF c 5) c (F + 1)).2.2) := by
  have et := tl_y (by omega) hu h
  obtain ⟨e1, e2⟩ := cl_23 ha hc
  rw [et, hf, show mustF c 32 (F, true) = (F + 1, true) from if_pos ⟨rfl, h2⟩] at e1 e2
  exact ⟨e1, e2⟩
theorem cla_L (c : Nat → Int) (p : Nat) (h : (clF c p).2 = true) : clL c p = slC (claF c p) ∧ (0 ≤ (claF c p).1 ∧ (claF c p).1 ≤ 3) ∧ (0 ≤ (claF c p).2.1 ∧ (claF c p).2.1 ≤ 99) ∧ ((claF c p).1 < 2 → (claF c p).2.2 = []) ∧ EL (claF c p).2.2 := by
  have hsa : ∀ u, EL (someA c u).2.2 := fun u => by
    unfold someA
    split
    · exact some_el (fun x => fac_el c 5 x) _
    · exact EL_nil
  have f9 : ∀ w, 0 ≤ (tellF c w p).2 ∧ (tellF c w p).2 ≤ 99 := fun w => fig_99 c _
  unfold clF at h
  unfold clL claF
  by_cases h1 : c p = 109
  · rw [if_pos h1, if_neg (by omega), if_pos h1]
    exact ⟨rfl, by refine ⟨?_, ?_⟩ <;> dsimp only <;> omega, f9 4, fun _ => rfl, EL_nil⟩
  · by_cases h2 : c p = 114
    · rw [if_neg h1, if_pos h2] at h
      have h : (someA c (mustF c 32 (tellF c 5 p).1)).2.1 = true := h
      rw [if_neg h1, if_pos h2, if_neg (by omega), if_neg h1, if_pos h2]
      refine ⟨?_, by refine ⟨?_, ?_⟩ <;> dsimp only <;> omega, f9 5, fun q => by dsimp only at q; omega, hsa _⟩
      show (someA c (mustF c 32 (tellF c 5 p).1)).2.2 ++ (if (someA c (mustF c 32 (tellF c 5 p).1)).2.1 = true then _ else []) = _
      rw [if_pos h]; rfl
    · by_cases h3 : c p = 115
      · rw [if_neg h1, if_neg h2, if_pos h3] at h
        have h : (someA c (mustF c 32 (tellF c 6 p).1)).2.1 = true := h
        rw [if_neg h1, if_neg h2, if_pos h3, if_neg (by omega), if_neg h1, if_neg h2]
        refine ⟨?_, by refine ⟨?_, ?_⟩ <;> dsimp only <;> omega, f9 6, fun q => by dsimp only at q; omega, hsa _⟩
        show (someA c (mustF c 32 (tellF c 6 p).1)).2.2 ++ (if (someA c (mustF c 32 (tellF c 6 p).1)).2.1 = true then _ else []) = _
        rw [if_pos h]; rfl
      · rw [if_neg h1, if_neg h2, if_neg h3] at h ⊢
        by_cases h4 : c p = 119
        · rw [if_pos h4]
          exact ⟨rfl, by refine ⟨?_, ?_⟩ <;> dsimp only <;> omega, f9 3, fun _ => rfl, EL_nil⟩
        · rw [if_neg h4] at h
          exact Bool.noConfusion h
/-- behind a clause: place, codes, what was kept of it -/
def CM (q w0 w1 w2 w3 : Int → Int) (r : Nat × Bool) (k : Cla) (q' x0 x1 x2 x3 : Int → Int) : Prop := q' 2 = q 2 ∧ q' 3 = (r.1 : Int) ∧ (0 ≤ q' 1 ∧ q' 1 ≤ 100) ∧ (0 ≤ q' 0 ∧ q' 0 ≤ 10) ∧ (r.2 = true → q' 0 = q 0 + 1 ∧ q' 1 = q 1 + (k.2.2.length : Int) ∧ x0 = sU w0 (q 0) k.1 ∧ x1 = sU w1 (q 0) k.2.1 ∧ x2 = sU w2 (q 0) (q 1 + (k.2.2.length : Int)) ∧ ((∀ j : Int, 0 ≤ j → j < q 1 → x3 j = w3 j) ∧ ∀ i : Nat, i < k.2.2.length → x3 (q 1 + (i : Int)) = cvO (k.2.2.getD i 0)) ∧ q' 4 = (if k.1 = 0 then (if 1 < k.2.1 then k.2.1 else 1) else q 4) ∧ q' 5 = (if k.1 = 1 then k.2.1 else q 5))
theorem CM_f {q w0 w1 w2 w3 q' x0 x1 x2 x3 : Int → Int} {r : Nat × Bool} {k : Cla} (h2 : q' 2 = q 2) (h3 : q' 3 = (r.1 : Int)) (h1 : 0 ≤ q' 1 ∧ q' 1 ≤ 100) (h0 : 0 ≤ q' 0 ∧ q' 0 ≤ 10) (hr : r.2 = false) : CM q w0 w1 w2 w3 r k q' x0 x1 x2 x3 := ⟨h2, h3, h1, h0, fun h => by rw [hr] at h; exact Bool.noConfusion h⟩
theorem CM_y {q w0 w1 w2 w3 q' x0 x1 x2 x3 : Int → Int} {P : Nat} {a n : Int} {L : List Int} (h2 : q' 2 = q 2) (h3 : q' 3 = (P : Int)) (h1 : q' 1 = q 1 + (L.length : Int)) (h1b : 0 ≤ q' 1 ∧ q' 1 ≤ 100) (h0 : q' 0 = q 0 + 1) (h0b : 0 ≤ q 0 ∧ q 0 < 10) (e0 : x0 = sU w0 (q 0) a) (e1 : x1 = sU w1 (q 0) n) (e2 : x2 = sU w2 (q 0) (q 1 + (L.length : Int))) (e3 : (∀ j : Int, 0 ≤ j → j < q 1 → x3 j = w3 j) ∧ ∀ i : Nat, i < L.length → x3 (q 1 + (i : Int)) = cvO (L.getD i 0)) (h4 : q' 4 = if a = 0 then (if 1 < n then n else 1) else q 4) (h5 : q' 5 = if a = 1 then n else q 5) : CM q w0 w1 w2 w3 (P, true) (a, n, L) q' x0 x1 x2 x3 := ⟨h2, h3, h1b, by omega, fun _ => ⟨h0, h1, e0, e1, e2, e3, h4, h5⟩⟩
theorem EM_in2 {q w y v : Int → Int} {x : Int} {r : R3} (h : EM (sU q 3 x) w r y v) : EM q w r y v := by
  obtain ⟨a1, a2, a3, a4⟩ := h
  refine ⟨fun k g1 g2 => (a1 k g1 g2).trans (sU_ne g2), a2, a3, fun hr => ?_⟩
  have h4 := a4 hr
  rw [sU_ne (show (1 : Int) ≠ 3 by decide)] at h4
  exact h4
theorem spP {c : Nat → Int} {n a p P : Nat} (h : CE c n) (ha : a < 4) (hp : p ≤ n) (hu : spF c (3 + a) 4 (p, true) = (P, true)) : p ≤ P ∧ P ≤ n := by
  have e : ∀ a, a < 4 → (zn (3 + a)).toNat = 5 := by decide +kernel
  have h1 := spF_rng (w := 3 + a) h (by omega) 4 (p, true) (by have := e a ha; omega) hp
  rw [hu] at h1
  exact h1
theorem wd_b (c : Nat → Int) (p : Nat) : 0 ≤ (wdF c p).2 ∧ (wdF c p).2 ≤ 3 := by
  unfold wdF
  (repeat' split) <;> dsimp only <;> omega
theorem wd_yes {c : Nat → Int} {p : Nat} (h : ¬ (if (wdF c p).1.2 = true then (wdF c p).2 else -1) < 0) : ∃ a P : Nat, a < 4 ∧ c p = zch 0 (4 * (a : Int)) ∧ spF c (3 + a) 4 (p, true) = (P, true) ∧ wdF c p = ((P, true), (a : Int)) := by
  refine wd_pos ?_
  apply Decidable.byContradiction
  intro q
  rw [if_neg q] at h
  omega
theorem wd_neg {c : Nat → Int} {p : Nat} (h : (if (wdF c p).1.2 = true then (wdF c p).2 else -1) < 0) : ¬ (wdF c p).1.2 = true := fun q => by
  obtain ⟨a, P, _, _, _, e⟩ := wd_pos q
  rw [if_pos q, e] at h
  have h : (a : Int) < 0 := h
  omega
theorem fig_yes {c : Nat → Int} {u : Nat × Bool} (h : ¬ (if (figF c u).1.2 = true then (figF c u).2 else -1) < 0) : ∃ (F : Nat) (n : Int), figF c u = ((F, true), n) ∧ 0 ≤ n ∧ n ≤ 99 := by
  have h9 := fig_99 c u
  by_cases q : (figF c u).1.2 = true
  · exact ⟨(figF c u).1.1, (figF c u).2, Prod.ext (Prod.ext rfl q) rfl, h9⟩
  · rw [if_neg q] at h
    omega
theorem fig_neg {c : Nat → Int} {u : Nat × Bool} (h : (if (figF c u).1.2 = true then (figF c u).2 else -1) < 0) : (figF c u).1.2 = false := by
  have h9 := fig_99 c u
  apply Bool.eq_false_iff.mpr
  intro q
  rw [if_pos q] at h
  omega
theorem fig_pl {c : Nat → Int} {n p F : Nat} {v : Int} (h : CE c n) (hp : p ≤ n) (hf : figF c (p, true) = ((F, true), v)) : p + 1 ≤ F ∧ F ≤ n := by
  have h1 := figF_rng (ok := true) h hp
  rw [hf] at h1
  exact ⟨h1.2.2.1 rfl, h1.2.1⟩
set_option maxHeartbeats 4000000 in
set_option maxRecDepth 100000 in
theorem kc6_readClause (l : Launch) (D : Dx) (A : Nat → Prop) (ad : Nat → Nat) (K : Int → Int) (S Q qa : Nat → Int → Int) (tp : Nat → Nat) (s q w0 w1 w2 w3 bo e uc lr nx : Int → Int) (p : Nat) (hp : p < 6) (pp : Nat) (hq2 : q 2 = s 48) (h3 : q 3 = (pp : Int)) (hTS : TS s) (hpn : (pp : Int) ≤ s 48) (htp : tp p = kC ad 0 0) (hkp : 0 ≤ q 1 ∧ q 1 ≤ (pp : Int)) (hc0 : 0 ≤ q 0 ∧ q 0 < 10) : CT l D A yX6_readClause cX6_readClause 3 (some .boolean) { frames := 23, cells := 0, slots := 0, locals := 521 } [.ref (kP ad p)] (CW D A ad K (uS S 0 s) (uS Q p q) (q4 qa p w0 w1 w2 w3) tp bo e uc lr nx) (fun u : (Int → Int) × (Int → Int) × (Int → Int) × (Int → Int) × (Int → Int) => some (vI (bi ((clF (chT s) pp).2 = true)))) (fun u => CM q w0 w1 w2 w3 (clF (chT s) pp) (claF (chT s) pp) u.1 u.2.1 u.2.2.1 u.2.2.2.1 u.2.2.2.2) (fun u => CW D A ad K (uS S 0 s) (uS Q p u.1) (q4 qa p u.2.1 u.2.2.1 u.2.2.2.1 u.2.2.2.2) tp bo e uc lr nx) := by
  refine ct_of (lo0 := [(0, .ref (kP ad p))]) (by decide) (Nat.le_of_ble_eq_true rfl) rfl ?_
  intro G hG hR
  have hT1 := hTS.1
  have hCE := chT_CE hTS
  refine v_aload_n hG dX6_readClause_0 rfl 0 rfl ?_
  refine v_callV (k1' := 0) (k2' := 0) hG dX6_readClause_1 zc_X6_readWord ⟨zl_X6_60, zi_X6_readWord, zs_X6_readWord⟩ (fun l => kc6_readWord l D A ad K S Q qa tp s q w0 w1 w2 w3 bo e uc lr nx p hp pp (by first | assumption | (rw [sU_ne (by omega)]; assumption) | (simp only [sU_at]; (repeat' split) <;> first | assumption | (exfalso; omega))) (by first | exact sU_eq | assumption) (by assumption) (by omega) (by assumption)) rfl (cR6 hp) (fun _ h => h) ⟨by decide, by decide⟩ rfl rfl ⟨by decide, by decide⟩ (rest := []) rfl (Nat.le_of_ble_eq_true rfl) (fun u1 => [vI (if (wdF (chT s) pp).1.2 = true then (wdF (chT s) pp).2 else -1)]) (fun _ => rfl) (fun u1 hu1 => ?_)
  have hwb := wd_b (chT s) pp
  refine v_istore_n (lo' := [(1, vI (if (wdF (chT s) pp).1.2 = true then (wdF (chT s) pp).2 else -1)), (0, .ref (kP ad p))]) hG dX6_readClause_4 rfl (by decide) rfl ?_
  refine v_iload_n hG dX6_readClause_5 rfl 0 rfl ?_
  refine v_if_lt (tgt := 18) hG dX6_readClause_6 (by decide) (by omega) (fun c2 => ?_) (fun c2 => ?_)
  · skip
    refine v_iconst hG dX6_readClause_18 ?_
    have cz1 := cl_w (wd_neg (c := chT s) (p := pp) (by assumption))
    have cz3 : @Eq Int _ _ := @rfl Int (((wdF (chT s) pp).1.1 : Nat) : Int)
    have e3 : @Eq Int (bi ((clF (chT s) pp).2 = true)) (0) := by rw [bi_neg (show ¬ (clF (chT s) pp).2 = true by rw [cz1]; exact Bool.false_ne_true)]
    exact v_zreturn hG hR dX6_readClause_19 (Or.inl rfl) (sU q 3 (((wdF (chT s) pp).1.1 : Nat) : Int), w0, w1, w2, w3) (congrArg (fun z => some (vI z)) e3) (by rw [cz1]; dsimp only; exact CM_f (by simp only [sU_at]; (repeat' split) <;> first | rfl | omega) (sU_eq.trans cz3) (by simp only [sU_at]; (repeat' split) <;> first | rfl | omega) (by simp only [sU_at]; (repeat' split) <;> first | rfl | omega) rfl) (fun _ hM => hM)
  · skip
    obtain ⟨a, P, ha, hca, hu, hwe⟩ := wd_yes (c := chT s) (p := pp) (by assumption)
    rw [show (if (wdF (chT s) pp).1.2 = true then (wdF (chT s) pp).2 else (-1 : Int)) = (a : Int) from congrArg (fun z : (Nat × Bool) × Int => if z.1.2 = true then z.2 else (-1 : Int)) hwe, show (((wdF (chT s) pp).1.1 : Nat) : Int) = (P : Int) from congrArg (fun z : (Nat × Bool) × Int => ((z.1.1 : Nat) : Int)) hwe]
    obtain ⟨hP1, hP2⟩ := spP hCE ha (show pp ≤ (s 48).toNat by omega) hu
    refine v_aload_n hG dX6_readClause_9 rfl 1 rfl ?_
    refine v_bipush hG dX6_readClause_10 (by decide) ?_
    refine v_callV (k1' := 0) (k2' := 0) hG dX6_readClause_12 zc_X6_skip ⟨zl_X6_56, zi_X6_skip, zs_X6_skip⟩ (fun l => kc6_skip l D A ad K S Q qa tp s (sU q 3 (P : Int)) w0 w1 w2 w3 bo e uc lr nx p hp P 32 (by first | assumption | (rw [sU_ne (by omega)]; assumption) | (simp only [sU_at]; (repeat' split) <;> first | assumption | (exfalso; omega))) (by exact sU_eq) (by assumption) (by omega) (by assumption) (by omega)) rfl (cR6 hp) (fun _ h => h) ⟨by decide, by decide⟩ rfl rfl ⟨by decide, by decide⟩ (rest := []) rfl (Nat.le_of_ble_eq_true rfl) (fun u4 => [vI (bi (chT s P = 32))]) (fun _ => rfl) (fun u4 hu4 => ?_)
    rw [sU_sU]
    refine v_ifb_ne (p := chT s P = 32) (tgt := 20) hG dX6_readClause_15 (by decide) (fun c5 => ?_) (fun c5 => ?_)
    · skip
      have h32 : chT s P = 32 := by assumption
      rw [mst_y h32]
      have hltP := hCE.lt (p := P) (by rw [h32]; decide)
      refine v_aload_n hG dX6_readClause_20 rfl 1 rfl ?_
      refine v_callV (k1' := 0) (k2' := 0) hG dX6_readClause_21 zc_X6_readNumber ⟨zl_X6_64, zi_X6_readNumber, zs_X6_readNumber⟩ (fun l => kc6_readNumber l D A ad K S Q qa tp s (sU q 3 ((P + 1 : Nat) : Int)) w0 w1 w2 w3 bo e uc lr nx p hp (P + 1) (by first | assumption | (rw [sU_ne (by omega)]; assumption) | (simp only [sU_at]; (repeat' split) <;> first | assumption | (exfalso; omega))) (by exact sU_eq) (by assumption) (by omega) (by assumption)) rfl (cR6 hp) (fun _ h => h) ⟨by decide, by decide⟩ rfl rfl ⟨by decide, by decide⟩ (rest := []) rfl (Nat.le_of_ble_eq_true rfl) (fun u6 => [vI (if (figF (chT s) ((P + 1), true)).1.2 = true then (figF (chT s) ((P + 1), true)).2 else -1)]) (fun _ => rfl) (fun u6 hu6 => ?_)
      rw [sU_sU]
      have hfb9 := fig_99 (chT s) (P + 1, true)
      refine v_istore_n (lo' := [(2, vI (if (figF (chT s) ((P + 1), true)).1.2 = true then (figF (chT s) ((P + 1), true)).2 else -1)), (1, vI (a : Int)), (0, .ref (kP ad p))]) hG dX6_readClause_24 rfl (by decide) rfl ?_
      refine v_iload_n hG dX6_readClause_25 rfl 0 rfl ?_
      refine v_if_lt (tgt := 38) hG dX6_readClause_26 (by decide) (by omega) (fun c7 => ?_) (fun c7 => ?_)
      · skip
        refine v_iconst hG dX6_readClause_38 ?_
        have cz1 := clx_f ha hca hu h32 (fig_neg (c := chT s) (u := (P + 1, true)) (by assumption))
        have e8 : @Eq Int (bi ((clF (chT s) pp).2 = true)) (0) := by rw [bi_neg (show ¬ (clF (chT s) pp).2 = true by rw [cz1]; exact Bool.false_ne_true)]
        exact v_zreturn hG hR dX6_readClause_39 (Or.inl rfl) (sU q 3 (((figF (chT s) (P + 1, true)).1.1 : Nat) : Int), w0, w1, w2, w3) (congrArg (fun z => some (vI z)) e8) (by rw [cz1]; dsimp only; exact CM_f (by simp only [sU_at]; (repeat' split) <;> first | rfl | omega) sU_eq (by simp only [sU_at]; (repeat' split) <;> first | rfl | omega) (by simp only [sU_at]; (repeat' split) <;> first | rfl | omega) rfl) (fun _ hM => hM)
      · skip
        obtain ⟨F, n, hF, hn0, hn9⟩ := fig_yes (c := chT s) (u := (P + 1, true)) (by assumption)
        rw [show (if (figF (chT s) (P + 1, true)).1.2 = true then (figF (chT s) (P + 1, true)).2 else (-1 : Int)) = n from congrArg (fun z : (Nat × Bool) × Int => if z.1.2 = true then z.2 else (-1 : Int)) hF, show (((figF (chT s) (P + 1, true)).1.1 : Nat) : Int) = (F : Int) from congrArg (fun z : (Nat × Bool) × Int => ((z.1.1 : Nat) : Int)) hF]
        obtain ⟨hF1, hF2⟩ := fig_pl hCE (show P + 1 ≤ (s 48).toNat by omega) hF
        refine v_aload_n hG dX6_readClause_29 rfl 2 rfl ?_
        refine cq6 hp hG dX6_readClause_30 zf_X6_46 (k := 4) (by decide) (v := vI (q 0)) (congrArg (fun z => some (vI z)) (show (sU q 3 (F : Int)) 0 = q 0 from by rw [sU_ne (by omega)])) ?_
        refine v_bipush hG dX6_readClause_33 (by decide) ?_
        refine v_icmp_lt (tgt := 40) hG dX6_readClause_35 (by decide) (by omega) (by omega) (fun c9 => ?_) (fun c9 => ?_)
        · skip
          refine v_iload_n hG dX6_readClause_40 rfl 1 rfl ?_
          refine v_if_ne (tgt := 56) hG dX6_readClause_41 (by decide) (by omega) (fun c10 => ?_) (fun c10 => ?_)
          · skip
            refine v_iload_n hG dX6_readClause_56 rfl 1 rfl ?_
            refine v_iconst hG dX6_readClause_57 ?_
            refine v_icmp_ne (tgt := 69) hG dX6_readClause_58 (by decide) (by omega) (by omega) (fun c11 => ?_) (fun c11 => ?_)
            · skip
              refine v_aload_n hG dX6_readClause_69 rfl 2 rfl ?_
              refine v_bipush hG dX6_readClause_70 (by decide) ?_
              refine v_callV (k1' := 0) (k2' := 0) hG dX6_readClause_72 zc_X6_skip ⟨zl_X6_56, zi_X6_skip, zs_X6_skip⟩ (fun l => kc6_skip l D A ad K S Q qa tp s (sU q 3 (F : Int)) w0 w1 w2 w3 bo e uc lr nx p hp F 32 (by first | assumption | (rw [sU_ne (by omega)]; assumption) | (simp only [sU_at]; (repeat' split) <;> first | assumption | (exfalso; omega))) (by exact sU_eq) (by assumption) (by omega) (by assumption) (by omega)) rfl (cR6 hp) (fun _ h => h) ⟨by decide, by decide⟩ rfl rfl ⟨by decide, by decide⟩ (rest := []) rfl (Nat.le_of_ble_eq_true rfl) (fun u12 => [vI (bi (chT s F = 32))]) (fun _ => rfl) (fun u12 hu12 => ?_)
              rw [sU_sU]
              refine v_ifb_eq (p := chT s F = 32) (tgt := 86) hG dX6_readClause_75 (by decide) (fun c13 => ?_) (fun c13 => ?_)
              · skip
                refine v_iconst hG dX6_readClause_86 ?_
                have hnF : ¬ chT s F = 32 := by assumption
                have cz1 := clx_m (by omega) hca hu h32 hF hnF
                have cz3 := mst_n hnF
                have e14 : @Eq Int (bi ((clF (chT s) pp).2 = true)) (0) := by rw [bi_neg (show ¬ (clF (chT s) pp).2 = true by rw [cz1]; exact Bool.false_ne_true)]
                exact v_zreturn hG hR dX6_readClause_87 (Or.inl rfl) (sU q 3 (((mustF (chT s) 32 (F, true)).1 : Nat) : Int), w0, w1, w2, w3) (congrArg (fun z => some (vI z)) e14) (by rw [cz1]; dsimp only; first | exact CM_f ((hE1.1 2 (by decide) (by decide))) hE1.2.1 hE1.2.2.1 (by rw [hE1.1 0 (by decide) (by decide)]; omega) rfl | exact CM_f (by simp only [sU_at]; (repeat' split) <;> first | rfl | omega) (sU_eq.trans cz3) (by simp only [sU_at]; (repeat' split) <;> first | rfl | omega) (by simp only [sU_at]; (repeat' split) <;> first | rfl | omega) rfl) (fun _ hM => hM)
              · skip
                have hF32 : chT s F = 32 := by assumption
                rw [mst_y hF32]
                have hltF := hCE.lt (p := F) (by rw [hF32]; decide)
                refine v_aload_n hG dX6_readClause_78 rfl 2 rfl ?_
                refine v_iconst hG dX6_readClause_79 ?_
                refine v_callV (k1' := 0) (k2' := 0) hG dX6_readClause_80 zc_X6_readEither ⟨zl_X6_70, zi_X6_readEither, zs_X6_readEither⟩ (fun l => kc6_readEither5 l D A ad K S Q qa tp s (sU q 3 ((F + 1 : Nat) : Int)) w0 w1 w2 w3 bo e uc lr nx p hp (F + 1) (by first | assumption | (rw [sU_ne (by omega)]; assumption) | (simp only [sU_at]; (repeat' split) <;> first | assumption | (exfalso; omega))) (by exact sU_eq) (by assumption) (by omega) (by assumption) (by first | assumption | (rw [sU_ne (by omega)]; omega) | omega)) rfl (cR6 hp) (fun _ h => h) ⟨by decide, by decide⟩ rfl rfl ⟨by decide, by decide⟩ (rest := []) rfl (Nat.le_of_ble_eq_true rfl) (fun u15 => [vI (bi ((someF (facF (chT s) 5) (chT s) (F + 1)).2.1 = true))]) (fun _ => rfl) (fun u15 hu15 => ?_)
                have fu15 : EM (sU q 3 ((F + 1 : Nat) : Int)) w3 (someF (facF (chT s) 5) (chT s) (F + 1)) u15.1 u15.2 := hu15
                have hE1 := EM_in2 fu15
                refine v_ifb_ne (p := (someF (facF (chT s) 5) (chT s) (F + 1)).2.1 = true) (tgt := 88) hG dX6_readClause_83 (by decide) (fun c16 => ?_) (fun c16 => ?_)
                · skip
                  obtain ⟨hd1, hd2⟩ := hE1.2.2.2 (show (someF (facF (chT s) 5) (chT s) (F + 1)).2.1 = true by assumption)
                  have hE0 := hE1.1 0 (by decide) (by decide)
                  refine v_aload_n hG dX6_readClause_88 rfl 2 rfl ?_
                  refine cq6 hp hG dX6_readClause_89 zf_X6_11 (k := 0) (by decide) (v := .ref (kQ ad 0 p)) rfl ?_
                  refine v_aload_n hG dX6_readClause_92 rfl 2 rfl ?_
                  refine cq6 hp hG dX6_readClause_93 zf_X6_46 (k := 4) (by decide) (v := vI (u15.1 0)) rfl ?_
                  refine v_iload_n hG dX6_readClause_96 rfl 1 rfl ?_
                  refine cs_q0 hp hG dX6_readClause_97 (by omega) ?_
                  refine v_aload_n hG dX6_readClause_98 rfl 2 rfl ?_
                  refine cq6 hp hG dX6_readClause_99 zf_X6_15 (k := 1) (by decide) (v := .ref (kQ ad 1 p)) rfl ?_
                  refine v_aload_n hG dX6_readClause_102 rfl 2 rfl ?_
                  refine cq6 hp hG dX6_readClause_103 zf_X6_46 (k := 4) (by decide) (v := vI (u15.1 0)) rfl ?_
                  refine v_iload_n hG dX6_readClause_106 rfl 0 rfl ?_
                  refine cs_q1 hp hG dX6_readClause_107 (by omega) ?_
                  refine v_aload_n hG dX6_readClause_108 rfl 2 rfl ?_
                  refine cq6 hp hG dX6_readClause_109 zf_X6_18 (k := 2) (by decide) (v := .ref (kQ ad 2 p)) rfl ?_
                  refine v_aload_n hG dX6_readClause_112 rfl 2 rfl ?_
                  refine cq6 hp hG dX6_readClause_113 zf_X6_46 (k := 4) (by decide) (v := vI (u15.1 0)) rfl ?_
                  refine v_aload_n hG dX6_readClause_116 rfl 2 rfl ?_
                  refine cq6 hp hG dX6_readClause_117 zf_X6_49 (k := 5) (by decide) (v := vI (u15.1 1)) rfl ?_
                  refine cs_q2 hp hG dX6_readClause_120 (by omega) ?_
                  refine v_aload_n hG dX6_readClause_121 rfl 2 rfl ?_
                  refine v_dup hG dX6_readClause_122 rfl ?_
                  refine cq6 hp hG dX6_readClause_123 zf_X6_46 (k := 4) (by decide) (v := vI (u15.1 0)) rfl ?_
                  refine v_iconst hG dX6_readClause_126 ?_
                  refine v_iadd hG dX6_readClause_127 ?_
                  refine cp6_cc hp hG dX6_readClause_128 zf_X6_46 ?_
                  refine v_iconst hG dX6_readClause_131 ?_
                  have hft : (someF (facF (chT s) 5) (chT s) (F + 1)).2.1 = true := by assumption
                  obtain ⟨cz1, cz2⟩ := clx_y (by omega) hca hu h32 hF hF32
                  rw [hft]  at cz1
                  have e17 : @Eq Int (bi ((clF (chT s) pp).2 = true)) (1) := by rw [bi_pos (show (clF (chT s) pp).2 = true by rw [cz1])]
                  exact v_zreturn hG hR dX6_readClause_132 (Or.inr rfl) (sU u15.1 0 ((u15.1 0) + 1), sU w0 (u15.1 0) (a : Int), sU w1 (u15.1 0) n, sU w2 (u15.1 0) (u15.1 1), u15.2) (congrArg (fun z => some (vI z)) e17) (by rw [cz1, cz2]; dsimp only; exact CM_y ((sU_ne (by decide)).trans (hE1.1 2 (by decide) (by decide))) ((sU_ne (by decide)).trans hE1.2.1) ((sU_ne (by decide)).trans hd1) (by rw [sU_ne (by decide)]; exact hE1.2.2.1) (by rw [sU_eq]; omega) hc0 (by rw [hE0]) (by rw [hE0]) (by rw [hE0, hd1]) hd2 (by rw [if_neg (by omega), sU_ne (by decide)]; exact hE1.1 4 (by decide) (by decide)) (by rw [if_neg (by omega), sU_ne (by decide)]; exact hE1.1 5 (by decide) (by decide))) (fun _ hM => hM)
                · skip
                  refine v_iconst hG dX6_readClause_86 ?_
                  have hfb : (someF (facF (chT s) 5) (chT s) (F + 1)).2.1 = false := Bool.eq_false_iff.mpr (by assumption)
                  have cz1 := (clx_y (by omega) hca hu h32 hF hF32).1
                  rw [hfb]  at cz1
                  have e18 : @Eq Int (bi ((clF (chT s) pp).2 = true)) (0) := by rw [bi_neg (show ¬ (clF (chT s) pp).2 = true by rw [cz1]; exact Bool.false_ne_true)]
                  exact v_zreturn hG hR dX6_readClause_87 (Or.inl rfl) (u15.1, w0, w1, w2, u15.2) (congrArg (fun z => some (vI z)) e18) (by rw [cz1]; dsimp only; first | exact CM_f ((hE1.1 2 (by decide) (by decide))) hE1.2.1 hE1.2.2.1 (by rw [hE1.1 0 (by decide) (by decide)]; omega) rfl | exact CM_f (by simp only [sU_at]; (repeat' split) <;> first | rfl | omega) (sU_eq.trans cz3) (by simp only [sU_at]; (repeat' split) <;> first | rfl | omega) (by simp only [sU_at]; (repeat' split) <;> first | rfl | omega) rfl) (fun _ hM => hM)
            · skip
              refine v_aload_n hG dX6_readClause_61 rfl 2 rfl ?_
              refine v_iload_n hG dX6_readClause_62 rfl 0 rfl ?_
              refine cp6_mend hp hG dX6_readClause_63 zf_X6_31 ?_
              refine v_goto (tgt := 88) hG dX6_readClause_66 (by decide) ?_
              refine v_aload_n hG dX6_readClause_88 rfl 2 rfl ?_
              refine cq6 hp hG dX6_readClause_89 zf_X6_11 (k := 0) (by decide) (v := .ref (kQ ad 0 p)) rfl ?_
              refine v_aload_n hG dX6_readClause_92 rfl 2 rfl ?_
              refine cq6 hp hG dX6_readClause_93 zf_X6_46 (k := 4) (by decide) (v := vI (q 0)) (congrArg (fun z => some (vI z)) (show (sU (sU q 3 (F : Int)) 5 n) 0 = q 0 from by rw [sU_ne (by omega), sU_ne (by omega)])) ?_
              refine v_iload_n hG dX6_readClause_96 rfl 1 rfl ?_
              refine cs_q0 hp hG dX6_readClause_97 (by omega) ?_
              refine v_aload_n hG dX6_readClause_98 rfl 2 rfl ?_
              refine cq6 hp hG dX6_readClause_99 zf_X6_15 (k := 1) (by decide) (v := .ref (kQ ad 1 p)) rfl ?_
              refine v_aload_n hG dX6_readClause_102 rfl 2 rfl ?_
              refine cq6 hp hG dX6_readClause_103 zf_X6_46 (k := 4) (by decide) (v := vI (q 0)) (congrArg (fun z => some (vI z)) (show (sU (sU q 3 (F : Int)) 5 n) 0 = q 0 from by rw [sU_ne (by omega), sU_ne (by omega)])) ?_
              refine v_iload_n hG dX6_readClause_106 rfl 0 rfl ?_
              refine cs_q1 hp hG dX6_readClause_107 (by omega) ?_
              refine v_aload_n hG dX6_readClause_108 rfl 2 rfl ?_
              refine cq6 hp hG dX6_readClause_109 zf_X6_18 (k := 2) (by decide) (v := .ref (kQ ad 2 p)) rfl ?_
              refine v_aload_n hG dX6_readClause_112 rfl 2 rfl ?_
              refine cq6 hp hG dX6_readClause_113 zf_X6_46 (k := 4) (by decide) (v := vI (q 0)) (congrArg (fun z => some (vI z)) (show (sU (sU q 3 (F : Int)) 5 n) 0 = q 0 from by rw [sU_ne (by omega), sU_ne (by omega)])) ?_
              refine v_aload_n hG dX6_readClause_116 rfl 2 rfl ?_
              refine cq6 hp hG dX6_readClause_117 zf_X6_49 (k := 5) (by decide) (v := vI (q 1)) (congrArg (fun z => some (vI z)) (show (sU (sU q 3 (F : Int)) 5 n) 1 = q 1 from by rw [sU_ne (by omega), sU_ne (by omega)])) ?_
              refine cs_q2 hp hG dX6_readClause_120 (by omega) ?_
              refine v_aload_n hG dX6_readClause_121 rfl 2 rfl ?_
              refine v_dup hG dX6_readClause_122 rfl ?_
              refine cq6 hp hG dX6_readClause_123 zf_X6_46 (k := 4) (by decide) (v := vI (q 0)) (congrArg (fun z => some (vI z)) (show (sU (sU q 3 (F : Int)) 5 n) 0 = q 0 from by rw [sU_ne (by omega), sU_ne (by omega)])) ?_
              refine v_iconst hG dX6_readClause_126 ?_
              refine v_iadd hG dX6_readClause_127 ?_
              refine cp6_cc hp hG dX6_readClause_128 zf_X6_46 ?_
              refine v_iconst hG dX6_readClause_131 ?_
              obtain ⟨cz1, cz2⟩ := clx_t (by omega) hca hu h32 hF
              have e19 : @Eq Int (bi ((clF (chT s) pp).2 = true)) (1) := by rw [bi_pos (show (clF (chT s) pp).2 = true by rw [cz1])]
              exact v_zreturn hG hR dX6_readClause_132 (Or.inr rfl) (sU (sU (sU q 3 (F : Int)) 5 n) 0 ((q 0) + 1), sU w0 (q 0) (a : Int), sU w1 (q 0) n, sU w2 (q 0) (q 1), w3) (congrArg (fun z => some (vI z)) e19) (by rw [cz1, cz2]; dsimp only; exact CM_y (by simp only [sU_at]; (repeat' split) <;> first | rfl | omega) (by simp only [sU_at]; (repeat' split) <;> first | rfl | omega) (by rw [show (([] : List Int).length : Int) = 0 from rfl]; simp only [sU_at]; (repeat' split) <;> omega) (by simp only [sU_at]; (repeat' split) <;> first | rfl | omega) (by simp only [sU_at]; (repeat' split) <;> first | rfl | omega) hc0 rfl rfl (by rw [show q 1 + (([] : List Int).length : Int) = q 1 from Int.add_zero _]) ⟨fun _ _ _ => rfl, fun i hi => absurd hi (Nat.not_lt_zero i)⟩ (by simp only [sU_at]; (repeat' split) <;> first | rfl | omega) (by simp only [sU_at]; (repeat' split) <;> first | rfl | omega)) (fun _ hM => hM)
          · skip
            refine v_aload_n hG dX6_readClause_44 rfl 2 rfl ?_
            refine v_iconst hG dX6_readClause_45 ?_
            refine v_iload_n hG dX6_readClause_46 rfl 0 rfl ?_
            refine v_mmax hG dX6_readClause_47 zl_X6_67 (by decide) ⟨Nat.le_refl _, Nat.le_refl _⟩ (Nat.le_of_ble_eq_true rfl) (by omega) (by omega) ?_
            generalize hv20 : (if 1 < n then n else 1) = v20
            have bv20 : (v20 = 1 ∨ v20 = n) ∧ 1 ≤ v20 ∧ n ≤ v20 := by rw [← hv20]; (repeat' split) <;> omega
            refine cp6_wear hp hG dX6_readClause_50 zf_X6_27 ?_
            refine v_goto (tgt := 88) hG dX6_readClause_53 (by decide) ?_
            refine v_aload_n hG dX6_readClause_88 rfl 2 rfl ?_
            refine cq6 hp hG dX6_readClause_89 zf_X6_11 (k := 0) (by decide) (v := .ref (kQ ad 0 p)) rfl ?_
            refine v_aload_n hG dX6_readClause_92 rfl 2 rfl ?_
            refine cq6 hp hG dX6_readClause_93 zf_X6_46 (k := 4) (by decide) (v := vI (q 0)) (congrArg (fun z => some (vI z)) (show (sU (sU q 3 (F : Int)) 4 v20) 0 = q 0 from by rw [sU_ne (by omega), sU_ne (by omega)])) ?_
            refine v_iload_n hG dX6_readClause_96 rfl 1 rfl ?_
            refine cs_q0 hp hG dX6_readClause_97 (by omega) ?_
            refine v_aload_n hG dX6_readClause_98 rfl 2 rfl ?_
            refine cq6 hp hG dX6_readClause_99 zf_X6_15 (k := 1) (by decide) (v := .ref (kQ ad 1 p)) rfl ?_
            refine v_aload_n hG dX6_readClause_102 rfl 2 rfl ?_
            refine cq6 hp hG dX6_readClause_103 zf_X6_46 (k := 4) (by decide) (v := vI (q 0)) (congrArg (fun z => some (vI z)) (show (sU (sU q 3 (F : Int)) 4 v20) 0 = q 0 from by rw [sU_ne (by omega), sU_ne (by omega)])) ?_
            refine v_iload_n hG dX6_readClause_106 rfl 0 rfl ?_
            refine cs_q1 hp hG dX6_readClause_107 (by omega) ?_
            refine v_aload_n hG dX6_readClause_108 rfl 2 rfl ?_
            refine cq6 hp hG dX6_readClause_109 zf_X6_18 (k := 2) (by decide) (v := .ref (kQ ad 2 p)) rfl ?_
            refine v_aload_n hG dX6_readClause_112 rfl 2 rfl ?_
            refine cq6 hp hG dX6_readClause_113 zf_X6_46 (k := 4) (by decide) (v := vI (q 0)) (congrArg (fun z => some (vI z)) (show (sU (sU q 3 (F : Int)) 4 v20) 0 = q 0 from by rw [sU_ne (by omega), sU_ne (by omega)])) ?_
            refine v_aload_n hG dX6_readClause_116 rfl 2 rfl ?_
            refine cq6 hp hG dX6_readClause_117 zf_X6_49 (k := 5) (by decide) (v := vI (q 1)) (congrArg (fun z => some (vI z)) (show (sU (sU q 3 (F : Int)) 4 v20) 1 = q 1 from by rw [sU_ne (by omega), sU_ne (by omega)])) ?_
            refine cs_q2 hp hG dX6_readClause_120 (by omega) ?_
            refine v_aload_n hG dX6_readClause_121 rfl 2 rfl ?_
            refine v_dup hG dX6_readClause_122 rfl ?_
            refine cq6 hp hG dX6_readClause_123 zf_X6_46 (k := 4) (by decide) (v := vI (q 0)) (congrArg (fun z => some (vI z)) (show (sU (sU q 3 (F : Int)) 4 v20) 0 = q 0 from by rw [sU_ne (by omega), sU_ne (by omega)])) ?_
            refine v_iconst hG dX6_readClause_126 ?_
            refine v_iadd hG dX6_readClause_127 ?_
            refine cp6_cc hp hG dX6_readClause_128 zf_X6_46 ?_
            refine v_iconst hG dX6_readClause_131 ?_
            obtain ⟨cz1, cz2⟩ := clx_t (by omega) hca hu h32 hF
            have e21 : @Eq Int (bi ((clF (chT s) pp).2 = true)) (1) := by rw [bi_pos (show (clF (chT s) pp).2 = true by rw [cz1])]
            exact v_zreturn hG hR dX6_readClause_132 (Or.inr rfl) (sU (sU (sU q 3 (F : Int)) 4 v20) 0 ((q 0) + 1), sU w0 (q 0) (a : Int), sU w1 (q 0) n, sU w2 (q 0) (q 1), w3) (congrArg (fun z => some (vI z)) e21) (by rw [cz1, cz2]; dsimp only; exact CM_y (by simp only [sU_at]; (repeat' split) <;> first | rfl | omega) (by simp only [sU_at]; (repeat' split) <;> first | rfl | omega) (by rw [show (([] : List Int).length : Int) = 0 from rfl]; simp only [sU_at]; (repeat' split) <;> omega) (by simp only [sU_at]; (repeat' split) <;> first | rfl | omega) (by simp only [sU_at]; (repeat' split) <;> first | rfl | omega) hc0 rfl rfl (by rw [show q 1 + (([] : List Int).length : Int) = q 1 from Int.add_zero _]) ⟨fun _ _ _ => rfl, fun i hi => absurd hi (Nat.not_lt_zero i)⟩ (by simp only [sU_at]; (repeat' split) <;> first | rfl | omega) (by simp only [sU_at]; (repeat' split) <;> first | rfl | omega)) (fun _ hM => hM)
        · skip
          exfalso; omega
    · skip
      refine v_iconst hG dX6_readClause_18 ?_
      have hn32 : ¬ chT s P = 32 := by assumption
      have cz1 := clx_n ha hca hu hn32
      have cz3 := mst_n hn32
      have e22 : @Eq Int (bi ((clF (chT s) pp).2 = true)) (0) := by rw [bi_neg (show ¬ (clF (chT s) pp).2 = true by rw [cz1]; exact Bool.false_ne_true)]
      exact v_zreturn hG hR dX6_readClause_19 (Or.inl rfl) (sU q 3 (((mustF (chT s) 32 (P, true)).1 : Nat) : Int), w0, w1, w2, w3) (congrArg (fun z => some (vI z)) e22) (by rw [cz1]; dsimp only; exact CM_f (by simp only [sU_at]; (repeat' split) <;> first | rfl | omega) (sU_eq.trans cz3) (by simp only [sU_at]; (repeat' split) <;> first | rfl | omega) (by simp only [sU_at]; (repeat' split) <;> first | rfl | omega) rfl) (fun _ hM => hM)
