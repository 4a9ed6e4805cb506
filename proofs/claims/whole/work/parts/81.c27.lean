/-! THE CLASS: reading a tape, all of it -/
def cN : List Cla → Nat
  | [] => 0
  | k :: r => k.2.2.length + cN r
theorem cN_app (k : Cla) : ∀ CL : List Cla, cN (CL ++ [k]) = cN CL + k.2.2.length
  | [] => by show k.2.2.length + 0 = 0 + k.2.2.length; omega
  | c :: r => by
    have := cN_app k r
    show c.2.2.length + cN (r ++ [k]) = c.2.2.length + cN r + k.2.2.length
    omega
theorem slO_app (k : Cla) : ∀ CL : List Cla, slO (CL ++ [k]) = slO CL ++ slC k
  | [] => by show slC k ++ [] = [] ++ slC k; simp
  | c :: r => by
    show slC c ++ slO (r ++ [k]) = (slC c ++ slO r) ++ slC k
    rw [slO_app k r, List.append_assoc]
/-- a clause more is kept -/
theorem PRC_app {w0 w1 w2 w3 x0 x1 x2 x3 : Int → Int} {k : Cla} (hk : (0 ≤ k.1 ∧ k.1 ≤ 3) ∧ (0 ≤ k.2.1 ∧ k.2.1 ≤ 99) ∧ (k.1 < 2 → k.2.2 = []) ∧ EL k.2.2) : ∀ (CL : List Cla) (i F : Nat), PRC w0 w1 w2 w3 i F CL → (∀ j : Int, (i : Int) ≤ j → j < (i : Int) + (CL.length : Int) → x0 j = w0 j ∧ x1 j = w1 j ∧ x2 j = w2 j) → (∀ j : Int, (F : Int) ≤ j → j < (F : Int) + (cN CL : Int) → x3 j = w3 j) → x0 ((i : Int) + (CL.length : Int)) = k.1 → x1 ((i : Int) + (CL.length : Int)) = k.2.1 → x2 ((i : Int) + (CL.length : Int)) = ((F + cN CL + k.2.2.length : Nat) : Int) → (∀ j : Nat, j < k.2.2.length → x3 ((F + cN CL + j : Nat) : Int) = cvO (k.2.2.getD j 0)) → F + cN CL + k.2.2.length ≤ 100 → PRC x0 x1 x2 x3 i F (CL ++ [k])
  | [], i, F, _, _, _, h0, h1, h2, h3, h4 => by
    have z : (i : Int) + (([] : List Cla).length : Int) = (i : Int) := Int.add_zero _
    rw [z] at h0 h1 h2
    exact ⟨⟨h0, h1, h2, h3⟩, ⟨hk.1, hk.2.1, hk.2.2.1, hk.2.2.2, h4⟩, trivial⟩
  | c :: r, i, F, h, g1, g2, h0, h1, h2, h3, h4 => by
    obtain ⟨⟨a0, a1, a2, a3⟩, b, hr⟩ := h
    have hl : ((c :: r).length : Int) = (r.length : Int) + 1 := by rw [List.length_cons]; omega
    have hcn : cN (c :: r) = c.2.2.length + cN r := rfl
    rw [hl] at g1 h0 h1 h2
    rw [hcn] at g2 h2 h3 h4
    have gi := g1 (i : Int) (Int.le_refl _) (by omega)
    have e : (i : Int) + ((r.length : Int) + 1) = ((i + 1 : Nat) : Int) + (r.length : Int) := by omega
    rw [e] at h0 h1 h2
    refine ⟨⟨gi.1.trans a0, gi.2.1.trans a1, gi.2.2.trans a2, fun j hj => (g2 _ (by omega) (by omega)).trans (a3 j hj)⟩, b, ?_⟩
    refine PRC_app hk r (i + 1) (F + c.2.2.length) hr (fun j q1 q2 => g1 j (by omega) (by omega)) (fun j q1 q2 => g2 j (by omega) (by omega)) h0 h1 ?_ (fun j hj => ?_) (by omega)
    · rw [h2]; omega
    · rw [← h3 j hj]
      congr 1
      omega
/-- a clause's numbers in the row -/
theorem clS_wm {s0 : Int → Int} {c : Nat → Int} {n p : Nat} {a : Int} {L : List Int} {t : Int → Int} (h : CE c n) (hn : n ≤ 100) (hp : p ≤ n) (ha : 0 ≤ a ∧ a ≤ 4) (hq : PQ s0 a L t) (hL : L.length ≤ p) (hok : (clF c p).2 = true) : clS c p t a (258 + a) = (if (claF c p).1 = 0 then (claF c p).2.1 else t (258 + a)) ∧ clS c p t a (263 + a) = (if (claF c p).1 = 1 then (claF c p).2.1 else t (263 + a)) := by
  obtain ⟨a1, a2, a3⟩ := much_rng (w := 5) (kind := -10) h (by decide) hp
  obtain ⟨b1, b2, b3⟩ := much_rng (w := 6) (kind := -200) h (by decide) hp
  have hem : ∀ M : List Int, L.length + M.length ≤ 140 → emS t a M (258 + a) = t (258 + a) ∧ emS t a M (263 + a) = t (263 + a) := fun M hM => by
    obtain ⟨i1, i2⟩ := emS_q ha (L := M) (s := t) (m := L.length) hq.1 hM
    exact ⟨i1 _ (by omega) (by omega), i1 _ (by omega) (by omega)⟩
  unfold clF at hok
  by_cases q1 : c p = 109
  · rw [if_pos q1] at hok
    have hok : (tellF c 4 p).1.2 = true := hok
    have e1 : claF c p = (1, (tellF c 4 p).2, []) := by unfold claF; rw [if_neg (show ¬ c p = 119 by omega), if_pos q1]
    have e2 : clS c p t a = sU t (263 + a) (tellF c 4 p).2 := by unfold clS; rw [if_pos q1, if_pos hok]
    rw [e1, e2]
    dsimp only
    rw [sU_ne (by omega), sU_eq, if_neg (by omega), if_pos rfl]
    exact ⟨rfl, rfl⟩
  · rw [if_neg q1] at hok
    by_cases q2 : c p = 114
    · have e1 : claF c p = (2, (tellF c 5 p).2, (someA c (mustF c 32 (tellF c 5 p).1)).2.2) := by unfold claF; rw [if_neg (show ¬ c p = 119 by omega), if_neg q1, if_pos q2]
      have e2 : clS c p t a = emS t a (muchF c 5 (-10) p).2.2 := by unfold clS; rw [if_neg q1, if_pos q2]
      have h9 := hem (muchF c 5 (-10) p).2.2 (by omega)
      rw [e1, e2]
      dsimp only
      rw [if_neg (by omega), if_neg (by omega)]
      exact h9
    · rw [if_neg q2] at hok
      by_cases q3 : c p = 115
      · have e1 : claF c p = (3, (tellF c 6 p).2, (someA c (mustF c 32 (tellF c 6 p).1)).2.2) := by unfold claF; rw [if_neg (show ¬ c p = 119 by omega), if_neg q1, if_neg q2]
        have e2 : clS c p t a = emS t a (muchF c 6 (-200) p).2.2 := by unfold clS; rw [if_neg q1, if_neg q2, if_pos q3]
        have h9 := hem (muchF c 6 (-200) p).2.2 (by omega)
        rw [e1, e2]
        dsimp only
        rw [if_neg (by omega), if_neg (by omega)]
        exact h9
      · rw [if_neg q3] at hok
        by_cases q4 : c p = 119
        · rw [if_pos q4] at hok
          have hok : (tellF c 3 p).1.2 = true := hok
          have e1 : claF c p = (0, (tellF c 3 p).2, []) := by unfold claF; rw [if_pos q4]
          have e2 : clS c p t a = sU t (258 + a) (tellF c 3 p).2 := by unfold clS; rw [if_neg q1, if_neg q2, if_neg q3, if_pos q4, if_pos hok]
          rw [e1, e2]
          dsimp only
          rw [sU_eq, sU_ne (by omega), if_pos rfl, if_neg (by omega)]
          exact ⟨rfl, rfl⟩
        · rw [if_neg q4] at hok
          exact Bool.noConfusion hok
/-- behind some clauses, before the next -/
def TJ (c : Nat → Int) (s0 : Int → Int) (a : Int) (k P : Nat) (R : Int → Int) (CL : List Cla) : Prop := (plI c s0 a k = (clF c P, clS c P R a) ∧ plL c s0 a k = slO CL ++ clL c P) ∧ PQ s0 a (slO CL) R ∧ (slO CL).length ≤ P ∧ cN CL ≤ P ∧ CL.length = k
def TQ (s0 : Int → Int) (a : Int) (n : Int) (P : Nat) (R : Int → Int) (CL : List Cla) (q w0 w1 w2 w3 : Int → Int) : Prop := (q 0 = (CL.length : Int) ∧ q 1 = (cN CL : Int) ∧ q 2 = n ∧ q 3 = (P : Int)) ∧ q 4 = (if R (258 + a) < 1 then 1 else R (258 + a)) ∧ q 5 = R (263 + a) ∧ PRC w0 w1 w2 w3 0 0 CL
theorem TJ_0 {c : Nat → Int} {s0 : Int → Int} {a : Int} (h : PQ s0 a [] s0) : TJ c s0 a 0 0 s0 [] := ⟨⟨rfl, rfl⟩, h, Nat.le_refl 0, Nat.le_refl 0, rfl⟩
/-- behind one clause more -/
def TR (s0 : Int → Int) (a : Int) (n : Int) (r : (Nat × Bool) × (Int → Int)) (CL : List Cla) (q w0 w1 w2 w3 : Int → Int) : Prop := (q 0 = (CL.length : Int) ∧ q 1 = (cN CL : Int) ∧ q 2 = n ∧ q 3 = (r.1.1 : Int)) ∧ q 4 = (if r.2 (258 + a) < 1 then 1 else r.2 (258 + a)) ∧ q 5 = r.2 (263 + a) ∧ PRC w0 w1 w2 w3 0 0 CL
theorem TR_of {c : Nat → Int} {s0 : Int → Int} {a m : Int} {n k P : Nat} {R : Int → Int} {CL : List Cla} {q w0 w1 w2 w3 q' x0 x1 x2 x3 : Int → Int} (h : CE c n) (hn : n ≤ 100) (ha : 0 ≤ a ∧ a ≤ 4) (hs : PQ s0 a [] s0) (hP : P ≤ n) (hT : TJ c s0 a k P R CL) (hQ : TQ s0 a m P R CL q w0 w1 w2 w3) (hC : CM q w0 w1 w2 w3 (clF c P) (claF c P) q' x0 x1 x2 x3) (hok : (clF c P).2 = true) : TR s0 a m (plI c s0 a k) (CL ++ [claF c P]) q' x0 x1 x2 x3 ∧ slO (CL ++ [claF c P]) = plL c s0 a k ∧ cN (CL ++ [claF c P]) ≤ (clF c P).1 ∧ (slO (CL ++ [claF c P])).length ≤ (clF c P).1 ∧ PQ s0 a (slO (CL ++ [claF c P])) (plI c s0 a k).2 ∧ (clF c P).1 ≤ n := by
  obtain ⟨⟨t1, t2⟩, t3, t4, t5, t6⟩ := hT
  obtain ⟨⟨u0, u1, u2, u3⟩, u4, u5, u6⟩ := hQ
  obtain ⟨c2, c3, c1, c0, cr⟩ := hC
  obtain ⟨d0, d1, d2, d3, d4, d5, d6, d7⟩ := cr hok
  have hw := clS_wm h hn hP ha t3 t4 hok
  obtain ⟨l1, l2, l3, l4, l5⟩ := cla_L c P hok
  have hpi := plI_inv h ha hs.1 k
  have hpq := PQ_pl h hn ha hs k
  have hsl : slO (CL ++ [claF c P]) = plL c s0 a k := by rw [slO_app, t2, l1]
  have hbd : cN (CL ++ [claF c P]) ≤ (clF c P).1 := by
    rw [cN_app]
    have hL : ((claF c P).2.2 = [] ∨ (claF c P).2.2.length ≤ (clL c P).length) := by
      by_cases e : (claF c P).1 < 2
      · exact Or.inl (l4 e)
      · refine Or.inr ?_
        rw [l1]
        unfold slC
        split
        · rw [List.length_append]; omega
        · rw [if_pos (by omega), List.length_append]; omega
    have hcr : P ≤ (clF c P).1 ∧ (clL c P).length + P ≤ (clF c P).1 := by
      obtain ⟨a1, a2, a3⟩ := much_rng (w := 5) (kind := -10) h (by decide) hP
      obtain ⟨b1, b2, b3⟩ := much_rng (w := 6) (kind := -200) h (by decide) hP
      have t3 := tellF_rng (w := 3) h (by decide) hP
      have t4 := tellF_rng (w := 4) h (by decide) hP
      have e0 : ([] : List Int).length = 0 := rfl
      unfold clF clL
      by_cases q1 : c P = 109
      · rw [if_pos q1, if_pos q1, e0]; omega
      · rw [if_neg q1, if_neg q1]
        by_cases q2 : c P = 114
        · rw [if_pos q2, if_pos q2]; exact ⟨a1, a3⟩
        · rw [if_neg q2, if_neg q2]
          by_cases q3 : c P = 115
          · rw [if_pos q3, if_pos q3]; exact ⟨b1, b3⟩
          · rw [if_neg q3, if_neg q3]
            by_cases q4 : c P = 119
            · rw [if_pos q4, e0]; omega
            · rw [if_neg q4, e0]; exact ⟨Nat.le_refl P, by show 0 + P ≤ P; omega⟩
    rcases hL with e | e
    · rw [e]; show cN CL + 0 ≤ _; omega
    · omega
  have hpl : (plI c s0 a k).1 = clF c P := by rw [t1]
  have hpl2 : (plI c s0 a k).2 = clS c P R a := by rw [t1]
  have hcn : cN CL + (claF c P).2.2.length = cN (CL ++ [claF c P]) := (cN_app _ _).symm
  have hPl : (clF c P).1 ≤ n := by have := hpi.1; rw [hpl] at this; exact this
  have hlen : (slO (CL ++ [claF c P])).length ≤ (clF c P).1 := by
    have e1 := hpq.1
    have e2 := hpi.2.1.2
    rw [e1, hpl] at e2
    rw [hsl]
    omega
  refine ⟨⟨⟨?_, ?_, c2.trans u2, ?_⟩, ?_, ?_, ?_⟩, hsl, hbd, hlen, by rw [hsl]; exact hpq, hPl⟩
  · rw [d0, u0, List.length_append]; show _ = (((CL.length + 1 : Nat)) : Int); omega
  · rw [d1, u1, cN_app]; omega
  · rw [c3, hpl]
  · rw [d6, hpl2, hw.1, u4]
    (repeat' split) <;> omega
  · rw [d7, hpl2, hw.2, u5]
  · rw [u0] at d2 d3 d4
    rw [u1] at d4 d5
    have hz : ((0 : Nat) : Int) + (CL.length : Int) = (CL.length : Int) := by omega
    refine PRC_app ⟨l2, l3, l4, l5⟩ CL 0 0 u6 (fun j g1 g2 => ?_) (fun j g1 g2 => d5.1 j g1 (by omega)) ?_ ?_ ?_ (fun j hj => ?_) (by omega)
    · rw [d2, d3, d4, sU_ne (by omega), sU_ne (by omega), sU_ne (by omega)]; exact ⟨rfl, rfl, rfl⟩
    · rw [hz, d2, sU_eq]
    · rw [hz, d3, sU_eq]
    · rw [hz, d4, sU_eq]; omega
    · rw [← d5.2 j hj]; congr 1; omega
theorem TJ_go {c : Nat → Int} {s0 : Int → Int} {a m : Int} {k : Nat} {CL : List Cla} {q x0 x1 x2 x3 : Int → Int} {r : Nat × Bool} (hr : (plI c s0 a k).1 = r) (hok : r.2 = true) (hs : c r.1 = 59) (hsl : slO CL = plL c s0 a k) (hb : cN CL ≤ r.1) (hlen : (slO CL).length ≤ r.1) (hpq : PQ s0 a (slO CL) (plI c s0 a k).2) (hk : CL.length = k + 1) (hT : TR s0 a m (plI c s0 a k) CL q x0 x1 x2 x3) : TJ c s0 a (k + 1) (r.1 + 1) (plI c s0 a k).2 CL ∧ TQ s0 a m (r.1 + 1) (plI c s0 a k).2 CL (sU q 3 ((r.1 + 1 : Nat) : Int)) x0 x1 x2 x3 := by
  subst hr
  obtain ⟨⟨u0, u1, u2, u3⟩, u4, u5, u6⟩ := hT
  refine ⟨⟨⟨pl_go hok hs, ?_⟩, hpq, by omega, by omega, hk⟩, ⟨⟨?_, ?_, ?_, sU_eq⟩, ?_, ?_, u6⟩⟩
  · rw [hsl]
    exact if_pos ⟨hok, hs⟩
  · rw [sU_ne (by decide)]; exact u0
  · rw [sU_ne (by decide)]; exact u1
  · rw [sU_ne (by decide)]; exact u2
  · rw [sU_ne (by decide)]; exact u4
  · rw [sU_ne (by decide)]; exact u5
theorem okP_n {s : Int → Int} {k : Nat} (h : plR s = plI (chT s) (rs0 s) (s 44) k) (h2 : (plI (chT s) (rs0 s) (s 44) k).1.2 = false ∨ ((plI (chT s) (rs0 s) (s 44) k).1.1 : Int) < s 48) : ¬ okP s := by
  intro q
  unfold okP at q
  rw [h] at q
  rcases h2 with e | e
  · rw [e] at q; exact Bool.noConfusion q.1
  · omega
/-- what a plate holds that was read -/
def PLT (s q w0 w1 w2 w3 : Int → Int) : Prop := (∃ CL : List Cla, slO CL = plS s ∧ PR q w0 w1 w2 w3 CL) ∧ q 4 = (if (plR s).2 (258 + s 44) < 1 then 1 else (plR s).2 (258 + s 44)) ∧ q 5 = (plR s).2 (263 + s 44)
theorem plL_stop {c : Nat → Int} {s0 : Int → Int} {a : Int} {k : Nat} (h : (plI c s0 a k).1.2 = false ∨ ¬ c (plI c s0 a k).1.1 = 59) : ∀ n, k ≤ n → plL c s0 a n = plL c s0 a k
  | 0, hn => by rw [show k = 0 by omega]
  | n + 1, hn => by
    rcases Nat.lt_or_ge n k with q | q
    · rw [show k = n + 1 by omega]
    · have e := pl_stop h n q
      show (if (plI c s0 a n).1.2 = true ∧ c (plI c s0 a n).1.1 = 59 then _ else plL c s0 a n) = _
      rw [if_neg (fun z => by rw [e] at z; rcases h with h | h; exact absurd (z.1.symm.trans h) (by decide); exact h z.2), plL_stop h n q]
theorem okP_y {s : Int → Int} {k : Nat} {CL : List Cla} {q w0 w1 w2 w3 : Int → Int} (hk : k ≤ 9) (hC : CE (chT s) (s 48).toNat) (h0 : 0 ≤ s 48) (h1 : (plI (chT s) (rs0 s) (s 44) k).1.2 = true) (h2 : ((plI (chT s) (rs0 s) (s 44) k).1.1 : Int) = s 48) (hl : CL.length ≤ 10) (hsl : slO CL = plL (chT s) (rs0 s) (s 44) k) (hT : TR (rs0 s) (s 44) (s 48) (plI (chT s) (rs0 s) (s 44) k) CL q w0 w1 w2 w3) : okP s ∧ PLT s q w0 w1 w2 w3 := by
  have he : chT s (plI (chT s) (rs0 s) (s 44) k).1.1 = -1 := ((hC _).1).mpr (by omega)
  have hst : (plI (chT s) (rs0 s) (s 44) k).1.2 = false ∨ ¬ chT s (plI (chT s) (rs0 s) (s 44) k).1.1 = 59 := Or.inr (by rw [he]; decide)
  have e : plR s = plI (chT s) (rs0 s) (s 44) k := pl_stop hst 9 hk
  have e2 : plS s = plL (chT s) (rs0 s) (s 44) k := plL_stop hst 9 hk
  obtain ⟨⟨u0, u1, u2, u3⟩, u4, u5, u6⟩ := hT
  refine ⟨by unfold okP; rw [e]; exact ⟨h1, h2⟩, ⟨CL, by rw [e2]; exact hsl, u0, hl, u6⟩, ?_, ?_⟩
  · rw [e]; exact u4
  · rw [e]; exact u5
theorem tq_0 {s q w0 w1 w2 w3 : Int → Int} {t : Int} (h44 : 0 ≤ s 44 ∧ s 44 ≤ 4) (ht : t = s 48) : TQ (rs0 s) (s 44) (s 48) 0 (rs0 s) [] (sU (sU (sU (sU (sU (sU q 2 t) 3 0) 0 0) 1 0) 4 20) 5 8) w0 w1 w2 w3 := by
  have h1 : rs0 s (258 + s 44) = 20 := by unfold rs0; rw [sU_ne (by omega), sU_ne (by omega), sU_eq]
  have h2 : rs0 s (263 + s 44) = 8 := by unfold rs0; rw [sU_ne (by omega), sU_eq]
  refine ⟨⟨?_, ?_, ?_, ?_⟩, ?_, ?_, trivial⟩
  · rw [sU_ne (by decide), sU_ne (by decide), sU_ne (by decide), sU_eq]; rfl
  · rw [sU_ne (by decide), sU_ne (by decide), sU_eq]; rfl
  · rw [sU_ne (by decide), sU_ne (by decide), sU_ne (by decide), sU_ne (by decide), sU_ne (by decide), sU_eq]; exact ht
  · rw [sU_ne (by decide), sU_ne (by decide), sU_ne (by decide), sU_ne (by decide), sU_eq]; rfl
  · rw [sU_ne (by decide), sU_eq, h1, if_neg (by decide)]
  · rw [sU_eq, h2]
def a_tape (s : Int → Int) : Int := if (plR s).1.2 = true ∧ ((plR s).1.1 : Int) = s 48 then -1 else ((plR s).1.1 : Int)
theorem a_tape_n {s : Int → Int} (h : ¬ okP s) : a_tape s = ((plR s).1.1 : Int) := if_neg h
theorem a_tape_y {s : Int → Int} (h : okP s) : a_tape s = -1 := if_pos h
set_option maxHeartbeats 4000000 in
set_option maxRecDepth 100000 in
theorem kc6_readTape (l : Launch) (D : Dx) (A : Nat → Prop) (ad : Nat → Nat) (K : Int → Int) (S Q qa : Nat → Int → Int) (tp : Nat → Nat) (s q w0 w1 w2 w3 bo e uc lr nx : Int → Int) (p : Nat) (hp : p < 6) (hTS : TS s) (h44 : 0 ≤ s 44 ∧ s 44 ≤ 4) : CT l D A yX6_readTape cX6_readTape 4 (some .int) { frames := 24, cells := 0, slots := 0, locals := 543 } [.ref (kP ad p), .ref (kC ad 0 0), vI (s 48)] (CW D A ad K (uS S 0 s) (uS Q p q) (q4 qa p w0 w1 w2 w3) tp bo e uc lr nx) (fun u : (Int → Int) × (Int → Int) × (Int → Int) × (Int → Int) × (Int → Int) => some (vI (a_tape s))) (fun u => (okP s → PLT s u.1 u.2.1 u.2.2.1 u.2.2.2.1 u.2.2.2.2)) (fun u => CW D A ad K (uS S 0 s) (uS Q p u.1) (q4 qa p u.2.1 u.2.2.1 u.2.2.2.1 u.2.2.2.2) (uN tp p (kC ad 0 0)) bo e uc lr nx) := by
  refine ct_of (lo0 := [(0, .ref (kP ad p)), (1, .ref (kC ad 0 0)), (2, vI (s 48))]) (by decide) (Nat.le_of_ble_eq_true rfl) rfl ?_
  intro G hG hR
  have hT1 := hTS.1
  have hCE := chT_CE hTS
  refine v_aload_n hG dX6_readTape_0 rfl 0 rfl ?_
  refine v_aload_n hG dX6_readTape_1 rfl 1 rfl ?_
  refine cp6_tape hp hG dX6_readTape_2 zf_X6_24 ?_
  refine v_aload_n hG dX6_readTape_5 rfl 0 rfl ?_
  refine v_iload_n hG dX6_readTape_6 rfl 2 rfl ?_
  refine v_aload_n hG dX6_readTape_7 rfl 1 rfl ?_
  refine cl_c (by decide) (t := 0) (by decide) hG dX6_readTape_8 ?_
  rw [show ((tlen 0 : Nat) : Int) = 100 from rfl]
  refine v_mmin hG dX6_readTape_9 zl_X6_34 (by decide) ⟨Nat.le_refl _, Nat.le_refl _⟩ (Nat.le_of_ble_eq_true rfl) (by omega) (by omega) ?_
  generalize hv1 : (if 100 < (s 48) then 100 else (s 48)) = v1
  have bv1 : (v1 = s 48 ∨ v1 = 100) ∧ v1 ≤ s 48 ∧ v1 ≤ 100 := by rw [← hv1]; (repeat' split) <;> omega
  refine cp6_tsize hp hG dX6_readTape_12 zf_X6_40 ?_
  refine v_aload_n hG dX6_readTape_15 rfl 0 rfl ?_
  refine v_iconst hG dX6_readTape_16 ?_
  refine cp6_at hp hG dX6_readTape_17 zf_X6_43 ?_
  refine v_aload_n hG dX6_readTape_20 rfl 0 rfl ?_
  refine v_iconst hG dX6_readTape_21 ?_
  refine cp6_cc hp hG dX6_readTape_22 zf_X6_46 ?_
  refine v_aload_n hG dX6_readTape_25 rfl 0 rfl ?_
  refine v_iconst hG dX6_readTape_26 ?_
  refine cp6_kc hp hG dX6_readTape_27 zf_X6_49 ?_
  refine v_aload_n hG dX6_readTape_30 rfl 0 rfl ?_
  refine v_bipush hG dX6_readTape_31 (by decide) ?_
  refine cp6_wear hp hG dX6_readTape_33 zf_X6_27 ?_
  refine v_aload_n hG dX6_readTape_36 rfl 0 rfl ?_
  refine v_bipush hG dX6_readTape_37 (by decide) ?_
  refine cp6_mend hp hG dX6_readTape_39 zf_X6_31 ?_
  refine v_iconst hG dX6_readTape_42 ?_
  refine v_istore_n (lo' := [(3, vI 1), (0, .ref (kP ad p)), (1, .ref (kC ad 0 0)), (2, vI (s 48))]) hG dX6_readTape_43 rfl (by decide) rfl ?_
  refine v_lo [1, 2, 3, 0] (lo' := [(0, .ref (kP ad p)), (1, .ref (kC ad 0 0)), (2, vI (s 48)), (3, vI 1)]) rfl ?_
  have L8 : ∀ mz : Nat, ∀ (k P : Nat) (R : Int → Int) (CL : List Cla), (k ≤ 9) → ((P : Int) ≤ s 48) → (TJ (chT s) (rs0 s) (s 44) k P R CL) → 10 - k = mz → ∀ x2 : Int, x2 = ((k : Int) + 1) → ∀ x3 : Int → Int, True → ∀ x4 : Int → Int, True → ∀ x5 : Int → Int, True → ∀ x6 : Int → Int, True → ∀ x7 : Int → Int, TQ (rs0 s) (s 44) (s 48) P R CL x3 x4 x5 x6 x7 → V G 0 0 (CW D A ad K (uS S 0 s) (uS Q p x3) (q4 qa p x4 x5 x6 x7) (uN tp p (kC ad 0 0)) bo e uc lr nx) 44 [(0, .ref (kP ad p)), (1, .ref (kC ad 0 0)), (2, vI (s 48)), (3, vI x2)] [] := by
    intro dL8
    induction dL8 using Nat.strongRecOn with
    | ind dL8 ihL8 =>
      intro k P R CL hq9 hq10 hq11 hq12
      intro x2 hx2
      subst hx2
      intro x3 hx3
      intro x4 hx4
      intro x5 hx5
      intro x6 hx6
      intro x7 hx7
      have hQq : TQ (rs0 s) (s 44) (s 48) P R CL x3 x4 x5 x6 x7 := by assumption
      have hTi : TJ (chT s) (rs0 s) (s 44) k P R CL := by assumption
      obtain ⟨⟨hv0, hv1, hv2, hv3⟩, -⟩ := id hQq
      obtain ⟨⟨ht1, ht2⟩, -, -, ht5, ht6⟩ := id hTi
      have hpl1 : (plI (chT s) (rs0 s) (s 44) k).1 = (clF (chT s) P) := by rw [ht1]
      refine v_iload_n hG dX6_readTape_44 rfl 3 rfl ?_
      refine v_bipush hG dX6_readTape_45 (by decide) ?_
      refine v_icmp_gt (tgt := 101) hG dX6_readTape_47 (by decide) (by omega) (by omega) (fun c13 => ?_) (fun c13 => ?_)
      · skip
        exfalso; omega
      · skip
        refine v_aload_n hG dX6_readTape_50 rfl 0 rfl ?_
        refine v_callV (k1' := 0) (k2' := 0) hG dX6_readTape_51 zc_X6_readClause ⟨zl_X6_52, zi_X6_readClause, zs_X6_readClause⟩ (fun l => kc6_readClause l D A ad K S Q qa (uN tp p (kC ad 0 0)) s x3 x4 x5 x6 x7 bo e uc lr nx p hp P (by exact hv2) (by exact hv3) (by assumption) (by omega) (by exact uN_eq) (by omega) (by omega)) rfl (cR6 hp) (fun _ h => h) ⟨by decide, by decide⟩ rfl rfl ⟨by decide, by decide⟩ (rest := []) rfl (Nat.le_of_ble_eq_true rfl) (fun u14 => [vI (bi ((clF (chT s) P).2 = true))]) (fun _ => rfl) (fun u14 hu14 => ?_)
        have fu14 : CM x3 x4 x5 x6 x7 (clF (chT s) P) (claF (chT s) P) u14.1 u14.2.1 u14.2.2.1 u14.2.2.2.1 u14.2.2.2.2 := hu14
        have hCM := fu14
        refine v_ifb_ne (p := (clF (chT s) P).2 = true) (tgt := 62) hG dX6_readTape_54 (by decide) (fun c15 => ?_) (fun c15 => ?_)
        · skip
          have hct : (clF (chT s) P).2 = true := by assumption
          obtain ⟨hTR, hsl, hbd, hlen, hpq, hPn⟩ := TR_of hCE (show (s 48).toNat ≤ 100 by omega) h44 (rs0_PQ h44) (show P ≤ (s 48).toNat by omega) hTi hQq hCM hct
          have hat : _ = ((clF (chT s) P).1 : Int) := hCM.2.1
          have hat2 := hCM.1
          have hpt : (plI (chT s) (rs0 s) (s 44) k).1.2 = true := by rw [hpl1]; exact hct
          have hpp : ((plI (chT s) (rs0 s) (s 44) k).1.1 : Int) = ((clF (chT s) P).1 : Int) := by rw [hpl1]
          have hlen2 : (CL ++ [claF (chT s) P]).length = k + 1 := by rw [List.length_append, ht6]; rfl
          refine v_aload_n hG dX6_readTape_62 rfl 0 rfl ?_
          refine cq6 hp hG dX6_readTape_63 zf_X6_43 (k := 8) (by decide) (v := vI (u14.1 3)) rfl ?_
          refine v_aload_n hG dX6_readTape_66 rfl 0 rfl ?_
          refine cq6 hp hG dX6_readTape_67 zf_X6_40 (k := 7) (by decide) (v := vI (u14.1 2)) rfl ?_
          refine v_icmp_lt (tgt := 75) hG dX6_readTape_70 (by decide) (by omega) (by omega) (fun c16 => ?_) (fun c16 => ?_)
          · skip
            refine v_iload_n hG dX6_readTape_75 rfl 3 rfl ?_
            refine v_bipush hG dX6_readTape_76 (by decide) ?_
            refine v_icmp_eq (tgt := 90) hG dX6_readTape_78 (by decide) (by omega) (by omega) (fun c17 => ?_) (fun c17 => ?_)
            · skip
              refine v_aload_n hG dX6_readTape_90 rfl 0 rfl ?_
              refine cq6 hp hG dX6_readTape_91 zf_X6_43 (k := 8) (by decide) (v := vI (u14.1 3)) rfl ?_
              have hst : plR s = (plI (chT s) (rs0 s) (s 44) k) := by first | exact pl_stop (Or.inr (by rw [hpl1]; assumption)) 9 (by omega) | (show plI _ _ _ 9 = _; rw [show k = 9 by omega])
              have hno := okP_n hst (Or.inr (by omega))
              have hat3 : (((clF (chT s) P).1 : Nat) : Int) = u14.1 3 := by first | exact hat.symm | exact (sU_eq.trans (mst_n (by assumption))).symm
              have e18 : @Eq Int (a_tape s) (u14.1 3) := by rw [a_tape_n hno, hst, hpl1]; exact hat3
              exact v_ireturn hG hR dX6_readTape_94 (u14.1, u14.2.1, u14.2.2.1, u14.2.2.2.1, u14.2.2.2.2) (congrArg (fun z => some (vI z)) e18) (by exact fun h => absurd h hno) (fun _ hM => hM)
            · skip
              refine v_aload_n hG dX6_readTape_81 rfl 0 rfl ?_
              refine v_bipush hG dX6_readTape_82 (by decide) ?_
              refine v_callV (k1' := 0) (k2' := 0) hG dX6_readTape_84 zc_X6_skip ⟨zl_X6_56, zi_X6_skip, zs_X6_skip⟩ (fun l => kc6_skip l D A ad K S Q qa (uN tp p (kC ad 0 0)) s u14.1 u14.2.1 u14.2.2.1 u14.2.2.2.1 u14.2.2.2.2 bo e uc lr nx p hp ((clF (chT s) P).1) 59 (by exact hat2.trans hv2) (by exact hat) (by assumption) (by omega) (by exact uN_eq) (by omega)) rfl (cR6 hp) (fun _ h => h) ⟨by decide, by decide⟩ rfl rfl ⟨by decide, by decide⟩ (rest := []) rfl (Nat.le_of_ble_eq_true rfl) (fun u19 => [vI (bi (chT s ((clF (chT s) P).1) = 59))]) (fun _ => rfl) (fun u19 hu19 => ?_)
              refine v_ifb_ne (p := chT s ((clF (chT s) P).1) = 59) (tgt := 95) hG dX6_readTape_87 (by decide) (fun c20 => ?_) (fun c20 => ?_)
              · skip
                have h59 : chT s (clF (chT s) P).1 = 59 := by assumption
                rw [mst_y h59]
                have hlt59 := hCE.lt (p := (clF (chT s) P).1) (by rw [h59]; decide)
                obtain ⟨hgo1, hgo2⟩ := TJ_go hpl1 hct h59 hsl hbd hlen hpq hlen2 hTR
                refine v_iinc (lo' := [(3, vI (((k : Int) + 1) + 1)), (0, .ref (kP ad p)), (1, .ref (kC ad 0 0)), (2, vI (s 48))]) hG dX6_readTape_95 3 rfl (by decide) rfl ?_
                refine v_goto (tgt := 44) hG dX6_readTape_98 (by decide) ?_
                refine v_lo [1, 2, 3, 0] (lo' := [(0, .ref (kP ad p)), (1, .ref (kC ad 0 0)), (2, vI (s 48)), (3, vI (((k : Int) + 1) + 1))]) rfl ?_
                exact ihL8 _ (by omega) (k + 1) ((clF (chT s) P).1 + 1) ((plI (chT s) (rs0 s) (s 44) k).2) (CL ++ [claF (chT s) P]) (by omega) (by omega) (by exact hgo1) rfl _ (by omega) _ (by trivial) _ (by trivial) _ (by trivial) _ (by trivial) _ (by exact hgo2)
              · skip
                refine v_aload_n hG dX6_readTape_90 rfl 0 rfl ?_
                refine cq6 hp hG dX6_readTape_91 zf_X6_43 (k := 8) (by decide) (v := vI ((mustF (chT s) 59 (((clF (chT s) P).1), true)).1 : Nat)) (congrArg (fun z => some (vI z)) (show (sU u14.1 3 ((mustF (chT s) 59 (((clF (chT s) P).1), true)).1 : Nat)) 3 = ((mustF (chT s) 59 (((clF (chT s) P).1), true)).1 : Nat) from by rw [sU_eq])) ?_
                have hst : plR s = (plI (chT s) (rs0 s) (s 44) k) := by first | exact pl_stop (Or.inr (by rw [hpl1]; assumption)) 9 (by omega) | (show plI _ _ _ 9 = _; rw [show k = 9 by omega])
                have hno := okP_n hst (Or.inr (by omega))
                have hat3 : (((clF (chT s) P).1 : Nat) : Int) = (sU u14.1 3 ((mustF (chT s) 59 (((clF (chT s) P).1), true)).1 : Nat)) 3 := by first | exact hat.symm | exact (sU_eq.trans (mst_n (by assumption))).symm
                have e21 : @Eq Int (a_tape s) (((mustF (chT s) 59 (((clF (chT s) P).1), true)).1 : Nat)) := by rw [a_tape_n hno, hst, hpl1]; exact hat3
                exact v_ireturn hG hR dX6_readTape_94 (sU u14.1 3 ((mustF (chT s) 59 (((clF (chT s) P).1), true)).1 : Nat), u14.2.1, u14.2.2.1, u14.2.2.2.1, u14.2.2.2.2) (congrArg (fun z => some (vI z)) e21) (by exact fun h => absurd h hno) (fun _ hM => hM)
          · skip
            refine v_iconst hG dX6_readTape_73 ?_
            obtain ⟨hyes, hPLT⟩ := okP_y (k := k) (by omega) hCE (by omega) hpt (by omega) (by omega) hsl hTR
            have e22 : @Eq Int (a_tape s) (-1) := by rw [a_tape_y hyes]
            exact v_ireturn hG hR dX6_readTape_74 (u14.1, u14.2.1, u14.2.2.1, u14.2.2.2.1, u14.2.2.2.2) (congrArg (fun z => some (vI z)) e22) (by exact fun _ => hPLT) (fun _ hM => hM)
        · skip
          refine v_aload_n hG dX6_readTape_57 rfl 0 rfl ?_
          refine cq6 hp hG dX6_readTape_58 zf_X6_43 (k := 8) (by decide) (v := vI (u14.1 3)) rfl ?_
          have hcf : (clF (chT s) P).2 = false := Bool.eq_false_iff.mpr (by assumption)
          have hpf : (plI (chT s) (rs0 s) (s 44) k).1.2 = false := by rw [hpl1]; exact hcf
          have hst : plR s = (plI (chT s) (rs0 s) (s 44) k) := pl_stop (Or.inl hpf) 9 (by omega)
          have hno := okP_n hst (Or.inl hpf)
          have hat : _ = ((clF (chT s) P).1 : Int) := hCM.2.1
          have e23 : @Eq Int (a_tape s) (u14.1 3) := by rw [a_tape_n hno, hst, hpl1, hat]
          exact v_ireturn hG hR dX6_readTape_61 (u14.1, u14.2.1, u14.2.2.1, u14.2.2.2.1, u14.2.2.2.2) (congrArg (fun z => some (vI z)) e23) (by exact fun h => absurd h hno) (fun _ hM => hM)
  exact L8 _ 0 0 (rs0 s) ([]) (by omega) (by omega) (by exact TJ_0 (rs0_PQ h44)) rfl _ (by rfl) _ (by trivial) _ (by trivial) _ (by trivial) _ (by trivial) _ (by exact tq_0 h44 (by omega))
