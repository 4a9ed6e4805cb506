/-! more searches; what is tried and taken back; the plan -/
theorem back_eq {s t f : Int → Int} (h : LoEq s t) : cpy 43 (cpy 43 s f) t = s := by
  funext q
  by_cases hq : 0 ≤ q ∧ q < 43
  · rw [cpy_in hq, cpy_in hq]
  · rw [cpy_out hq, h q hq]
theorem allM_n {f : Nat → Bool} {k : Nat} (h : ¬ allM f k = true) : (0 : Int) = bi (allM f (k + 1) = true) := by
  rw [bi_neg]
  show ¬ (allM f k && f k) = true
  cases hf : allM f k
  · simp
  · exact absurd hf h
def gF (s : Int → Int) : Nat → Int := fun n => leastM (badF s (q_now s) (n : Int)) (s 43).toNat
theorem first_hit {s : Int → Int} {j k : Nat} (h : fstN (gF s) j = -5) (h1 : leastM (badF s (q_now s) ((j : Int) + 1)) k = -1) (h2 : badF s (q_now s) ((j : Int) + 1) k = true) (hk : k < (s 43).toNat) (hj : j < 999) : fstN (gF s) 999 = k := by
  have e : gF s (j + 1) = k := by
    show leastM (badF s (q_now s) ((j + 1 : Nat) : Int)) (s 43).toNat = k
    rw [show ((j + 1 : Nat) : Int) = (j : Int) + 1 by omega]
    exact leastM_hit h1 h2 hk
  rw [fstN_hit h (by omega) hj, e]
theorem first_stay {s : Int → Int} {j k : Nat} (h : fstN (gF s) j = -5) (h1 : leastM (badF s (q_now s) ((j : Int) + 1)) k = -1) (hk : k = (s 43).toNat) : fstN (gF s) (j + 1) = -5 := by
  refine fstN_stay h ?_
  show leastM (badF s (q_now s) ((j + 1 : Nat) : Int)) (s 43).toNat < 0
  rw [show ((j + 1 : Nat) : Int) = (j : Int) + 1 by omega, ← hk, h1]
  omega
theorem leastM_rng (f : Nat → Bool) : ∀ n : Nat, -1 ≤ leastM f n ∧ leastM f n < n
  | 0 => by simp [leastM]
  | n + 1 => by
    have := leastM_rng f n
    unfold leastM
    (repeat' split) <;> omega
theorem pos_5 {f : Nat → Bool} {n k : Nat} (h : leastM f k = -1) (h2 : f k = true) (hk : k < n) : (if leastM f n = -1 then -5 else leastM f n) = k := by
  rw [leastM_hit h h2 hk, if_neg (by omega)]
theorem pos_n {f : Nat → Bool} {n k : Nat} (h : leastM f k = -1) (hk : k = n) : (if leastM f n = -1 then -5 else leastM f n) = -5 := by
  subst hk
  rw [if_pos h]
/-- the greatest of f, and where it is first; i0 to begin with -/
def bestF (i0 : Int) (f : Nat → Int) : Nat → Int × Int
  | 0 => (i0, -5)
  | k + 1 => if (bestF i0 f k).1 < f k then (f k, k) else bestF i0 f k
theorem bestF_rng {i0 : Int} {f : Nat → Int} {b : Int} (h0 : -b ≤ i0 ∧ i0 ≤ b) (hf : ∀ k, -b ≤ f k ∧ f k ≤ b) : ∀ n, -b ≤ (bestF i0 f n).1 ∧ (bestF i0 f n).1 ≤ b
  | 0 => h0
  | n + 1 => by
    have := bestF_rng h0 hf n
    unfold bestF
    split
    · exact hf n
    · exact this
def q_apart (s : Int → Int) (m p : Int) : Int := if 0 ≤ s (66 + m) - p then s (66 + m) - p else -(s (66 + m) - p)
def besF (s : Int → Int) (m : Int) : Nat → Bool := fun k => !decide ((k : Int) = m) && !decide (3 < q_apart s k (s (66 + m)))
def q_bes (s : Int → Int) (m : Int) : Int := bset (besF s m) (s 43).toNat
def szF (x : Int) : Nat → Int
  | 0 => 0
  | k + 1 => szF x k + iand (x / 2 ^ (k : Int).toNat) 1
theorem szF_rng {x : Int} (h : 0 ≤ x ∧ x < 2147483648) : ∀ n : Nat, 0 ≤ szF x n ∧ szF x n ≤ n
  | 0 => by simp [szF]
  | n + 1 => by
    have := szF_rng h n
    have := iand1_rng (sh_rng (k := n) h)
    unfold szF
    omega
def freeF (s : Int → Int) (p d : Int) : Nat → Bool := fun m => !decide (q_apart s m p < d)
def roomF (s : Int → Int) (d : Int) : Nat → Bool := fun p => allM (freeF s p d) (s 43).toNat
def q_room (s : Int → Int) (d : Int) : Int := if leastM (roomF s d) 100 = -1 then -5 else leastM (roomF s d) 100
def flawed (s : Int → Int) (m : Int) : Bool := decide (s (11 + m) = 1) && decide (0 < s (19 + m))
def proF (s : Int → Int) (e : Int) : Nat → Bool := fun m => flawed s m && !decide (q_dk s m 0 + e < 6)
def q_proof (s : Int → Int) (e : Int) : Int := bset (proF s e) (s 43).toNat
def q_flawed (s : Int → Int) : Int := bset (fun m => flawed s m) (s 43).toNat
def q_proofs (s : Int → Int) : Int := if leastM (fun e => decide (q_proof s e = q_flawed s)) 10 = -1 then -5 else leastM (fun e => decide (q_proof s e = q_flawed s)) 10
def menF (s : Int → Int) : Nat → Bool := fun m => flawed s m && decide (0 < q_dk (p_mend s m) m 0)
def q_gn (s : Int → Int) : Int := if 0 ≤ q_goodOf s (q_now s) then q_goodOf s (q_now s) else 0
theorem q_gn_rng (s : Int → Int) : 0 ≤ q_gn s ∧ q_gn s ≤ 999 := by
  have := q_goodOf_rng s (q_now s)
  unfold q_gn
  split <;> omega
def q_worth (s : Int → Int) (m : Int) : Int := q_gn (p_over s m) - q_gn s
theorem q_worth_rng (s : Int → Int) (m : Int) : -999 ≤ q_worth s m ∧ q_worth s m ≤ 999 := by
  have := q_gn_rng s
  have := q_gn_rng (p_over s m)
  unfold q_worth
  omega
def worF (s : Int → Int) : Nat → Int := fun m => if s (11 + m) = 1 then q_worth s m else 0
theorem worF_rng (s : Int → Int) (k : Nat) : -999 ≤ worF s k ∧ worF s k ≤ 999 := by
  have := q_worth_rng s k
  unfold worF
  split <;> omega
theorem GM_over {s : Int → Int} {m : Int} (hN : NM s) (hm : 0 ≤ m ∧ m < 8) (hM : GM s) : GM (p_over s m) := by
  have h8 := hN.2
  exact GM_lo (p_over_lo hm) (fun k h1 h2 => MK_over hm ⟨h1, by omega⟩ (hM k h1 h2))
/-- RISK of all, by numbers, a rest ahead of r: (TIRED, the sum) -/
def roa (s : Int → Int) (SL : List Int) (r : Int) : Nat → Int × Int
  | 0 => (s 2, 0)
  | k + 1 => if s (11 + k) = 1 then roa s SL r k else (clamp ((if (k : Int) = r then clamp ((roa s SL r k).1 - 20) 0 99 else (roa s SL r k).1) + q_needs s k / 2) 0 99, (roa s SL r k).2 + q_risk s SL k (if (k : Int) = r then clamp ((roa s SL r k).1 - 20) 0 99 else (roa s SL r k).1))
theorem roa_rng {s : Int → Int} {SL : List Int} {r : Int} (h : 0 ≤ s 2 ∧ s 2 ≤ 99) : ∀ k : Nat, (0 ≤ (roa s SL r k).1 ∧ (roa s SL r k).1 ≤ 99) ∧ (0 ≤ (roa s SL r k).2 ∧ (roa s SL r k).2 ≤ 99 * k)
  | 0 => ⟨h, by show 0 ≤ (0 : Int) ∧ (0 : Int) ≤ 99 * ((0 : Nat) : Int); omega⟩
  | k + 1 => by
    have ih := roa_rng (SL := SL) (r := r) h k
    unfold roa
    split
    · refine ⟨ih.1, ?_⟩
      have := ih.2
      omega
    · refine ⟨clamp_rng _ (by omega), ?_⟩
      have h1 := q_risk_rng s SL k (if (k : Int) = r then clamp ((roa s SL r k).1 - 20) 0 99 else (roa s SL r k).1)
      have h2 := ih.2
      dsimp only
      omega
def q_roa (s : Int → Int) (SL : List Int) (r : Int) : Int := (roa s SL r (s 43).toNat).2
theorem q_roa_rng {s : Int → Int} {SL : List Int} {r : Int} (h : 0 ≤ s 2 ∧ s 2 ≤ 99) (hN : NM s) : 0 ≤ q_roa s SL r ∧ q_roa s SL r ≤ 1000 := by
  have := (roa_rng (SL := SL) (r := r) h (s 43).toNat).2
  unfold NM at hN
  unfold q_roa
  omega
/-- ahead of which one a rest is best: (the least sum, where) -/
def rsd (s : Int → Int) (SL : List Int) : Nat → Int × Int
  | 0 => (q_roa s SL (-1), -5)
  | k + 1 => if (if s (11 + k) = 1 then 1000000 else q_roa s SL k) < (rsd s SL k).1 then ((if s (11 + k) = 1 then 1000000 else q_roa s SL k), k) else rsd s SL k
theorem rsd_rng {s : Int → Int} {SL : List Int} (h : 0 ≤ s 2 ∧ s 2 ≤ 99) (hN : NM s) : ∀ k : Nat, 0 ≤ (rsd s SL k).1 ∧ (rsd s SL k).1 ≤ 1000
  | 0 => q_roa_rng h hN
  | k + 1 => by
    have ih := rsd_rng (SL := SL) h hN k
    have h1 := q_roa_rng (SL := SL) (r := k) h hN
    unfold rsd
    (repeat' split) <;> (try dsimp only) <;> omega
/-- (TIRED, risks, clean ways, all ways, how many) over the first four that are not cut -/
def lff (s : Int → Int) (SL : List Int) : Nat → Int × Int × Int × Int × Int
  | 0 => (s 2, 0, 1, 1, 0)
  | k + 1 => if 4 ≤ (lff s SL k).2.2.2.2 then lff s SL k else if s (11 + k) = 1 then lff s SL k else (clamp ((lff s SL k).1 + q_needs s k / 2) 0 99, (lff s SL k).2.1 + q_risk s SL k (lff s SL k).1, (lff s SL k).2.2.1 * (100 - q_risk s SL k (lff s SL k).1), (lff s SL k).2.2.2.1 * 100, (lff s SL k).2.2.2.2 + 1)
theorem lff_4 {s : Int → Int} {SL : List Int} {k n : Nat} (h : 4 ≤ (lff s SL k).2.2.2.2) (hn : k ≤ n) : lff s SL n = lff s SL k := by
  induction n with
  | zero => rw [show k = 0 by omega]
  | succ n ih =>
    rcases Nat.lt_or_ge n k with q | q
    · rw [show k = n + 1 by omega]
    · have e := ih q
      show (if 4 ≤ (lff s SL n).2.2.2.2 then lff s SL n else _) = _
      rw [if_pos (by rw [e]; exact h), e]
def lfB (u : Int × Int × Int × Int × Int) : Prop := (0 ≤ u.1 ∧ u.1 ≤ 99) ∧ (0 ≤ u.2.2.2.2 ∧ u.2.2.2.2 ≤ 4) ∧ (0 ≤ u.2.1 ∧ u.2.1 ≤ 99 * u.2.2.2.2) ∧ (1 ≤ u.2.2.1 ∧ u.2.2.1 ≤ 100000000) ∧ (1 ≤ u.2.2.2.1 ∧ u.2.2.2.1 ≤ 100000000) ∧ ((u.2.2.2.2 = 0 → u.2.2.1 ≤ 1 ∧ u.2.2.2.1 ≤ 1) ∧ (u.2.2.2.2 = 1 → u.2.2.1 ≤ 100 ∧ u.2.2.2.1 ≤ 100) ∧ (u.2.2.2.2 = 2 → u.2.2.1 ≤ 10000 ∧ u.2.2.2.1 ≤ 10000) ∧ (u.2.2.2.2 = 3 → u.2.2.1 ≤ 1000000 ∧ u.2.2.2.1 ≤ 1000000))
theorem mul_le_100 {x r b : Int} (hx : 1 ≤ x ∧ x ≤ b) (hr : 0 ≤ r ∧ r ≤ 99) : 1 ≤ x * (100 - r) ∧ x * (100 - r) ≤ 100 * b := by
  have h1 : x * 1 ≤ x * (100 - r) := Int.mul_le_mul_of_nonneg_left (by omega) (by omega)
  have h2 : x * (100 - r) ≤ x * 100 := Int.mul_le_mul_of_nonneg_left (by omega) (by omega)
  omega
theorem lff_rng {s : Int → Int} {SL : List Int} (h : 0 ≤ s 2 ∧ s 2 ≤ 99) : ∀ k : Nat, lfB (lff s SL k)
  | 0 => by
    refine ⟨h, ?_⟩
    show (0 ≤ (0 : Int) ∧ (0 : Int) ≤ 4) ∧ (0 ≤ (0 : Int) ∧ (0 : Int) ≤ 99 * 0) ∧ (1 ≤ (1 : Int) ∧ (1 : Int) ≤ 100000000) ∧ (1 ≤ (1 : Int) ∧ (1 : Int) ≤ 100000000) ∧ (((0 : Int) = 0 → (1 : Int) ≤ 1 ∧ (1 : Int) ≤ 1) ∧ ((0 : Int) = 1 → (1 : Int) ≤ 100 ∧ (1 : Int) ≤ 100) ∧ ((0 : Int) = 2 → (1 : Int) ≤ 10000 ∧ (1 : Int) ≤ 10000) ∧ ((0 : Int) = 3 → (1 : Int) ≤ 1000000 ∧ (1 : Int) ≤ 1000000))
    omega
  | k + 1 => by
    have ih := lff_rng (SL := SL) h k
    unfold lff
    split
    · exact ih
    · rename_i h4
      split
      · exact ih
      · obtain ⟨i1, i2, i3, i4, i5, i6, i7, i8, i9⟩ := ih
        have hr := q_risk_rng s SL k (lff s SL k).1
        generalize lff s SL k = u at *
        obtain ⟨u1, u2, u3, u4, u5⟩ := u
        dsimp only at *
        have hc := clamp_rng (u1 + q_needs s k / 2) (low := 0) (high := 99) (by omega)
        have m1 := fun b hb => mul_le_100 (x := u3) (b := b) (r := q_risk s SL k u1) hb hr
        unfold lfB
        dsimp only
        rcases (show u5 = 0 ∨ u5 = 1 ∨ u5 = 2 ∨ u5 = 3 by omega) with q | q | q | q
        · have := i6 q; have := m1 1 (by omega); subst q; omega
        · have := i7 q; have := m1 100 (by omega); subst q; omega
        · have := i8 q; have := m1 10000 (by omega); subst q; omega
        · have := i9 q; have := m1 1000000 (by omega); subst q; omega
/-- in lowest terms -/
def q_low (up low part : Int) : Int := (if part = 0 then up else low) / (Int.gcd up low : Nat)
theorem gcd_step {x y : Int} (hx : 0 ≤ x) (hy : 0 < y) : Int.gcd y (x % y) = Int.gcd x y := by
  obtain ⟨a, rfl⟩ := Int.eq_ofNat_of_zero_le hx
  obtain ⟨b, rfl⟩ := Int.eq_ofNat_of_zero_le (Int.le_of_lt hy)
  rw [← Int.natCast_emod, Int.gcd_natCast_natCast, Int.gcd_natCast_natCast, Nat.gcd_comm b, ← Nat.gcd_rec, Nat.gcd_comm]
/-- how many n below 1000 are so, and the least, counted from the end -/
def dnF (f : Nat → Bool) : Nat → Int × Int
  | 0 => (0, -5)
  | k + 1 => if f (999 - k) then ((dnF f k).1 + 1, ((999 - k : Nat) : Int)) else dnF f k
theorem dnF_rng (f : Nat → Bool) : ∀ n : Nat, 0 ≤ (dnF f n).1 ∧ (dnF f n).1 ≤ n
  | 0 => by simp [dnF]
  | n + 1 => by
    have := dnF_rng f n
    unfold dnF
    split
    · dsimp only; omega
    · omega
def seeF (s : Int → Int) (n : Int) : Nat → Bool := fun k => decide (q_dk s (s (106 + k)) n = s (112 + k))
def SE (s : Int → Int) : Prop := (0 ≤ s 45 ∧ s 45 ≤ 6) ∧ ∀ k : Int, 0 ≤ k → k < s 45 → (0 ≤ s (106 + k) ∧ s (106 + k) < s 43) ∧ (0 ≤ s (112 + k) ∧ s (112 + k) ≤ 30)
def asSeen (s : Int → Int) : Nat → Bool := fun n => allM (seeF s n) (s 45).toNat
def BK (s : Int → Int) : Prop := (0 ≤ s 47 ∧ s 47 ≤ 8) ∧ ∀ k : Int, 0 ≤ k → k < s 47 → (0 ≤ s (134 + k) ∧ s (134 + k) < s 43) ∧ (0 ≤ s (142 + k) ∧ s (142 + k) ≤ 999) ∧ (0 ≤ s (150 + k) ∧ s (150 + k) ≤ 30)
def looF (s : Int → Int) : Nat → Bool := fun k => !decide (q_dk s (s (134 + k)) (s (142 + k)) = s (150 + k))
def hanF (s : Int → Int) (SL : List Int) (d : Int) : Nat → Bool := fun m => !decide (s (11 + m) = 1) && !decide (q_risk s SL m (s 2) ≤ d)
def errC (s : Int → Int) (f : Int) : Int := cntB (fun m => decide (s (11 + m) = 1) && decide (s (19 + m) = f)) (s 43).toNat
def errB (s : Int → Int) : Nat → Int × Int
  | 0 => (0, 0)
  | k + 1 => if (errB s k).1 < errC s ((k : Int) + 1) then (errC s ((k : Int) + 1), (k : Int) + 1) else errB s k
theorem errC_rng {s : Int → Int} (hN : NM s) (f : Int) : 0 ≤ errC s f ∧ errC s f ≤ 8 := by
  have := cntB_rng (fun m => decide (s (11 + m) = 1) && decide (s (19 + m) = f)) (s 43).toNat
  unfold NM at hN
  unfold errC
  omega
theorem errB_rng {s : Int → Int} (hN : NM s) : ∀ k, 0 ≤ (errB s k).1 ∧ (errB s k).1 ≤ 8
  | 0 => by show 0 ≤ (0 : Int) ∧ (0 : Int) ≤ 8; omega
  | k + 1 => by
    have := errB_rng hN k
    have := errC_rng hN ((k : Int) + 1)
    unfold errB
    split
    · dsimp only; omega
    · omega
def oddF (s : Int → Int) (q n : Int) : Nat → Bool := fun m => decide (s (11 + m) = 1) && !decide (q_dk s m n < q)
def sumF (f : Nat → Int) : Nat → Int
  | 0 => 0
  | k + 1 => sumF f k + f k
theorem sumF_rng {f : Nat → Int} {b : Int} : ∀ n : Nat, (∀ k, k < n → 0 ≤ f k ∧ f k ≤ b) → 0 ≤ sumF f n ∧ sumF f n ≤ b * n
  | 0, _ => by simp [sumF]
  | n + 1, h => by
    have h1 := sumF_rng n (fun k hk => h k (by omega))
    have h2 := h n (by omega)
    unfold sumF
    rw [show b * ((n + 1 : Nat) : Int) = b * n + b by rw [Int.natCast_add, Int.mul_add]; simp]
    omega
/-- the plan -/
def PN (s : Int → Int) : Prop := (0 ≤ s 46 ∧ s 46 ≤ 8) ∧ ∀ k : Int, 0 ≤ k → k < s 46 → (0 ≤ s (118 + k) ∧ s (118 + k) ≤ 4) ∧ (s (118 + k) < 3 → 0 ≤ s (126 + k) ∧ s (126 + k) < s 43)
def p_does (s : Int → Int) (SL : List Int) (w m : Int) : Int → Int := if w = 0 then (if s (11 + m) = 1 then s else p_cut s (flawF (s (50 + m)) (q_risk s SL m (s 2)) 99) m) else if w = 1 then (if s (11 + m) = 1 then p_mend s m else s) else if w = 2 then (if s (11 + m) = 1 then p_over s m else s) else if w = 3 then p_rest s 10 else p_prints s 50
def WB (b : Int) (s : Int → Int) : Prop := ∀ m : Int, 0 ≤ m → m < s 43 → s (27 + m) ≤ b
def TI (s : Int → Int) : Prop := 0 ≤ s 2 ∧ s 2 ≤ 99
theorem does_all {s : Int → Int} {SL : List Int} {w m b : Int} (hN : NM s) (hM : GM s) (hT : TI s) (hW : WB b s) (hb : 0 ≤ b ∧ b ≤ 19000) (hw : 0 ≤ w ∧ w ≤ 4) (hm : w < 3 → 0 ≤ m ∧ m < s 43) : LoEq s (p_does s SL w m) ∧ GM (p_does s SL w m) ∧ TI (p_does s SL w m) ∧ WB (b + 50) (p_does s SL w m) := by
  have h8 := hN.2
  have hid : LoEq s s ∧ GM s ∧ TI s ∧ WB (b + 50) s := ⟨LoEq.rf s, hM, hT, fun k h1 h2 => by have := hW k h1 h2; omega⟩
  unfold p_does
  split
  · split
    · exact hid
    · have hm := hm (by omega)
      have h88 : 0 ≤ m ∧ m < 8 := by omega
      have hl : LoEq s (p_cut s (flawF (s (50 + m)) (q_risk s SL m (s 2)) 99) m) := p_cut_lo h88
      refine ⟨hl, GM_lo hl (fun k h1 h2 => MK_cut h88 ⟨h1, by omega⟩ (by unfold flawF; (repeat' split) <;> omega) (hM k h1 h2)), ?_, fun k h1 h2 => ?_⟩
      · unfold TI; rw [p_cut_at h88, if_pos rfl]; exact clamp_rng _ (by omega)
      · rw [hl 43 (by omega)] at h2
        have := hW k h1 h2
        rw [p_cut_at h88]
        (repeat' split) <;> omega
  · split
    · split
      · have hm := hm (by omega)
        have h88 : 0 ≤ m ∧ m < 8 := by omega
        have hl : LoEq s (p_mend s m) := p_mend_lo h88
        refine ⟨hl, GM_lo hl (fun k h1 h2 => MK_mend h88 ⟨h1, by omega⟩ (hM k h1 h2)), ?_, fun k h1 h2 => ?_⟩
        · unfold TI; rw [p_mend_at h88, if_pos rfl]; exact clamp_rng _ (by omega)
        · rw [hl 43 (by omega)] at h2
          have := hW k h1 h2
          rw [p_mend_at h88]
          (repeat' split) <;> omega
      · exact hid
    · split
      · split
        · have hm := hm (by omega)
          have h88 : 0 ≤ m ∧ m < 8 := by omega
          have hl : LoEq s (p_over s m) := p_over_lo h88
          refine ⟨hl, GM_lo hl (fun k h1 h2 => MK_over h88 ⟨h1, by omega⟩ (hM k h1 h2)), ?_, fun k h1 h2 => ?_⟩
          · unfold TI; rw [p_over_at h88, if_pos rfl]; exact clamp_rng _ (by omega)
          · rw [hl 43 (by omega)] at h2
            have := hW k h1 h2
            rw [p_over_at h88]
            (repeat' split) <;> omega
        · exact hid
      · split
        · have hl : LoEq s (p_rest s 10) := p_rest_lo s 10
          refine ⟨hl, GM_lo hl (fun k h1 h2 => MK_rest ⟨h1, by omega⟩ (hM k h1 h2)), ?_, fun k h1 h2 => ?_⟩
          · unfold TI; rw [p_rest_at, if_pos rfl]; exact clamp_rng _ (by omega)
          · rw [hl 43 (by omega)] at h2
            have := hW k h1 h2
            rw [p_rest_at]
            (repeat' split) <;> omega
        · have hl : LoEq s (p_prints s 50) := p_prints_lo h8
          refine ⟨hl, GM_lo hl (fun k h1 h2 => MK_prints h8 ⟨h1, h2⟩ (hM k h1 h2) (by have := hW k h1 h2; omega)), ?_, fun k h1 h2 => ?_⟩
          · unfold TI; rw [p_prints_at, if_neg (by omega), sU_ne (by omega)]; exact hT
          · rw [hl 43 (by omega)] at h2
            have := hW k h1 h2
            rw [p_prints_at]
            simp only [sU_at]
            (repeat' split) <;> omega
def pd (s : Int → Int) (SL : List Int) : Nat → Int → Int
  | 0 => s
  | k + 1 => p_does (pd s SL k) SL (s (118 + k)) (s (126 + k))
theorem pd_all {s : Int → Int} {SL : List Int} (hN : NM s) (hM : GM s) (hT : TI s) (hW : WW s) (hP : PN s) : ∀ k : Nat, (k : Int) ≤ s 46 → LoEq s (pd s SL k) ∧ GM (pd s SL k) ∧ TI (pd s SL k) ∧ WB (9999 + 50 * k) (pd s SL k)
  | 0, _ => ⟨LoEq.rf s, hM, hT, fun m h1 h2 => by have := hW m h1 h2; show s (27 + m) ≤ _; omega⟩
  | k + 1, hk => by
    obtain ⟨i1, i2, i3, i4⟩ := pd_all hN hM hT hW hP k (by omega)
    have hp := hP.2 k (by omega) (by omega)
    have hp8 := hP.1
    have e43 := i1 43 (by omega)
    obtain ⟨j1, j2, j3, j4⟩ := does_all (SL := SL) (w := s (118 + k)) (m := s (126 + k)) (lo_NM i1 hN) i2 i3 i4 (by omega) hp.1 (by rw [e43]; exact hp.2)
    refine ⟨i1.tr j1, j2, j3, fun m h1 h2 => ?_⟩
    have := j4 m h1 h2
    show p_does (pd s SL k) SL (s (118 + k)) (s (126 + k)) (27 + m) ≤ _
    omega
