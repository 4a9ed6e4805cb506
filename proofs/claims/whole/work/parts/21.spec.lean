/-! WHAT THE ANSWERS ARE: functions of the model's row s -/
theorem ii_natE (n : Nat) : ii (n : Int) = nI n := ii_nat n
theorem nI_or (a b : Nat) : nI a ||| nI b = nI (a ||| b) := by
  apply Int32.toBitVec_inj.1
  show BitVec.ofNat 32 a ||| BitVec.ofNat 32 b = BitVec.ofNat 32 (a ||| b)
  apply BitVec.eq_of_getLsbD_eq
  intro i hi
  simp [hi]
theorem nI_and (a b : Nat) : nI a &&& nI b = nI (a &&& b) := by
  apply Int32.toBitVec_inj.1
  show BitVec.ofNat 32 a &&& BitVec.ofNat 32 b = BitVec.ofNat 32 (a &&& b)
  apply BitVec.eq_of_getLsbD_eq
  intro i hi
  simp [hi]
theorem ior_nat {a b : Nat} (h : a ||| b < 2147483648) : ior (a : Int) (b : Int) = ((a ||| b : Nat) : Int) := by
  unfold ior
  rw [ii_natE, ii_natE, nI_or, nI_toInt h]
theorem iand_nat {a b : Nat} (h : a &&& b < 2147483648) : iand (a : Int) (b : Int) = ((a &&& b : Nat) : Int) := by
  unfold iand
  rw [ii_natE, ii_natE, nI_and, nI_toInt h]
theorem ior_bit {a : Int} {m : Nat} (h : 0 ≤ a ∧ a < 2 ^ m) (hm : m ≤ 29) : ior a (1 * 2 ^ (m : Int).toNat) = a + 2 ^ m := by
  obtain ⟨n, rfl⟩ := Int.eq_ofNat_of_zero_le h.1
  have hn : n < 2 ^ m := by have := h.2; exact_mod_cast this
  have e1 : (1 : Int) * 2 ^ (m : Int).toNat = ((2 ^ m : Nat) : Int) := by
    rw [Int.one_mul, Int.toNat_natCast]
    norm_cast
  have hp : 2 ^ m ≤ 2 ^ 29 := Nat.pow_le_pow_right (by omega) hm
  have e2 : n ||| 2 ^ m = 2 ^ m + n := by
    rw [Nat.or_comm]
    have := Nat.two_pow_add_eq_or_of_lt hn 1
    rw [Nat.mul_one] at this
    exact this.symm
  rw [e1, ior_nat (by rw [e2]; omega), e2]
  have e3 : ((2 ^ m : Nat) : Int) = (2 : Int) ^ m := by norm_cast
  omega
theorem ior_0 {a : Int} (h : 0 ≤ a ∧ a < 2147483648) : ior a 0 = a := by
  obtain ⟨n, rfl⟩ := Int.eq_ofNat_of_zero_le h.1
  have := ior_nat (a := n) (b := 0) (by rw [Nat.or_zero]; omega)
  rw [Nat.or_zero] at this
  exact this
theorem iand_1 {a : Int} (h : 0 ≤ a ∧ a < 2147483648) : iand a 1 = a % 2 := by
  obtain ⟨n, rfl⟩ := Int.eq_ofNat_of_zero_le h.1
  have := iand_nat (a := n) (b := 1) (by rw [Nat.and_one_is_mod]; omega)
  rw [Nat.and_one_is_mod] at this
  rw [show ((1 : Int)) = ((1 : Nat) : Int) from rfl, this]
  norm_cast
def clamp (v low high : Int) : Int := if v < low then low else if high < v then high else v
/-- marks of which something holds, as bits; how many -/
def bset (f : Nat → Bool) : Nat → Int
  | 0 => 0
  | k + 1 => bset f k + (if f k then 2 ^ k else 0)
def cntB (f : Nat → Bool) : Nat → Int
  | 0 => 0
  | k + 1 => cntB f k + (if f k then 1 else 0)
theorem bset_rng (f : Nat → Bool) : ∀ n : Nat, 0 ≤ bset f n ∧ bset f n < 2 ^ n
  | 0 => by simp [bset]
  | n + 1 => by
    have h := bset_rng f n
    have hp : (2 : Int) ^ (n + 1) = 2 ^ n + 2 ^ n := by rw [Int.pow_succ]; omega
    have h0 : (0 : Int) < 2 ^ n := Int.pow_pos (by omega)
    unfold bset
    split <;> omega
theorem bset_8 (f : Nat → Bool) {n : Nat} (hn : n ≤ 8) : 0 ≤ bset f n ∧ bset f n < 256 := by
  have h := bset_rng f n
  have hp : (2 : Int) ^ n ≤ 2 ^ 8 := by
    have : 2 ^ n ≤ 2 ^ 8 := Nat.pow_le_pow_right (by omega) hn
    exact_mod_cast this
  omega
theorem bset_step {f : Nat → Bool} {k : Nat} (h : f k = true) (hk : k ≤ 29) : ior (bset f k) (1 * 2 ^ (k : Int).toNat) = bset f (k + 1) := by
  rw [ior_bit (bset_rng f k) hk]
  show _ = bset f k + (if f k then 2 ^ k else 0)
  rw [if_pos h]
theorem bset_stay {f : Nat → Bool} {k : Nat} (h : f k = false) (hk : k ≤ 8) : ior (bset f k) 0 = bset f (k + 1) := by
  have := bset_8 f hk
  rw [ior_0 (by omega)]
  show bset f k = bset f k + (if f k then 2 ^ k else 0)
  rw [h]
  simp
theorem cntB_rng (f : Nat → Bool) : ∀ n : Nat, 0 ≤ cntB f n ∧ cntB f n ≤ n
  | 0 => by simp [cntB]
  | n + 1 => by
    have h := cntB_rng f n
    unfold cntB
    split <;> omega
/-- the hand, the clauses -/
def q_wear (s : Int → Int) : Int := if (if s 49 = -1 then 20 else s (258 + s 49)) < 1 then 1 else (if s 49 = -1 then 20 else s (258 + s 49))
def q_mend (s : Int → Int) : Int := if s 49 = -1 then 8 else s (263 + s 49)
def needsF (kind depth v : Int) : Int := if kind = 1 then 2 * depth else if kind = 2 then 3 * depth + v else if kind = 3 then 3 * depth + 4 else if kind = 4 then 2 * depth * (v + 1) else if kind = 5 then 3 * depth + v else if kind = 6 then 3 * depth + 4 else 3 * depth
def q_needs (s : Int → Int) (m : Int) : Int := needsF (s (50 + m)) (s (3 + m)) (s (58 + m))
def darkF (kind depth flaw less row : Int) : Int :=
  let a := (if kind = 2 then 2 * depth else if kind = 5 then 2 * depth else depth) - less
  let b := a + (if kind = 1 then 1 else if kind = 4 then 1 else 0)
  let c := if kind = 4 then b.tdiv 2 - 1 else b
  let d := c + (if kind = 5 then (if flaw = 1 then 2 else 0) else 0)
  let e := d + (if kind = 6 then row else 0)
  let f := e - (if flaw = 3 then 2 else 0)
  if f < 0 then 0 else f
def q_dark (s : Int → Int) (m w : Int) : Int := if s (11 + m) = 1 then darkF (s (50 + m)) (s (3 + m)) (s (19 + m)) (w / q_wear s + s (35 + m)) (s (74 + 4 * m + w % 4)) else 0
def q_dk (s : Int → Int) (m n : Int) : Int := q_dark s m (s (27 + m) + n)
def prt (s : Int → Int) (n : Int) : Nat → Bool := fun m => decide (0 < q_dk s m n)
theorem tdiv2_b {x : Int} (h : -150000 ≤ x ∧ x ≤ 150000) : -150000 ≤ x.tdiv 2 ∧ x.tdiv 2 ≤ 150000 := by
  have h1 := tdiv_rng (x := x) (y := 2) (by omega)
  rcases Int.le_total 0 x with q | q
  · have := h1.1 q; omega
  · have := h1.2 q; omega
theorem ite_tdiv_b {c : Prop} [Decidable c] {x : Int} (h : -150000 ≤ x ∧ x ≤ 150000) : -200000 ≤ (if c then x.tdiv 2 - 1 else x) ∧ (if c then x.tdiv 2 - 1 else x) ≤ 200000 := by
  have := tdiv2_b h
  split <;> omega
/-- a mark's numbers; all marks'; the others -/
def MK (s : Int → Int) (m : Int) : Prop := (0 ≤ s (50 + m) ∧ s (50 + m) ≤ 6) ∧ (0 ≤ s (58 + m) ∧ s (58 + m) ≤ 9) ∧ (0 ≤ s (66 + m) ∧ s (66 + m) ≤ 99) ∧ (1 ≤ s (3 + m) ∧ s (3 + m) ≤ 9) ∧ (0 ≤ s (11 + m) ∧ s (11 + m) ≤ 1) ∧ (0 ≤ s (19 + m) ∧ s (19 + m) ≤ 3) ∧ (0 ≤ s (27 + m) ∧ s (27 + m) ≤ 20000) ∧ (0 ≤ s (35 + m) ∧ s (35 + m) ≤ 9) ∧ (∀ q : Int, 0 ≤ q → q < 4 → 0 ≤ s (74 + 4 * m + q) ∧ s (74 + 4 * m + q) ≤ 9)
def GM (s : Int → Int) : Prop := ∀ m : Int, 0 ≤ m → m < s 43 → MK s m
/-- what is told of plates: wear, mending of each; which one holds -/
def PL (s : Int → Int) : Prop := (-1 ≤ s 49 ∧ s 49 ≤ 4) ∧ ∀ p : Int, 0 ≤ p → p < 5 → (0 ≤ s (258 + p) ∧ s (258 + p) ≤ 99) ∧ (0 ≤ s (263 + p) ∧ s (263 + p) ≤ 99)
def NM (s : Int → Int) : Prop := 0 ≤ s 43 ∧ s 43 ≤ 8
theorem q_wear_rng {s : Int → Int} (h : PL s) : 1 ≤ q_wear s ∧ q_wear s ≤ 99 := by
  obtain ⟨h1, h2⟩ := h
  unfold q_wear
  by_cases h9 : s 49 = -1
  · simp [h9]
  · have := (h2 (s 49) (by omega) (by omega)).1
    simp only [if_neg h9]
    split <;> omega
theorem q_mend_rng {s : Int → Int} (h : PL s) : 0 ≤ q_mend s ∧ q_mend s ≤ 99 := by
  obtain ⟨h1, h2⟩ := h
  unfold q_mend
  by_cases h9 : s 49 = -1
  · simp [h9]
  · have := (h2 (s 49) (by omega) (by omega)).2
    simp only [if_neg h9]
    omega
theorem needsF_rng {k d v : Int} (hd : 1 ≤ d ∧ d ≤ 9) (hv : 0 ≤ v ∧ v ≤ 9) : 0 ≤ needsF k d v ∧ needsF k d v ≤ 180 := by
  have h1 : 2 * d * (v + 1) ≤ 2 * 9 * (9 + 1) := Int.mul_le_mul (by omega) (by omega) (by omega) (by omega)
  have h2 : 0 ≤ 2 * d * (v + 1) := Int.mul_nonneg (by omega) (by omega)
  unfold needsF
  repeat' split
  all_goals omega
theorem q_needs_rng {s : Int → Int} {m : Int} (h : MK s m) : 0 ≤ q_needs s m ∧ q_needs s m ≤ 180 := needsF_rng h.2.2.2.1 h.2.1
theorem darkF_rng {k d f l r : Int} (hd : 0 ≤ d ∧ d ≤ 9) (hl : 0 ≤ l) (hr : 0 ≤ r ∧ r ≤ 9) : 0 ≤ darkF k d f l r ∧ darkF k d f l r ≤ 30 := by
  have h1 := tdiv_rng (x := d - l + 1) (y := 2) (by omega)
  have h2 := tdiv_rng (x := 2 * d - l + 1) (y := 2) (by omega)
  have h3 := tdiv_rng (x := d - l + 0) (y := 2) (by omega)
  unfold darkF
  dsimp only
  by_cases k1 : k = 1
  · subst k1; simp; repeat' split
    all_goals omega
  · by_cases k2 : k = 2
    · subst k2; simp; repeat' split
      all_goals omega
    · by_cases k4 : k = 4
      · subst k4; simp
        rcases Int.le_total 0 (d - l + 1) with q | q
        · have := h1.1 q; repeat' split
          all_goals omega
        · have := h1.2 q; repeat' split
          all_goals omega
      · by_cases k5 : k = 5
        · subst k5; simp; repeat' split
          all_goals omega
        · by_cases k6 : k = 6
          · subst k6; simp; repeat' split
            all_goals omega
          · simp only [if_neg k1, if_neg k2, if_neg k4, if_neg k5, if_neg k6]; repeat' split
            all_goals omega
theorem q_dark_rng {s : Int → Int} {m w : Int} (h : MK s m) (hp : PL s) (hw : 0 ≤ w) : 0 ≤ q_dark s m w ∧ q_dark s m w ≤ 30 := by
  unfold q_dark
  split
  · have h1 := q_wear_rng hp
    have h2 : 0 ≤ w / q_wear s := Int.ediv_nonneg hw (by omega)
    exact darkF_rng ⟨by have := h.2.2.2.1; omega, h.2.2.2.1.2⟩ (by have := h.2.2.2.2.2.2.2.1; omega) (h.2.2.2.2.2.2.2.2 (w % 4) (Int.emod_nonneg _ (by omega)) (Int.emod_lt_of_pos _ (by omega)))
  · omega
theorem q_dk_rng {s : Int → Int} {m n : Int} (h : MK s m) (hp : PL s) (hn : 0 ≤ n) : 0 ≤ q_dk s m n ∧ q_dk s m n ≤ 30 := q_dark_rng h hp (by have := h.2.2.2.2.2.2.1; omega)
/-- what the steps of a plate say of a mark: a stack of truths, a sum -/
def testOp (by' : Int → Int) (op : Int) : Bool := if op / 8 % 4 = 0 then decide (by' (op % 8) < op / 32) else if op / 8 % 4 = 1 then decide (by' (op % 8) = op / 32) else decide (op / 32 < by' (op % 8))
def evalOp (by' : Int → Int) (op : Int) (st : List Bool) : List Bool :=
  if 0 ≤ op then testOp by' op :: st else if op = -1 then (match st with | b :: r => (!b) :: r | [] => []) else if op = -2 then (match st with | b :: c :: r => (c && b) :: r | r => r) else (match st with | b :: c :: r => (c || b) :: r | r => r)
def evalS (by' : Int → Int) : List Int → List Bool → Int → Int
  | [], _, sum => sum
  | op :: r, st, sum => if -10 < op then evalS by' r (evalOp by' op st) sum else evalS by' r [] (if st.headD false then (if -200 < op then sum + (-10 - op) else sum - (-200 - op)) else sum)
def wfS : List Int → Nat → Prop
  | [], _ => True
  | op :: r, d => if 0 ≤ op then op % 8 < 6 ∧ op / 8 % 4 < 3 ∧ op < 4000 ∧ d < 20 ∧ wfS r (d + 1) else if op = -1 then 1 ≤ d ∧ wfS r d else if -10 < op then (op = -2 ∨ op = -3) ∧ 2 ≤ d ∧ wfS r (d - 1) else d = 1 ∧ -299 ≤ op ∧ (op ≤ -200 ∨ -109 ≤ op) ∧ wfS r 0
/-- SL is what the plate that holds tells -/
def HE (s : Int → Int) (SL : List Int) : Prop := wfS SL 0 ∧ SL.length ≤ 140 ∧ ((s 49 = -1 ∧ SL = []) ∨ (0 ≤ s 49 ∧ s 49 ≤ 4 ∧ s (268 + s 49) = SL.length ∧ ∀ j : Nat, j < SL.length → s (273 + 140 * s 49 + j) = SL.getD j 0))
def byF (s : Int → Int) (m t : Int) : Int → Int := fun k => if k = 0 then m else if k = 1 then s (50 + m) else if k = 2 then s (3 + m) else if k = 3 then s (66 + m) / 10 else if k = 4 then t / 10 else s (58 + m)
def q_look (s : Int → Int) (SL : List Int) (m t : Int) : Int := evalS (byF s m t) SL [] 0
def q_risk (s : Int → Int) (SL : List Int) (m t : Int) : Int := clamp (q_look s SL m t + t / 5) 0 99
theorem clamp_rng (v : Int) {low high : Int} (h : low ≤ high) : low ≤ clamp v low high ∧ clamp v low high ≤ high := by
  unfold clamp
  repeat' split
  all_goals omega
theorem q_risk_rng (s : Int → Int) (SL : List Int) (m t : Int) : 0 ≤ q_risk s SL m t ∧ q_risk s SL m t ≤ 99 := clamp_rng _ (by omega)
theorem evalS_rng (by' : Int → Int) : ∀ (SL : List Int) (d : Nat) (st : List Bool) (sum : Int), wfS SL d → sum - 300 * SL.length ≤ evalS by' SL st sum ∧ evalS by' SL st sum ≤ sum + 300 * SL.length
  | [], d, st, sum, _ => by simp [evalS]
  | op :: r, d, st, sum, h => by
    unfold evalS
    rw [List.length_cons]
    unfold wfS at h
    by_cases h1 : -10 < op
    · rw [if_pos h1]
      have : ∃ d2, wfS r d2 := by
        by_cases h2 : 0 ≤ op
        · rw [if_pos h2] at h; exact ⟨_, h.2.2.2.2⟩
        · rw [if_neg h2] at h
          by_cases h3 : op = -1
          · rw [if_pos h3] at h; exact ⟨_, h.2⟩
          · rw [if_neg h3, if_pos h1] at h; exact ⟨_, h.2.2⟩
      obtain ⟨d2, h2⟩ := this
      have := evalS_rng by' r d2 (evalOp by' op st) sum h2
      omega
    · rw [if_neg h1]
      rw [if_neg (by omega), if_neg (by omega), if_neg h1] at h
      have h2 := fun z => evalS_rng by' r 0 [] z h.2.2.2
      repeat' split
      · have := h2 (sum + (-10 - op)); omega
      · have := h2 (sum - (-200 - op)); omega
      · have := h2 sum; omega
theorem q_look_rng {s : Int → Int} {SL : List Int} (m t : Int) (h : HE s SL) : -42000 ≤ q_look s SL m t ∧ q_look s SL m t ≤ 42000 := by
  have h1 := evalS_rng (byF s m t) SL 0 [] 0 h.1
  have h2 := h.2.1
  unfold q_look
  omega
