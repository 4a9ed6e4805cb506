/-! searches and sums over marks -/
theorem prk_step {s : Int → Int} {n : Int} {k : Nat} (hk : k < 16) : sU (prk s n k) (27 + k) (prk s n k (27 + k) + (if prk s n k (11 + k) = 1 then n else 0)) = prk s n ((k + 1 : Nat) : Int) := by
  funext q
  unfold sU
  by_cases h : q = 27 + (k : Int)
  · subst h
    rw [if_pos rfl]
    unfold prk
    rw [if_neg (show ¬ (27 ≤ 27 + (k : Int) ∧ 27 + (k : Int) < 27 + k) by omega), if_pos (show 27 ≤ 27 + (k : Int) ∧ 27 + (k : Int) < 27 + ((k + 1 : Nat) : Int) by omega), if_neg (show ¬ (27 ≤ 11 + (k : Int) ∧ 11 + (k : Int) < 27 + k) by omega), show 27 + (k : Int) - 16 = 11 + k by omega]
  · rw [if_neg h]
    unfold prk
    by_cases h2 : 27 ≤ q ∧ q < 27 + (k : Int)
    · rw [if_pos h2, if_pos (show 27 ≤ q ∧ q < 27 + ((k + 1 : Nat) : Int) by omega)]
    · rw [if_neg h2, if_neg (by omega)]
theorem prk_0 {s : Int → Int} {n : Int} : prk s n 0 = s := by
  funext q
  unfold prk
  rw [if_neg (by omega)]
theorem prk_43 {s : Int → Int} {n k : Int} (hk : k ≤ 8) : prk s n k 43 = s 43 := if_neg (by omega)
theorem prk_11 {s : Int → Int} {n k m : Int} (hm : m < 8) : prk s n k (11 + m) = s (11 + m) := if_neg (by omega)
theorem capk_step {s : Int → Int} {k : Nat} : sU (capk s k) (27 + k) (clamp (capk s k (27 + k)) 0 9999) = capk s ((k + 1 : Nat) : Int) := by
  funext q
  unfold sU
  by_cases h : q = 27 + (k : Int)
  · subst h
    rw [if_pos rfl]
    unfold capk
    rw [if_neg (show ¬ (27 ≤ 27 + (k : Int) ∧ 27 + (k : Int) < 27 + k) by omega), if_pos (show 27 ≤ 27 + (k : Int) ∧ 27 + (k : Int) < 27 + ((k + 1 : Nat) : Int) by omega)]
  · rw [if_neg h]
    unfold capk
    by_cases h2 : 27 ≤ q ∧ q < 27 + (k : Int)
    · rw [if_pos h2, if_pos (by omega)]
    · rw [if_neg h2, if_neg (by omega)]
theorem capk_0 {s : Int → Int} : capk s 0 = s := by
  funext q
  unfold capk
  rw [if_neg (by omega)]
theorem capk_43 {s : Int → Int} {k : Int} (hk : k ≤ 8) : capk s k 43 = s 43 := if_neg (by omega)
theorem capk_27 {s : Int → Int} {k : Int} : capk s k (27 + k) = s (27 + k) := if_neg (by omega)
/-- all of the first k; the least of them of which it holds (-1: none) -/
def allM (f : Nat → Bool) : Nat → Bool
  | 0 => true
  | k + 1 => allM f k && f k
theorem allM_t {f : Nat → Bool} {k : Nat} (h : allM f k = true) (h2 : f k = true) : (1 : Int) = bi (allM f (k + 1) = true) := by
  rw [bi_pos]
  show (allM f k && f k) = true
  rw [h, h2]; rfl
theorem allM_f {f : Nat → Bool} {k : Nat} (h2 : f k = false) : (0 : Int) = bi (allM f (k + 1) = true) := by
  rw [bi_neg]
  show ¬ (allM f k && f k) = true
  rw [h2, Bool.and_false]; decide
theorem allM_down {f : Nat → Bool} {k n : Nat} (h : k ≤ n) (h2 : allM f n = true) : allM f k = true := by
  induction n with
  | zero => rw [show k = 0 by omega]; rfl
  | succ n ih =>
    rcases Nat.lt_or_ge n k with q | q
    · rw [show k = n + 1 by omega]; exact h2
    · have : (allM f n && f n) = true := h2
      exact ih q (by revert this; cases allM f n <;> simp)
theorem allM_iff {f : Nat → Bool} {n : Nat} : allM f n = true ↔ ∀ k, k < n → f k = true := by
  induction n with
  | zero => exact ⟨fun _ k hk => absurd hk (Nat.not_lt_zero k), fun _ => rfl⟩
  | succ n ih =>
    show (allM f n && f n) = true ↔ _
    rw [Bool.and_eq_true, ih]
    refine ⟨fun h k hk => ?_, fun h => ⟨fun k hk => h k (by omega), h n (by omega)⟩⟩
    rcases Nat.lt_or_ge k n with q | q
    · exact h.1 k q
    · rw [show k = n by omega]; exact h.2
def leastM (f : Nat → Bool) : Nat → Int
  | 0 => -1
  | k + 1 => if 0 ≤ leastM f k then leastM f k else if f k then k else -1
theorem leastM_stay {f : Nat → Bool} {k : Nat} (h : leastM f k = -1) (h2 : f k = false) : leastM f (k + 1) = -1 := by
  unfold leastM
  rw [h, h2]; simp
theorem leastM_up {f : Nat → Bool} {k n : Nat} (h : 0 ≤ leastM f k) (hn : k ≤ n) : leastM f n = leastM f k := by
  induction n with
  | zero => rw [show k = 0 by omega]
  | succ n ih =>
    rcases Nat.lt_or_ge n k with q | q
    · rw [show k = n + 1 by omega]
    · have e := ih q
      show (if 0 ≤ leastM f n then leastM f n else if f n then (n : Int) else -1) = _
      rw [if_pos (by omega), e]
theorem leastM_hit {f : Nat → Bool} {k n : Nat} (h : leastM f k = -1) (h2 : f k = true) (hn : k < n) : leastM f n = k := by
  have e : leastM f (k + 1) = k := by
    show (if 0 ≤ leastM f k then leastM f k else if f k then (k : Int) else -1) = k
    rw [h, h2]; simp
  rw [leastM_up (k := k + 1) (by omega) (by omega), e]
theorem leastM_none {f : Nat → Bool} {n : Nat} : leastM f n = -1 ↔ ∀ k, k < n → f k = false := by
  induction n with
  | zero => exact ⟨fun _ k hk => absurd hk (Nat.not_lt_zero k), fun _ => rfl⟩
  | succ n ih =>
    refine ⟨fun h k hk => ?_, fun h => leastM_stay (ih.mpr (fun k hk => h k (by omega))) (h n (by omega))⟩
    have h1 : leastM f n = -1 := by
      have h0 : leastM f (n + 1) = if 0 ≤ leastM f n then leastM f n else if f n then (n : Int) else -1 := rfl
      rw [h0] at h
      by_cases q : 0 ≤ leastM f n
      · rw [if_pos q] at h; exact h
      · rw [if_neg q] at h
        have hg : ∀ m : Nat, -1 ≤ leastM f m := by
          intro m
          induction m with
          | zero => exact Int.le_refl _
          | succ m ihm => unfold leastM; (repeat' split) <;> omega
        have := hg n; omega
    rcases Nat.lt_or_ge k n with q | q
    · exact ih.mp h1 k q
    · rw [show k = n by omega]
      have h0 : leastM f (n + 1) = if 0 ≤ leastM f n then leastM f n else if f n then (n : Int) else -1 := rfl
      rw [h0, h1] at h
      cases hf : f n
      · rfl
      · rw [hf] at h; simp at h
/-- from the end: the last n below j that is ok (-5: none) -/
def gdown (ok : Nat → Bool) : Nat → Int
  | 0 => -5
  | j + 1 => if ok j then j else gdown ok j
/-- the first of g 1, g 2 .. that isn't below 0 (-5: none) -/
def fstN (g : Nat → Int) : Nat → Int
  | 0 => -5
  | n + 1 => if fstN g n ≠ -5 then fstN g n else if 0 ≤ g (n + 1) then g (n + 1) else -5
theorem fstN_stay {g : Nat → Int} {n : Nat} (h : fstN g n = -5) (h2 : g (n + 1) < 0) : fstN g (n + 1) = -5 := by
  unfold fstN
  rw [if_neg (by omega), if_neg (by omega)]
theorem fstN_up {g : Nat → Int} {k n : Nat} (h : fstN g k ≠ -5) (hn : k ≤ n) : fstN g n = fstN g k := by
  induction n with
  | zero => rw [show k = 0 by omega]
  | succ n ih =>
    rcases Nat.lt_or_ge n k with q | q
    · rw [show k = n + 1 by omega]
    · have e := ih q
      show (if fstN g n ≠ -5 then fstN g n else if 0 ≤ g (n + 1) then g (n + 1) else -5) = _
      rw [if_pos (by rw [e]; exact h), e]
theorem fstN_hit {g : Nat → Int} {k n : Nat} (h : fstN g k = -5) (h2 : 0 ≤ g (k + 1)) (hn : k < n) : fstN g n = g (k + 1) := by
  have e : fstN g (k + 1) = g (k + 1) := by
    show (if fstN g k ≠ -5 then fstN g k else if 0 ≤ g (k + 1) then g (k + 1) else -5) = _
    rw [if_neg (by omega), if_pos h2]
  rw [fstN_up (k := k + 1) (by omega) (by omega), e]
def goodF (s : Int → Int) (set n : Int) : Nat → Bool := fun m => decide (iand (set / 2 ^ (m : Int).toNat) 1 = 0) || prt s n m
theorem goodF_t1 {s : Int → Int} {set n : Int} {k : Nat} (h : iand (set / 2 ^ (k : Int).toNat) 1 = 0) : goodF s set n k = true := by
  unfold goodF; rw [decide_eq_true h]; rfl
theorem goodF_t2 {s : Int → Int} {set n : Int} {k : Nat} (h : 0 < q_dk s k n) : goodF s set n k = true := by
  unfold goodF prt; rw [decide_eq_true h, Bool.or_true]
theorem goodF_f {s : Int → Int} {set n : Int} {k : Nat} (h : ¬ iand (set / 2 ^ (k : Int).toNat) 1 = 0) (h2 : ¬ 0 < q_dk s k n) : goodF s set n k = false := by
  unfold goodF prt; rw [decide_eq_false h, decide_eq_false h2]; rfl
def okF (s : Int → Int) (set : Int) : Nat → Bool := fun n => allM (goodF s set (n : Int)) (s 43).toNat
def q_goodOf (s : Int → Int) (set : Int) : Int := if set = 0 then -5 else gdown (okF s set) 1000
theorem goodOf_0 {s : Int → Int} {x : Int} (h : x = 0) : q_goodOf s x = -5 := if_pos h
theorem goodOf_none {s : Int → Int} {x : Int} {j : Nat} (h : gdown (okF s x) 1000 = gdown (okF s x) j) (hj : j = 0) : q_goodOf s x = -5 := by
  unfold q_goodOf
  by_cases q : x = 0
  · rw [if_pos q]
  · rw [if_neg q, h, hj]; rfl
theorem okF_j {s : Int → Int} {x : Int} {j : Nat} (hj : 1 ≤ j) : okF s x (j - 1) = allM (goodF s x ((j : Int) - 1)) (s 43).toNat := by
  unfold okF
  rw [show ((j - 1 : Nat) : Int) = (j : Int) - 1 by omega]
theorem goodOf_hit {s : Int → Int} {x : Int} {j k : Nat} (hx : ¬ x = 0) (h : gdown (okF s x) 1000 = gdown (okF s x) j) (hj : 1 ≤ j) (hA : allM (goodF s x ((j : Int) - 1)) k = true) (hk : k = (s 43).toNat) : q_goodOf s x = (j : Int) - 1 := by
  unfold q_goodOf
  rw [if_neg hx, h]
  obtain ⟨i, rfl⟩ : ∃ i, j = i + 1 := ⟨j - 1, by omega⟩
  subst hk
  have e := okF_j (s := s) (x := x) hj
  rw [hA] at e
  show (if okF s x i then (i : Int) else gdown (okF s x) i) = _
  rw [show i = i + 1 - 1 by omega, e, if_pos rfl]
  omega
theorem goodOf_back {s : Int → Int} {x : Int} {j k : Nat} (h : gdown (okF s x) 1000 = gdown (okF s x) j) (hj : 1 ≤ j) (hA : ¬ allM (goodF s x ((j : Int) - 1)) k = true) (hk : k ≤ (s 43).toNat) : gdown (okF s x) 1000 = gdown (okF s x) (j - 1) := by
  rw [h]
  obtain ⟨i, rfl⟩ : ∃ i, j = i + 1 := ⟨j - 1, by omega⟩
  have e := okF_j (s := s) (x := x) hj
  have hB : ¬ okF s x (i + 1 - 1) = true := by
    rw [e]
    exact fun q => hA (allM_down hk q)
  show (if okF s x i then (i : Int) else gdown (okF s x) i) = _
  rw [Nat.add_sub_cancel] at hB
  rw [if_neg hB]; rfl
def q_now (s : Int → Int) : Int := bset (prt s 0) (s 43).toNat
theorem gdown_rng (ok : Nat → Bool) : ∀ j : Nat, -5 ≤ gdown ok j ∧ gdown ok j < j
  | 0 => by simp [gdown]
  | j + 1 => by
    have := gdown_rng ok j
    unfold gdown
    split <;> omega
theorem q_goodOf_rng (s : Int → Int) (set : Int) : -5 ≤ q_goodOf s set ∧ q_goodOf s set ≤ 999 := by
  have := gdown_rng (okF s set) 1000
  unfold q_goodOf
  split <;> omega
theorem q_now_rng {s : Int → Int} (h : NM s) : 0 ≤ q_now s ∧ q_now s < 256 := bset_8 _ (by unfold NM at h; omega)
def badF (s : Int → Int) (set n : Int) : Nat → Bool := fun m => decide (iand (set / 2 ^ (m : Int).toNat) 1 = 1) && !prt s n m
theorem badF_t {s : Int → Int} {set n : Int} {k : Nat} (h : iand (set / 2 ^ (k : Int).toNat) 1 = 1) (h2 : ¬ 0 < q_dk s k n) : badF s set n k = true := by
  unfold badF prt; rw [decide_eq_true h, decide_eq_false h2]; rfl
theorem badF_f1 {s : Int → Int} {set n : Int} {k : Nat} (h : ¬ iand (set / 2 ^ (k : Int).toNat) 1 = 1) : badF s set n k = false := by
  unfold badF; rw [decide_eq_false h]; rfl
theorem badF_f2 {s : Int → Int} {set n : Int} {k : Nat} (h : 0 < q_dk s k n) : badF s set n k = false := by
  unfold badF prt; rw [decide_eq_true h]; simp
def q_first (s : Int → Int) : Int := fstN (fun n => leastM (badF s (q_now s) n) (s 43).toNat) 999
def fadF (s : Int → Int) (n : Int) : Nat → Bool := fun m => prt s 0 m && !prt s n m
def q_uncut (s : Int → Int) : Int := cntB (fun m => decide (¬ s (11 + m) = 1)) (s 43).toNat
theorem sh_rng {x : Int} {k : Nat} (h : 0 ≤ x ∧ x < 2147483648) : 0 ≤ x / 2 ^ (k : Int).toNat ∧ x / 2 ^ (k : Int).toNat < 2147483648 := by
  have h1 : x / 2 ^ (k : Int).toNat ≤ x := Int.ediv_le_self _ h.1
  have h2 : (0 : Int) ≤ 2 ^ (k : Int).toNat := Int.le_of_lt (Int.pow_pos (by omega))
  have h3 : 0 ≤ x / 2 ^ (k : Int).toNat := Int.ediv_nonneg h.1 h2
  omega
theorem iand1_rng {x : Int} (h : 0 ≤ x ∧ x < 2147483648) : 0 ≤ iand x 1 ∧ iand x 1 ≤ 1 := by
  rw [iand_1 h]; omega
theorem GM_lo {s t : Int → Int} (h : LoEq s t) (hm : ∀ m, 0 ≤ m → m < s 43 → MK t m) : GM t := fun m h1 h2 => hm m h1 (by rw [← h 43 (by omega)]; exact h2)
def WW (s : Int → Int) : Prop := ∀ m : Int, 0 ≤ m → m < s 43 → s (27 + m) ≤ 9999
theorem GM_print {s : Int → Int} {n : Int} (hN : NM s) (hM : GM s) (hW : WW s) (hn : 0 ≤ n ∧ n ≤ 999) : GM (p_print s n) :=
  GM_lo (p_print_lo hN.2) (fun m h1 h2 => MK_print hN.2 ⟨h1, h2⟩ (hM m h1 h2) (by have := hW m h1 h2; omega))
