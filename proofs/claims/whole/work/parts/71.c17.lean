/-! THE CLASS: the order of cutting, by sets -/
def ts (s u : Int → Int) (y : Nat) : Nat → Int
  | 0 => s 2
  | i + 1 => if y.testBit i = true then clamp (ts s u y i + q_needs s (u i) / 2) 0 99 else ts s u y i
def oR (s u : Int → Int) (SL : List Int) (M : Nat) : Nat → Nat → Int → Int × List Int
  | 0, _, _ => (0, [])
  | r + 1, y, t => bfold (fun i => !y.testBit i) (fun i => q_risk s SL (u i) t + (oR s u SL M r (y ||| 2 ^ i) (clamp (t + q_needs s (u i) / 2) 0 99)).1) (fun i => (oR s u SL M r (y ||| 2 ^ i) (clamp (t + q_needs s (u i) / 2) 0 99)).2) M
def rem (y : Nat) : Nat → Nat
  | 0 => 0
  | i + 1 => rem y i + (if y.testBit i = true then 0 else 1)
def oO (s u : Int → Int) (SL : List Int) (M y : Nat) : Int × List Int := oR s u SL M (rem y M) y (ts s u y M)
def rk (s : Int → Int) (j : Nat) : Nat := (cntB (uncF s) j).toNat
theorem rk_c {s : Int → Int} {j : Nat} (h : s (11 + (j : Int)) = 1) : rk s (j + 1) = rk s j := by
  have h1 := cnt_f (uncF_f h)
  unfold rk
  rw [← h1, Int.add_zero]
theorem rk_u {s : Int → Int} {j : Nat} (h : ¬ s (11 + (j : Int)) = 1) : rk s (j + 1) = rk s j + 1 := by
  have h1 := cnt_t (uncF_t h)
  have h2 := cntB_rng (uncF s) j
  unfold rk
  omega
theorem rk_lt {s : Int → Int} {j k : Nat} (h : ¬ s (11 + (j : Int)) = 1) (hk : j < k) : rk s j < rk s k := by
  have h1 := cnt_t (uncF_t h)
  have h2 := cntB_rng (uncF s) j
  have h3 := cntB_mono (uncF s) (k := j + 1) (k - (j + 1))
  rw [show j + 1 + (k - (j + 1)) = k by omega] at h3
  unfold rk
  omega
theorem rk_inj {s : Int → Int} {j k : Nat} (h : ¬ s (11 + (j : Int)) = 1) (h2 : ¬ s (11 + (k : Int)) = 1) (e : rk s j = rk s k) : j = k := by
  rcases Nat.lt_trichotomy j k with q | q | q
  · have := rk_lt h q; omega
  · exact q
  · have := rk_lt h2 q; omega
theorem bf_map {s u : Int → Int} {cand : Nat → Bool} {val : Nat → Int} {lst : Nat → List Int} {candR : Nat → Bool} {valR : Nat → Int} {lstR : Nat → List Int} {n : Nat} (hc : ∀ j : Nat, j < n → s (11 + (j : Int)) = 1 → cand j = false) (h : ∀ j : Nat, j < n → ¬ s (11 + (j : Int)) = 1 → cand j = candR (rk s j) ∧ val j = valR (rk s j) ∧ lst j = (lstR (rk s j)).map u ∧ u (rk s j) = j) : ∀ k : Nat, k ≤ n → (bfold cand val lst k).1 = (bfold candR valR lstR (rk s k)).1 ∧ (bfold cand val lst k).2 = (bfold candR valR lstR (rk s k)).2.map u
  | 0, _ => ⟨rfl, rfl⟩
  | k + 1, hk => by
    obtain ⟨i1, i2⟩ := bf_map hc h k (by omega)
    by_cases hcu : s (11 + (k : Int)) = 1
    · rw [rk_c hcu, bfold_skip (hc k (by omega) hcu)]
      exact ⟨i1, i2⟩
    · obtain ⟨h1, h2, h3, h4⟩ := h k (by omega) hcu
      rw [rk_u hcu]
      have e1 : bfold cand val lst (k + 1) = if cand k && decide (val k < (bfold cand val lst k).1) then (val k, (k : Int) :: lst k) else bfold cand val lst k := rfl
      have e2 : bfold candR valR lstR (rk s k + 1) = if candR (rk s k) && decide (valR (rk s k) < (bfold candR valR lstR (rk s k)).1) then (valR (rk s k), (rk s k : Int) :: lstR (rk s k)) else bfold candR valR lstR (rk s k) := rfl
      rw [e1, e2, h1, h2, i1]
      split
      · refine ⟨rfl, ?_⟩
        show (k : Int) :: lst k = u (rk s k) :: (lstR (rk s k)).map u
        rw [h4, h3]
      · exact ⟨i1, i2⟩
theorem opt_oR {s u : Int → Int} {SL : List Int} {n : Nat} (hn : n = (s 43).toNat) (hu : UC s n u) : ∀ (r d0 y : Nat) (t : Int), (∀ j : Nat, j < n → ¬ s (11 + (j : Int)) = 1 → d0.testBit j = y.testBit (rk s j)) → (opt s SL r d0 t).1 = (oR s u SL (rk s n) r y t).1 ∧ (opt s SL r d0 t).2 = (oR s u SL (rk s n) r y t).2.map u
  | 0, _, _, _, _ => ⟨rfl, rfl⟩
  | r + 1, d0, y, t, hR => by
    have huj : ∀ j : Nat, j < n → ¬ s (11 + (j : Int)) = 1 → u (rk s j) = j := fun j hj hc => by
      have h1 := hu j hj hc
      have h2 := cntB_rng (uncF s) j
      rw [show ((rk s j : Nat) : Int) = cntB (uncF s) j from Int.toNat_of_nonneg h2.1]
      exact h1
    rw [opt_s, ← hn]
    refine bf_map (fun j hj hc => ?_) (fun j hj hc => ?_) n (Nat.le_refl _)
    · unfold candF; rw [decide_eq_true hc]; rfl
    · have ih := opt_oR (SL := SL) hn hu r (d0 ||| 2 ^ j) (y ||| 2 ^ rk s j) (clamp (t + q_needs s j / 2) 0 99) (fun k hk hck => by
        rw [Nat.testBit_or, Nat.testBit_or, Nat.testBit_two_pow, Nat.testBit_two_pow, hR k hk hck]
        by_cases e : j = k
        · subst e; rw [decide_eq_true (show j = j from rfl), decide_eq_true (show rk s j = rk s j from rfl)]
        · rw [decide_eq_false e, decide_eq_false (fun q => e (rk_inj hc hck q))])
      have e := huj j hj hc
      refine ⟨?_, ?_, ?_, e⟩
      · unfold candF; rw [decide_eq_false hc, hR j hj hc]; rfl
      · show q_risk s SL j t + (opt s SL r (d0 ||| 2 ^ j) (clamp (t + q_needs s j / 2) 0 99)).1 = q_risk s SL (u (rk s j)) t + (oR s u SL (rk s n) r (y ||| 2 ^ rk s j) (clamp (t + q_needs s (u (rk s j)) / 2) 0 99)).1
        rw [e, ih.1]
      · show (opt s SL r (d0 ||| 2 ^ j) (clamp (t + q_needs s j / 2) 0 99)).2 = ((oR s u SL (rk s n) r (y ||| 2 ^ rk s j) (clamp (t + q_needs s (u (rk s j)) / 2) 0 99)).2).map u
        rw [e, ih.2]
theorem bit_or {y i k : Nat} : (y ||| 2 ^ i).testBit k = (y.testBit k || decide (i = k)) := by rw [Nat.testBit_or, Nat.testBit_two_pow]
theorem ts_rng {s u : Int → Int} {y : Nat} (hT : 0 ≤ s 2 ∧ s 2 ≤ 99) : ∀ i : Nat, 0 ≤ ts s u y i ∧ ts s u y i ≤ 99
  | 0 => hT
  | i + 1 => by
    show 0 ≤ (if y.testBit i = true then clamp (ts s u y i + q_needs s (u i) / 2) 0 99 else ts s u y i) ∧ (if y.testBit i = true then clamp (ts s u y i + q_needs s (u i) / 2) 0 99 else ts s u y i) ≤ 99
    have h := ts_rng (u := u) (y := y) hT i
    split
    · exact clamp_rng _ (by omega)
    · exact h
theorem ts_lo {s u : Int → Int} {y i : Nat} : ∀ k : Nat, k ≤ i → ts s u (y ||| 2 ^ i) k = ts s u y k
  | 0, _ => rfl
  | k + 1, hk => by
    have h := ts_lo (s := s) (u := u) (y := y) (i := i) k (by omega)
    show (if (y ||| 2 ^ i).testBit k = true then clamp (ts s u (y ||| 2 ^ i) k + q_needs s (u k) / 2) 0 99 else ts s u (y ||| 2 ^ i) k) = (if y.testBit k = true then clamp (ts s u y k + q_needs s (u k) / 2) 0 99 else ts s u y k)
    rw [h, bit_or, decide_eq_false (show ¬ i = k by omega), Bool.or_false]
theorem clamp2 {x a b : Int} (hx : 0 ≤ x) (ha : 0 ≤ a) (hb : 0 ≤ b) : clamp (clamp (x + a) 0 99 + b) 0 99 = clamp (clamp (x + b) 0 99 + a) 0 99 := by
  unfold clamp
  (repeat' split) <;> omega
theorem ts_hi {s u : Int → Int} {y i M : Nat} (hT : 0 ≤ s 2 ∧ s 2 ≤ 99) (hq : ∀ k : Nat, k < M → 0 ≤ q_needs s (u k) / 2) (hi : y.testBit i = false) : ∀ d : Nat, i + 1 + d ≤ M → ts s u (y ||| 2 ^ i) (i + 1 + d) = clamp (ts s u y (i + 1 + d) + q_needs s (u i) / 2) 0 99
  | 0, hM => by
    have e1 : ts s u (y ||| 2 ^ i) (i + 1) = if (y ||| 2 ^ i).testBit i = true then clamp (ts s u (y ||| 2 ^ i) i + q_needs s (u i) / 2) 0 99 else ts s u (y ||| 2 ^ i) i := rfl
    have e2 : ts s u y (i + 1) = if y.testBit i = true then clamp (ts s u y i + q_needs s (u i) / 2) 0 99 else ts s u y i := rfl
    rw [Nat.add_zero, e1, e2, bit_or, decide_eq_true rfl, Bool.or_true, if_pos rfl, ts_lo i (Nat.le_refl _), if_neg (by rw [hi]; exact Bool.false_ne_true)]
  | d + 1, hM => by
    have h := ts_hi hT hq hi d (by omega)
    have e1 : ts s u (y ||| 2 ^ i) (i + 1 + d + 1) = if (y ||| 2 ^ i).testBit (i + 1 + d) = true then clamp (ts s u (y ||| 2 ^ i) (i + 1 + d) + q_needs s (u ((i + 1 + d : Nat) : Int)) / 2) 0 99 else ts s u (y ||| 2 ^ i) (i + 1 + d) := rfl
    have e2 : ts s u y (i + 1 + d + 1) = if y.testBit (i + 1 + d) = true then clamp (ts s u y (i + 1 + d) + q_needs s (u ((i + 1 + d : Nat) : Int)) / 2) 0 99 else ts s u y (i + 1 + d) := rfl
    have hr := ts_rng (u := u) (y := y) hT (i + 1 + d)
    rw [show i + 1 + (d + 1) = i + 1 + d + 1 by omega, e1, e2, bit_or, decide_eq_false (show ¬ i = i + 1 + d by omega), Bool.or_false, h]
    split
    · exact clamp2 hr.1 (hq i (by omega)) (hq (i + 1 + d) (by omega))
    · rfl
theorem ts_or {s u : Int → Int} {y i M : Nat} (hT : 0 ≤ s 2 ∧ s 2 ≤ 99) (hq : ∀ k : Nat, k < M → 0 ≤ q_needs s (u k) / 2) (hi : y.testBit i = false) (hM : i < M) : ts s u (y ||| 2 ^ i) M = clamp (ts s u y M + q_needs s (u i) / 2) 0 99 := by
  have h := ts_hi hT hq hi (M - (i + 1)) (by omega)
  rw [show i + 1 + (M - (i + 1)) = M by omega] at h
  exact h
theorem rem_or {y i : Nat} (hi : y.testBit i = false) : ∀ M : Nat, rem (y ||| 2 ^ i) M + (if i < M then 1 else 0) = rem y M
  | 0 => rfl
  | M + 1 => by
    have h := rem_or hi M
    show rem (y ||| 2 ^ i) M + (if (y ||| 2 ^ i).testBit M = true then 0 else 1) + _ = rem y M + (if y.testBit M = true then 0 else 1)
    rw [bit_or]
    by_cases e : i = M
    · subst e
      rw [decide_eq_true rfl, Bool.or_true, if_pos rfl, hi, if_pos (show i < i + 1 by omega)]
      rw [if_neg (Nat.lt_irrefl i)] at h
      rw [if_neg Bool.false_ne_true]
      omega
    · rw [decide_eq_false e, Bool.or_false]
      by_cases e2 : i < M
      · rw [if_pos e2] at h; rw [if_pos (show i < M + 1 by omega)]; omega
      · rw [if_neg e2] at h; rw [if_neg (show ¬ i < M + 1 by omega)]; omega
theorem rem_0 : ∀ M : Nat, rem 0 M = M
  | 0 => rfl
  | M + 1 => by
    show rem 0 M + (if (0 : Nat).testBit M = true then 0 else 1) = M + 1
    rw [rem_0 M, Nat.zero_testBit, if_neg Bool.false_ne_true]
theorem ts_0 {s u : Int → Int} : ∀ M : Nat, ts s u 0 M = s 2
  | 0 => rfl
  | M + 1 => by
    show (if (0 : Nat).testBit M = true then _ else ts s u 0 M) = s 2
    rw [Nat.zero_testBit, if_neg Bool.false_ne_true, ts_0 M]
theorem rem_none {y : Nat} : ∀ M : Nat, rem y M = 0 → ∀ i, i < M → y.testBit i = true
  | 0, _, i, hi => by omega
  | M + 1, h, i, hi => by
    have e : rem y (M + 1) = rem y M + (if y.testBit M = true then 0 else 1) := rfl
    rw [e] at h
    have hb : y.testBit M = true := by
      by_cases q : y.testBit M = true
      · exact q
      · rw [if_neg q] at h; omega
    by_cases q : i = M
    · subst q; exact hb
    · exact rem_none M (by omega) i (by omega)
theorem rem_all : ∀ M N : Nat, M ≤ N → rem (2 ^ N - 1) M = 0
  | 0, _, _ => rfl
  | M + 1, N, h => by
    show rem (2 ^ N - 1) M + (if (2 ^ N - 1).testBit M = true then 0 else 1) = 0
    rw [rem_all M N (by omega), Nat.testBit_two_pow_sub_one, decide_eq_true (show M < N by omega), if_pos rfl]
theorem rem_pos {y M : Nat} (h : y < 2 ^ M - 1) : rem y M ≠ 0 := fun e => by
  have h1 := rem_none M e
  have h2 : y = 2 ^ M - 1 := by
    apply Nat.eq_of_testBit_eq
    intro i
    rw [Nat.testBit_two_pow_sub_one]
    by_cases q : i < M
    · rw [h1 i q, decide_eq_true q]
    · rw [decide_eq_false q]
      exact Nat.testBit_lt_two_pow (Nat.lt_of_lt_of_le (show y < 2 ^ M by omega) (Nat.pow_le_pow_right (by omega) (by omega)))
  omega
/-- a set's optimum by those of the sets that are one larger -/
def vO (s u : Int → Int) (SL : List Int) (M y : Nat) : Nat → Int := fun i => q_risk s SL (u i) (ts s u y M) + (oO s u SL M (y ||| 2 ^ i)).1
def lO (s u : Int → Int) (SL : List Int) (M y : Nat) : Nat → List Int := fun i => (oO s u SL M (y ||| 2 ^ i)).2
theorem bf_cg {cand : Nat → Bool} {val val' : Nat → Int} {lst lst' : Nat → List Int} : ∀ {k : Nat}, (∀ i, i < k → cand i = true → val i = val' i ∧ lst i = lst' i) → bfold cand val lst k = bfold cand val' lst' k
  | 0, _ => rfl
  | k + 1, h => by
    have ih := bf_cg (cand := cand) (val := val) (val' := val') (lst := lst) (lst' := lst') (k := k) (fun i hi => h i (by omega))
    have e1 : bfold cand val lst (k + 1) = if cand k && decide (val k < (bfold cand val lst k).1) then (val k, (k : Int) :: lst k) else bfold cand val lst k := rfl
    have e2 : bfold cand val' lst' (k + 1) = if cand k && decide (val' k < (bfold cand val' lst' k).1) then (val' k, (k : Int) :: lst' k) else bfold cand val' lst' k := rfl
    rw [e1, e2, ih]
    cases hc : cand k
    · rfl
    · obtain ⟨h1, h2⟩ := h k (by omega) hc
      rw [h1, h2]
theorem oO_step {s u : Int → Int} {SL : List Int} {M y : Nat} (hT : 0 ≤ s 2 ∧ s 2 ≤ 99) (hq : ∀ k : Nat, k < M → 0 ≤ q_needs s (u k) / 2) (hy : y < 2 ^ M - 1) : oO s u SL M y = bfold (fun i => !y.testBit i) (vO s u SL M y) (lO s u SL M y) M := by
  have hr := rem_pos hy
  obtain ⟨r, er⟩ : ∃ r, rem y M = r + 1 := ⟨rem y M - 1, by omega⟩
  unfold oO
  rw [er]
  refine bf_cg (fun i hi hc => ?_)
  have hb : y.testBit i = false := by cases q : y.testBit i; rfl; rw [q] at hc; exact Bool.noConfusion hc
  have e1 := rem_or hb M
  rw [if_pos hi] at e1
  unfold vO lO oO
  rw [show rem (y ||| 2 ^ i) M = r by omega, ts_or hT hq hb hi]
  exact ⟨rfl, rfl⟩
theorem oO_all {s u : Int → Int} {SL : List Int} {M : Nat} : oO s u SL M (2 ^ M - 1) = (0, []) := by
  unfold oO
  rw [rem_all M M (Nat.le_refl _)]
  rfl
theorem oO_0 {s u : Int → Int} {SL : List Int} (hu : UC s (s 43).toNat u) : (q_opt s SL).1 = (oO s u SL (q_uncut s).toNat 0).1 ∧ (q_opt s SL).2 = (oO s u SL (q_uncut s).toNat 0).2.map u := by
  have h := opt_oR (SL := SL) rfl hu (q_uncut s).toNat 0 0 (s 2) (fun j _ _ => by rw [Nat.zero_testBit, Nat.zero_testBit])
  unfold oO
  rw [rem_0, ts_0]
  exact h
theorem UC_ex {s u : Int → Int} {n : Nat} (hu : UC s n u) : ∀ k : Nat, k ≤ n → ∀ i : Nat, (i : Int) < cntB (uncF s) k → ∃ j : Nat, j < n ∧ ¬ s (11 + (j : Int)) = 1 ∧ u i = j
  | 0, _, i, hi => by
    have e : cntB (uncF s) 0 = 0 := rfl
    omega
  | k + 1, hk, i, hi => by
    by_cases hc : s (11 + (k : Int)) = 1
    · have h1 := cnt_f (uncF_f hc)
      exact UC_ex hu k (by omega) i (by omega)
    · have h1 := cnt_t (uncF_t hc)
      by_cases e : (i : Int) = cntB (uncF s) k
      · exact ⟨k, by omega, hc, by rw [e]; exact hu k (by omega) hc⟩
      · exact UC_ex hu k (by omega) i (by omega)
