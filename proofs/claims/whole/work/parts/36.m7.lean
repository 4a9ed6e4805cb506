/-! THE MODEL: seventh walks -/
/-- the least and where it is first: of those below k that may be; their lists -/
def bfold (cand : Nat → Bool) (val : Nat → Int) (lst : Nat → List Int) : Nat → Int × List Int
  | 0 => (1000000000, [])
  | k + 1 => if cand k && decide (val k < (bfold cand val lst k).1) then (val k, (k : Int) :: lst k) else bfold cand val lst k
def candF (s : Int → Int) (d0 : Nat) : Nat → Bool := fun m => !decide (s (11 + m) = 1) && !d0.testBit m
def opt (s : Int → Int) (SL : List Int) : Nat → Nat → Int → Int × List Int
  | 0, _, _ => (0, [])
  | r + 1, d0, t => bfold (candF s d0) (fun m => q_risk s SL m t + (opt s SL r (d0 ||| 2 ^ m) (clamp (t + q_needs s m / 2) 0 99)).1) (fun m => (opt s SL r (d0 ||| 2 ^ m) (clamp (t + q_needs s m / 2) 0 99)).2) (s 43).toNat
def valF (s : Int → Int) (SL : List Int) (r d0 : Nat) (t : Int) : Nat → Int := fun m => q_risk s SL m t + (opt s SL r (d0 ||| 2 ^ m) (clamp (t + q_needs s m / 2) 0 99)).1
def lstF (s : Int → Int) (SL : List Int) (r d0 : Nat) (t : Int) : Nat → List Int := fun m => (opt s SL r (d0 ||| 2 ^ m) (clamp (t + q_needs s m / 2) 0 99)).2
theorem opt_s {s : Int → Int} {SL : List Int} {r d0 : Nat} {t : Int} : opt s SL (r + 1) d0 t = bfold (candF s d0) (valF s SL r d0 t) (lstF s SL r d0 t) (s 43).toNat := rfl
theorem bfold_skip {cand : Nat → Bool} {val : Nat → Int} {lst : Nat → List Int} {k : Nat} (h : cand k = false) : bfold cand val lst (k + 1) = bfold cand val lst k := by
  show (if cand k && _ then _ else bfold cand val lst k) = _
  rw [h]; rfl
theorem bfold_lo {cand : Nat → Bool} {val : Nat → Int} {lst : Nat → List Int} {k : Nat} (h : cand k = true) (h2 : val k < (bfold cand val lst k).1) : bfold cand val lst (k + 1) = (val k, (k : Int) :: lst k) := by
  show (if cand k && decide (val k < (bfold cand val lst k).1) then _ else _) = _
  rw [h, decide_eq_true h2]; rfl
theorem bfold_hi {cand : Nat → Bool} {val : Nat → Int} {lst : Nat → List Int} {k : Nat} (h2 : ¬ val k < (bfold cand val lst k).1) : bfold cand val lst (k + 1) = bfold cand val lst k := by
  show (if cand k && decide (val k < (bfold cand val lst k).1) then _ else _) = _
  rw [decide_eq_false h2, Bool.and_false]; rfl
theorem bfold_pos {cand : Nat → Bool} {val : Nat → Int} {lst : Nat → List Int} (hv : ∀ k, 0 ≤ val k) : ∀ k, 0 ≤ (bfold cand val lst k).1
  | 0 => by show (0 : Int) ≤ 1000000000; omega
  | k + 1 => by
    unfold bfold
    split
    · exact hv k
    · exact bfold_pos hv k
theorem opt_pos (s : Int → Int) (SL : List Int) : ∀ (r d0 : Nat) (t : Int), 0 ≤ (opt s SL r d0 t).1
  | 0, _, _ => by show (0 : Int) ≤ 0; omega
  | r + 1, d0, t => bfold_pos (fun k => by
      have := q_risk_rng s SL k t
      have := opt_pos s SL r (d0 ||| 2 ^ k) (clamp (t + q_needs s k / 2) 0 99)
      omega) _
/-- what a walk through the orders leaves -/
def OF (k : Int) (r : Nat) (X : Int × List Int) (sum : Int) (ln bl g ln1 bl1 g1 : Int → Int) : Prop :=
  (∀ q : Int, 0 ≤ q → q < k → ln1 q = ln q) ∧ (∀ q : Int, q ≠ 7 → g1 q = g q) ∧
  ((sum + X.1 < g 7 ∧ g1 7 = sum + X.1 ∧ (∀ q : Int, 0 ≤ q → q < k → bl1 q = ln q) ∧ (∀ j : Nat, j < r → bl1 (k + j) = X.2.getD j 0)) ∨ (¬ sum + X.1 < g 7 ∧ g1 7 = g 7 ∧ bl1 = bl))
theorem OF_no {k sum : Int} {r : Nat} {X : Int × List Int} {ln bl g : Int → Int} (h : g 7 ≤ sum + X.1) : OF k r X sum ln bl g ln bl g :=
  ⟨fun _ _ _ => rfl, fun _ _ => rfl, Or.inr ⟨Int.not_lt.mpr h, rfl, rfl⟩⟩
theorem OF_yes {k sum : Int} {L : List Int} {ln bl g : Int → Int} {n : Int} (h : ¬ g 7 ≤ sum) (hn : n = k) : OF k 0 (0, L) sum ln bl g ln (cpy n ln bl) (sU g 7 sum) := by
  subst hn
  refine ⟨fun _ _ _ => rfl, fun q hq => sU_ne hq, Or.inl ⟨by show sum + 0 < g 7; omega, by rw [sU_eq]; show sum = sum + 0; omega, fun q h1 h2 => cpy_in ⟨h1, h2⟩, fun j hj => absurd hj (Nat.not_lt_zero j)⟩⟩
theorem OF_rng {k sum : Int} {r : Nat} {X : Int × List Int} {ln bl g ln1 bl1 g1 : Int → Int} (h : OF k r X sum ln bl g ln1 bl1 g1) (h0 : 0 ≤ sum) (hX : 0 ≤ X.1) (hg : 0 ≤ g 7 ∧ g 7 ≤ 1000000) : 0 ≤ g1 7 ∧ g1 7 ≤ 1000000 := by
  rcases h.2.2 with ⟨a, b, -⟩ | ⟨a, b, -⟩ <;> rw [b] <;> omega
theorem OF_step {k sum : Int} {r m : Nat} {cand : Nat → Bool} {val : Nat → Int} {lst : Nat → List Int} {Y : Int × List Int} {risk : Int} {ln bl g ln1 bl1 g1 ln2 bl2 g2 : Int → Int} (hk : 0 ≤ k)
    (h : OF k (r + 1) (bfold cand val lst m) sum ln bl g ln1 bl1 g1) (hc : cand m = true) (hv : val m = risk + Y.1) (hl : lst m = Y.2)
    (h2 : OF (k + 1) r Y (sum + risk) (sU ln1 k m) bl1 g1 ln2 bl2 g2) : OF k (r + 1) (bfold cand val lst (m + 1)) sum ln bl g ln2 bl2 g2 := by
  obtain ⟨a1, a2, a3⟩ := h
  obtain ⟨b1, b2, b3⟩ := h2
  have e1 : ∀ q : Int, 0 ≤ q → q < k → ln2 q = ln q := fun q q1 q2 => by rw [b1 q q1 (by omega), sU_ne (by omega), a1 q q1 q2]
  have eb : ∀ j : Nat, j < r + 1 → (sum + risk + Y.1 < g1 7) → (∀ q : Int, 0 ≤ q → q < k + 1 → bl2 q = sU ln1 k m q) → (∀ j : Nat, j < r → bl2 (k + 1 + j) = Y.2.getD j 0) → bl2 (k + j) = (((m : Int) :: lst m) : List Int).getD j 0 := by
    intro j hj _ c1 c2
    cases j with
    | zero => rw [show k + ((0 : Nat) : Int) = k by omega, c1 k hk (by omega), sU_eq]; rfl
    | succ j => rw [show k + ((j + 1 : Nat) : Int) = k + 1 + j by omega, c2 j (by omega), hl]; rfl
  refine ⟨e1, fun q hq => (b2 q hq).trans (a2 q hq), ?_⟩
  rcases b3 with ⟨c0, c1, c2, c3⟩ | ⟨c0, c1, c2⟩
  · have hlt : val m < (bfold cand val lst m).1 := by rcases a3 with ⟨d0, d1, -⟩ | ⟨d0, d1, -⟩ <;> rw [d1] at c0 <;> omega
    rw [bfold_lo hc hlt]
    refine Or.inl ⟨?_, ?_, fun q q1 q2 => by rw [c2 q q1 (by omega), sU_ne (by omega), a1 q q1 q2], fun j hj => eb j hj c0 c2 c3⟩
    · show sum + val m < g 7
      rcases a3 with ⟨d0, d1, -⟩ | ⟨d0, d1, -⟩ <;> rw [d1] at c0 <;> omega
    · rw [c1]; show _ = sum + val m; omega
  · rcases a3 with ⟨d0, d1, d2, d3⟩ | ⟨d0, d1, d2⟩
    · have hlt : ¬ val m < (bfold cand val lst m).1 := by rw [d1] at c0; omega
      rw [bfold_hi hlt]
      exact Or.inl ⟨d0, c1.trans d1, fun q q1 q2 => by rw [c2]; exact d2 q q1 q2, fun j hj => by rw [c2]; exact d3 j hj⟩
    · refine Or.inr ⟨?_, c1.trans d1, c2.trans d2⟩
      rw [d1] at c0
      by_cases hlt : val m < (bfold cand val lst m).1
      · rw [bfold_lo hc hlt]; show ¬ sum + val m < g 7; omega
      · rw [bfold_hi hlt]; exact d0
theorem OF_skip {k sum : Int} {r m : Nat} {cand : Nat → Bool} {val : Nat → Int} {lst : Nat → List Int} {ln bl g ln1 bl1 g1 : Int → Int} (h : OF k r (bfold cand val lst m) sum ln bl g ln1 bl1 g1) (hc : cand m = false) : OF k r (bfold cand val lst (m + 1)) sum ln bl g ln1 bl1 g1 := by
  rw [bfold_skip hc]; exact h
theorem bit_v {d0 m : Nat} (h : d0 < 256) : iand ((d0 : Int) / 2 ^ (m : Int).toNat) 1 = if d0.testBit m then 1 else 0 := by
  have e : (d0 : Int) / 2 ^ (m : Int).toNat = ((d0 / 2 ^ m : Nat) : Int) := by
    rw [Int.toNat_natCast]; norm_cast
  have hd : d0 / 2 ^ m ≤ d0 := Nat.div_le_self _ _
  rw [e, Nat.testBit_eq_decide_div_mod_eq]
  generalize d0 / 2 ^ m = z at *
  rw [iand_1 (by omega)]
  by_cases q : z % 2 = 1
  · rw [decide_eq_true q, if_pos rfl]; omega
  · rw [decide_eq_false q, if_neg (by decide)]; omega
theorem cand_t {s : Int → Int} {d0 m : Nat} {dn : Int} (hd : dn = (d0 : Int)) (h : d0 < 256) (h1 : ¬ s (11 + (m : Int)) = 1) (h2 : iand (dn / 2 ^ (m : Int).toNat) 1 = 0) : candF s d0 m = true := by
  rw [hd, bit_v h] at h2
  unfold candF
  rw [decide_eq_false h1]
  cases hb : d0.testBit m
  · rfl
  · rw [hb] at h2; exact absurd h2 (by decide)
theorem cand_f1 {s : Int → Int} {d0 m : Nat} (h1 : s (11 + (m : Int)) = 1) : candF s d0 m = false := by
  unfold candF
  rw [decide_eq_true h1]; rfl
theorem cand_f2 {s : Int → Int} {d0 m : Nat} {dn : Int} (hd : dn = (d0 : Int)) (h : d0 < 256) (h2 : ¬ iand (dn / 2 ^ (m : Int).toNat) 1 = 0) : candF s d0 m = false := by
  rw [hd, bit_v h] at h2
  unfold candF
  cases hb : d0.testBit m
  · rw [hb] at h2; exact absurd rfl h2
  · simp
theorem or_up {d0 m : Nat} (h : d0 < 256) (hm : m < 8) : d0 ||| 2 ^ m < 256 := by
  have : 2 ^ m < 2 ^ 8 := Nat.pow_lt_pow_right (by omega) hm
  exact Nat.or_lt_two_pow (n := 8) h this
theorem or_v {d0 m : Nat} {dn : Int} (hd : dn = (d0 : Int)) (h : d0 < 256) (hm : m < 8) : ior dn (1 * 2 ^ (m : Int).toNat) = ((d0 ||| 2 ^ m : Nat) : Int) := by
  have e : (1 : Int) * 2 ^ (m : Int).toNat = ((2 ^ m : Nat) : Int) := by
    rw [Int.one_mul, Int.toNat_natCast]; norm_cast
  have := or_up h hm
  rw [hd, e, ior_nat (by omega)]
theorem cntB_ext {f g : Nat → Bool} : ∀ n : Nat, (∀ k, k < n → f k = g k) → cntB f n = cntB g n
  | 0, _ => rfl
  | n + 1, h => by
    show cntB f n + (if f n then 1 else 0) = cntB g n + (if g n then 1 else 0)
    rw [cntB_ext n (fun k hk => h k (by omega)), h n (by omega)]
theorem cntB_del {f g : Nat → Bool} {m : Nat} : ∀ n : Nat, m < n → f m = true → g m = false → (∀ k, k ≠ m → g k = f k) → cntB g n = cntB f n - 1
  | 0, h, _, _, _ => absurd h (Nat.not_lt_zero m)
  | n + 1, h, hf, hg, he => by
    show cntB g n + (if g n then 1 else 0) = cntB f n + (if f n then 1 else 0) - 1
    by_cases q : m = n
    · subst q
      rw [hf, hg, cntB_ext (f := g) (g := f) m (fun k hk => he k (by omega))]
      simp
    · have e1 := cntB_del n (show m < n by omega) hf hg he
      rw [e1, he n (fun e => q e.symm)]
      omega
theorem cntB_ex {f : Nat → Bool} : ∀ n : Nat, 0 < cntB f n → ∃ m, m < n ∧ f m = true
  | 0, h => absurd h (by show ¬ (0 : Int) < 0; omega)
  | n + 1, h => by
    cases hf : f n
    · have e : cntB f (n + 1) = cntB f n + 0 := by
        show cntB f n + (if f n then 1 else 0) = _
        rw [hf]; rfl
      obtain ⟨m, h1, h2⟩ := cntB_ex (f := f) n (by omega)
      exact ⟨m, by omega, h2⟩
    · exact ⟨n, by omega, hf⟩
theorem bfold_le {cand : Nat → Bool} {val : Nat → Int} {lst : Nat → List Int} {m : Nat} (hc : cand m = true) : ∀ n : Nat, m < n → (bfold cand val lst n).1 ≤ val m
  | 0, h => absurd h (Nat.not_lt_zero m)
  | n + 1, h => by
    by_cases hv : val n < (bfold cand val lst n).1
    · cases hn : cand n
      · have : m ≠ n := fun e => by rw [e, hn] at hc; exact absurd hc (by decide)
        rw [bfold_skip hn]
        exact bfold_le hc n (by omega)
      · rw [bfold_lo hn hv]
        show val n ≤ val m
        by_cases q : m = n
        · rw [q]; exact Int.le_refl _
        · have := bfold_le (val := val) (lst := lst) hc n (by omega); omega
    · rw [bfold_hi hv]
      by_cases q : m = n
      · rw [q]; omega
      · exact bfold_le hc n (by omega)
theorem cand_up {s : Int → Int} {d0 m k : Nat} (h : k ≠ m) : candF s (d0 ||| 2 ^ m) k = candF s d0 k := by
  unfold candF
  rw [Nat.testBit_or, Nat.testBit_two_pow, decide_eq_false (show ¬ m = k from fun e => h e.symm), Bool.or_false]
theorem cand_self {s : Int → Int} {d0 m : Nat} : candF s (d0 ||| 2 ^ m) m = false := by
  unfold candF
  rw [Nat.testBit_or, Nat.testBit_two_pow, decide_eq_true rfl, Bool.or_true, Bool.not_true, Bool.and_false]
theorem opt_le {s : Int → Int} {SL : List Int} : ∀ (r d0 : Nat) (t : Int), cntB (candF s d0) (s 43).toNat = r → (opt s SL r d0 t).1 ≤ 99 * (r : Int)
  | 0, _, _, _ => by show (0 : Int) ≤ 99 * ((0 : Nat) : Int); omega
  | r + 1, d0, t, h => by
    obtain ⟨m, h1, h2⟩ := cntB_ex (f := candF s d0) (s 43).toNat (by omega)
    have h3 := cntB_del (s 43).toNat h1 h2 (cand_self (s := s) (d0 := d0)) (fun k hk => cand_up hk)
    have ih := opt_le (SL := SL) r (d0 ||| 2 ^ m) (clamp (t + q_needs s m / 2) 0 99) (by rw [h3, h]; omega)
    have hr := q_risk_rng s SL m t
    rw [opt_s]
    have hb := bfold_le (val := valF s SL r d0 t) (lst := lstF s SL r d0 t) h2 (s 43).toNat h1
    have hv : valF s SL r d0 t m = q_risk s SL m t + (opt s SL r (d0 ||| 2 ^ m) (clamp (t + q_needs s m / 2) 0 99)).1 := rfl
    omega
def q_opt (s : Int → Int) (SL : List Int) : Int × List Int := opt s SL (q_uncut s).toNat 0 (s 2)
theorem q_uncut_c (s : Int → Int) : cntB (candF s 0) (s 43).toNat = q_uncut s := by
  refine cntB_ext _ (fun k _ => ?_)
  unfold candF
  rw [Nat.zero_testBit, Bool.not_false, Bool.and_true]
  by_cases h : s (11 + (k : Int)) = 1
  · rw [decide_eq_true h, decide_eq_false (fun q => q h)]; rfl
  · rw [decide_eq_false h, decide_eq_true h]; rfl
theorem q_opt_le {s : Int → Int} {SL : List Int} (h : 0 ≤ q_uncut s ∧ q_uncut s ≤ 6) : (q_opt s SL).1 ≤ 594 := by
  have hc := q_uncut_c s
  have := opt_le (SL := SL) (q_uncut s).toNat 0 (s 2) (by rw [hc]; omega)
  unfold q_opt
  omega
def a_order (s : Int → Int) (SL : List Int) (k : Int) : Int := if -1 ≤ k ∧ k ≤ 5 then (if q_uncut s ≤ 6 then (if k = -1 then (q_opt s SL).1 else if q_uncut s ≤ k then -5 else (q_opt s SL).2.getD k.toNat 0) else -9) else -1
theorem ord_1 {r : Nat} {X : Int × List Int} {ln bl g ln1 bl1 g1 : Int → Int} (h : OF 0 r X 0 ln bl (sU g 7 1000000) ln1 bl1 g1) (hX : X.1 ≤ 594) : g1 7 = X.1 ∧ (∀ q : Int, q ≠ 7 → g1 q = g q) ∧ ∀ k : Int, 0 ≤ k → k < r → bl1 k = X.2.getD k.toNat 0 := by
  rcases h.2.2 with ⟨a, b, c, d⟩ | ⟨a, -⟩
  · refine ⟨by rw [b]; omega, fun q hq => (h.2.1 q hq).trans (sU_ne hq), fun k h1 h2 => ?_⟩
    have := d k.toNat (by omega)
    rw [show 0 + ((k.toNat : Nat) : Int) = k by omega] at this
    exact this
  · rw [sU_eq] at a; omega
set_option maxHeartbeats 4000000 in
set_option maxRecDepth 100000 in
theorem k_ordersFrom0 (l : Launch) (D : Dx) (A : Nat → Prop) (a : Nat → Nat) (s im fr bY tr ln bl bo g lg : Int → Int) (k : Int) (dn : Int) (many : Int) (t : Int) (sum : Int) (SL : List Int) (d0 : Nat) (hk : 0 ≤ k ∧ k ≤ 6) (hmany : many = k + 0 ∧ many ≤ 6) (ht : 0 ≤ t ∧ t ≤ 99) (hsum : 0 ≤ sum ∧ sum ≤ 99 * k) (hd : dn = (d0 : Int)) (hd2 : d0 < 256) (hg7 : 0 ≤ g 7 ∧ g 7 ≤ 1000000) (hN : NM s) (hM : GM s) (hE : HE s SL) : CT l D A yX12_ordersFrom cX12_ordersFrom 7 none { frames := 3, cells := 0, slots := 0, locals := 80 } [.ref (a 0), vI k, vI dn, vI many, vI t, vI sum] (MW D A a s im fr bY tr ln bl bo g lg) (fun u : (Int → Int) × (Int → Int) × (Int → Int) × (Int → Int) × (Int → Int) => none) (fun u => OF k 0 (opt s SL 0 d0 t) sum ln bl g u.1 u.2.1 u.2.2.1) (fun u => MW D A a s im fr u.2.2.2.1 u.2.2.2.2 u.1 u.2.1 bo u.2.2.1 lg) := by
  refine ct_of (lo0 := [(0, .ref (a 0)), (1, vI k), (2, vI dn), (3, vI many), (4, vI t), (5, vI sum)]) (by decide) (Nat.le_of_ble_eq_true rfl) rfl ?_
  intro G hG hR
  have hN9 : 0 ≤ s 43 ∧ s 43 ≤ 8 := hN
  refine v_iload_n hG dX12_ordersFrom_0 rfl 1 rfl ?_
  refine v_iload_n hG dX12_ordersFrom_1 rfl 3 rfl ?_
  refine v_icmp_ne (tgt := 50) hG dX12_ordersFrom_2 (by decide) (by omega) (by omega) (fun c1 => ?_) (fun c1 => ?_)
  · skip
    exfalso; omega
  · skip
    refine v_iload hG dX12_ordersFrom_5 5 rfl ?_
    refine v_aload_n hG dX12_ordersFrom_7 rfl 0 rfl ?_
    refine mg_least (z := g 7) hG dX12_ordersFrom_8 rfl ?_
    refine v_icmp_ge (tgt := 49) hG dX12_ordersFrom_11 (by decide) (by omega) (by omega) (fun c2 => ?_) (fun c2 => ?_)
    · skip
      exact v_return hG hR dX12_ordersFrom_49 (ln, bl, g, bY, tr) rfl (by first | exact OF_no (by show g 7 ≤ sum + 0; omega) | exact OF_yes (by omega) (by omega)) (fun _ hM => hM)
    · skip
      refine v_aload_n hG dX12_ordersFrom_14 rfl 0 rfl ?_
      refine v_iload hG dX12_ordersFrom_15 5 rfl ?_
      refine mp_least hG dX12_ordersFrom_17 ?_
      refine v_iconst hG dX12_ordersFrom_20 ?_
      refine v_istore (lo' := [(6, vI 0), (0, .ref (a 0)), (1, vI k), (2, vI dn), (3, vI many), (4, vI t), (5, vI sum)]) hG dX12_ordersFrom_21 (by decide) rfl ?_
      refine v_lo [1, 2, 3, 4, 5, 6, 0] (lo' := [(0, .ref (a 0)), (1, vI k), (2, vI dn), (3, vI many), (4, vI t), (5, vI sum), (6, vI 0)]) rfl ?_
      have L5 : ∀ mz : Nat, ∀ (i : Nat), ((i : Int) ≤ k) → (k - (i : Int)).toNat = mz → ∀ x3 : Int, x3 = ((i : Int)) → ∀ x4 : Int → Int, x4 = (cpy i ln bl) → V G 0 0 (MW D A a s im fr bY tr ln x4 bo (sU g 7 sum) lg) 23 [(0, .ref (a 0)), (1, vI k), (2, vI dn), (3, vI many), (4, vI t), (5, vI sum), (6, vI x3)] [] := by
        intro dL5
        induction dL5 using Nat.strongRecOn with
        | ind dL5 ihL5 =>
          intro i h6 h7
          intro x3 hx3
          subst hx3
          intro x4 hx4
          subst hx4
          refine v_iload hG dX12_ordersFrom_23 6 rfl ?_
          refine v_iload_n hG dX12_ordersFrom_25 rfl 3 rfl ?_
          refine v_icmp_ge (tgt := 49) hG dX12_ordersFrom_26 (by decide) (by omega) (by omega) (fun c8 => ?_) (fun c8 => ?_)
          · skip
            exact v_return hG hR dX12_ordersFrom_49 (ln, cpy i ln bl, sU g 7 sum, bY, tr) rfl (by first | exact OF_no (by show g 7 ≤ sum + 0; omega) | exact OF_yes (by omega) (by omega)) (fun _ hM => hM)
          · skip
            refine v_aload_n hG dX12_ordersFrom_29 rfl 0 rfl ?_
            refine mg_bestLine hG dX12_ordersFrom_30 ?_
            refine v_iload hG dX12_ordersFrom_33 6 rfl ?_
            refine v_aload_n hG dX12_ordersFrom_35 rfl 0 rfl ?_
            refine mg_line hG dX12_ordersFrom_36 ?_
            refine v_iload hG dX12_ordersFrom_39 6 rfl ?_
            refine ma_line (z := ln (i : Int)) hG dX12_ordersFrom_41 (by omega) rfl ?_
            refine ms_bestLine hG dX12_ordersFrom_42 (by omega) ?_
            refine v_iinc (lo' := [(6, vI ((i : Int) + 1)), (0, .ref (a 0)), (1, vI k), (2, vI dn), (3, vI many), (4, vI t), (5, vI sum)]) hG dX12_ordersFrom_43 6 rfl (by decide) rfl ?_
            refine v_goto (tgt := 23) hG dX12_ordersFrom_46 (by decide) ?_
            refine v_lo [1, 2, 3, 4, 5, 6, 0] (lo' := [(0, .ref (a 0)), (1, vI k), (2, vI dn), (3, vI many), (4, vI t), (5, vI sum), (6, vI ((i : Int) + 1))]) rfl ?_
            exact ihL5 _ (by omega) (i + 1) (by omega) rfl _ (by first | omega | rfl | (simp [c1, c2, c8]; done)) _ (by exact cpy_step)
      exact L5 _ 0 (by omega) rfl _ (by first | omega | rfl | (simp [c1, c2]; done)) _ (by exact cpy_0.symm)
set_option maxHeartbeats 4000000 in
set_option maxRecDepth 100000 in
theorem k_ordersFrom1 (l : Launch) (D : Dx) (A : Nat → Prop) (a : Nat → Nat) (s im fr bY tr ln bl bo g lg : Int → Int) (k : Int) (dn : Int) (many : Int) (t : Int) (sum : Int) (SL : List Int) (d0 : Nat) (hk : 0 ≤ k ∧ k ≤ 6) (hmany : many = k + 1 ∧ many ≤ 6) (ht : 0 ≤ t ∧ t ≤ 99) (hsum : 0 ≤ sum ∧ sum ≤ 99 * k) (hd : dn = (d0 : Int)) (hd2 : d0 < 256) (hg7 : 0 ≤ g 7 ∧ g 7 ≤ 1000000) (hN : NM s) (hM : GM s) (hE : HE s SL) : CT l D A yX12_ordersFrom cX12_ordersFrom 7 none { frames := 4, cells := 0, slots := 0, locals := 106 } [.ref (a 0), vI k, vI dn, vI many, vI t, vI sum] (MW D A a s im fr bY tr ln bl bo g lg) (fun u : (Int → Int) × (Int → Int) × (Int → Int) × (Int → Int) × (Int → Int) => none) (fun u => OF k 1 (opt s SL 1 d0 t) sum ln bl g u.1 u.2.1 u.2.2.1) (fun u => MW D A a s im fr u.2.2.2.1 u.2.2.2.2 u.1 u.2.1 bo u.2.2.1 lg) := by
  refine ct_of (lo0 := [(0, .ref (a 0)), (1, vI k), (2, vI dn), (3, vI many), (4, vI t), (5, vI sum)]) (by decide) (Nat.le_of_ble_eq_true rfl) rfl ?_
  intro G hG hR
  have hN9 : 0 ≤ s 43 ∧ s 43 ≤ 8 := hN
  refine v_iload_n hG dX12_ordersFrom_0 rfl 1 rfl ?_
  refine v_iload_n hG dX12_ordersFrom_1 rfl 3 rfl ?_
  refine v_icmp_ne (tgt := 50) hG dX12_ordersFrom_2 (by decide) (by omega) (by omega) (fun c1 => ?_) (fun c1 => ?_)
  · skip
    refine v_iconst hG dX12_ordersFrom_50 ?_
    refine v_istore (lo' := [(6, vI 0), (0, .ref (a 0)), (1, vI k), (2, vI dn), (3, vI many), (4, vI t), (5, vI sum)]) hG dX12_ordersFrom_51 (by decide) rfl ?_
    refine v_lo [1, 2, 3, 4, 5, 6, 0] (lo' := [(0, .ref (a 0)), (1, vI k), (2, vI dn), (3, vI many), (4, vI t), (5, vI sum), (6, vI 0)]) rfl ?_
    have L8 : ∀ mz : Nat, ∀ (i : Nat) (ln2 bl2 g2 : Int → Int), ((i : Int) ≤ s 43) → (OF k 1 (bfold (candF s d0) (valF s SL 0 d0 t) (lstF s SL 0 d0 t) i) sum ln bl g ln2 bl2 g2) → (s 43 - (i : Int)).toNat = mz → ∀ x2 : Int, x2 = ((i : Int)) → ∀ x3 : Int → Int, x3 = (ln2) → ∀ x4 : Int → Int, x4 = (bl2) → ∀ x5 : Int → Int, x5 = (g2) → ∀ x6 : Int → Int, ∀ x7 : Int → Int, V G 0 0 (MW D A a s im fr x6 x7 x3 x4 bo x5 lg) 53 [(0, .ref (a 0)), (1, vI k), (2, vI dn), (3, vI many), (4, vI t), (5, vI sum), (6, vI x2)] [] := by
      intro dL8
      induction dL8 using Nat.strongRecOn with
      | ind dL8 ihL8 =>
        intro i ln2 bl2 g2 h9 h10 h11
        intro x2 hx2
        subst hx2
        intro x3 hx3
        replace hx3 := hx3.symm
        subst hx3
        intro x4 hx4
        replace hx4 := hx4.symm
        subst hx4
        intro x5 hx5
        replace hx5 := hx5.symm
        subst hx5
        intro x6
        intro x7
        refine v_iload hG dX12_ordersFrom_53 6 rfl ?_
        refine v_aload_n hG dX12_ordersFrom_55 rfl 0 rfl ?_
        refine mg_s hG dX12_ordersFrom_56 ?_
        refine v_bipush hG dX12_ordersFrom_59 (by decide) ?_
        refine ma_s (z := s 43) hG dX12_ordersFrom_61 (by omega) rfl ?_
        refine v_icmp_ge (tgt := 139) hG dX12_ordersFrom_62 (by decide) (by omega) (by omega) (fun c12 => ?_) (fun c12 => ?_)
        · skip
          exact v_return hG hR dX12_ordersFrom_139 (ln2, bl2, g2, x6, x7) rfl (by have hi9 : i = (s 43).toNat := (by omega); have h9 := ‹OF k 1 (bfold (candF s d0) (valF s SL 0 d0 t) (lstF s SL 0 d0 t) i) sum ln bl g ln2 bl2 g2›; rw [hi9] at h9; exact h9) (fun _ hM => hM)
        · skip
          have hor := OF_rng ‹OF k 1 (bfold (candF s d0) (valF s SL 0 d0 t) (lstF s SL 0 d0 t) i) sum ln bl g ln2 bl2 g2› (by omega) (bfold_pos (fun q => by have := q_risk_rng s SL q t; have := opt_pos s SL 0 (d0 ||| 2 ^ q) (clamp (t + q_needs s q / 2) 0 99); unfold valF; omega) _) (by omega)
          have hsh := sh_rng (x := dn) (k := i) (by omega)
          have hi1 := iand1_rng hsh
          refine v_aload_n hG dX12_ordersFrom_65 rfl 0 rfl ?_
          refine v_iload hG dX12_ordersFrom_66 6 rfl ?_
          refine v_callV (k1' := 0) (k2' := 0) hG dX12_ordersFrom_68 zc_X12_isCut ⟨zl_X12_137, zi_X12_isCut, zs_X12_isCut⟩ (fun l => k_isCut l D A a s im fr x6 x7 ln2 bl2 bo g2 lg (i : Int) (by omega) (by first | exact hm.2.2.2.2.1 | exact (hM _ (by omega) (by omega)).2.2.2.2.1 | omega)) rfl mw_recv (fun _ h => h) ⟨by decide, by decide⟩ rfl rfl ⟨by decide, by decide⟩ (rest := []) rfl (Nat.le_of_ble_eq_true rfl) (fun u13 => [vI (bi (s (11 + (i : Int)) = 1))]) (fun _ => rfl) (fun u13 hu13 => ?_)
          refine v_ifb_ne (p := s (11 + (i : Int)) = 1) (tgt := 133) hG dX12_ordersFrom_71 (by decide) (fun c14 => ?_) (fun c14 => ?_)
          · skip
            refine v_iinc (lo' := [(6, vI ((i : Int) + 1)), (0, .ref (a 0)), (1, vI k), (2, vI dn), (3, vI many), (4, vI t), (5, vI sum)]) hG dX12_ordersFrom_133 6 rfl (by decide) rfl ?_
            refine v_goto (tgt := 53) hG dX12_ordersFrom_136 (by decide) ?_
            refine v_lo [1, 2, 3, 4, 5, 6, 0] (lo' := [(0, .ref (a 0)), (1, vI k), (2, vI dn), (3, vI many), (4, vI t), (5, vI sum), (6, vI ((i : Int) + 1))]) rfl ?_
            exact ihL8 _ (by omega) (i + 1) ln2 bl2 g2 (by omega) (by first | exact OF_skip ‹OF k 1 (bfold (candF s d0) (valF s SL 0 d0 t) (lstF s SL 0 d0 t) i) sum ln bl g ln2 bl2 g2› (cand_f1 (by assumption)) | exact OF_skip ‹OF k 1 (bfold (candF s d0) (valF s SL 0 d0 t) (lstF s SL 0 d0 t) i) sum ln bl g ln2 bl2 g2› (cand_f2 hd hd2 (by assumption)) | exact OF_step (by omega) ‹OF k 1 (bfold (candF s d0) (valF s SL 0 d0 t) (lstF s SL 0 d0 t) i) sum ln bl g ln2 bl2 g2› (cand_t hd hd2 (by assumption) (by assumption)) rfl rfl (by assumption)) rfl _ (by first | omega | rfl | (simp [c1, c12, c14]; done)) _ (by first | omega | rfl | (simp [c1, c12, c14]; done)) _ (by first | omega | rfl | (simp [c1, c12, c14]; done)) _ (by first | omega | rfl | (simp [c1, c12, c14]; done)) _ _
          · skip
            refine v_iload_n hG dX12_ordersFrom_74 rfl 2 rfl ?_
            refine v_iload hG dX12_ordersFrom_75 6 rfl ?_
            refine v_ishr hG dX12_ordersFrom_77 (by omega) (by omega) ?_
            refine v_iconst hG dX12_ordersFrom_78 ?_
            refine v_iand hG dX12_ordersFrom_79 ?_
            refine v_if_ne (tgt := 133) hG dX12_ordersFrom_80 (by decide) (by omega) (fun c15 => ?_) (fun c15 => ?_)
            · skip
              refine v_iinc (lo' := [(6, vI ((i : Int) + 1)), (0, .ref (a 0)), (1, vI k), (2, vI dn), (3, vI many), (4, vI t), (5, vI sum)]) hG dX12_ordersFrom_133 6 rfl (by decide) rfl ?_
              refine v_goto (tgt := 53) hG dX12_ordersFrom_136 (by decide) ?_
              refine v_lo [1, 2, 3, 4, 5, 6, 0] (lo' := [(0, .ref (a 0)), (1, vI k), (2, vI dn), (3, vI many), (4, vI t), (5, vI sum), (6, vI ((i : Int) + 1))]) rfl ?_
              exact ihL8 _ (by omega) (i + 1) ln2 bl2 g2 (by omega) (by first | exact OF_skip ‹OF k 1 (bfold (candF s d0) (valF s SL 0 d0 t) (lstF s SL 0 d0 t) i) sum ln bl g ln2 bl2 g2› (cand_f1 (by assumption)) | exact OF_skip ‹OF k 1 (bfold (candF s d0) (valF s SL 0 d0 t) (lstF s SL 0 d0 t) i) sum ln bl g ln2 bl2 g2› (cand_f2 hd hd2 (by assumption)) | exact OF_step (by omega) ‹OF k 1 (bfold (candF s d0) (valF s SL 0 d0 t) (lstF s SL 0 d0 t) i) sum ln bl g ln2 bl2 g2› (cand_t hd hd2 (by assumption) (by assumption)) rfl rfl (by assumption)) rfl _ (by first | omega | rfl | (simp [c1, c12, c14, c15]; done)) _ (by first | omega | rfl | (simp [c1, c12, c14, c15]; done)) _ (by first | omega | rfl | (simp [c1, c12, c14, c15]; done)) _ (by first | omega | rfl | (simp [c1, c12, c14, c15]; done)) _ _
            · skip
              refine v_aload_n hG dX12_ordersFrom_83 rfl 0 rfl ?_
              refine mg_line hG dX12_ordersFrom_84 ?_
              refine v_iload_n hG dX12_ordersFrom_87 rfl 1 rfl ?_
              refine v_iload hG dX12_ordersFrom_88 6 rfl ?_
              refine ms_line hG dX12_ordersFrom_90 (by omega) ?_
              refine v_aload_n hG dX12_ordersFrom_91 rfl 0 rfl ?_
              refine v_iload_n hG dX12_ordersFrom_92 rfl 1 rfl ?_
              refine v_iconst hG dX12_ordersFrom_93 ?_
              refine v_iadd hG dX12_ordersFrom_94 ?_
              refine v_iload_n hG dX12_ordersFrom_95 rfl 2 rfl ?_
              refine v_iconst hG dX12_ordersFrom_96 ?_
              refine v_iload hG dX12_ordersFrom_97 6 rfl ?_
              refine v_ishl hG dX12_ordersFrom_99 (by omega) ?_
              refine v_ior hG dX12_ordersFrom_100 ?_
              refine v_iload_n hG dX12_ordersFrom_101 rfl 3 rfl ?_
              refine v_iload hG dX12_ordersFrom_102 4 rfl ?_
              refine v_aload_n hG dX12_ordersFrom_104 rfl 0 rfl ?_
              refine v_iload hG dX12_ordersFrom_105 6 rfl ?_
              refine v_callV (k1' := 0) (k2' := 0) hG dX12_ordersFrom_107 zc_X12_needsOf ⟨zl_X12_157, zi_X12_needsOf, zs_X12_needsOf⟩ (fun l => k_needsOf l D A a s im fr x6 x7 (sU ln2 k (i : Int)) bl2 bo g2 lg (i : Int) (by omega) (by first | assumption | (exact hM _ (by omega) (by omega)))) rfl mw_recv (fun _ h => h) ⟨by decide, by decide⟩ rfl rfl ⟨by decide, by decide⟩ (rest := [vI t, vI many, vI (ior dn (1 * 2 ^ (i : Int).toNat)), vI (k + 1), .ref (a 0)]) rfl (Nat.le_of_ble_eq_true rfl) (fun u16 => [vI (q_needs s (i : Int)), vI t, vI many, vI (ior dn (1 * 2 ^ (i : Int).toNat)), vI (k + 1), .ref (a 0)]) (fun _ => rfl) (fun u16 hu16 => ?_)
              have fu16 : 0 ≤ q_needs s (i : Int) ∧ q_needs s (i : Int) ≤ 180 := hu16
              refine v_iconst hG dX12_ordersFrom_110 ?_
              refine v_idiv hG dX12_ordersFrom_111 (by omega) (by omega) ?_
              refine v_iadd hG dX12_ordersFrom_112 ?_
              refine v_iconst hG dX12_ordersFrom_113 ?_
              refine v_bipush hG dX12_ordersFrom_114 (by decide) ?_
              refine v_callS (k1' := 0) (k2' := 0) hG dX12_ordersFrom_116 zc_X12_within ⟨zl_X12_130, zt_X12_within⟩ (fun l => k_within l D A (MW D A a s im fr x6 x7 (sU ln2 k (i : Int)) bl2 bo g2 lg) (t + ((q_needs s (i : Int)) / 2)) 0 99 (by omega) (by omega) (by omega)) rfl (fun _ h => h) ⟨by decide, by decide⟩ rfl rfl ⟨by decide, by decide⟩ (rest := [vI many, vI (ior dn (1 * 2 ^ (i : Int).toNat)), vI (k + 1), .ref (a 0)]) rfl (Nat.le_of_ble_eq_true rfl) (fun u17 => [vI (clamp (t + ((q_needs s (i : Int)) / 2)) 0 99), vI many, vI (ior dn (1 * 2 ^ (i : Int).toNat)), vI (k + 1), .ref (a 0)]) (fun _ => rfl) (fun u17 hu17 => ?_)
              refine v_iload hG dX12_ordersFrom_119 5 rfl ?_
              refine v_aload_n hG dX12_ordersFrom_121 rfl 0 rfl ?_
              refine v_iload hG dX12_ordersFrom_122 6 rfl ?_
              refine v_iload hG dX12_ordersFrom_124 4 rfl ?_
              refine v_callV (k1' := 0) (k2' := 0) hG dX12_ordersFrom_126 zc_X12_riskBy ⟨zl_X12_134, zi_X12_riskBy, zs_X12_riskBy⟩ (fun l => k_riskBy l D A a s im fr x6 x7 (sU ln2 k (i : Int)) bl2 bo g2 lg (i : Int) t SL (by omega) (by first | assumption | (exact hM _ (by omega) (by omega))) (by assumption) (by omega)) rfl mw_recv (fun _ h => h) ⟨by decide, by decide⟩ rfl rfl ⟨by decide, by decide⟩ (rest := [vI sum, vI (clamp (t + ((q_needs s (i : Int)) / 2)) 0 99), vI many, vI (ior dn (1 * 2 ^ (i : Int).toNat)), vI (k + 1), .ref (a 0)]) rfl (Nat.le_of_ble_eq_true rfl) (fun u18 => [vI (q_risk s SL (i : Int) t), vI sum, vI (clamp (t + ((q_needs s (i : Int)) / 2)) 0 99), vI many, vI (ior dn (1 * 2 ^ (i : Int).toNat)), vI (k + 1), .ref (a 0)]) (fun _ => rfl) (fun u18 hu18 => ?_)
              have fu18 : 0 ≤ q_risk s SL (i : Int) t ∧ q_risk s SL (i : Int) t ≤ 99 := hu18
              refine v_iadd hG dX12_ordersFrom_129 ?_
              refine v_callV (k1' := 0) (k2' := 0) hG dX12_ordersFrom_130 zc_X12_ordersFrom ⟨zl_X12_206, zi_X12_ordersFrom, zs_X12_ordersFrom⟩ (fun l => k_ordersFrom0 l D A a s im fr u18.1 u18.2 (sU ln2 k (i : Int)) bl2 bo g2 lg (k + 1) (ior dn (1 * 2 ^ (i : Int).toNat)) many (clamp (t + ((q_needs s (i : Int)) / 2)) 0 99) (sum + (q_risk s SL (i : Int) t)) SL (d0 ||| 2 ^ i) (by omega) (by omega) (by exact clamp_rng _ (by omega)) (by omega) (by exact or_v hd hd2 (by omega)) (by exact or_up hd2 (by omega)) (by exact hor) (by assumption) (by assumption) (by assumption)) rfl mw_recv (fun _ h => h) ⟨by decide, by decide⟩ rfl rfl ⟨by decide, by decide⟩ (rest := []) rfl (Nat.le_of_ble_eq_true rfl) (fun u19 => []) (fun _ => rfl) (fun u19 hu19 => ?_)
              have fu19 : OF (k + 1) 0 (opt s SL 0 (d0 ||| 2 ^ i) (clamp (t + ((q_needs s (i : Int)) / 2)) 0 99)) (sum + (q_risk s SL (i : Int) t)) (sU ln2 k (i : Int)) bl2 g2 u19.1 u19.2.1 u19.2.2.1 := hu19
              refine v_iinc (lo' := [(6, vI ((i : Int) + 1)), (0, .ref (a 0)), (1, vI k), (2, vI dn), (3, vI many), (4, vI t), (5, vI sum)]) hG dX12_ordersFrom_133 6 rfl (by decide) rfl ?_
              refine v_goto (tgt := 53) hG dX12_ordersFrom_136 (by decide) ?_
              refine v_lo [1, 2, 3, 4, 5, 6, 0] (lo' := [(0, .ref (a 0)), (1, vI k), (2, vI dn), (3, vI many), (4, vI t), (5, vI sum), (6, vI ((i : Int) + 1))]) rfl ?_
              exact ihL8 _ (by omega) (i + 1) u19.1 u19.2.1 u19.2.2.1 (by omega) (by first | exact OF_skip ‹OF k 1 (bfold (candF s d0) (valF s SL 0 d0 t) (lstF s SL 0 d0 t) i) sum ln bl g ln2 bl2 g2› (cand_f1 (by assumption)) | exact OF_skip ‹OF k 1 (bfold (candF s d0) (valF s SL 0 d0 t) (lstF s SL 0 d0 t) i) sum ln bl g ln2 bl2 g2› (cand_f2 hd hd2 (by assumption)) | exact OF_step (by omega) ‹OF k 1 (bfold (candF s d0) (valF s SL 0 d0 t) (lstF s SL 0 d0 t) i) sum ln bl g ln2 bl2 g2› (cand_t hd hd2 (by assumption) (by assumption)) rfl rfl (by assumption)) rfl _ (by first | omega | rfl | (simp [c1, c12, c14, c15]; done)) _ (by first | omega | rfl | (simp [c1, c12, c14, c15]; done)) _ (by first | omega | rfl | (simp [c1, c12, c14, c15]; done)) _ (by first | omega | rfl | (simp [c1, c12, c14, c15]; done)) _ _
    exact L8 _ 0 ln bl g (by omega) (by exact OF_no (by show g 7 ≤ sum + 1000000000; omega)) rfl _ (by first | omega | rfl | (simp [c1]; done)) _ (by first | omega | rfl | (simp [c1]; done)) _ (by first | omega | rfl | (simp [c1]; done)) _ (by first | omega | rfl | (simp [c1]; done)) _ _
  · skip
    exfalso; omega
set_option maxHeartbeats 4000000 in
set_option maxRecDepth 100000 in
theorem k_ordersFrom2 (l : Launch) (D : Dx) (A : Nat → Prop) (a : Nat → Nat) (s im fr bY tr ln bl bo g lg : Int → Int) (k : Int) (dn : Int) (many : Int) (t : Int) (sum : Int) (SL : List Int) (d0 : Nat) (hk : 0 ≤ k ∧ k ≤ 6) (hmany : many = k + 2 ∧ many ≤ 6) (ht : 0 ≤ t ∧ t ≤ 99) (hsum : 0 ≤ sum ∧ sum ≤ 99 * k) (hd : dn = (d0 : Int)) (hd2 : d0 < 256) (hg7 : 0 ≤ g 7 ∧ g 7 ≤ 1000000) (hN : NM s) (hM : GM s) (hE : HE s SL) : CT l D A yX12_ordersFrom cX12_ordersFrom 7 none { frames := 5, cells := 0, slots := 0, locals := 132 } [.ref (a 0), vI k, vI dn, vI many, vI t, vI sum] (MW D A a s im fr bY tr ln bl bo g lg) (fun u : (Int → Int) × (Int → Int) × (Int → Int) × (Int → Int) × (Int → Int) => none) (fun u => OF k 2 (opt s SL 2 d0 t) sum ln bl g u.1 u.2.1 u.2.2.1) (fun u => MW D A a s im fr u.2.2.2.1 u.2.2.2.2 u.1 u.2.1 bo u.2.2.1 lg) := by
  refine ct_of (lo0 := [(0, .ref (a 0)), (1, vI k), (2, vI dn), (3, vI many), (4, vI t), (5, vI sum)]) (by decide) (Nat.le_of_ble_eq_true rfl) rfl ?_
  intro G hG hR
  have hN9 : 0 ≤ s 43 ∧ s 43 ≤ 8 := hN
  refine v_iload_n hG dX12_ordersFrom_0 rfl 1 rfl ?_
  refine v_iload_n hG dX12_ordersFrom_1 rfl 3 rfl ?_
  refine v_icmp_ne (tgt := 50) hG dX12_ordersFrom_2 (by decide) (by omega) (by omega) (fun c1 => ?_) (fun c1 => ?_)
  · skip
    refine v_iconst hG dX12_ordersFrom_50 ?_
    refine v_istore (lo' := [(6, vI 0), (0, .ref (a 0)), (1, vI k), (2, vI dn), (3, vI many), (4, vI t), (5, vI sum)]) hG dX12_ordersFrom_51 (by decide) rfl ?_
    refine v_lo [1, 2, 3, 4, 5, 6, 0] (lo' := [(0, .ref (a 0)), (1, vI k), (2, vI dn), (3, vI many), (4, vI t), (5, vI sum), (6, vI 0)]) rfl ?_
    have L8 : ∀ mz : Nat, ∀ (i : Nat) (ln2 bl2 g2 : Int → Int), ((i : Int) ≤ s 43) → (OF k 2 (bfold (candF s d0) (valF s SL 1 d0 t) (lstF s SL 1 d0 t) i) sum ln bl g ln2 bl2 g2) → (s 43 - (i : Int)).toNat = mz → ∀ x2 : Int, x2 = ((i : Int)) → ∀ x3 : Int → Int, x3 = (ln2) → ∀ x4 : Int → Int, x4 = (bl2) → ∀ x5 : Int → Int, x5 = (g2) → ∀ x6 : Int → Int, ∀ x7 : Int → Int, V G 0 0 (MW D A a s im fr x6 x7 x3 x4 bo x5 lg) 53 [(0, .ref (a 0)), (1, vI k), (2, vI dn), (3, vI many), (4, vI t), (5, vI sum), (6, vI x2)] [] := by
      intro dL8
      induction dL8 using Nat.strongRecOn with
      | ind dL8 ihL8 =>
        intro i ln2 bl2 g2 h9 h10 h11
        intro x2 hx2
        subst hx2
        intro x3 hx3
        replace hx3 := hx3.symm
        subst hx3
        intro x4 hx4
        replace hx4 := hx4.symm
        subst hx4
        intro x5 hx5
        replace hx5 := hx5.symm
        subst hx5
        intro x6
        intro x7
        refine v_iload hG dX12_ordersFrom_53 6 rfl ?_
        refine v_aload_n hG dX12_ordersFrom_55 rfl 0 rfl ?_
        refine mg_s hG dX12_ordersFrom_56 ?_
        refine v_bipush hG dX12_ordersFrom_59 (by decide) ?_
        refine ma_s (z := s 43) hG dX12_ordersFrom_61 (by omega) rfl ?_
        refine v_icmp_ge (tgt := 139) hG dX12_ordersFrom_62 (by decide) (by omega) (by omega) (fun c12 => ?_) (fun c12 => ?_)
        · skip
          exact v_return hG hR dX12_ordersFrom_139 (ln2, bl2, g2, x6, x7) rfl (by have hi9 : i = (s 43).toNat := (by omega); have h9 := ‹OF k 2 (bfold (candF s d0) (valF s SL 1 d0 t) (lstF s SL 1 d0 t) i) sum ln bl g ln2 bl2 g2›; rw [hi9] at h9; exact h9) (fun _ hM => hM)
        · skip
          have hor := OF_rng ‹OF k 2 (bfold (candF s d0) (valF s SL 1 d0 t) (lstF s SL 1 d0 t) i) sum ln bl g ln2 bl2 g2› (by omega) (bfold_pos (fun q => by have := q_risk_rng s SL q t; have := opt_pos s SL 1 (d0 ||| 2 ^ q) (clamp (t + q_needs s q / 2) 0 99); unfold valF; omega) _) (by omega)
          have hsh := sh_rng (x := dn) (k := i) (by omega)
          have hi1 := iand1_rng hsh
          refine v_aload_n hG dX12_ordersFrom_65 rfl 0 rfl ?_
          refine v_iload hG dX12_ordersFrom_66 6 rfl ?_
          refine v_callV (k1' := 0) (k2' := 0) hG dX12_ordersFrom_68 zc_X12_isCut ⟨zl_X12_137, zi_X12_isCut, zs_X12_isCut⟩ (fun l => k_isCut l D A a s im fr x6 x7 ln2 bl2 bo g2 lg (i : Int) (by omega) (by first | exact hm.2.2.2.2.1 | exact (hM _ (by omega) (by omega)).2.2.2.2.1 | omega)) rfl mw_recv (fun _ h => h) ⟨by decide, by decide⟩ rfl rfl ⟨by decide, by decide⟩ (rest := []) rfl (Nat.le_of_ble_eq_true rfl) (fun u13 => [vI (bi (s (11 + (i : Int)) = 1))]) (fun _ => rfl) (fun u13 hu13 => ?_)
          refine v_ifb_ne (p := s (11 + (i : Int)) = 1) (tgt := 133) hG dX12_ordersFrom_71 (by decide) (fun c14 => ?_) (fun c14 => ?_)
          · skip
            refine v_iinc (lo' := [(6, vI ((i : Int) + 1)), (0, .ref (a 0)), (1, vI k), (2, vI dn), (3, vI many), (4, vI t), (5, vI sum)]) hG dX12_ordersFrom_133 6 rfl (by decide) rfl ?_
            refine v_goto (tgt := 53) hG dX12_ordersFrom_136 (by decide) ?_
            refine v_lo [1, 2, 3, 4, 5, 6, 0] (lo' := [(0, .ref (a 0)), (1, vI k), (2, vI dn), (3, vI many), (4, vI t), (5, vI sum), (6, vI ((i : Int) + 1))]) rfl ?_
            exact ihL8 _ (by omega) (i + 1) ln2 bl2 g2 (by omega) (by first | exact OF_skip ‹OF k 2 (bfold (candF s d0) (valF s SL 1 d0 t) (lstF s SL 1 d0 t) i) sum ln bl g ln2 bl2 g2› (cand_f1 (by assumption)) | exact OF_skip ‹OF k 2 (bfold (candF s d0) (valF s SL 1 d0 t) (lstF s SL 1 d0 t) i) sum ln bl g ln2 bl2 g2› (cand_f2 hd hd2 (by assumption)) | exact OF_step (by omega) ‹OF k 2 (bfold (candF s d0) (valF s SL 1 d0 t) (lstF s SL 1 d0 t) i) sum ln bl g ln2 bl2 g2› (cand_t hd hd2 (by assumption) (by assumption)) rfl rfl (by assumption)) rfl _ (by first | omega | rfl | (simp [c1, c12, c14]; done)) _ (by first | omega | rfl | (simp [c1, c12, c14]; done)) _ (by first | omega | rfl | (simp [c1, c12, c14]; done)) _ (by first | omega | rfl | (simp [c1, c12, c14]; done)) _ _
          · skip
            refine v_iload_n hG dX12_ordersFrom_74 rfl 2 rfl ?_
            refine v_iload hG dX12_ordersFrom_75 6 rfl ?_
            refine v_ishr hG dX12_ordersFrom_77 (by omega) (by omega) ?_
            refine v_iconst hG dX12_ordersFrom_78 ?_
            refine v_iand hG dX12_ordersFrom_79 ?_
            refine v_if_ne (tgt := 133) hG dX12_ordersFrom_80 (by decide) (by omega) (fun c15 => ?_) (fun c15 => ?_)
            · skip
              refine v_iinc (lo' := [(6, vI ((i : Int) + 1)), (0, .ref (a 0)), (1, vI k), (2, vI dn), (3, vI many), (4, vI t), (5, vI sum)]) hG dX12_ordersFrom_133 6 rfl (by decide) rfl ?_
              refine v_goto (tgt := 53) hG dX12_ordersFrom_136 (by decide) ?_
              refine v_lo [1, 2, 3, 4, 5, 6, 0] (lo' := [(0, .ref (a 0)), (1, vI k), (2, vI dn), (3, vI many), (4, vI t), (5, vI sum), (6, vI ((i : Int) + 1))]) rfl ?_
              exact ihL8 _ (by omega) (i + 1) ln2 bl2 g2 (by omega) (by first | exact OF_skip ‹OF k 2 (bfold (candF s d0) (valF s SL 1 d0 t) (lstF s SL 1 d0 t) i) sum ln bl g ln2 bl2 g2› (cand_f1 (by assumption)) | exact OF_skip ‹OF k 2 (bfold (candF s d0) (valF s SL 1 d0 t) (lstF s SL 1 d0 t) i) sum ln bl g ln2 bl2 g2› (cand_f2 hd hd2 (by assumption)) | exact OF_step (by omega) ‹OF k 2 (bfold (candF s d0) (valF s SL 1 d0 t) (lstF s SL 1 d0 t) i) sum ln bl g ln2 bl2 g2› (cand_t hd hd2 (by assumption) (by assumption)) rfl rfl (by assumption)) rfl _ (by first | omega | rfl | (simp [c1, c12, c14, c15]; done)) _ (by first | omega | rfl | (simp [c1, c12, c14, c15]; done)) _ (by first | omega | rfl | (simp [c1, c12, c14, c15]; done)) _ (by first | omega | rfl | (simp [c1, c12, c14, c15]; done)) _ _
            · skip
              refine v_aload_n hG dX12_ordersFrom_83 rfl 0 rfl ?_
              refine mg_line hG dX12_ordersFrom_84 ?_
              refine v_iload_n hG dX12_ordersFrom_87 rfl 1 rfl ?_
              refine v_iload hG dX12_ordersFrom_88 6 rfl ?_
              refine ms_line hG dX12_ordersFrom_90 (by omega) ?_
              refine v_aload_n hG dX12_ordersFrom_91 rfl 0 rfl ?_
              refine v_iload_n hG dX12_ordersFrom_92 rfl 1 rfl ?_
              refine v_iconst hG dX12_ordersFrom_93 ?_
              refine v_iadd hG dX12_ordersFrom_94 ?_
              refine v_iload_n hG dX12_ordersFrom_95 rfl 2 rfl ?_
              refine v_iconst hG dX12_ordersFrom_96 ?_
              refine v_iload hG dX12_ordersFrom_97 6 rfl ?_
              refine v_ishl hG dX12_ordersFrom_99 (by omega) ?_
              refine v_ior hG dX12_ordersFrom_100 ?_
              refine v_iload_n hG dX12_ordersFrom_101 rfl 3 rfl ?_
              refine v_iload hG dX12_ordersFrom_102 4 rfl ?_
              refine v_aload_n hG dX12_ordersFrom_104 rfl 0 rfl ?_
              refine v_iload hG dX12_ordersFrom_105 6 rfl ?_
              refine v_callV (k1' := 0) (k2' := 0) hG dX12_ordersFrom_107 zc_X12_needsOf ⟨zl_X12_157, zi_X12_needsOf, zs_X12_needsOf⟩ (fun l => k_needsOf l D A a s im fr x6 x7 (sU ln2 k (i : Int)) bl2 bo g2 lg (i : Int) (by omega) (by first | assumption | (exact hM _ (by omega) (by omega)))) rfl mw_recv (fun _ h => h) ⟨by decide, by decide⟩ rfl rfl ⟨by decide, by decide⟩ (rest := [vI t, vI many, vI (ior dn (1 * 2 ^ (i : Int).toNat)), vI (k + 1), .ref (a 0)]) rfl (Nat.le_of_ble_eq_true rfl) (fun u16 => [vI (q_needs s (i : Int)), vI t, vI many, vI (ior dn (1 * 2 ^ (i : Int).toNat)), vI (k + 1), .ref (a 0)]) (fun _ => rfl) (fun u16 hu16 => ?_)
              have fu16 : 0 ≤ q_needs s (i : Int) ∧ q_needs s (i : Int) ≤ 180 := hu16
              refine v_iconst hG dX12_ordersFrom_110 ?_
              refine v_idiv hG dX12_ordersFrom_111 (by omega) (by omega) ?_
              refine v_iadd hG dX12_ordersFrom_112 ?_
              refine v_iconst hG dX12_ordersFrom_113 ?_
              refine v_bipush hG dX12_ordersFrom_114 (by decide) ?_
              refine v_callS (k1' := 0) (k2' := 0) hG dX12_ordersFrom_116 zc_X12_within ⟨zl_X12_130, zt_X12_within⟩ (fun l => k_within l D A (MW D A a s im fr x6 x7 (sU ln2 k (i : Int)) bl2 bo g2 lg) (t + ((q_needs s (i : Int)) / 2)) 0 99 (by omega) (by omega) (by omega)) rfl (fun _ h => h) ⟨by decide, by decide⟩ rfl rfl ⟨by decide, by decide⟩ (rest := [vI many, vI (ior dn (1 * 2 ^ (i : Int).toNat)), vI (k + 1), .ref (a 0)]) rfl (Nat.le_of_ble_eq_true rfl) (fun u17 => [vI (clamp (t + ((q_needs s (i : Int)) / 2)) 0 99), vI many, vI (ior dn (1 * 2 ^ (i : Int).toNat)), vI (k + 1), .ref (a 0)]) (fun _ => rfl) (fun u17 hu17 => ?_)
              refine v_iload hG dX12_ordersFrom_119 5 rfl ?_
              refine v_aload_n hG dX12_ordersFrom_121 rfl 0 rfl ?_
              refine v_iload hG dX12_ordersFrom_122 6 rfl ?_
              refine v_iload hG dX12_ordersFrom_124 4 rfl ?_
              refine v_callV (k1' := 0) (k2' := 0) hG dX12_ordersFrom_126 zc_X12_riskBy ⟨zl_X12_134, zi_X12_riskBy, zs_X12_riskBy⟩ (fun l => k_riskBy l D A a s im fr x6 x7 (sU ln2 k (i : Int)) bl2 bo g2 lg (i : Int) t SL (by omega) (by first | assumption | (exact hM _ (by omega) (by omega))) (by assumption) (by omega)) rfl mw_recv (fun _ h => h) ⟨by decide, by decide⟩ rfl rfl ⟨by decide, by decide⟩ (rest := [vI sum, vI (clamp (t + ((q_needs s (i : Int)) / 2)) 0 99), vI many, vI (ior dn (1 * 2 ^ (i : Int).toNat)), vI (k + 1), .ref (a 0)]) rfl (Nat.le_of_ble_eq_true rfl) (fun u18 => [vI (q_risk s SL (i : Int) t), vI sum, vI (clamp (t + ((q_needs s (i : Int)) / 2)) 0 99), vI many, vI (ior dn (1 * 2 ^ (i : Int).toNat)), vI (k + 1), .ref (a 0)]) (fun _ => rfl) (fun u18 hu18 => ?_)
              have fu18 : 0 ≤ q_risk s SL (i : Int) t ∧ q_risk s SL (i : Int) t ≤ 99 := hu18
              refine v_iadd hG dX12_ordersFrom_129 ?_
              refine v_callV (k1' := 0) (k2' := 0) hG dX12_ordersFrom_130 zc_X12_ordersFrom ⟨zl_X12_206, zi_X12_ordersFrom, zs_X12_ordersFrom⟩ (fun l => k_ordersFrom1 l D A a s im fr u18.1 u18.2 (sU ln2 k (i : Int)) bl2 bo g2 lg (k + 1) (ior dn (1 * 2 ^ (i : Int).toNat)) many (clamp (t + ((q_needs s (i : Int)) / 2)) 0 99) (sum + (q_risk s SL (i : Int) t)) SL (d0 ||| 2 ^ i) (by omega) (by omega) (by exact clamp_rng _ (by omega)) (by omega) (by exact or_v hd hd2 (by omega)) (by exact or_up hd2 (by omega)) (by exact hor) (by assumption) (by assumption) (by assumption)) rfl mw_recv (fun _ h => h) ⟨by decide, by decide⟩ rfl rfl ⟨by decide, by decide⟩ (rest := []) rfl (Nat.le_of_ble_eq_true rfl) (fun u19 => []) (fun _ => rfl) (fun u19 hu19 => ?_)
              have fu19 : OF (k + 1) 1 (opt s SL 1 (d0 ||| 2 ^ i) (clamp (t + ((q_needs s (i : Int)) / 2)) 0 99)) (sum + (q_risk s SL (i : Int) t)) (sU ln2 k (i : Int)) bl2 g2 u19.1 u19.2.1 u19.2.2.1 := hu19
              refine v_iinc (lo' := [(6, vI ((i : Int) + 1)), (0, .ref (a 0)), (1, vI k), (2, vI dn), (3, vI many), (4, vI t), (5, vI sum)]) hG dX12_ordersFrom_133 6 rfl (by decide) rfl ?_
              refine v_goto (tgt := 53) hG dX12_ordersFrom_136 (by decide) ?_
              refine v_lo [1, 2, 3, 4, 5, 6, 0] (lo' := [(0, .ref (a 0)), (1, vI k), (2, vI dn), (3, vI many), (4, vI t), (5, vI sum), (6, vI ((i : Int) + 1))]) rfl ?_
              exact ihL8 _ (by omega) (i + 1) u19.1 u19.2.1 u19.2.2.1 (by omega) (by first | exact OF_skip ‹OF k 2 (bfold (candF s d0) (valF s SL 1 d0 t) (lstF s SL 1 d0 t) i) sum ln bl g ln2 bl2 g2› (cand_f1 (by assumption)) | exact OF_skip ‹OF k 2 (bfold (candF s d0) (valF s SL 1 d0 t) (lstF s SL 1 d0 t) i) sum ln bl g ln2 bl2 g2› (cand_f2 hd hd2 (by assumption)) | exact OF_step (by omega) ‹OF k 2 (bfold (candF s d0) (valF s SL 1 d0 t) (lstF s SL 1 d0 t) i) sum ln bl g ln2 bl2 g2› (cand_t hd hd2 (by assumption) (by assumption)) rfl rfl (by assumption)) rfl _ (by first | omega | rfl | (simp [c1, c12, c14, c15]; done)) _ (by first | omega | rfl | (simp [c1, c12, c14, c15]; done)) _ (by first | omega | rfl | (simp [c1, c12, c14, c15]; done)) _ (by first | omega | rfl | (simp [c1, c12, c14, c15]; done)) _ _
    exact L8 _ 0 ln bl g (by omega) (by exact OF_no (by show g 7 ≤ sum + 1000000000; omega)) rfl _ (by first | omega | rfl | (simp [c1]; done)) _ (by first | omega | rfl | (simp [c1]; done)) _ (by first | omega | rfl | (simp [c1]; done)) _ (by first | omega | rfl | (simp [c1]; done)) _ _
  · skip
    exfalso; omega
set_option maxHeartbeats 4000000 in
set_option maxRecDepth 100000 in
theorem k_ordersFrom3 (l : Launch) (D : Dx) (A : Nat → Prop) (a : Nat → Nat) (s im fr bY tr ln bl bo g lg : Int → Int) (k : Int) (dn : Int) (many : Int) (t : Int) (sum : Int) (SL : List Int) (d0 : Nat) (hk : 0 ≤ k ∧ k ≤ 6) (hmany : many = k + 3 ∧ many ≤ 6) (ht : 0 ≤ t ∧ t ≤ 99) (hsum : 0 ≤ sum ∧ sum ≤ 99 * k) (hd : dn = (d0 : Int)) (hd2 : d0 < 256) (hg7 : 0 ≤ g 7 ∧ g 7 ≤ 1000000) (hN : NM s) (hM : GM s) (hE : HE s SL) : CT l D A yX12_ordersFrom cX12_ordersFrom 7 none { frames := 6, cells := 0, slots := 0, locals := 158 } [.ref (a 0), vI k, vI dn, vI many, vI t, vI sum] (MW D A a s im fr bY tr ln bl bo g lg) (fun u : (Int → Int) × (Int → Int) × (Int → Int) × (Int → Int) × (Int → Int) => none) (fun u => OF k 3 (opt s SL 3 d0 t) sum ln bl g u.1 u.2.1 u.2.2.1) (fun u => MW D A a s im fr u.2.2.2.1 u.2.2.2.2 u.1 u.2.1 bo u.2.2.1 lg) := by
  refine ct_of (lo0 := [(0, .ref (a 0)), (1, vI k), (2, vI dn), (3, vI many), (4, vI t), (5, vI sum)]) (by decide) (Nat.le_of_ble_eq_true rfl) rfl ?_
  intro G hG hR
  have hN9 : 0 ≤ s 43 ∧ s 43 ≤ 8 := hN
  refine v_iload_n hG dX12_ordersFrom_0 rfl 1 rfl ?_
  refine v_iload_n hG dX12_ordersFrom_1 rfl 3 rfl ?_
  refine v_icmp_ne (tgt := 50) hG dX12_ordersFrom_2 (by decide) (by omega) (by omega) (fun c1 => ?_) (fun c1 => ?_)
  · skip
    refine v_iconst hG dX12_ordersFrom_50 ?_
    refine v_istore (lo' := [(6, vI 0), (0, .ref (a 0)), (1, vI k), (2, vI dn), (3, vI many), (4, vI t), (5, vI sum)]) hG dX12_ordersFrom_51 (by decide) rfl ?_
    refine v_lo [1, 2, 3, 4, 5, 6, 0] (lo' := [(0, .ref (a 0)), (1, vI k), (2, vI dn), (3, vI many), (4, vI t), (5, vI sum), (6, vI 0)]) rfl ?_
    have L8 : ∀ mz : Nat, ∀ (i : Nat) (ln2 bl2 g2 : Int → Int), ((i : Int) ≤ s 43) → (OF k 3 (bfold (candF s d0) (valF s SL 2 d0 t) (lstF s SL 2 d0 t) i) sum ln bl g ln2 bl2 g2) → (s 43 - (i : Int)).toNat = mz → ∀ x2 : Int, x2 = ((i : Int)) → ∀ x3 : Int → Int, x3 = (ln2) → ∀ x4 : Int → Int, x4 = (bl2) → ∀ x5 : Int → Int, x5 = (g2) → ∀ x6 : Int → Int, ∀ x7 : Int → Int, V G 0 0 (MW D A a s im fr x6 x7 x3 x4 bo x5 lg) 53 [(0, .ref (a 0)), (1, vI k), (2, vI dn), (3, vI many), (4, vI t), (5, vI sum), (6, vI x2)] [] := by
      intro dL8
      induction dL8 using Nat.strongRecOn with
      | ind dL8 ihL8 =>
        intro i ln2 bl2 g2 h9 h10 h11
        intro x2 hx2
        subst hx2
        intro x3 hx3
        replace hx3 := hx3.symm
        subst hx3
        intro x4 hx4
        replace hx4 := hx4.symm
        subst hx4
        intro x5 hx5
        replace hx5 := hx5.symm
        subst hx5
        intro x6
        intro x7
        refine v_iload hG dX12_ordersFrom_53 6 rfl ?_
        refine v_aload_n hG dX12_ordersFrom_55 rfl 0 rfl ?_
        refine mg_s hG dX12_ordersFrom_56 ?_
        refine v_bipush hG dX12_ordersFrom_59 (by decide) ?_
        refine ma_s (z := s 43) hG dX12_ordersFrom_61 (by omega) rfl ?_
        refine v_icmp_ge (tgt := 139) hG dX12_ordersFrom_62 (by decide) (by omega) (by omega) (fun c12 => ?_) (fun c12 => ?_)
        · skip
          exact v_return hG hR dX12_ordersFrom_139 (ln2, bl2, g2, x6, x7) rfl (by have hi9 : i = (s 43).toNat := (by omega); have h9 := ‹OF k 3 (bfold (candF s d0) (valF s SL 2 d0 t) (lstF s SL 2 d0 t) i) sum ln bl g ln2 bl2 g2›; rw [hi9] at h9; exact h9) (fun _ hM => hM)
        · skip
          have hor := OF_rng ‹OF k 3 (bfold (candF s d0) (valF s SL 2 d0 t) (lstF s SL 2 d0 t) i) sum ln bl g ln2 bl2 g2› (by omega) (bfold_pos (fun q => by have := q_risk_rng s SL q t; have := opt_pos s SL 2 (d0 ||| 2 ^ q) (clamp (t + q_needs s q / 2) 0 99); unfold valF; omega) _) (by omega)
          have hsh := sh_rng (x := dn) (k := i) (by omega)
          have hi1 := iand1_rng hsh
          refine v_aload_n hG dX12_ordersFrom_65 rfl 0 rfl ?_
          refine v_iload hG dX12_ordersFrom_66 6 rfl ?_
          refine v_callV (k1' := 0) (k2' := 0) hG dX12_ordersFrom_68 zc_X12_isCut ⟨zl_X12_137, zi_X12_isCut, zs_X12_isCut⟩ (fun l => k_isCut l D A a s im fr x6 x7 ln2 bl2 bo g2 lg (i : Int) (by omega) (by first | exact hm.2.2.2.2.1 | exact (hM _ (by omega) (by omega)).2.2.2.2.1 | omega)) rfl mw_recv (fun _ h => h) ⟨by decide, by decide⟩ rfl rfl ⟨by decide, by decide⟩ (rest := []) rfl (Nat.le_of_ble_eq_true rfl) (fun u13 => [vI (bi (s (11 + (i : Int)) = 1))]) (fun _ => rfl) (fun u13 hu13 => ?_)
          refine v_ifb_ne (p := s (11 + (i : Int)) = 1) (tgt := 133) hG dX12_ordersFrom_71 (by decide) (fun c14 => ?_) (fun c14 => ?_)
          · skip
            refine v_iinc (lo' := [(6, vI ((i : Int) + 1)), (0, .ref (a 0)), (1, vI k), (2, vI dn), (3, vI many), (4, vI t), (5, vI sum)]) hG dX12_ordersFrom_133 6 rfl (by decide) rfl ?_
            refine v_goto (tgt := 53) hG dX12_ordersFrom_136 (by decide) ?_
            refine v_lo [1, 2, 3, 4, 5, 6, 0] (lo' := [(0, .ref (a 0)), (1, vI k), (2, vI dn), (3, vI many), (4, vI t), (5, vI sum), (6, vI ((i : Int) + 1))]) rfl ?_
            exact ihL8 _ (by omega) (i + 1) ln2 bl2 g2 (by omega) (by first | exact OF_skip ‹OF k 3 (bfold (candF s d0) (valF s SL 2 d0 t) (lstF s SL 2 d0 t) i) sum ln bl g ln2 bl2 g2› (cand_f1 (by assumption)) | exact OF_skip ‹OF k 3 (bfold (candF s d0) (valF s SL 2 d0 t) (lstF s SL 2 d0 t) i) sum ln bl g ln2 bl2 g2› (cand_f2 hd hd2 (by assumption)) | exact OF_step (by omega) ‹OF k 3 (bfold (candF s d0) (valF s SL 2 d0 t) (lstF s SL 2 d0 t) i) sum ln bl g ln2 bl2 g2› (cand_t hd hd2 (by assumption) (by assumption)) rfl rfl (by assumption)) rfl _ (by first | omega | rfl | (simp [c1, c12, c14]; done)) _ (by first | omega | rfl | (simp [c1, c12, c14]; done)) _ (by first | omega | rfl | (simp [c1, c12, c14]; done)) _ (by first | omega | rfl | (simp [c1, c12, c14]; done)) _ _
          · skip
            refine v_iload_n hG dX12_ordersFrom_74 rfl 2 rfl ?_
            refine v_iload hG dX12_ordersFrom_75 6 rfl ?_
            refine v_ishr hG dX12_ordersFrom_77 (by omega) (by omega) ?_
            refine v_iconst hG dX12_ordersFrom_78 ?_
            refine v_iand hG dX12_ordersFrom_79 ?_
            refine v_if_ne (tgt := 133) hG dX12_ordersFrom_80 (by decide) (by omega) (fun c15 => ?_) (fun c15 => ?_)
            · skip
              refine v_iinc (lo' := [(6, vI ((i : Int) + 1)), (0, .ref (a 0)), (1, vI k), (2, vI dn), (3, vI many), (4, vI t), (5, vI sum)]) hG dX12_ordersFrom_133 6 rfl (by decide) rfl ?_
              refine v_goto (tgt := 53) hG dX12_ordersFrom_136 (by decide) ?_
              refine v_lo [1, 2, 3, 4, 5, 6, 0] (lo' := [(0, .ref (a 0)), (1, vI k), (2, vI dn), (3, vI many), (4, vI t), (5, vI sum), (6, vI ((i : Int) + 1))]) rfl ?_
              exact ihL8 _ (by omega) (i + 1) ln2 bl2 g2 (by omega) (by first | exact OF_skip ‹OF k 3 (bfold (candF s d0) (valF s SL 2 d0 t) (lstF s SL 2 d0 t) i) sum ln bl g ln2 bl2 g2› (cand_f1 (by assumption)) | exact OF_skip ‹OF k 3 (bfold (candF s d0) (valF s SL 2 d0 t) (lstF s SL 2 d0 t) i) sum ln bl g ln2 bl2 g2› (cand_f2 hd hd2 (by assumption)) | exact OF_step (by omega) ‹OF k 3 (bfold (candF s d0) (valF s SL 2 d0 t) (lstF s SL 2 d0 t) i) sum ln bl g ln2 bl2 g2› (cand_t hd hd2 (by assumption) (by assumption)) rfl rfl (by assumption)) rfl _ (by first | omega | rfl | (simp [c1, c12, c14, c15]; done)) _ (by first | omega | rfl | (simp [c1, c12, c14, c15]; done)) _ (by first | omega | rfl | (simp [c1, c12, c14, c15]; done)) _ (by first | omega | rfl | (simp [c1, c12, c14, c15]; done)) _ _
            · skip
              refine v_aload_n hG dX12_ordersFrom_83 rfl 0 rfl ?_
              refine mg_line hG dX12_ordersFrom_84 ?_
              refine v_iload_n hG dX12_ordersFrom_87 rfl 1 rfl ?_
              refine v_iload hG dX12_ordersFrom_88 6 rfl ?_
              refine ms_line hG dX12_ordersFrom_90 (by omega) ?_
              refine v_aload_n hG dX12_ordersFrom_91 rfl 0 rfl ?_
              refine v_iload_n hG dX12_ordersFrom_92 rfl 1 rfl ?_
              refine v_iconst hG dX12_ordersFrom_93 ?_
              refine v_iadd hG dX12_ordersFrom_94 ?_
              refine v_iload_n hG dX12_ordersFrom_95 rfl 2 rfl ?_
              refine v_iconst hG dX12_ordersFrom_96 ?_
              refine v_iload hG dX12_ordersFrom_97 6 rfl ?_
              refine v_ishl hG dX12_ordersFrom_99 (by omega) ?_
              refine v_ior hG dX12_ordersFrom_100 ?_
              refine v_iload_n hG dX12_ordersFrom_101 rfl 3 rfl ?_
              refine v_iload hG dX12_ordersFrom_102 4 rfl ?_
              refine v_aload_n hG dX12_ordersFrom_104 rfl 0 rfl ?_
              refine v_iload hG dX12_ordersFrom_105 6 rfl ?_
              refine v_callV (k1' := 0) (k2' := 0) hG dX12_ordersFrom_107 zc_X12_needsOf ⟨zl_X12_157, zi_X12_needsOf, zs_X12_needsOf⟩ (fun l => k_needsOf l D A a s im fr x6 x7 (sU ln2 k (i : Int)) bl2 bo g2 lg (i : Int) (by omega) (by first | assumption | (exact hM _ (by omega) (by omega)))) rfl mw_recv (fun _ h => h) ⟨by decide, by decide⟩ rfl rfl ⟨by decide, by decide⟩ (rest := [vI t, vI many, vI (ior dn (1 * 2 ^ (i : Int).toNat)), vI (k + 1), .ref (a 0)]) rfl (Nat.le_of_ble_eq_true rfl) (fun u16 => [vI (q_needs s (i : Int)), vI t, vI many, vI (ior dn (1 * 2 ^ (i : Int).toNat)), vI (k + 1), .ref (a 0)]) (fun _ => rfl) (fun u16 hu16 => ?_)
              have fu16 : 0 ≤ q_needs s (i : Int) ∧ q_needs s (i : Int) ≤ 180 := hu16
              refine v_iconst hG dX12_ordersFrom_110 ?_
              refine v_idiv hG dX12_ordersFrom_111 (by omega) (by omega) ?_
              refine v_iadd hG dX12_ordersFrom_112 ?_
              refine v_iconst hG dX12_ordersFrom_113 ?_
              refine v_bipush hG dX12_ordersFrom_114 (by decide) ?_
              refine v_callS (k1' := 0) (k2' := 0) hG dX12_ordersFrom_116 zc_X12_within ⟨zl_X12_130, zt_X12_within⟩ (fun l => k_within l D A (MW D A a s im fr x6 x7 (sU ln2 k (i : Int)) bl2 bo g2 lg) (t + ((q_needs s (i : Int)) / 2)) 0 99 (by omega) (by omega) (by omega)) rfl (fun _ h => h) ⟨by decide, by decide⟩ rfl rfl ⟨by decide, by decide⟩ (rest := [vI many, vI (ior dn (1 * 2 ^ (i : Int).toNat)), vI (k + 1), .ref (a 0)]) rfl (Nat.le_of_ble_eq_true rfl) (fun u17 => [vI (clamp (t + ((q_needs s (i : Int)) / 2)) 0 99), vI many, vI (ior dn (1 * 2 ^ (i : Int).toNat)), vI (k + 1), .ref (a 0)]) (fun _ => rfl) (fun u17 hu17 => ?_)
              refine v_iload hG dX12_ordersFrom_119 5 rfl ?_
              refine v_aload_n hG dX12_ordersFrom_121 rfl 0 rfl ?_
              refine v_iload hG dX12_ordersFrom_122 6 rfl ?_
              refine v_iload hG dX12_ordersFrom_124 4 rfl ?_
              refine v_callV (k1' := 0) (k2' := 0) hG dX12_ordersFrom_126 zc_X12_riskBy ⟨zl_X12_134, zi_X12_riskBy, zs_X12_riskBy⟩ (fun l => k_riskBy l D A a s im fr x6 x7 (sU ln2 k (i : Int)) bl2 bo g2 lg (i : Int) t SL (by omega) (by first | assumption | (exact hM _ (by omega) (by omega))) (by assumption) (by omega)) rfl mw_recv (fun _ h => h) ⟨by decide, by decide⟩ rfl rfl ⟨by decide, by decide⟩ (rest := [vI sum, vI (clamp (t + ((q_needs s (i : Int)) / 2)) 0 99), vI many, vI (ior dn (1 * 2 ^ (i : Int).toNat)), vI (k + 1), .ref (a 0)]) rfl (Nat.le_of_ble_eq_true rfl) (fun u18 => [vI (q_risk s SL (i : Int) t), vI sum, vI (clamp (t + ((q_needs s (i : Int)) / 2)) 0 99), vI many, vI (ior dn (1 * 2 ^ (i : Int).toNat)), vI (k + 1), .ref (a 0)]) (fun _ => rfl) (fun u18 hu18 => ?_)
              have fu18 : 0 ≤ q_risk s SL (i : Int) t ∧ q_risk s SL (i : Int) t ≤ 99 := hu18
              refine v_iadd hG dX12_ordersFrom_129 ?_
              refine v_callV (k1' := 0) (k2' := 0) hG dX12_ordersFrom_130 zc_X12_ordersFrom ⟨zl_X12_206, zi_X12_ordersFrom, zs_X12_ordersFrom⟩ (fun l => k_ordersFrom2 l D A a s im fr u18.1 u18.2 (sU ln2 k (i : Int)) bl2 bo g2 lg (k + 1) (ior dn (1 * 2 ^ (i : Int).toNat)) many (clamp (t + ((q_needs s (i : Int)) / 2)) 0 99) (sum + (q_risk s SL (i : Int) t)) SL (d0 ||| 2 ^ i) (by omega) (by omega) (by exact clamp_rng _ (by omega)) (by omega) (by exact or_v hd hd2 (by omega)) (by exact or_up hd2 (by omega)) (by exact hor) (by assumption) (by assumption) (by assumption)) rfl mw_recv (fun _ h => h) ⟨by decide, by decide⟩ rfl rfl ⟨by decide, by decide⟩ (rest := []) rfl (Nat.le_of_ble_eq_true rfl) (fun u19 => []) (fun _ => rfl) (fun u19 hu19 => ?_)
              have fu19 : OF (k + 1) 2 (opt s SL 2 (d0 ||| 2 ^ i) (clamp (t + ((q_needs s (i : Int)) / 2)) 0 99)) (sum + (q_risk s SL (i : Int) t)) (sU ln2 k (i : Int)) bl2 g2 u19.1 u19.2.1 u19.2.2.1 := hu19
              refine v_iinc (lo' := [(6, vI ((i : Int) + 1)), (0, .ref (a 0)), (1, vI k), (2, vI dn), (3, vI many), (4, vI t), (5, vI sum)]) hG dX12_ordersFrom_133 6 rfl (by decide) rfl ?_
              refine v_goto (tgt := 53) hG dX12_ordersFrom_136 (by decide) ?_
              refine v_lo [1, 2, 3, 4, 5, 6, 0] (lo' := [(0, .ref (a 0)), (1, vI k), (2, vI dn), (3, vI many), (4, vI t), (5, vI sum), (6, vI ((i : Int) + 1))]) rfl ?_
              exact ihL8 _ (by omega) (i + 1) u19.1 u19.2.1 u19.2.2.1 (by omega) (by first | exact OF_skip ‹OF k 3 (bfold (candF s d0) (valF s SL 2 d0 t) (lstF s SL 2 d0 t) i) sum ln bl g ln2 bl2 g2› (cand_f1 (by assumption)) | exact OF_skip ‹OF k 3 (bfold (candF s d0) (valF s SL 2 d0 t) (lstF s SL 2 d0 t) i) sum ln bl g ln2 bl2 g2› (cand_f2 hd hd2 (by assumption)) | exact OF_step (by omega) ‹OF k 3 (bfold (candF s d0) (valF s SL 2 d0 t) (lstF s SL 2 d0 t) i) sum ln bl g ln2 bl2 g2› (cand_t hd hd2 (by assumption) (by assumption)) rfl rfl (by assumption)) rfl _ (by first | omega | rfl | (simp [c1, c12, c14, c15]; done)) _ (by first | omega | rfl | (simp [c1, c12, c14, c15]; done)) _ (by first | omega | rfl | (simp [c1, c12, c14, c15]; done)) _ (by first | omega | rfl | (simp [c1, c12, c14, c15]; done)) _ _
    exact L8 _ 0 ln bl g (by omega) (by exact OF_no (by show g 7 ≤ sum + 1000000000; omega)) rfl _ (by first | omega | rfl | (simp [c1]; done)) _ (by first | omega | rfl | (simp [c1]; done)) _ (by first | omega | rfl | (simp [c1]; done)) _ (by first | omega | rfl | (simp [c1]; done)) _ _
  · skip
    exfalso; omega
set_option maxHeartbeats 4000000 in
set_option maxRecDepth 100000 in
theorem k_ordersFrom4 (l : Launch) (D : Dx) (A : Nat → Prop) (a : Nat → Nat) (s im fr bY tr ln bl bo g lg : Int → Int) (k : Int) (dn : Int) (many : Int) (t : Int) (sum : Int) (SL : List Int) (d0 : Nat) (hk : 0 ≤ k ∧ k ≤ 6) (hmany : many = k + 4 ∧ many ≤ 6) (ht : 0 ≤ t ∧ t ≤ 99) (hsum : 0 ≤ sum ∧ sum ≤ 99 * k) (hd : dn = (d0 : Int)) (hd2 : d0 < 256) (hg7 : 0 ≤ g 7 ∧ g 7 ≤ 1000000) (hN : NM s) (hM : GM s) (hE : HE s SL) : CT l D A yX12_ordersFrom cX12_ordersFrom 7 none { frames := 7, cells := 0, slots := 0, locals := 184 } [.ref (a 0), vI k, vI dn, vI many, vI t, vI sum] (MW D A a s im fr bY tr ln bl bo g lg) (fun u : (Int → Int) × (Int → Int) × (Int → Int) × (Int → Int) × (Int → Int) => none) (fun u => OF k 4 (opt s SL 4 d0 t) sum ln bl g u.1 u.2.1 u.2.2.1) (fun u => MW D A a s im fr u.2.2.2.1 u.2.2.2.2 u.1 u.2.1 bo u.2.2.1 lg) := by
  refine ct_of (lo0 := [(0, .ref (a 0)), (1, vI k), (2, vI dn), (3, vI many), (4, vI t), (5, vI sum)]) (by decide) (Nat.le_of_ble_eq_true rfl) rfl ?_
  intro G hG hR
  have hN9 : 0 ≤ s 43 ∧ s 43 ≤ 8 := hN
  refine v_iload_n hG dX12_ordersFrom_0 rfl 1 rfl ?_
  refine v_iload_n hG dX12_ordersFrom_1 rfl 3 rfl ?_
  refine v_icmp_ne (tgt := 50) hG dX12_ordersFrom_2 (by decide) (by omega) (by omega) (fun c1 => ?_) (fun c1 => ?_)
  · skip
    refine v_iconst hG dX12_ordersFrom_50 ?_
    refine v_istore (lo' := [(6, vI 0), (0, .ref (a 0)), (1, vI k), (2, vI dn), (3, vI many), (4, vI t), (5, vI sum)]) hG dX12_ordersFrom_51 (by decide) rfl ?_
    refine v_lo [1, 2, 3, 4, 5, 6, 0] (lo' := [(0, .ref (a 0)), (1, vI k), (2, vI dn), (3, vI many), (4, vI t), (5, vI sum), (6, vI 0)]) rfl ?_
    have L8 : ∀ mz : Nat, ∀ (i : Nat) (ln2 bl2 g2 : Int → Int), ((i : Int) ≤ s 43) → (OF k 4 (bfold (candF s d0) (valF s SL 3 d0 t) (lstF s SL 3 d0 t) i) sum ln bl g ln2 bl2 g2) → (s 43 - (i : Int)).toNat = mz → ∀ x2 : Int, x2 = ((i : Int)) → ∀ x3 : Int → Int, x3 = (ln2) → ∀ x4 : Int → Int, x4 = (bl2) → ∀ x5 : Int → Int, x5 = (g2) → ∀ x6 : Int → Int, ∀ x7 : Int → Int, V G 0 0 (MW D A a s im fr x6 x7 x3 x4 bo x5 lg) 53 [(0, .ref (a 0)), (1, vI k), (2, vI dn), (3, vI many), (4, vI t), (5, vI sum), (6, vI x2)] [] := by
      intro dL8
      induction dL8 using Nat.strongRecOn with
      | ind dL8 ihL8 =>
        intro i ln2 bl2 g2 h9 h10 h11
        intro x2 hx2
        subst hx2
        intro x3 hx3
        replace hx3 := hx3.symm
        subst hx3
        intro x4 hx4
        replace hx4 := hx4.symm
        subst hx4
        intro x5 hx5
        replace hx5 := hx5.symm
        subst hx5
        intro x6
        intro x7
        refine v_iload hG dX12_ordersFrom_53 6 rfl ?_
        refine v_aload_n hG dX12_ordersFrom_55 rfl 0 rfl ?_
        refine mg_s hG dX12_ordersFrom_56 ?_
        refine v_bipush hG dX12_ordersFrom_59 (by decide) ?_
        refine ma_s (z := s 43) hG dX12_ordersFrom_61 (by omega) rfl ?_
        refine v_icmp_ge (tgt := 139) hG dX12_ordersFrom_62 (by decide) (by omega) (by omega) (fun c12 => ?_) (fun c12 => ?_)
        · skip
          exact v_return hG hR dX12_ordersFrom_139 (ln2, bl2, g2, x6, x7) rfl (by have hi9 : i = (s 43).toNat := (by omega); have h9 := ‹OF k 4 (bfold (candF s d0) (valF s SL 3 d0 t) (lstF s SL 3 d0 t) i) sum ln bl g ln2 bl2 g2›; rw [hi9] at h9; exact h9) (fun _ hM => hM)
        · skip
          have hor := OF_rng ‹OF k 4 (bfold (candF s d0) (valF s SL 3 d0 t) (lstF s SL 3 d0 t) i) sum ln bl g ln2 bl2 g2› (by omega) (bfold_pos (fun q => by have := q_risk_rng s SL q t; have := opt_pos s SL 3 (d0 ||| 2 ^ q) (clamp (t + q_needs s q / 2) 0 99); unfold valF; omega) _) (by omega)
          have hsh := sh_rng (x := dn) (k := i) (by omega)
          have hi1 := iand1_rng hsh
          refine v_aload_n hG dX12_ordersFrom_65 rfl 0 rfl ?_
          refine v_iload hG dX12_ordersFrom_66 6 rfl ?_
          refine v_callV (k1' := 0) (k2' := 0) hG dX12_ordersFrom_68 zc_X12_isCut ⟨zl_X12_137, zi_X12_isCut, zs_X12_isCut⟩ (fun l => k_isCut l D A a s im fr x6 x7 ln2 bl2 bo g2 lg (i : Int) (by omega) (by first | exact hm.2.2.2.2.1 | exact (hM _ (by omega) (by omega)).2.2.2.2.1 | omega)) rfl mw_recv (fun _ h => h) ⟨by decide, by decide⟩ rfl rfl ⟨by decide, by decide⟩ (rest := []) rfl (Nat.le_of_ble_eq_true rfl) (fun u13 => [vI (bi (s (11 + (i : Int)) = 1))]) (fun _ => rfl) (fun u13 hu13 => ?_)
          refine v_ifb_ne (p := s (11 + (i : Int)) = 1) (tgt := 133) hG dX12_ordersFrom_71 (by decide) (fun c14 => ?_) (fun c14 => ?_)
          · skip
            refine v_iinc (lo' := [(6, vI ((i : Int) + 1)), (0, .ref (a 0)), (1, vI k), (2, vI dn), (3, vI many), (4, vI t), (5, vI sum)]) hG dX12_ordersFrom_133 6 rfl (by decide) rfl ?_
            refine v_goto (tgt := 53) hG dX12_ordersFrom_136 (by decide) ?_
            refine v_lo [1, 2, 3, 4, 5, 6, 0] (lo' := [(0, .ref (a 0)), (1, vI k), (2, vI dn), (3, vI many), (4, vI t), (5, vI sum), (6, vI ((i : Int) + 1))]) rfl ?_
            exact ihL8 _ (by omega) (i + 1) ln2 bl2 g2 (by omega) (by first | exact OF_skip ‹OF k 4 (bfold (candF s d0) (valF s SL 3 d0 t) (lstF s SL 3 d0 t) i) sum ln bl g ln2 bl2 g2› (cand_f1 (by assumption)) | exact OF_skip ‹OF k 4 (bfold (candF s d0) (valF s SL 3 d0 t) (lstF s SL 3 d0 t) i) sum ln bl g ln2 bl2 g2› (cand_f2 hd hd2 (by assumption)) | exact OF_step (by omega) ‹OF k 4 (bfold (candF s d0) (valF s SL 3 d0 t) (lstF s SL 3 d0 t) i) sum ln bl g ln2 bl2 g2› (cand_t hd hd2 (by assumption) (by assumption)) rfl rfl (by assumption)) rfl _ (by first | omega | rfl | (simp [c1, c12, c14]; done)) _ (by first | omega | rfl | (simp [c1, c12, c14]; done)) _ (by first | omega | rfl | (simp [c1, c12, c14]; done)) _ (by first | omega | rfl | (simp [c1, c12, c14]; done)) _ _
          · skip
            refine v_iload_n hG dX12_ordersFrom_74 rfl 2 rfl ?_
            refine v_iload hG dX12_ordersFrom_75 6 rfl ?_
            refine v_ishr hG dX12_ordersFrom_77 (by omega) (by omega) ?_
            refine v_iconst hG dX12_ordersFrom_78 ?_
            refine v_iand hG dX12_ordersFrom_79 ?_
            refine v_if_ne (tgt := 133) hG dX12_ordersFrom_80 (by decide) (by omega) (fun c15 => ?_) (fun c15 => ?_)
            · skip
              refine v_iinc (lo' := [(6, vI ((i : Int) + 1)), (0, .ref (a 0)), (1, vI k), (2, vI dn), (3, vI many), (4, vI t), (5, vI sum)]) hG dX12_ordersFrom_133 6 rfl (by decide) rfl ?_
              refine v_goto (tgt := 53) hG dX12_ordersFrom_136 (by decide) ?_
              refine v_lo [1, 2, 3, 4, 5, 6, 0] (lo' := [(0, .ref (a 0)), (1, vI k), (2, vI dn), (3, vI many), (4, vI t), (5, vI sum), (6, vI ((i : Int) + 1))]) rfl ?_
              exact ihL8 _ (by omega) (i + 1) ln2 bl2 g2 (by omega) (by first | exact OF_skip ‹OF k 4 (bfold (candF s d0) (valF s SL 3 d0 t) (lstF s SL 3 d0 t) i) sum ln bl g ln2 bl2 g2› (cand_f1 (by assumption)) | exact OF_skip ‹OF k 4 (bfold (candF s d0) (valF s SL 3 d0 t) (lstF s SL 3 d0 t) i) sum ln bl g ln2 bl2 g2› (cand_f2 hd hd2 (by assumption)) | exact OF_step (by omega) ‹OF k 4 (bfold (candF s d0) (valF s SL 3 d0 t) (lstF s SL 3 d0 t) i) sum ln bl g ln2 bl2 g2› (cand_t hd hd2 (by assumption) (by assumption)) rfl rfl (by assumption)) rfl _ (by first | omega | rfl | (simp [c1, c12, c14, c15]; done)) _ (by first | omega | rfl | (simp [c1, c12, c14, c15]; done)) _ (by first | omega | rfl | (simp [c1, c12, c14, c15]; done)) _ (by first | omega | rfl | (simp [c1, c12, c14, c15]; done)) _ _
            · skip
              refine v_aload_n hG dX12_ordersFrom_83 rfl 0 rfl ?_
              refine mg_line hG dX12_ordersFrom_84 ?_
              refine v_iload_n hG dX12_ordersFrom_87 rfl 1 rfl ?_
              refine v_iload hG dX12_ordersFrom_88 6 rfl ?_
              refine ms_line hG dX12_ordersFrom_90 (by omega) ?_
              refine v_aload_n hG dX12_ordersFrom_91 rfl 0 rfl ?_
              refine v_iload_n hG dX12_ordersFrom_92 rfl 1 rfl ?_
              refine v_iconst hG dX12_ordersFrom_93 ?_
              refine v_iadd hG dX12_ordersFrom_94 ?_
              refine v_iload_n hG dX12_ordersFrom_95 rfl 2 rfl ?_
              refine v_iconst hG dX12_ordersFrom_96 ?_
              refine v_iload hG dX12_ordersFrom_97 6 rfl ?_
              refine v_ishl hG dX12_ordersFrom_99 (by omega) ?_
              refine v_ior hG dX12_ordersFrom_100 ?_
              refine v_iload_n hG dX12_ordersFrom_101 rfl 3 rfl ?_
              refine v_iload hG dX12_ordersFrom_102 4 rfl ?_
              refine v_aload_n hG dX12_ordersFrom_104 rfl 0 rfl ?_
              refine v_iload hG dX12_ordersFrom_105 6 rfl ?_
              refine v_callV (k1' := 0) (k2' := 0) hG dX12_ordersFrom_107 zc_X12_needsOf ⟨zl_X12_157, zi_X12_needsOf, zs_X12_needsOf⟩ (fun l => k_needsOf l D A a s im fr x6 x7 (sU ln2 k (i : Int)) bl2 bo g2 lg (i : Int) (by omega) (by first | assumption | (exact hM _ (by omega) (by omega)))) rfl mw_recv (fun _ h => h) ⟨by decide, by decide⟩ rfl rfl ⟨by decide, by decide⟩ (rest := [vI t, vI many, vI (ior dn (1 * 2 ^ (i : Int).toNat)), vI (k + 1), .ref (a 0)]) rfl (Nat.le_of_ble_eq_true rfl) (fun u16 => [vI (q_needs s (i : Int)), vI t, vI many, vI (ior dn (1 * 2 ^ (i : Int).toNat)), vI (k + 1), .ref (a 0)]) (fun _ => rfl) (fun u16 hu16 => ?_)
              have fu16 : 0 ≤ q_needs s (i : Int) ∧ q_needs s (i : Int) ≤ 180 := hu16
              refine v_iconst hG dX12_ordersFrom_110 ?_
              refine v_idiv hG dX12_ordersFrom_111 (by omega) (by omega) ?_
              refine v_iadd hG dX12_ordersFrom_112 ?_
              refine v_iconst hG dX12_ordersFrom_113 ?_
              refine v_bipush hG dX12_ordersFrom_114 (by decide) ?_
              refine v_callS (k1' := 0) (k2' := 0) hG dX12_ordersFrom_116 zc_X12_within ⟨zl_X12_130, zt_X12_within⟩ (fun l => k_within l D A (MW D A a s im fr x6 x7 (sU ln2 k (i : Int)) bl2 bo g2 lg) (t + ((q_needs s (i : Int)) / 2)) 0 99 (by omega) (by omega) (by omega)) rfl (fun _ h => h) ⟨by decide, by decide⟩ rfl rfl ⟨by decide, by decide⟩ (rest := [vI many, vI (ior dn (1 * 2 ^ (i : Int).toNat)), vI (k + 1), .ref (a 0)]) rfl (Nat.le_of_ble_eq_true rfl) (fun u17 => [vI (clamp (t + ((q_needs s (i : Int)) / 2)) 0 99), vI many, vI (ior dn (1 * 2 ^ (i : Int).toNat)), vI (k + 1), .ref (a 0)]) (fun _ => rfl) (fun u17 hu17 => ?_)
              refine v_iload hG dX12_ordersFrom_119 5 rfl ?_
              refine v_aload_n hG dX12_ordersFrom_121 rfl 0 rfl ?_
              refine v_iload hG dX12_ordersFrom_122 6 rfl ?_
              refine v_iload hG dX12_ordersFrom_124 4 rfl ?_
              refine v_callV (k1' := 0) (k2' := 0) hG dX12_ordersFrom_126 zc_X12_riskBy ⟨zl_X12_134, zi_X12_riskBy, zs_X12_riskBy⟩ (fun l => k_riskBy l D A a s im fr x6 x7 (sU ln2 k (i : Int)) bl2 bo g2 lg (i : Int) t SL (by omega) (by first | assumption | (exact hM _ (by omega) (by omega))) (by assumption) (by omega)) rfl mw_recv (fun _ h => h) ⟨by decide, by decide⟩ rfl rfl ⟨by decide, by decide⟩ (rest := [vI sum, vI (clamp (t + ((q_needs s (i : Int)) / 2)) 0 99), vI many, vI (ior dn (1 * 2 ^ (i : Int).toNat)), vI (k + 1), .ref (a 0)]) rfl (Nat.le_of_ble_eq_true rfl) (fun u18 => [vI (q_risk s SL (i : Int) t), vI sum, vI (clamp (t + ((q_needs s (i : Int)) / 2)) 0 99), vI many, vI (ior dn (1 * 2 ^ (i : Int).toNat)), vI (k + 1), .ref (a 0)]) (fun _ => rfl) (fun u18 hu18 => ?_)
              have fu18 : 0 ≤ q_risk s SL (i : Int) t ∧ q_risk s SL (i : Int) t ≤ 99 := hu18
              refine v_iadd hG dX12_ordersFrom_129 ?_
              refine v_callV (k1' := 0) (k2' := 0) hG dX12_ordersFrom_130 zc_X12_ordersFrom ⟨zl_X12_206, zi_X12_ordersFrom, zs_X12_ordersFrom⟩ (fun l => k_ordersFrom3 l D A a s im fr u18.1 u18.2 (sU ln2 k (i : Int)) bl2 bo g2 lg (k + 1) (ior dn (1 * 2 ^ (i : Int).toNat)) many (clamp (t + ((q_needs s (i : Int)) / 2)) 0 99) (sum + (q_risk s SL (i : Int) t)) SL (d0 ||| 2 ^ i) (by omega) (by omega) (by exact clamp_rng _ (by omega)) (by omega) (by exact or_v hd hd2 (by omega)) (by exact or_up hd2 (by omega)) (by exact hor) (by assumption) (by assumption) (by assumption)) rfl mw_recv (fun _ h => h) ⟨by decide, by decide⟩ rfl rfl ⟨by decide, by decide⟩ (rest := []) rfl (Nat.le_of_ble_eq_true rfl) (fun u19 => []) (fun _ => rfl) (fun u19 hu19 => ?_)
              have fu19 : OF (k + 1) 3 (opt s SL 3 (d0 ||| 2 ^ i) (clamp (t + ((q_needs s (i : Int)) / 2)) 0 99)) (sum + (q_risk s SL (i : Int) t)) (sU ln2 k (i : Int)) bl2 g2 u19.1 u19.2.1 u19.2.2.1 := hu19
              refine v_iinc (lo' := [(6, vI ((i : Int) + 1)), (0, .ref (a 0)), (1, vI k), (2, vI dn), (3, vI many), (4, vI t), (5, vI sum)]) hG dX12_ordersFrom_133 6 rfl (by decide) rfl ?_
              refine v_goto (tgt := 53) hG dX12_ordersFrom_136 (by decide) ?_
              refine v_lo [1, 2, 3, 4, 5, 6, 0] (lo' := [(0, .ref (a 0)), (1, vI k), (2, vI dn), (3, vI many), (4, vI t), (5, vI sum), (6, vI ((i : Int) + 1))]) rfl ?_
              exact ihL8 _ (by omega) (i + 1) u19.1 u19.2.1 u19.2.2.1 (by omega) (by first | exact OF_skip ‹OF k 4 (bfold (candF s d0) (valF s SL 3 d0 t) (lstF s SL 3 d0 t) i) sum ln bl g ln2 bl2 g2› (cand_f1 (by assumption)) | exact OF_skip ‹OF k 4 (bfold (candF s d0) (valF s SL 3 d0 t) (lstF s SL 3 d0 t) i) sum ln bl g ln2 bl2 g2› (cand_f2 hd hd2 (by assumption)) | exact OF_step (by omega) ‹OF k 4 (bfold (candF s d0) (valF s SL 3 d0 t) (lstF s SL 3 d0 t) i) sum ln bl g ln2 bl2 g2› (cand_t hd hd2 (by assumption) (by assumption)) rfl rfl (by assumption)) rfl _ (by first | omega | rfl | (simp [c1, c12, c14, c15]; done)) _ (by first | omega | rfl | (simp [c1, c12, c14, c15]; done)) _ (by first | omega | rfl | (simp [c1, c12, c14, c15]; done)) _ (by first | omega | rfl | (simp [c1, c12, c14, c15]; done)) _ _
    exact L8 _ 0 ln bl g (by omega) (by exact OF_no (by show g 7 ≤ sum + 1000000000; omega)) rfl _ (by first | omega | rfl | (simp [c1]; done)) _ (by first | omega | rfl | (simp [c1]; done)) _ (by first | omega | rfl | (simp [c1]; done)) _ (by first | omega | rfl | (simp [c1]; done)) _ _
  · skip
    exfalso; omega
set_option maxHeartbeats 4000000 in
set_option maxRecDepth 100000 in
theorem k_ordersFrom5 (l : Launch) (D : Dx) (A : Nat → Prop) (a : Nat → Nat) (s im fr bY tr ln bl bo g lg : Int → Int) (k : Int) (dn : Int) (many : Int) (t : Int) (sum : Int) (SL : List Int) (d0 : Nat) (hk : 0 ≤ k ∧ k ≤ 6) (hmany : many = k + 5 ∧ many ≤ 6) (ht : 0 ≤ t ∧ t ≤ 99) (hsum : 0 ≤ sum ∧ sum ≤ 99 * k) (hd : dn = (d0 : Int)) (hd2 : d0 < 256) (hg7 : 0 ≤ g 7 ∧ g 7 ≤ 1000000) (hN : NM s) (hM : GM s) (hE : HE s SL) : CT l D A yX12_ordersFrom cX12_ordersFrom 7 none { frames := 8, cells := 0, slots := 0, locals := 210 } [.ref (a 0), vI k, vI dn, vI many, vI t, vI sum] (MW D A a s im fr bY tr ln bl bo g lg) (fun u : (Int → Int) × (Int → Int) × (Int → Int) × (Int → Int) × (Int → Int) => none) (fun u => OF k 5 (opt s SL 5 d0 t) sum ln bl g u.1 u.2.1 u.2.2.1) (fun u => MW D A a s im fr u.2.2.2.1 u.2.2.2.2 u.1 u.2.1 bo u.2.2.1 lg) := by
  refine ct_of (lo0 := [(0, .ref (a 0)), (1, vI k), (2, vI dn), (3, vI many), (4, vI t), (5, vI sum)]) (by decide) (Nat.le_of_ble_eq_true rfl) rfl ?_
  intro G hG hR
  have hN9 : 0 ≤ s 43 ∧ s 43 ≤ 8 := hN
  refine v_iload_n hG dX12_ordersFrom_0 rfl 1 rfl ?_
  refine v_iload_n hG dX12_ordersFrom_1 rfl 3 rfl ?_
  refine v_icmp_ne (tgt := 50) hG dX12_ordersFrom_2 (by decide) (by omega) (by omega) (fun c1 => ?_) (fun c1 => ?_)
  · skip
    refine v_iconst hG dX12_ordersFrom_50 ?_
    refine v_istore (lo' := [(6, vI 0), (0, .ref (a 0)), (1, vI k), (2, vI dn), (3, vI many), (4, vI t), (5, vI sum)]) hG dX12_ordersFrom_51 (by decide) rfl ?_
    refine v_lo [1, 2, 3, 4, 5, 6, 0] (lo' := [(0, .ref (a 0)), (1, vI k), (2, vI dn), (3, vI many), (4, vI t), (5, vI sum), (6, vI 0)]) rfl ?_
    have L8 : ∀ mz : Nat, ∀ (i : Nat) (ln2 bl2 g2 : Int → Int), ((i : Int) ≤ s 43) → (OF k 5 (bfold (candF s d0) (valF s SL 4 d0 t) (lstF s SL 4 d0 t) i) sum ln bl g ln2 bl2 g2) → (s 43 - (i : Int)).toNat = mz → ∀ x2 : Int, x2 = ((i : Int)) → ∀ x3 : Int → Int, x3 = (ln2) → ∀ x4 : Int → Int, x4 = (bl2) → ∀ x5 : Int → Int, x5 = (g2) → ∀ x6 : Int → Int, ∀ x7 : Int → Int, V G 0 0 (MW D A a s im fr x6 x7 x3 x4 bo x5 lg) 53 [(0, .ref (a 0)), (1, vI k), (2, vI dn), (3, vI many), (4, vI t), (5, vI sum), (6, vI x2)] [] := by
      intro dL8
      induction dL8 using Nat.strongRecOn with
      | ind dL8 ihL8 =>
        intro i ln2 bl2 g2 h9 h10 h11
        intro x2 hx2
        subst hx2
        intro x3 hx3
        replace hx3 := hx3.symm
        subst hx3
        intro x4 hx4
        replace hx4 := hx4.symm
        subst hx4
        intro x5 hx5
        replace hx5 := hx5.symm
        subst hx5
        intro x6
        intro x7
        refine v_iload hG dX12_ordersFrom_53 6 rfl ?_
        refine v_aload_n hG dX12_ordersFrom_55 rfl 0 rfl ?_
        refine mg_s hG dX12_ordersFrom_56 ?_
        refine v_bipush hG dX12_ordersFrom_59 (by decide) ?_
        refine ma_s (z := s 43) hG dX12_ordersFrom_61 (by omega) rfl ?_
        refine v_icmp_ge (tgt := 139) hG dX12_ordersFrom_62 (by decide) (by omega) (by omega) (fun c12 => ?_) (fun c12 => ?_)
        · skip
          exact v_return hG hR dX12_ordersFrom_139 (ln2, bl2, g2, x6, x7) rfl (by have hi9 : i = (s 43).toNat := (by omega); have h9 := ‹OF k 5 (bfold (candF s d0) (valF s SL 4 d0 t) (lstF s SL 4 d0 t) i) sum ln bl g ln2 bl2 g2›; rw [hi9] at h9; exact h9) (fun _ hM => hM)
        · skip
          have hor := OF_rng ‹OF k 5 (bfold (candF s d0) (valF s SL 4 d0 t) (lstF s SL 4 d0 t) i) sum ln bl g ln2 bl2 g2› (by omega) (bfold_pos (fun q => by have := q_risk_rng s SL q t; have := opt_pos s SL 4 (d0 ||| 2 ^ q) (clamp (t + q_needs s q / 2) 0 99); unfold valF; omega) _) (by omega)
          have hsh := sh_rng (x := dn) (k := i) (by omega)
          have hi1 := iand1_rng hsh
          refine v_aload_n hG dX12_ordersFrom_65 rfl 0 rfl ?_
          refine v_iload hG dX12_ordersFrom_66 6 rfl ?_
          refine v_callV (k1' := 0) (k2' := 0) hG dX12_ordersFrom_68 zc_X12_isCut ⟨zl_X12_137, zi_X12_isCut, zs_X12_isCut⟩ (fun l => k_isCut l D A a s im fr x6 x7 ln2 bl2 bo g2 lg (i : Int) (by omega) (by first | exact hm.2.2.2.2.1 | exact (hM _ (by omega) (by omega)).2.2.2.2.1 | omega)) rfl mw_recv (fun _ h => h) ⟨by decide, by decide⟩ rfl rfl ⟨by decide, by decide⟩ (rest := []) rfl (Nat.le_of_ble_eq_true rfl) (fun u13 => [vI (bi (s (11 + (i : Int)) = 1))]) (fun _ => rfl) (fun u13 hu13 => ?_)
          refine v_ifb_ne (p := s (11 + (i : Int)) = 1) (tgt := 133) hG dX12_ordersFrom_71 (by decide) (fun c14 => ?_) (fun c14 => ?_)
          · skip
            refine v_iinc (lo' := [(6, vI ((i : Int) + 1)), (0, .ref (a 0)), (1, vI k), (2, vI dn), (3, vI many), (4, vI t), (5, vI sum)]) hG dX12_ordersFrom_133 6 rfl (by decide) rfl ?_
            refine v_goto (tgt := 53) hG dX12_ordersFrom_136 (by decide) ?_
            refine v_lo [1, 2, 3, 4, 5, 6, 0] (lo' := [(0, .ref (a 0)), (1, vI k), (2, vI dn), (3, vI many), (4, vI t), (5, vI sum), (6, vI ((i : Int) + 1))]) rfl ?_
            exact ihL8 _ (by omega) (i + 1) ln2 bl2 g2 (by omega) (by first | exact OF_skip ‹OF k 5 (bfold (candF s d0) (valF s SL 4 d0 t) (lstF s SL 4 d0 t) i) sum ln bl g ln2 bl2 g2› (cand_f1 (by assumption)) | exact OF_skip ‹OF k 5 (bfold (candF s d0) (valF s SL 4 d0 t) (lstF s SL 4 d0 t) i) sum ln bl g ln2 bl2 g2› (cand_f2 hd hd2 (by assumption)) | exact OF_step (by omega) ‹OF k 5 (bfold (candF s d0) (valF s SL 4 d0 t) (lstF s SL 4 d0 t) i) sum ln bl g ln2 bl2 g2› (cand_t hd hd2 (by assumption) (by assumption)) rfl rfl (by assumption)) rfl _ (by first | omega | rfl | (simp [c1, c12, c14]; done)) _ (by first | omega | rfl | (simp [c1, c12, c14]; done)) _ (by first | omega | rfl | (simp [c1, c12, c14]; done)) _ (by first | omega | rfl | (simp [c1, c12, c14]; done)) _ _
          · skip
            refine v_iload_n hG dX12_ordersFrom_74 rfl 2 rfl ?_
            refine v_iload hG dX12_ordersFrom_75 6 rfl ?_
            refine v_ishr hG dX12_ordersFrom_77 (by omega) (by omega) ?_
            refine v_iconst hG dX12_ordersFrom_78 ?_
            refine v_iand hG dX12_ordersFrom_79 ?_
            refine v_if_ne (tgt := 133) hG dX12_ordersFrom_80 (by decide) (by omega) (fun c15 => ?_) (fun c15 => ?_)
            · skip
              refine v_iinc (lo' := [(6, vI ((i : Int) + 1)), (0, .ref (a 0)), (1, vI k), (2, vI dn), (3, vI many), (4, vI t), (5, vI sum)]) hG dX12_ordersFrom_133 6 rfl (by decide) rfl ?_
              refine v_goto (tgt := 53) hG dX12_ordersFrom_136 (by decide) ?_
              refine v_lo [1, 2, 3, 4, 5, 6, 0] (lo' := [(0, .ref (a 0)), (1, vI k), (2, vI dn), (3, vI many), (4, vI t), (5, vI sum), (6, vI ((i : Int) + 1))]) rfl ?_
              exact ihL8 _ (by omega) (i + 1) ln2 bl2 g2 (by omega) (by first | exact OF_skip ‹OF k 5 (bfold (candF s d0) (valF s SL 4 d0 t) (lstF s SL 4 d0 t) i) sum ln bl g ln2 bl2 g2› (cand_f1 (by assumption)) | exact OF_skip ‹OF k 5 (bfold (candF s d0) (valF s SL 4 d0 t) (lstF s SL 4 d0 t) i) sum ln bl g ln2 bl2 g2› (cand_f2 hd hd2 (by assumption)) | exact OF_step (by omega) ‹OF k 5 (bfold (candF s d0) (valF s SL 4 d0 t) (lstF s SL 4 d0 t) i) sum ln bl g ln2 bl2 g2› (cand_t hd hd2 (by assumption) (by assumption)) rfl rfl (by assumption)) rfl _ (by first | omega | rfl | (simp [c1, c12, c14, c15]; done)) _ (by first | omega | rfl | (simp [c1, c12, c14, c15]; done)) _ (by first | omega | rfl | (simp [c1, c12, c14, c15]; done)) _ (by first | omega | rfl | (simp [c1, c12, c14, c15]; done)) _ _
            · skip
              refine v_aload_n hG dX12_ordersFrom_83 rfl 0 rfl ?_
              refine mg_line hG dX12_ordersFrom_84 ?_
              refine v_iload_n hG dX12_ordersFrom_87 rfl 1 rfl ?_
              refine v_iload hG dX12_ordersFrom_88 6 rfl ?_
              refine ms_line hG dX12_ordersFrom_90 (by omega) ?_
              refine v_aload_n hG dX12_ordersFrom_91 rfl 0 rfl ?_
              refine v_iload_n hG dX12_ordersFrom_92 rfl 1 rfl ?_
              refine v_iconst hG dX12_ordersFrom_93 ?_
              refine v_iadd hG dX12_ordersFrom_94 ?_
              refine v_iload_n hG dX12_ordersFrom_95 rfl 2 rfl ?_
              refine v_iconst hG dX12_ordersFrom_96 ?_
              refine v_iload hG dX12_ordersFrom_97 6 rfl ?_
              refine v_ishl hG dX12_ordersFrom_99 (by omega) ?_
              refine v_ior hG dX12_ordersFrom_100 ?_
              refine v_iload_n hG dX12_ordersFrom_101 rfl 3 rfl ?_
              refine v_iload hG dX12_ordersFrom_102 4 rfl ?_
              refine v_aload_n hG dX12_ordersFrom_104 rfl 0 rfl ?_
              refine v_iload hG dX12_ordersFrom_105 6 rfl ?_
              refine v_callV (k1' := 0) (k2' := 0) hG dX12_ordersFrom_107 zc_X12_needsOf ⟨zl_X12_157, zi_X12_needsOf, zs_X12_needsOf⟩ (fun l => k_needsOf l D A a s im fr x6 x7 (sU ln2 k (i : Int)) bl2 bo g2 lg (i : Int) (by omega) (by first | assumption | (exact hM _ (by omega) (by omega)))) rfl mw_recv (fun _ h => h) ⟨by decide, by decide⟩ rfl rfl ⟨by decide, by decide⟩ (rest := [vI t, vI many, vI (ior dn (1 * 2 ^ (i : Int).toNat)), vI (k + 1), .ref (a 0)]) rfl (Nat.le_of_ble_eq_true rfl) (fun u16 => [vI (q_needs s (i : Int)), vI t, vI many, vI (ior dn (1 * 2 ^ (i : Int).toNat)), vI (k + 1), .ref (a 0)]) (fun _ => rfl) (fun u16 hu16 => ?_)
              have fu16 : 0 ≤ q_needs s (i : Int) ∧ q_needs s (i : Int) ≤ 180 := hu16
              refine v_iconst hG dX12_ordersFrom_110 ?_
              refine v_idiv hG dX12_ordersFrom_111 (by omega) (by omega) ?_
              refine v_iadd hG dX12_ordersFrom_112 ?_
              refine v_iconst hG dX12_ordersFrom_113 ?_
              refine v_bipush hG dX12_ordersFrom_114 (by decide) ?_
              refine v_callS (k1' := 0) (k2' := 0) hG dX12_ordersFrom_116 zc_X12_within ⟨zl_X12_130, zt_X12_within⟩ (fun l => k_within l D A (MW D A a s im fr x6 x7 (sU ln2 k (i : Int)) bl2 bo g2 lg) (t + ((q_needs s (i : Int)) / 2)) 0 99 (by omega) (by omega) (by omega)) rfl (fun _ h => h) ⟨by decide, by decide⟩ rfl rfl ⟨by decide, by decide⟩ (rest := [vI many, vI (ior dn (1 * 2 ^ (i : Int).toNat)), vI (k + 1), .ref (a 0)]) rfl (Nat.le_of_ble_eq_true rfl) (fun u17 => [vI (clamp (t + ((q_needs s (i : Int)) / 2)) 0 99), vI many, vI (ior dn (1 * 2 ^ (i : Int).toNat)), vI (k + 1), .ref (a 0)]) (fun _ => rfl) (fun u17 hu17 => ?_)
              refine v_iload hG dX12_ordersFrom_119 5 rfl ?_
              refine v_aload_n hG dX12_ordersFrom_121 rfl 0 rfl ?_
              refine v_iload hG dX12_ordersFrom_122 6 rfl ?_
              refine v_iload hG dX12_ordersFrom_124 4 rfl ?_
              refine v_callV (k1' := 0) (k2' := 0) hG dX12_ordersFrom_126 zc_X12_riskBy ⟨zl_X12_134, zi_X12_riskBy, zs_X12_riskBy⟩ (fun l => k_riskBy l D A a s im fr x6 x7 (sU ln2 k (i : Int)) bl2 bo g2 lg (i : Int) t SL (by omega) (by first | assumption | (exact hM _ (by omega) (by omega))) (by assumption) (by omega)) rfl mw_recv (fun _ h => h) ⟨by decide, by decide⟩ rfl rfl ⟨by decide, by decide⟩ (rest := [vI sum, vI (clamp (t + ((q_needs s (i : Int)) / 2)) 0 99), vI many, vI (ior dn (1 * 2 ^ (i : Int).toNat)), vI (k + 1), .ref (a 0)]) rfl (Nat.le_of_ble_eq_true rfl) (fun u18 => [vI (q_risk s SL (i : Int) t), vI sum, vI (clamp (t + ((q_needs s (i : Int)) / 2)) 0 99), vI many, vI (ior dn (1 * 2 ^ (i : Int).toNat)), vI (k + 1), .ref (a 0)]) (fun _ => rfl) (fun u18 hu18 => ?_)
              have fu18 : 0 ≤ q_risk s SL (i : Int) t ∧ q_risk s SL (i : Int) t ≤ 99 := hu18
              refine v_iadd hG dX12_ordersFrom_129 ?_
              refine v_callV (k1' := 0) (k2' := 0) hG dX12_ordersFrom_130 zc_X12_ordersFrom ⟨zl_X12_206, zi_X12_ordersFrom, zs_X12_ordersFrom⟩ (fun l => k_ordersFrom4 l D A a s im fr u18.1 u18.2 (sU ln2 k (i : Int)) bl2 bo g2 lg (k + 1) (ior dn (1 * 2 ^ (i : Int).toNat)) many (clamp (t + ((q_needs s (i : Int)) / 2)) 0 99) (sum + (q_risk s SL (i : Int) t)) SL (d0 ||| 2 ^ i) (by omega) (by omega) (by exact clamp_rng _ (by omega)) (by omega) (by exact or_v hd hd2 (by omega)) (by exact or_up hd2 (by omega)) (by exact hor) (by assumption) (by assumption) (by assumption)) rfl mw_recv (fun _ h => h) ⟨by decide, by decide⟩ rfl rfl ⟨by decide, by decide⟩ (rest := []) rfl (Nat.le_of_ble_eq_true rfl) (fun u19 => []) (fun _ => rfl) (fun u19 hu19 => ?_)
              have fu19 : OF (k + 1) 4 (opt s SL 4 (d0 ||| 2 ^ i) (clamp (t + ((q_needs s (i : Int)) / 2)) 0 99)) (sum + (q_risk s SL (i : Int) t)) (sU ln2 k (i : Int)) bl2 g2 u19.1 u19.2.1 u19.2.2.1 := hu19
              refine v_iinc (lo' := [(6, vI ((i : Int) + 1)), (0, .ref (a 0)), (1, vI k), (2, vI dn), (3, vI many), (4, vI t), (5, vI sum)]) hG dX12_ordersFrom_133 6 rfl (by decide) rfl ?_
              refine v_goto (tgt := 53) hG dX12_ordersFrom_136 (by decide) ?_
              refine v_lo [1, 2, 3, 4, 5, 6, 0] (lo' := [(0, .ref (a 0)), (1, vI k), (2, vI dn), (3, vI many), (4, vI t), (5, vI sum), (6, vI ((i : Int) + 1))]) rfl ?_
              exact ihL8 _ (by omega) (i + 1) u19.1 u19.2.1 u19.2.2.1 (by omega) (by first | exact OF_skip ‹OF k 5 (bfold (candF s d0) (valF s SL 4 d0 t) (lstF s SL 4 d0 t) i) sum ln bl g ln2 bl2 g2› (cand_f1 (by assumption)) | exact OF_skip ‹OF k 5 (bfold (candF s d0) (valF s SL 4 d0 t) (lstF s SL 4 d0 t) i) sum ln bl g ln2 bl2 g2› (cand_f2 hd hd2 (by assumption)) | exact OF_step (by omega) ‹OF k 5 (bfold (candF s d0) (valF s SL 4 d0 t) (lstF s SL 4 d0 t) i) sum ln bl g ln2 bl2 g2› (cand_t hd hd2 (by assumption) (by assumption)) rfl rfl (by assumption)) rfl _ (by first | omega | rfl | (simp [c1, c12, c14, c15]; done)) _ (by first | omega | rfl | (simp [c1, c12, c14, c15]; done)) _ (by first | omega | rfl | (simp [c1, c12, c14, c15]; done)) _ (by first | omega | rfl | (simp [c1, c12, c14, c15]; done)) _ _
    exact L8 _ 0 ln bl g (by omega) (by exact OF_no (by show g 7 ≤ sum + 1000000000; omega)) rfl _ (by first | omega | rfl | (simp [c1]; done)) _ (by first | omega | rfl | (simp [c1]; done)) _ (by first | omega | rfl | (simp [c1]; done)) _ (by first | omega | rfl | (simp [c1]; done)) _ _
  · skip
    exfalso; omega
set_option maxHeartbeats 4000000 in
set_option maxRecDepth 100000 in
theorem k_ordersFrom6 (l : Launch) (D : Dx) (A : Nat → Prop) (a : Nat → Nat) (s im fr bY tr ln bl bo g lg : Int → Int) (k : Int) (dn : Int) (many : Int) (t : Int) (sum : Int) (SL : List Int) (d0 : Nat) (hk : 0 ≤ k ∧ k ≤ 6) (hmany : many = k + 6 ∧ many ≤ 6) (ht : 0 ≤ t ∧ t ≤ 99) (hsum : 0 ≤ sum ∧ sum ≤ 99 * k) (hd : dn = (d0 : Int)) (hd2 : d0 < 256) (hg7 : 0 ≤ g 7 ∧ g 7 ≤ 1000000) (hN : NM s) (hM : GM s) (hE : HE s SL) : CT l D A yX12_ordersFrom cX12_ordersFrom 7 none { frames := 9, cells := 0, slots := 0, locals := 236 } [.ref (a 0), vI k, vI dn, vI many, vI t, vI sum] (MW D A a s im fr bY tr ln bl bo g lg) (fun u : (Int → Int) × (Int → Int) × (Int → Int) × (Int → Int) × (Int → Int) => none) (fun u => OF k 6 (opt s SL 6 d0 t) sum ln bl g u.1 u.2.1 u.2.2.1) (fun u => MW D A a s im fr u.2.2.2.1 u.2.2.2.2 u.1 u.2.1 bo u.2.2.1 lg) := by
  refine ct_of (lo0 := [(0, .ref (a 0)), (1, vI k), (2, vI dn), (3, vI many), (4, vI t), (5, vI sum)]) (by decide) (Nat.le_of_ble_eq_true rfl) rfl ?_
  intro G hG hR
  have hN9 : 0 ≤ s 43 ∧ s 43 ≤ 8 := hN
  refine v_iload_n hG dX12_ordersFrom_0 rfl 1 rfl ?_
  refine v_iload_n hG dX12_ordersFrom_1 rfl 3 rfl ?_
  refine v_icmp_ne (tgt := 50) hG dX12_ordersFrom_2 (by decide) (by omega) (by omega) (fun c1 => ?_) (fun c1 => ?_)
  · skip
    refine v_iconst hG dX12_ordersFrom_50 ?_
    refine v_istore (lo' := [(6, vI 0), (0, .ref (a 0)), (1, vI k), (2, vI dn), (3, vI many), (4, vI t), (5, vI sum)]) hG dX12_ordersFrom_51 (by decide) rfl ?_
    refine v_lo [1, 2, 3, 4, 5, 6, 0] (lo' := [(0, .ref (a 0)), (1, vI k), (2, vI dn), (3, vI many), (4, vI t), (5, vI sum), (6, vI 0)]) rfl ?_
    have L8 : ∀ mz : Nat, ∀ (i : Nat) (ln2 bl2 g2 : Int → Int), ((i : Int) ≤ s 43) → (OF k 6 (bfold (candF s d0) (valF s SL 5 d0 t) (lstF s SL 5 d0 t) i) sum ln bl g ln2 bl2 g2) → (s 43 - (i : Int)).toNat = mz → ∀ x2 : Int, x2 = ((i : Int)) → ∀ x3 : Int → Int, x3 = (ln2) → ∀ x4 : Int → Int, x4 = (bl2) → ∀ x5 : Int → Int, x5 = (g2) → ∀ x6 : Int → Int, ∀ x7 : Int → Int, V G 0 0 (MW D A a s im fr x6 x7 x3 x4 bo x5 lg) 53 [(0, .ref (a 0)), (1, vI k), (2, vI dn), (3, vI many), (4, vI t), (5, vI sum), (6, vI x2)] [] := by
      intro dL8
      induction dL8 using Nat.strongRecOn with
      | ind dL8 ihL8 =>
        intro i ln2 bl2 g2 h9 h10 h11
        intro x2 hx2
        subst hx2
        intro x3 hx3
        replace hx3 := hx3.symm
        subst hx3
        intro x4 hx4
        replace hx4 := hx4.symm
        subst hx4
        intro x5 hx5
        replace hx5 := hx5.symm
        subst hx5
        intro x6
        intro x7
        refine v_iload hG dX12_ordersFrom_53 6 rfl ?_
        refine v_aload_n hG dX12_ordersFrom_55 rfl 0 rfl ?_
        refine mg_s hG dX12_ordersFrom_56 ?_
        refine v_bipush hG dX12_ordersFrom_59 (by decide) ?_
        refine ma_s (z := s 43) hG dX12_ordersFrom_61 (by omega) rfl ?_
        refine v_icmp_ge (tgt := 139) hG dX12_ordersFrom_62 (by decide) (by omega) (by omega) (fun c12 => ?_) (fun c12 => ?_)
        · skip
          exact v_return hG hR dX12_ordersFrom_139 (ln2, bl2, g2, x6, x7) rfl (by have hi9 : i = (s 43).toNat := (by omega); have h9 := ‹OF k 6 (bfold (candF s d0) (valF s SL 5 d0 t) (lstF s SL 5 d0 t) i) sum ln bl g ln2 bl2 g2›; rw [hi9] at h9; exact h9) (fun _ hM => hM)
        · skip
          have hor := OF_rng ‹OF k 6 (bfold (candF s d0) (valF s SL 5 d0 t) (lstF s SL 5 d0 t) i) sum ln bl g ln2 bl2 g2› (by omega) (bfold_pos (fun q => by have := q_risk_rng s SL q t; have := opt_pos s SL 5 (d0 ||| 2 ^ q) (clamp (t + q_needs s q / 2) 0 99); unfold valF; omega) _) (by omega)
          have hsh := sh_rng (x := dn) (k := i) (by omega)
          have hi1 := iand1_rng hsh
          refine v_aload_n hG dX12_ordersFrom_65 rfl 0 rfl ?_
          refine v_iload hG dX12_ordersFrom_66 6 rfl ?_
          refine v_callV (k1' := 0) (k2' := 0) hG dX12_ordersFrom_68 zc_X12_isCut ⟨zl_X12_137, zi_X12_isCut, zs_X12_isCut⟩ (fun l => k_isCut l D A a s im fr x6 x7 ln2 bl2 bo g2 lg (i : Int) (by omega) (by first | exact hm.2.2.2.2.1 | exact (hM _ (by omega) (by omega)).2.2.2.2.1 | omega)) rfl mw_recv (fun _ h => h) ⟨by decide, by decide⟩ rfl rfl ⟨by decide, by decide⟩ (rest := []) rfl (Nat.le_of_ble_eq_true rfl) (fun u13 => [vI (bi (s (11 + (i : Int)) = 1))]) (fun _ => rfl) (fun u13 hu13 => ?_)
          refine v_ifb_ne (p := s (11 + (i : Int)) = 1) (tgt := 133) hG dX12_ordersFrom_71 (by decide) (fun c14 => ?_) (fun c14 => ?_)
          · skip
            refine v_iinc (lo' := [(6, vI ((i : Int) + 1)), (0, .ref (a 0)), (1, vI k), (2, vI dn), (3, vI many), (4, vI t), (5, vI sum)]) hG dX12_ordersFrom_133 6 rfl (by decide) rfl ?_
            refine v_goto (tgt := 53) hG dX12_ordersFrom_136 (by decide) ?_
            refine v_lo [1, 2, 3, 4, 5, 6, 0] (lo' := [(0, .ref (a 0)), (1, vI k), (2, vI dn), (3, vI many), (4, vI t), (5, vI sum), (6, vI ((i : Int) + 1))]) rfl ?_
            exact ihL8 _ (by omega) (i + 1) ln2 bl2 g2 (by omega) (by first | exact OF_skip ‹OF k 6 (bfold (candF s d0) (valF s SL 5 d0 t) (lstF s SL 5 d0 t) i) sum ln bl g ln2 bl2 g2› (cand_f1 (by assumption)) | exact OF_skip ‹OF k 6 (bfold (candF s d0) (valF s SL 5 d0 t) (lstF s SL 5 d0 t) i) sum ln bl g ln2 bl2 g2› (cand_f2 hd hd2 (by assumption)) | exact OF_step (by omega) ‹OF k 6 (bfold (candF s d0) (valF s SL 5 d0 t) (lstF s SL 5 d0 t) i) sum ln bl g ln2 bl2 g2› (cand_t hd hd2 (by assumption) (by assumption)) rfl rfl (by assumption)) rfl _ (by first | omega | rfl | (simp [c1, c12, c14]; done)) _ (by first | omega | rfl | (simp [c1, c12, c14]; done)) _ (by first | omega | rfl | (simp [c1, c12, c14]; done)) _ (by first | omega | rfl | (simp [c1, c12, c14]; done)) _ _
          · skip
            refine v_iload_n hG dX12_ordersFrom_74 rfl 2 rfl ?_
            refine v_iload hG dX12_ordersFrom_75 6 rfl ?_
            refine v_ishr hG dX12_ordersFrom_77 (by omega) (by omega) ?_
            refine v_iconst hG dX12_ordersFrom_78 ?_
            refine v_iand hG dX12_ordersFrom_79 ?_
            refine v_if_ne (tgt := 133) hG dX12_ordersFrom_80 (by decide) (by omega) (fun c15 => ?_) (fun c15 => ?_)
            · skip
              refine v_iinc (lo' := [(6, vI ((i : Int) + 1)), (0, .ref (a 0)), (1, vI k), (2, vI dn), (3, vI many), (4, vI t), (5, vI sum)]) hG dX12_ordersFrom_133 6 rfl (by decide) rfl ?_
              refine v_goto (tgt := 53) hG dX12_ordersFrom_136 (by decide) ?_
              refine v_lo [1, 2, 3, 4, 5, 6, 0] (lo' := [(0, .ref (a 0)), (1, vI k), (2, vI dn), (3, vI many), (4, vI t), (5, vI sum), (6, vI ((i : Int) + 1))]) rfl ?_
              exact ihL8 _ (by omega) (i + 1) ln2 bl2 g2 (by omega) (by first | exact OF_skip ‹OF k 6 (bfold (candF s d0) (valF s SL 5 d0 t) (lstF s SL 5 d0 t) i) sum ln bl g ln2 bl2 g2› (cand_f1 (by assumption)) | exact OF_skip ‹OF k 6 (bfold (candF s d0) (valF s SL 5 d0 t) (lstF s SL 5 d0 t) i) sum ln bl g ln2 bl2 g2› (cand_f2 hd hd2 (by assumption)) | exact OF_step (by omega) ‹OF k 6 (bfold (candF s d0) (valF s SL 5 d0 t) (lstF s SL 5 d0 t) i) sum ln bl g ln2 bl2 g2› (cand_t hd hd2 (by assumption) (by assumption)) rfl rfl (by assumption)) rfl _ (by first | omega | rfl | (simp [c1, c12, c14, c15]; done)) _ (by first | omega | rfl | (simp [c1, c12, c14, c15]; done)) _ (by first | omega | rfl | (simp [c1, c12, c14, c15]; done)) _ (by first | omega | rfl | (simp [c1, c12, c14, c15]; done)) _ _
            · skip
              refine v_aload_n hG dX12_ordersFrom_83 rfl 0 rfl ?_
              refine mg_line hG dX12_ordersFrom_84 ?_
              refine v_iload_n hG dX12_ordersFrom_87 rfl 1 rfl ?_
              refine v_iload hG dX12_ordersFrom_88 6 rfl ?_
              refine ms_line hG dX12_ordersFrom_90 (by omega) ?_
              refine v_aload_n hG dX12_ordersFrom_91 rfl 0 rfl ?_
              refine v_iload_n hG dX12_ordersFrom_92 rfl 1 rfl ?_
              refine v_iconst hG dX12_ordersFrom_93 ?_
              refine v_iadd hG dX12_ordersFrom_94 ?_
              refine v_iload_n hG dX12_ordersFrom_95 rfl 2 rfl ?_
              refine v_iconst hG dX12_ordersFrom_96 ?_
              refine v_iload hG dX12_ordersFrom_97 6 rfl ?_
              refine v_ishl hG dX12_ordersFrom_99 (by omega) ?_
              refine v_ior hG dX12_ordersFrom_100 ?_
              refine v_iload_n hG dX12_ordersFrom_101 rfl 3 rfl ?_
              refine v_iload hG dX12_ordersFrom_102 4 rfl ?_
              refine v_aload_n hG dX12_ordersFrom_104 rfl 0 rfl ?_
              refine v_iload hG dX12_ordersFrom_105 6 rfl ?_
              refine v_callV (k1' := 0) (k2' := 0) hG dX12_ordersFrom_107 zc_X12_needsOf ⟨zl_X12_157, zi_X12_needsOf, zs_X12_needsOf⟩ (fun l => k_needsOf l D A a s im fr x6 x7 (sU ln2 k (i : Int)) bl2 bo g2 lg (i : Int) (by omega) (by first | assumption | (exact hM _ (by omega) (by omega)))) rfl mw_recv (fun _ h => h) ⟨by decide, by decide⟩ rfl rfl ⟨by decide, by decide⟩ (rest := [vI t, vI many, vI (ior dn (1 * 2 ^ (i : Int).toNat)), vI (k + 1), .ref (a 0)]) rfl (Nat.le_of_ble_eq_true rfl) (fun u16 => [vI (q_needs s (i : Int)), vI t, vI many, vI (ior dn (1 * 2 ^ (i : Int).toNat)), vI (k + 1), .ref (a 0)]) (fun _ => rfl) (fun u16 hu16 => ?_)
              have fu16 : 0 ≤ q_needs s (i : Int) ∧ q_needs s (i : Int) ≤ 180 := hu16
              refine v_iconst hG dX12_ordersFrom_110 ?_
              refine v_idiv hG dX12_ordersFrom_111 (by omega) (by omega) ?_
              refine v_iadd hG dX12_ordersFrom_112 ?_
              refine v_iconst hG dX12_ordersFrom_113 ?_
              refine v_bipush hG dX12_ordersFrom_114 (by decide) ?_
              refine v_callS (k1' := 0) (k2' := 0) hG dX12_ordersFrom_116 zc_X12_within ⟨zl_X12_130, zt_X12_within⟩ (fun l => k_within l D A (MW D A a s im fr x6 x7 (sU ln2 k (i : Int)) bl2 bo g2 lg) (t + ((q_needs s (i : Int)) / 2)) 0 99 (by omega) (by omega) (by omega)) rfl (fun _ h => h) ⟨by decide, by decide⟩ rfl rfl ⟨by decide, by decide⟩ (rest := [vI many, vI (ior dn (1 * 2 ^ (i : Int).toNat)), vI (k + 1), .ref (a 0)]) rfl (Nat.le_of_ble_eq_true rfl) (fun u17 => [vI (clamp (t + ((q_needs s (i : Int)) / 2)) 0 99), vI many, vI (ior dn (1 * 2 ^ (i : Int).toNat)), vI (k + 1), .ref (a 0)]) (fun _ => rfl) (fun u17 hu17 => ?_)
              refine v_iload hG dX12_ordersFrom_119 5 rfl ?_
              refine v_aload_n hG dX12_ordersFrom_121 rfl 0 rfl ?_
              refine v_iload hG dX12_ordersFrom_122 6 rfl ?_
              refine v_iload hG dX12_ordersFrom_124 4 rfl ?_
              refine v_callV (k1' := 0) (k2' := 0) hG dX12_ordersFrom_126 zc_X12_riskBy ⟨zl_X12_134, zi_X12_riskBy, zs_X12_riskBy⟩ (fun l => k_riskBy l D A a s im fr x6 x7 (sU ln2 k (i : Int)) bl2 bo g2 lg (i : Int) t SL (by omega) (by first | assumption | (exact hM _ (by omega) (by omega))) (by assumption) (by omega)) rfl mw_recv (fun _ h => h) ⟨by decide, by decide⟩ rfl rfl ⟨by decide, by decide⟩ (rest := [vI sum, vI (clamp (t + ((q_needs s (i : Int)) / 2)) 0 99), vI many, vI (ior dn (1 * 2 ^ (i : Int).toNat)), vI (k + 1), .ref (a 0)]) rfl (Nat.le_of_ble_eq_true rfl) (fun u18 => [vI (q_risk s SL (i : Int) t), vI sum, vI (clamp (t + ((q_needs s (i : Int)) / 2)) 0 99), vI many, vI (ior dn (1 * 2 ^ (i : Int).toNat)), vI (k + 1), .ref (a 0)]) (fun _ => rfl) (fun u18 hu18 => ?_)
              have fu18 : 0 ≤ q_risk s SL (i : Int) t ∧ q_risk s SL (i : Int) t ≤ 99 := hu18
              refine v_iadd hG dX12_ordersFrom_129 ?_
              refine v_callV (k1' := 0) (k2' := 0) hG dX12_ordersFrom_130 zc_X12_ordersFrom ⟨zl_X12_206, zi_X12_ordersFrom, zs_X12_ordersFrom⟩ (fun l => k_ordersFrom5 l D A a s im fr u18.1 u18.2 (sU ln2 k (i : Int)) bl2 bo g2 lg (k + 1) (ior dn (1 * 2 ^ (i : Int).toNat)) many (clamp (t + ((q_needs s (i : Int)) / 2)) 0 99) (sum + (q_risk s SL (i : Int) t)) SL (d0 ||| 2 ^ i) (by omega) (by omega) (by exact clamp_rng _ (by omega)) (by omega) (by exact or_v hd hd2 (by omega)) (by exact or_up hd2 (by omega)) (by exact hor) (by assumption) (by assumption) (by assumption)) rfl mw_recv (fun _ h => h) ⟨by decide, by decide⟩ rfl rfl ⟨by decide, by decide⟩ (rest := []) rfl (Nat.le_of_ble_eq_true rfl) (fun u19 => []) (fun _ => rfl) (fun u19 hu19 => ?_)
              have fu19 : OF (k + 1) 5 (opt s SL 5 (d0 ||| 2 ^ i) (clamp (t + ((q_needs s (i : Int)) / 2)) 0 99)) (sum + (q_risk s SL (i : Int) t)) (sU ln2 k (i : Int)) bl2 g2 u19.1 u19.2.1 u19.2.2.1 := hu19
              refine v_iinc (lo' := [(6, vI ((i : Int) + 1)), (0, .ref (a 0)), (1, vI k), (2, vI dn), (3, vI many), (4, vI t), (5, vI sum)]) hG dX12_ordersFrom_133 6 rfl (by decide) rfl ?_
              refine v_goto (tgt := 53) hG dX12_ordersFrom_136 (by decide) ?_
              refine v_lo [1, 2, 3, 4, 5, 6, 0] (lo' := [(0, .ref (a 0)), (1, vI k), (2, vI dn), (3, vI many), (4, vI t), (5, vI sum), (6, vI ((i : Int) + 1))]) rfl ?_
              exact ihL8 _ (by omega) (i + 1) u19.1 u19.2.1 u19.2.2.1 (by omega) (by first | exact OF_skip ‹OF k 6 (bfold (candF s d0) (valF s SL 5 d0 t) (lstF s SL 5 d0 t) i) sum ln bl g ln2 bl2 g2› (cand_f1 (by assumption)) | exact OF_skip ‹OF k 6 (bfold (candF s d0) (valF s SL 5 d0 t) (lstF s SL 5 d0 t) i) sum ln bl g ln2 bl2 g2› (cand_f2 hd hd2 (by assumption)) | exact OF_step (by omega) ‹OF k 6 (bfold (candF s d0) (valF s SL 5 d0 t) (lstF s SL 5 d0 t) i) sum ln bl g ln2 bl2 g2› (cand_t hd hd2 (by assumption) (by assumption)) rfl rfl (by assumption)) rfl _ (by first | omega | rfl | (simp [c1, c12, c14, c15]; done)) _ (by first | omega | rfl | (simp [c1, c12, c14, c15]; done)) _ (by first | omega | rfl | (simp [c1, c12, c14, c15]; done)) _ (by first | omega | rfl | (simp [c1, c12, c14, c15]; done)) _ _
    exact L8 _ 0 ln bl g (by omega) (by exact OF_no (by show g 7 ≤ sum + 1000000000; omega)) rfl _ (by first | omega | rfl | (simp [c1]; done)) _ (by first | omega | rfl | (simp [c1]; done)) _ (by first | omega | rfl | (simp [c1]; done)) _ (by first | omega | rfl | (simp [c1]; done)) _ _
  · skip
    exfalso; omega
set_option maxHeartbeats 4000000 in
set_option maxRecDepth 100000 in
theorem k_order (l : Launch) (D : Dx) (A : Nat → Prop) (a : Nat → Nat) (s im fr bY tr ln bl bo g lg : Int → Int) (k : Int) (SL : List Int) (hr : -2147483648 ≤ k ∧ k < 2147483648) (hN : NM s) (hM : GM s) (hE : HE s SL) (hT : TI s) : CT l D A yX12_order cX12_order 3 (some .int) { frames := 10, cells := 0, slots := 0, locals := 262 } [.ref (a 0), vI k] (MW D A a s im fr bY tr ln bl bo g lg) (fun u : (Int → Int) × (Int → Int) × (Int → Int) × (Int → Int) × (Int → Int) => some (vI (a_order s SL k))) (fun u => ∀ q : Int, q ≠ 7 → u.2.2.1 q = g q) (fun u => MW D A a s im fr u.2.2.2.1 u.2.2.2.2 u.1 u.2.1 bo u.2.2.1 lg) := by
  refine ct_of (lo0 := [(0, .ref (a 0)), (1, vI k)]) (by decide) (Nat.le_of_ble_eq_true rfl) rfl ?_
  intro G hG hR
  have hN9 : 0 ≤ s 43 ∧ s 43 ≤ 8 := hN
  have hT2 : 0 ≤ s 2 ∧ s 2 ≤ 99 := hT
  refine v_iload_n hG dX12_order_0 rfl 1 rfl ?_
  refine v_iconst hG dX12_order_1 ?_
  refine v_iconst hG dX12_order_2 ?_
  refine v_callS (k1' := 0) (k2' := 0) hG dX12_order_3 zc_X12_in ⟨zl_X12_41, zt_X12_in⟩ (fun l => k_in l D A (MW D A a s im fr bY tr ln bl bo g lg) k (-1) 5 (by omega) (by omega) (by omega)) rfl (fun _ h => h) ⟨by decide, by decide⟩ rfl rfl ⟨by decide, by decide⟩ (rest := []) rfl (Nat.le_of_ble_eq_true rfl) (fun u1 => [vI (bi ((-1) ≤ k ∧ k ≤ 5))]) (fun _ => rfl) (fun u1 hu1 => ?_)
  refine v_ifb_ne (p := (-1) ≤ k ∧ k ≤ 5) (tgt := 11) hG dX12_order_6 (by decide) (fun c2 => ?_) (fun c2 => ?_)
  · skip
    refine v_aload_n hG dX12_order_11 rfl 0 rfl ?_
    refine v_callV (k1' := 0) (k2' := 0) hG dX12_order_12 zc_X12_uncut ⟨zl_X12_210, zi_X12_uncut, zs_X12_uncut⟩ (fun l => k_uncut l D A a s im fr bY tr ln bl bo g lg (by assumption) (by assumption)) rfl mw_recv (fun _ h => h) ⟨by decide, by decide⟩ rfl rfl ⟨by decide, by decide⟩ (rest := []) rfl (Nat.le_of_ble_eq_true rfl) (fun u3 => [vI (q_uncut s)]) (fun _ => rfl) (fun u3 hu3 => ?_)
    have fu3 : 0 ≤ q_uncut s ∧ q_uncut s ≤ s 43 := hu3
    refine v_istore_n (lo' := [(2, vI (q_uncut s)), (0, .ref (a 0)), (1, vI k)]) hG dX12_order_15 rfl (by decide) rfl ?_
    refine v_iload_n hG dX12_order_16 rfl 0 rfl ?_
    refine v_bipush hG dX12_order_17 (by decide) ?_
    refine v_icmp_le (tgt := 25) hG dX12_order_19 (by decide) (by omega) (by omega) (fun c4 => ?_) (fun c4 => ?_)
    · skip
      refine v_aload_n hG dX12_order_25 rfl 1 rfl ?_
      refine v_ldc (n := 1000000) hG dX12_order_26 (ztb 1353 (by decide +kernel) (by decide +kernel)) rfl ?_
      refine mp_least hG dX12_order_28 ?_
      refine v_aload_n hG dX12_order_31 rfl 1 rfl ?_
      refine v_iconst hG dX12_order_32 ?_
      refine v_iconst hG dX12_order_33 ?_
      refine v_iload_n hG dX12_order_34 rfl 0 rfl ?_
      refine v_aload_n hG dX12_order_35 rfl 1 rfl ?_
      refine mg_s hG dX12_order_36 ?_
      refine v_iconst hG dX12_order_39 ?_
      refine ma_s (z := s 2) hG dX12_order_40 (by omega) rfl ?_
      refine v_iconst hG dX12_order_41 ?_
      suffices J6 : ∀ u5 : (Int → Int) × (Int → Int) × (Int → Int) × (Int → Int) × (Int → Int), OF 0 (q_uncut s).toNat (q_opt s SL) 0 ln bl (sU g 7 1000000) u5.1 u5.2.1 u5.2.2.1 → V G 0 0 (MW D A a s im fr u5.2.2.2.1 u5.2.2.2.2 u5.1 u5.2.1 bo u5.2.2.1 lg) 45 [(2, vI (q_uncut s)), (0, .ref (a 0)), (1, vI k)] [] by
        have h6 : q_uncut s = 0 ∨ q_uncut s = 1 ∨ q_uncut s = 2 ∨ q_uncut s = 3 ∨ q_uncut s = 4 ∨ q_uncut s = 5 ∨ q_uncut s = 6 := (by omega); rcases h6 with hq | hq | hq | hq | hq | hq | hq
        · exact v_callV (k1' := 0) (k2' := 0) hG dX12_order_42 zc_X12_ordersFrom ⟨zl_X12_206, zi_X12_ordersFrom, zs_X12_ordersFrom⟩ (fun l => k_ordersFrom0 l D A a s im fr bY tr ln bl bo (sU g 7 1000000) lg 0 0 (q_uncut s) (s 2) 0 SL 0 (by omega) (by omega) (by omega) (by omega) (by rfl) (by omega) (by rw [sU_eq]; omega) (by assumption) (by assumption) (by assumption)) rfl mw_recv (fun _ h => h) ⟨by decide, by decide⟩ rfl rfl ⟨by decide, by decide⟩ (rest := []) rfl (Nat.le_of_ble_eq_true rfl) (fun u7 => []) (fun _ => rfl) (fun u7 hu7 => J6 u7 (by have h9 := hu7; unfold q_opt; rw [hq]; exact h9))
        · exact v_callV (k1' := 0) (k2' := 0) hG dX12_order_42 zc_X12_ordersFrom ⟨zl_X12_206, zi_X12_ordersFrom, zs_X12_ordersFrom⟩ (fun l => k_ordersFrom1 l D A a s im fr bY tr ln bl bo (sU g 7 1000000) lg 0 0 (q_uncut s) (s 2) 0 SL 0 (by omega) (by omega) (by omega) (by omega) (by rfl) (by omega) (by rw [sU_eq]; omega) (by assumption) (by assumption) (by assumption)) rfl mw_recv (fun _ h => h) ⟨by decide, by decide⟩ rfl rfl ⟨by decide, by decide⟩ (rest := []) rfl (Nat.le_of_ble_eq_true rfl) (fun u8 => []) (fun _ => rfl) (fun u8 hu8 => J6 u8 (by have h9 := hu8; unfold q_opt; rw [hq]; exact h9))
        · exact v_callV (k1' := 0) (k2' := 0) hG dX12_order_42 zc_X12_ordersFrom ⟨zl_X12_206, zi_X12_ordersFrom, zs_X12_ordersFrom⟩ (fun l => k_ordersFrom2 l D A a s im fr bY tr ln bl bo (sU g 7 1000000) lg 0 0 (q_uncut s) (s 2) 0 SL 0 (by omega) (by omega) (by omega) (by omega) (by rfl) (by omega) (by rw [sU_eq]; omega) (by assumption) (by assumption) (by assumption)) rfl mw_recv (fun _ h => h) ⟨by decide, by decide⟩ rfl rfl ⟨by decide, by decide⟩ (rest := []) rfl (Nat.le_of_ble_eq_true rfl) (fun u9 => []) (fun _ => rfl) (fun u9 hu9 => J6 u9 (by have h9 := hu9; unfold q_opt; rw [hq]; exact h9))
        · exact v_callV (k1' := 0) (k2' := 0) hG dX12_order_42 zc_X12_ordersFrom ⟨zl_X12_206, zi_X12_ordersFrom, zs_X12_ordersFrom⟩ (fun l => k_ordersFrom3 l D A a s im fr bY tr ln bl bo (sU g 7 1000000) lg 0 0 (q_uncut s) (s 2) 0 SL 0 (by omega) (by omega) (by omega) (by omega) (by rfl) (by omega) (by rw [sU_eq]; omega) (by assumption) (by assumption) (by assumption)) rfl mw_recv (fun _ h => h) ⟨by decide, by decide⟩ rfl rfl ⟨by decide, by decide⟩ (rest := []) rfl (Nat.le_of_ble_eq_true rfl) (fun u10 => []) (fun _ => rfl) (fun u10 hu10 => J6 u10 (by have h9 := hu10; unfold q_opt; rw [hq]; exact h9))
        · exact v_callV (k1' := 0) (k2' := 0) hG dX12_order_42 zc_X12_ordersFrom ⟨zl_X12_206, zi_X12_ordersFrom, zs_X12_ordersFrom⟩ (fun l => k_ordersFrom4 l D A a s im fr bY tr ln bl bo (sU g 7 1000000) lg 0 0 (q_uncut s) (s 2) 0 SL 0 (by omega) (by omega) (by omega) (by omega) (by rfl) (by omega) (by rw [sU_eq]; omega) (by assumption) (by assumption) (by assumption)) rfl mw_recv (fun _ h => h) ⟨by decide, by decide⟩ rfl rfl ⟨by decide, by decide⟩ (rest := []) rfl (Nat.le_of_ble_eq_true rfl) (fun u11 => []) (fun _ => rfl) (fun u11 hu11 => J6 u11 (by have h9 := hu11; unfold q_opt; rw [hq]; exact h9))
        · exact v_callV (k1' := 0) (k2' := 0) hG dX12_order_42 zc_X12_ordersFrom ⟨zl_X12_206, zi_X12_ordersFrom, zs_X12_ordersFrom⟩ (fun l => k_ordersFrom5 l D A a s im fr bY tr ln bl bo (sU g 7 1000000) lg 0 0 (q_uncut s) (s 2) 0 SL 0 (by omega) (by omega) (by omega) (by omega) (by rfl) (by omega) (by rw [sU_eq]; omega) (by assumption) (by assumption) (by assumption)) rfl mw_recv (fun _ h => h) ⟨by decide, by decide⟩ rfl rfl ⟨by decide, by decide⟩ (rest := []) rfl (Nat.le_of_ble_eq_true rfl) (fun u12 => []) (fun _ => rfl) (fun u12 hu12 => J6 u12 (by have h9 := hu12; unfold q_opt; rw [hq]; exact h9))
        · exact v_callV (k1' := 0) (k2' := 0) hG dX12_order_42 zc_X12_ordersFrom ⟨zl_X12_206, zi_X12_ordersFrom, zs_X12_ordersFrom⟩ (fun l => k_ordersFrom6 l D A a s im fr bY tr ln bl bo (sU g 7 1000000) lg 0 0 (q_uncut s) (s 2) 0 SL 0 (by omega) (by omega) (by omega) (by omega) (by rfl) (by omega) (by rw [sU_eq]; omega) (by assumption) (by assumption) (by assumption)) rfl mw_recv (fun _ h => h) ⟨by decide, by decide⟩ rfl rfl ⟨by decide, by decide⟩ (rest := []) rfl (Nat.le_of_ble_eq_true rfl) (fun u13 => []) (fun _ => rfl) (fun u13 hu13 => J6 u13 (by have h9 := hu13; unfold q_opt; rw [hq]; exact h9))
      intro u5 hu5
      have fu5 : OF 0 (q_uncut s).toNat (q_opt s SL) 0 ln bl (sU g 7 1000000) u5.1 u5.2.1 u5.2.2.1 := hu5
      obtain ⟨o1, o2, o3⟩ := ord_1 fu5 (q_opt_le (by omega))
      rw [Int.toNat_of_nonneg (by omega)] at o3
      refine v_iload_n hG dX12_order_45 rfl 2 rfl ?_
      refine v_iconst hG dX12_order_46 ?_
      refine v_icmp_ne (tgt := 57) hG dX12_order_47 (by decide) (by omega) (by omega) (fun c14 => ?_) (fun c14 => ?_)
      · skip
        refine v_iload_n hG dX12_order_57 rfl 2 rfl ?_
        refine v_iload_n hG dX12_order_58 rfl 0 rfl ?_
        refine v_icmp_ge (tgt := 71) hG dX12_order_59 (by decide) (by omega) (by omega) (fun c15 => ?_) (fun c15 => ?_)
        · skip
          refine v_bipush hG dX12_order_71 (by decide) ?_
          have e16 : @Eq Int (a_order s SL k) (-5) := by first | (rw [o1]; simp only [a_order, if_pos c2, if_pos c4, if_neg c14, if_pos c15]; done) | (rw [o3 k (by omega) (by omega)]; simp only [a_order, if_pos c2, if_pos c4, if_neg c14, if_pos c15]; done) | (simp only [a_order, if_pos c2, if_pos c4, if_neg c14, if_pos c15]; done)
          exact v_ireturn hG hR dX12_order_73 (u5.1, u5.2.1, u5.2.2.1, u5.2.2.2.1, u5.2.2.2.2) (congrArg (fun z => some (vI z)) e16) (by exact o2) (fun _ hM => hM)
        · skip
          refine v_aload_n hG dX12_order_62 rfl 1 rfl ?_
          refine mg_bestLine hG dX12_order_63 ?_
          refine v_iload_n hG dX12_order_66 rfl 2 rfl ?_
          refine ma_bestLine (z := u5.2.1 k) hG dX12_order_67 (by omega) rfl ?_
          refine v_goto (tgt := 73) hG dX12_order_68 (by decide) ?_
          have e17 : @Eq Int (a_order s SL k) (u5.2.1 k) := by first | (rw [o1]; simp only [a_order, if_pos c2, if_pos c4, if_neg c14, if_neg c15]; done) | (rw [o3 k (by omega) (by omega)]; simp only [a_order, if_pos c2, if_pos c4, if_neg c14, if_neg c15]; done) | (simp only [a_order, if_pos c2, if_pos c4, if_neg c14, if_neg c15]; done)
          exact v_ireturn hG hR dX12_order_73 (u5.1, u5.2.1, u5.2.2.1, u5.2.2.2.1, u5.2.2.2.2) (congrArg (fun z => some (vI z)) e17) (by exact o2) (fun _ hM => hM)
      · skip
        refine v_aload_n hG dX12_order_50 rfl 1 rfl ?_
        refine mg_least (z := u5.2.2.1 7) hG dX12_order_51 rfl ?_
        refine v_goto (tgt := 73) hG dX12_order_54 (by decide) ?_
        have e18 : @Eq Int (a_order s SL k) (u5.2.2.1 7) := by first | (rw [o1]; simp only [a_order, if_pos c2, if_pos c4, if_pos c14]; done) | (rw [o3 k (by omega) (by omega)]; simp only [a_order, if_pos c2, if_pos c4, if_pos c14]; done) | (simp only [a_order, if_pos c2, if_pos c4, if_pos c14]; done)
        exact v_ireturn hG hR dX12_order_73 (u5.1, u5.2.1, u5.2.2.1, u5.2.2.2.1, u5.2.2.2.2) (congrArg (fun z => some (vI z)) e18) (by exact o2) (fun _ hM => hM)
    · skip
      refine v_bipush hG dX12_order_22 (by decide) ?_
      have e19 : @Eq Int (a_order s SL k) (-9) := by simp only [a_order, if_pos c2, if_neg c4]
      exact v_ireturn hG hR dX12_order_24 (ln, bl, g, bY, tr) (congrArg (fun z => some (vI z)) e19) (by exact fun q hq => rfl) (fun _ hM => hM)
  · skip
    refine v_iconst hG dX12_order_9 ?_
    have e20 : @Eq Int (a_order s SL k) (-1) := by simp only [a_order, if_neg c2]
    exact v_ireturn hG hR dX12_order_10 (ln, bl, g, bY, tr) (congrArg (fun z => some (vI z)) e20) (by exact fun q hq => rfl) (fun _ hM => hM)
