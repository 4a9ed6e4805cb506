/-! THE CLASS: the order of cutting, the walks -/
def pM (s : Int → Int) : Nat := 2 ^ (q_uncut s).toNat
theorem pM_rng {s : Int → Int} (h : 0 ≤ q_uncut s ∧ q_uncut s ≤ 6) : 1 ≤ pM s ∧ pM s ≤ 64 := by
  unfold pM
  have h1 := Nat.two_pow_pos (q_uncut s).toNat
  have h2 : 2 ^ (q_uncut s).toNat ≤ 2 ^ 6 := Nat.pow_le_pow_right (by omega) (by omega)
  omega
theorem pM_eq {s : Int → Int} : (1 : Int) * 2 ^ (q_uncut s).toNat = (pM s : Int) := by
  unfold pM
  rw [Int.one_mul]
  norm_cast
theorem ts_y {s u : Int → Int} {y i : Nat} (hy : y < 256) (h : iand ((y : Int) / 2 ^ (i : Int).toNat) 1 = 1) : clamp (ts s u y i + q_needs s (u i) / 2) 0 99 = ts s u y (i + 1) := by
  rw [bit_v hy] at h
  have hb : y.testBit i = true := by by_cases q : y.testBit i = true; exact q; rw [if_neg q] at h; omega
  exact (if_pos hb).symm
theorem ts_n {s u : Int → Int} {y i : Nat} (hy : y < 256) (h : ¬ iand ((y : Int) / 2 ^ (i : Int).toNat) 1 = 1) : ts s u y i = ts s u y (i + 1) := by
  rw [bit_v hy] at h
  have hb : ¬ y.testBit i = true := fun q => h (if_pos q)
  exact (if_neg hb).symm
theorem bv_rng {y i : Nat} (hy : y < 256) : 0 ≤ iand ((y : Int) / 2 ^ (i : Int).toNat) 1 ∧ iand ((y : Int) / 2 ^ (i : Int).toNat) 1 ≤ 1 := by
  rw [bit_v hy]; split <;> omega
theorem bv_f {y i : Nat} (hy : y < 256) (h : iand ((y : Int) / 2 ^ (i : Int).toNat) 1 = 0) : y.testBit i = false := by
  rw [bit_v hy] at h
  cases q : y.testBit i
  · rfl
  · rw [q, if_pos rfl] at h; omega
theorem bv_t {y i : Nat} (hy : y < 256) (h : ¬ iand ((y : Int) / 2 ^ (i : Int).toNat) 1 = 0) : y.testBit i = true := by
  rw [bit_v hy] at h
  cases q : y.testBit i
  · rw [q, if_neg Bool.false_ne_true] at h; omega
  · rfl
theorem or_lt {s : Int → Int} {y i : Nat} (hy : y < pM s) (hi : (i : Int) < q_uncut s) : y ||| 2 ^ i < pM s := Nat.or_lt_two_pow hy (Nat.pow_lt_pow_right (by omega) (by omega))
theorem or_gt {y i : Nat} (hi : y.testBit i = false) : y < y ||| 2 ^ i := by
  have h1 : y ≤ y ||| 2 ^ i := Nat.left_le_or
  have h2 : y ≠ y ||| 2 ^ i := fun e => by
    have h3 : (y ||| 2 ^ i).testBit i = true := by rw [bit_or, decide_eq_true (show i = i from rfl), Bool.or_true]
    rw [← e, hi] at h3
    exact Bool.noConfusion h3
  omega
theorem ior_pow {y i : Nat} (h : y ||| 2 ^ i < 64) : ior (y : Int) (1 * 2 ^ (i : Int).toNat) = ((y ||| 2 ^ i : Nat) : Int) := by
  have e : (1 : Int) * 2 ^ (i : Int).toNat = ((2 ^ i : Nat) : Int) := by
    rw [Int.one_mul, Int.toNat_natCast]; norm_cast
  rw [e, ior_nat (by omega)]
theorem bf_min {cand : Nat → Bool} {val : Nat → Int} {lst : Nat → List Int} {i : Nat} (hc : cand i = true) : ∀ d : Nat, (bfold cand val lst (i + 1 + d)).1 ≤ val i
  | 0 => by
    have e1 : bfold cand val lst (i + 1) = if cand i && decide (val i < (bfold cand val lst i).1) then (val i, (i : Int) :: lst i) else bfold cand val lst i := rfl
    rw [Nat.add_zero, e1, hc]
    by_cases h : val i < (bfold cand val lst i).1
    · rw [decide_eq_true h]; exact Int.le_refl _
    · rw [decide_eq_false h]; show (bfold cand val lst i).1 ≤ val i; omega
  | d + 1 => by
    have ih := bf_min (val := val) (lst := lst) hc d
    have e1 : bfold cand val lst (i + 1 + (d + 1)) = if cand (i + 1 + d) && decide (val (i + 1 + d) < (bfold cand val lst (i + 1 + d)).1) then (val (i + 1 + d), ((i + 1 + d : Nat) : Int) :: lst (i + 1 + d)) else bfold cand val lst (i + 1 + d) := rfl
    rw [e1]
    cases hq : cand (i + 1 + d)
    · exact ih
    · by_cases h : val (i + 1 + d) < (bfold cand val lst (i + 1 + d)).1
      · rw [decide_eq_true h]; show val (i + 1 + d) ≤ val i; omega
      · rw [decide_eq_false h]; exact ih
theorem bf_top {cand : Nat → Bool} {val : Nat → Int} {lst : Nat → List Int} : ∀ k : Nat, (bfold cand val lst k).1 ≤ 1000000000
  | 0 => Int.le_refl _
  | k + 1 => by
    have ih := bf_top (cand := cand) (val := val) (lst := lst) k
    have e1 : bfold cand val lst (k + 1) = if cand k && decide (val k < (bfold cand val lst k).1) then (val k, (k : Int) :: lst k) else bfold cand val lst k := rfl
    rw [e1]
    split
    · rename_i h
      rw [Bool.and_eq_true, decide_eq_true_iff] at h
      show val k ≤ 1000000000
      omega
    · exact ih
theorem rem_lt {y : Nat} : ∀ M : Nat, rem y M ≠ 0 → ∃ i, i < M ∧ y.testBit i = false
  | 0, h => absurd rfl h
  | M + 1, h => by
    by_cases q : y.testBit M = true
    · have e : rem y (M + 1) = rem y M + (if y.testBit M = true then 0 else 1) := rfl
      rw [if_pos q] at e
      obtain ⟨i, h1, h2⟩ := rem_lt (y := y) M (by omega)
      exact ⟨i, by omega, h2⟩
    · exact ⟨M, by omega, by cases e : y.testBit M; rfl; exact absurd e q⟩
theorem oR_rng {s u : Int → Int} {SL : List Int} {M : Nat} : ∀ (r y : Nat) (t : Int), rem y M = r → 0 ≤ (oR s u SL M r y t).1 ∧ (oR s u SL M r y t).1 ≤ 99 * (r : Int)
  | 0, _, _, _ => ⟨Int.le_refl _, Int.le_refl _⟩
  | r + 1, y, t, h => by
    have hv : ∀ (i : Nat), 0 ≤ (oR s u SL M r (y ||| 2 ^ i) (clamp (t + q_needs s (u i) / 2) 0 99)).1 → 0 ≤ q_risk s SL (u i) t + (oR s u SL M r (y ||| 2 ^ i) (clamp (t + q_needs s (u i) / 2) 0 99)).1 := fun i hi => by
      have := q_risk_rng s SL (u i) t
      omega
    obtain ⟨i, hi, hb⟩ := rem_lt M (show rem y M ≠ 0 by omega)
    have hc : (fun i : Nat => !y.testBit i) i = true := by show (!y.testBit i) = true; rw [hb]; rfl
    have hm := bf_min (cand := fun i => !y.testBit i) (val := fun i => q_risk s SL (u i) t + (oR s u SL M r (y ||| 2 ^ i) (clamp (t + q_needs s (u i) / 2) 0 99)).1) (lst := fun i => (oR s u SL M r (y ||| 2 ^ i) (clamp (t + q_needs s (u i) / 2) 0 99)).2) hc (M - (i + 1))
    rw [show i + 1 + (M - (i + 1)) = M by omega] at hm
    have e1 := rem_or hb M
    rw [if_pos hi] at e1
    have ih := oR_rng (s := s) (u := u) (SL := SL) (M := M) r (y ||| 2 ^ i) (clamp (t + q_needs s (u i) / 2) 0 99) (by omega)
    have hr := q_risk_rng s SL (u i) t
    refine ⟨oR_pos (r + 1) y t, ?_⟩
    have e2 : oR s u SL M (r + 1) y t = bfold (fun i => !y.testBit i) (fun i => q_risk s SL (u i) t + (oR s u SL M r (y ||| 2 ^ i) (clamp (t + q_needs s (u i) / 2) 0 99)).1) (fun i => (oR s u SL M r (y ||| 2 ^ i) (clamp (t + q_needs s (u i) / 2) 0 99)).2) M := rfl
    rw [e2]
    have hm2 : (bfold (fun i => !y.testBit i) (fun i => q_risk s SL (u i) t + (oR s u SL M r (y ||| 2 ^ i) (clamp (t + q_needs s (u i) / 2) 0 99)).1) (fun i => (oR s u SL M r (y ||| 2 ^ i) (clamp (t + q_needs s (u i) / 2) 0 99)).2) M).1 ≤ q_risk s SL (u i) t + (oR s u SL M r (y ||| 2 ^ i) (clamp (t + q_needs s (u i) / 2) 0 99)).1 := hm
    omega
where
  oR_pos {s u : Int → Int} {SL : List Int} {M : Nat} : ∀ (r y : Nat) (t : Int), 0 ≤ (oR s u SL M r y t).1
  | 0, _, _ => Int.le_refl _
  | r + 1, y, t => bfold_pos (fun i => by
      have h1 := oR_pos (s := s) (u := u) (SL := SL) (M := M) r (y ||| 2 ^ i) (clamp (t + q_needs s (u i) / 2) 0 99)
      have h2 := q_risk_rng s SL (u i) t
      show 0 ≤ q_risk s SL (u i) t + _
      omega) M
theorem rem_le (y : Nat) : ∀ M : Nat, rem y M ≤ M
  | 0 => Nat.le_refl _
  | M + 1 => by
    have h := rem_le y M
    show rem y M + (if y.testBit M = true then 0 else 1) ≤ M + 1
    split <;> omega
theorem oO_rng {s u : Int → Int} {SL : List Int} {M y : Nat} (hM : M ≤ 8) : 0 ≤ (oO s u SL M y).1 ∧ (oO s u SL M y).1 ≤ 1000 := by
  have h := oR_rng (s := s) (u := u) (SL := SL) (M := M) (rem y M) y (ts s u y M) rfl
  have h2 := rem_le y M
  unfold oO
  omega
def OKs (s u : Int → Int) (SL : List Int) (y0 : Nat) (lr nx : Int → Int) : Prop := ∀ x : Nat, y0 ≤ x → x < pM s → (oO s u SL (q_uncut s).toNat x).1 = lr x ∧ (x < pM s - 1 → ∃ i : Nat, (i : Int) < q_uncut s ∧ nx x = i ∧ x.testBit i = false ∧ (oO s u SL (q_uncut s).toNat x).2 = (i : Int) :: (oO s u SL (q_uncut s).toNat (x ||| 2 ^ i)).2)
def bO (s u : Int → Int) (SL : List Int) (y i : Nat) : Int × List Int := bfold (fun i => !y.testBit i) (vO s u SL (q_uncut s).toNat y) (lO s u SL (q_uncut s).toNat y) i
def INN (s u : Int → Int) (SL : List Int) (y i : Nat) (lr nx : Int → Int) : Prop := OKs s u SL (y + 1) lr nx ∧ (bO s u SL y i).1 = lr y ∧ ((bO s u SL y i).1 < 1000000000 → ∃ e : Nat, (e : Int) < q_uncut s ∧ nx y = e ∧ y.testBit e = false ∧ (bO s u SL y i).2 = (e : Int) :: (oO s u SL (q_uncut s).toNat (y ||| 2 ^ e)).2)
theorem OKs_top {s u lr nx : Int → Int} {SL : List Int} : OKs s u SL (pM s - 1) (sU lr ((pM s : Int) - 1) 0) nx := by
  intro x h1 h2
  have e : x = 2 ^ (q_uncut s).toNat - 1 := by unfold pM at h1 h2; omega
  have e2 : (x : Int) = (pM s : Int) - 1 := by unfold pM at h1 h2 ⊢; omega
  refine ⟨?_, fun h => by omega⟩
  rw [e2, sU_eq, e, oO_all]
theorem INN_0 {s u lr nx : Int → Int} {SL : List Int} {y : Nat} (h : OKs s u SL (y + 1) lr nx) : INN s u SL y 0 (sU lr y 1000000000) nx := by
  refine ⟨fun x h1 h2 => ?_, ?_, fun h2 => ?_⟩
  · rw [sU_ne (by omega)]; exact h x h1 h2
  · rw [sU_eq]; rfl
  · have e : (bO s u SL y 0).1 = 1000000000 := rfl
    omega
theorem INN_t {s u lr nx : Int → Int} {SL : List Int} {y i : Nat} (hb : y.testBit i = true) (h : INN s u SL y i lr nx) : INN s u SL y (i + 1) lr nx := by
  have e : bO s u SL y (i + 1) = bO s u SL y i := bfold_skip (by show (!y.testBit i) = false; rw [hb]; rfl)
  unfold INN at *
  rw [e]; exact h
theorem INN_n {s u lr nx : Int → Int} {SL : List Int} {y i : Nat} (h2 : ¬ vO s u SL (q_uncut s).toNat y i < (bO s u SL y i).1) (h : INN s u SL y i lr nx) : INN s u SL y (i + 1) lr nx := by
  have e : bO s u SL y (i + 1) = bO s u SL y i := bfold_hi h2
  unfold INN at *
  rw [e]; exact h
theorem INN_y {s u lr nx : Int → Int} {SL : List Int} {y i : Nat} (hb : y.testBit i = false) (hi : (i : Int) < q_uncut s) (h2 : vO s u SL (q_uncut s).toNat y i < (bO s u SL y i).1) (h : INN s u SL y i lr nx) : INN s u SL y (i + 1) (sU lr y (vO s u SL (q_uncut s).toNat y i)) (sU nx y i) := by
  have e : bO s u SL y (i + 1) = (vO s u SL (q_uncut s).toNat y i, (i : Int) :: lO s u SL (q_uncut s).toNat y i) := bfold_lo (by show (!y.testBit i) = true; rw [hb]; rfl) h2
  refine ⟨fun x h1 h3 => ?_, ?_, fun _ => ⟨i, hi, sU_eq, hb, ?_⟩⟩
  · rw [sU_ne (by omega), sU_ne (by omega)]; exact h.1 x h1 h3
  · rw [e, sU_eq]
  · rw [e]; rfl
theorem INN_end {s u lr nx : Int → Int} {SL : List Int} {y i : Nat} (hT : 0 ≤ s 2 ∧ s 2 ≤ 99) (hM6 : 0 ≤ q_uncut s ∧ q_uncut s ≤ 6) (hq : ∀ k : Nat, (k : Int) < q_uncut s → 0 ≤ q_needs s (u k) / 2) (hy : y < pM s - 1) (hi : (i : Int) = q_uncut s) (h : INN s u SL y i lr nx) : OKs s u SL y lr nx := by
  have e : oO s u SL (q_uncut s).toNat y = bO s u SL y i := by
    rw [oO_step hT (fun k hk => hq k (by omega)) hy]
    unfold bO
    rw [show (q_uncut s).toNat = i by omega]
  have hr := oO_rng (s := s) (u := u) (SL := SL) (M := (q_uncut s).toNat) (y := y) (by omega)
  intro x h1 h2
  by_cases ex : x = y
  · subst ex
    rw [e] at hr ⊢
    exact ⟨h.2.1, fun _ => h.2.2 (by omega)⟩
  · exact h.1 x (by omega) h2
theorem vO_eq {s u lr nx : Int → Int} {SL : List Int} {y i : Nat} (hy : y < pM s) (hi : (i : Int) < q_uncut s) (hb : y.testBit i = false) (h : INN s u SL y i lr nx) : lr ((y ||| 2 ^ i : Nat) : Int) = (oO s u SL (q_uncut s).toNat (y ||| 2 ^ i)).1 := (h.1 (y ||| 2 ^ i) (or_gt hb) (or_lt hy hi)).1.symm
theorem bO_rng {s u : Int → Int} {SL : List Int} {y i : Nat} (hM : q_uncut s ≤ 8) : 0 ≤ (bO s u SL y i).1 ∧ (bO s u SL y i).1 ≤ 1000000000 := ⟨bfold_pos (fun k => by
  have h1 := oO_rng (s := s) (u := u) (SL := SL) (M := (q_uncut s).toNat) (y := y ||| 2 ^ k) (by omega)
  have h2 := q_risk_rng s SL (u k) (ts s u y (q_uncut s).toNat)
  show 0 ≤ q_risk s SL (u k) (ts s u y (q_uncut s).toNat) + (oO s u SL (q_uncut s).toNat (y ||| 2 ^ k)).1
  omega) i, bf_top i⟩
set_option maxHeartbeats 4000000 in
set_option maxRecDepth 100000 in
theorem kc11_tiredBehindSet (l : Launch) (D : Dx) (A : Nat → Prop) (ad : Nat → Nat) (K : Int → Int) (S Q qa : Nat → Int → Int) (tp : Nat → Nat) (s bo e uc lr nx : Int → Int) (y : Nat) (SL : List Int) (hN : NM s) (hM : GM s) (hT : TI s) (hUC : UC s (s 43).toNat uc) (hM6 : 0 ≤ q_uncut s ∧ q_uncut s ≤ 6) (hy : y < 64) : CT l D A yX11_tiredBehindSet cX11_tiredBehindSet 5 (some .int) { frames := 3, cells := 0, slots := 0, locals := 63 } [.ref (ad 0), vI (y : Int), vI (q_uncut s)] (CW D A ad K (uS S 0 s) Q qa tp bo e uc lr nx) (fun _ : Unit => some (vI (ts s uc y (q_uncut s).toNat))) (fun _ => 0 ≤ ts s uc y (q_uncut s).toNat ∧ ts s uc y (q_uncut s).toNat ≤ 99) (fun _ => CW D A ad K (uS S 0 s) Q qa tp bo e uc lr nx) := by
  refine ct_of (lo0 := [(0, .ref (ad 0)), (1, vI (y : Int)), (2, vI (q_uncut s))]) (by decide) (Nat.le_of_ble_eq_true rfl) rfl ?_
  intro G hG hR
  have hN9 : 0 ≤ s 43 ∧ s 43 ≤ 8 := hN
  have hT2 : 0 ≤ s 2 ∧ s 2 ≤ 99 := hT
  refine v_aload_n hG dX11_tiredBehindSet_0 rfl 0 rfl ?_
  refine cg11 hG dX11_tiredBehindSet_1 zf_X11_17 (k := 0) (by decide) (v := .ref (kB ad 0)) rfl ?_
  refine cg0 (by decide) hG dX11_tiredBehindSet_4 zf_X11_130 (k := 2) (by decide) (v := vI (s 2)) rfl ?_
  refine v_istore_n (lo' := [(3, vI (s 2)), (0, .ref (ad 0)), (1, vI (y : Int)), (2, vI (q_uncut s))]) hG dX11_tiredBehindSet_7 rfl (by decide) rfl ?_
  refine v_iconst hG dX11_tiredBehindSet_8 ?_
  refine v_istore (lo' := [(4, vI 0), (3, vI (s 2)), (0, .ref (ad 0)), (1, vI (y : Int)), (2, vI (q_uncut s))]) hG dX11_tiredBehindSet_9 (by decide) rfl ?_
  refine v_lo [2, 3, 4, 1, 0] (lo' := [(0, .ref (ad 0)), (1, vI (y : Int)), (2, vI (q_uncut s)), (3, vI (s 2)), (4, vI 0)]) rfl ?_
  have L3 : ∀ mz : Nat, ∀ (i : Nat), ((i : Int) ≤ q_uncut s) → (q_uncut s - (i : Int)).toNat = mz → ∀ x1 : Int, x1 = ((i : Int)) → ∀ x2 : Int, x2 = (ts s uc y i) → V G 0 0 (CW D A ad K (uS S 0 s) Q qa tp bo e uc lr nx) 11 [(0, .ref (ad 0)), (1, vI (y : Int)), (2, vI (q_uncut s)), (3, vI x2), (4, vI x1)] [] := by
    intro dL3
    induction dL3 using Nat.strongRecOn with
    | ind dL3 ihL3 =>
      intro i hq4 hq5
      intro x1 hx1
      subst hx1
      intro x2 hx2
      subst hx2
      refine v_iload hG dX11_tiredBehindSet_11 4 rfl ?_
      refine v_iload_n hG dX11_tiredBehindSet_13 rfl 2 rfl ?_
      refine v_icmp_ge (tgt := 53) hG dX11_tiredBehindSet_14 (by decide) (by omega) (by omega) (fun c6 => ?_) (fun c6 => ?_)
      · skip
        refine v_iload_n hG dX11_tiredBehindSet_53 rfl 3 rfl ?_
        have e7 : @Eq Int (ts s uc y (q_uncut s).toNat) (ts s uc y i) := by rw [show i = (q_uncut s).toNat by omega]
        exact v_ireturn hG hR dX11_tiredBehindSet_54 () (congrArg (fun z => some (vI z)) e7) (by exact ts_rng hT2 _) (fun _ hM => hM)
      · skip
        have hbr := bv_rng (y := y) (i := i) (by omega)
        have htr := ts_rng (u := uc) (y := y) hT2 i
        refine v_iload_n hG dX11_tiredBehindSet_17 rfl 1 rfl ?_
        refine v_iload hG dX11_tiredBehindSet_18 4 rfl ?_
        refine v_ishr hG dX11_tiredBehindSet_20 (by omega) (by omega) ?_
        refine v_iconst hG dX11_tiredBehindSet_21 ?_
        refine v_iand hG dX11_tiredBehindSet_22 ?_
        refine v_iconst hG dX11_tiredBehindSet_23 ?_
        refine v_icmp_ne (tgt := 47) hG dX11_tiredBehindSet_24 (by decide) (by omega) (by omega) (fun c8 => ?_) (fun c8 => ?_)
        · skip
          refine v_iinc (lo' := [(4, vI ((i : Int) + 1)), (0, .ref (ad 0)), (1, vI (y : Int)), (2, vI (q_uncut s)), (3, vI (ts s uc y i))]) hG dX11_tiredBehindSet_47 4 rfl (by decide) rfl ?_
          refine v_goto (tgt := 11) hG dX11_tiredBehindSet_50 (by decide) ?_
          refine v_lo [1, 2, 3, 4, 0] (lo' := [(0, .ref (ad 0)), (1, vI (y : Int)), (2, vI (q_uncut s)), (3, vI (ts s uc y i)), (4, vI ((i : Int) + 1))]) rfl ?_
          exact ihL3 _ (by omega) (i + 1) (by omega) rfl _ (by first | omega | rfl | (simp [c6, c8]; done)) _ (by first | exact ts_y (by omega) (by assumption) | exact ts_n (by omega) (by assumption))
        · skip
          obtain ⟨j, hj, hjc, hju⟩ := UC_ex hUC (s 43).toNat (Nat.le_refl _) i (by rw [unc_cnt]; omega)
          have hu8 : 0 ≤ uc (i : Int) ∧ uc (i : Int) < s 43 := by rw [hju]; omega
          have hmu := hM (uc (i : Int)) hu8.1 hu8.2
          refine v_aload_n hG dX11_tiredBehindSet_27 rfl 0 rfl ?_
          refine cg11 hG dX11_tiredBehindSet_28 zf_X11_17 (k := 0) (by decide) (v := .ref (kB ad 0)) rfl ?_
          refine cg0 (by decide) hG dX11_tiredBehindSet_31 zf_X11_91 (k := 6) (by decide) (v := .ref (kA ad 0)) rfl ?_
          refine v_aload_n hG dX11_tiredBehindSet_34 rfl 0 rfl ?_
          refine cg11 hG dX11_tiredBehindSet_35 zf_X11_40 (k := 5) (by decide) (v := .ref (ad 4)) rfl ?_
          refine v_iload hG dX11_tiredBehindSet_38 4 rfl ?_
          refine ca_uc hG dX11_tiredBehindSet_40 (by omega) rfl ?_
          refine ca_M (x := uc (i : Int)) (by decide) (by omega) hG dX11_tiredBehindSet_41 ?_
          refine v_iload_n hG dX11_tiredBehindSet_42 rfl 3 rfl ?_
          refine cv_tiredBehindCut (by decide) (by omega) (by omega) (by first | assumption | exact hM _ (by omega) (by omega)) (by omega) hG dX11_tiredBehindSet_43 zl_X11_210 ⟨by decide, by decide⟩ (Nat.le_of_ble_eq_true rfl) ?_
          refine v_istore_n (lo' := [(3, vI (clamp ((ts s uc y i) + q_needs s (uc (i : Int)) / 2) 0 99)), (0, .ref (ad 0)), (1, vI (y : Int)), (2, vI (q_uncut s)), (4, vI (i : Int))]) hG dX11_tiredBehindSet_46 rfl (by decide) rfl ?_
          refine v_iinc (lo' := [(4, vI ((i : Int) + 1)), (3, vI (clamp ((ts s uc y i) + q_needs s (uc (i : Int)) / 2) 0 99)), (0, .ref (ad 0)), (1, vI (y : Int)), (2, vI (q_uncut s))]) hG dX11_tiredBehindSet_47 4 rfl (by decide) rfl ?_
          refine v_goto (tgt := 11) hG dX11_tiredBehindSet_50 (by decide) ?_
          refine v_lo [2, 3, 4, 1, 0] (lo' := [(0, .ref (ad 0)), (1, vI (y : Int)), (2, vI (q_uncut s)), (3, vI (clamp ((ts s uc y i) + q_needs s (uc (i : Int)) / 2) 0 99)), (4, vI ((i : Int) + 1))]) rfl ?_
          exact ihL3 _ (by omega) (i + 1) (by omega) rfl _ (by first | omega | rfl | (simp [c6, c8]; done)) _ (by first | exact ts_y (by omega) (by assumption) | exact ts_n (by omega) (by assumption))
  exact L3 _ 0 (by omega) rfl _ (by first | omega | rfl | (simp []; done)) _ (by rfl)
set_option maxHeartbeats 4000000 in
set_option maxRecDepth 100000 in
theorem kc11_findOrder (l : Launch) (D : Dx) (A : Nat → Prop) (ad : Nat → Nat) (K : Int → Int) (S Q qa : Nat → Int → Int) (tp : Nat → Nat) (s bo e uc lr nx : Int → Int) (SL : List Int) (hN : NM s) (hM : GM s) (hP : PL s) (hCH : CHP Q qa s SL) (hT : TI s) (hUC : UC s (s 43).toNat uc) (hM6 : 0 ≤ q_uncut s ∧ q_uncut s ≤ 6) : CT l D A yX11_findOrder cX11_findOrder 7 none { frames := 4, cells := 0, slots := 0, locals := 99 } [.ref (ad 0), vI (q_uncut s)] (CW D A ad K (uS S 0 s) Q qa tp bo e uc lr nx) (fun u : (Int → Int) × (Int → Int) => none) (fun u => OKs s uc SL 0 u.1 u.2) (fun u => CW D A ad K (uS S 0 s) Q qa tp bo e uc u.1 u.2) := by
  refine ct_of (lo0 := [(0, .ref (ad 0)), (1, vI (q_uncut s))]) (by decide) (Nat.le_of_ble_eq_true rfl) rfl ?_
  intro G hG hR
  have hN9 : 0 ≤ s 43 ∧ s 43 ≤ 8 := hN
  obtain ⟨hhc, hpls, hwe, hmd⟩ := id hCH
  have hwr := q_wear_rng hP
  have hT2 : 0 ≤ s 2 ∧ s 2 ≤ 99 := hT
  have hpm := pM_rng hM6
  have hqn : ∀ k : Nat, (k : Int) < q_uncut s → 0 ≤ q_needs s (uc k) / 2 := fun k hk => by
    obtain ⟨j, hj, hjc, hju⟩ := UC_ex hUC (s 43).toNat (Nat.le_refl _) k (by rw [unc_cnt]; omega)
    have h9 := q_needs_rng (hM (uc (k : Int)) (by rw [hju]; omega) (by rw [hju]; omega))
    omega
  refine v_iconst hG dX11_findOrder_0 ?_
  refine v_iload_n hG dX11_findOrder_1 rfl 1 rfl ?_
  refine v_ishl hG dX11_findOrder_2 (by omega) ?_
  rw [pM_eq]
  refine v_iconst hG dX11_findOrder_3 ?_
  refine v_isub hG dX11_findOrder_4 ?_
  refine v_istore_n (lo' := [(2, vI ((pM s : Int) - 1)), (0, .ref (ad 0)), (1, vI (q_uncut s))]) hG dX11_findOrder_5 rfl (by decide) rfl ?_
  refine v_aload_n hG dX11_findOrder_6 rfl 1 rfl ?_
  refine cg11 hG dX11_findOrder_7 zf_X11_44 (k := 6) (by decide) (v := .ref (ad 5)) rfl ?_
  refine v_iload_n hG dX11_findOrder_10 rfl 0 rfl ?_
  refine v_iconst hG dX11_findOrder_11 ?_
  refine cs_lr hG dX11_findOrder_12 (by omega) ?_
  refine v_iload_n hG dX11_findOrder_13 rfl 0 rfl ?_
  refine v_iconst hG dX11_findOrder_14 ?_
  refine v_isub hG dX11_findOrder_15 ?_
  refine v_istore_n (lo' := [(3, vI (((pM s : Int) - 1) - 1)), (2, vI ((pM s : Int) - 1)), (0, .ref (ad 0)), (1, vI (q_uncut s))]) hG dX11_findOrder_16 rfl (by decide) rfl ?_
  refine v_lo [2, 3, 1, 0] (lo' := [(0, .ref (ad 0)), (1, vI (q_uncut s)), (2, vI ((pM s : Int) - 1)), (3, vI (((pM s : Int) - 1) - 1))]) rfl ?_
  have L4 : ∀ mz : Nat, ∀ (q : Nat), (q ≤ pM s - 1) → q = mz → ∀ x1 : Int, x1 = ((q : Int) - 1) → ∀ x2 : Int → Int, True → ∀ x3 : Int → Int, OKs s uc SL q x2 x3 → V G 0 0 (CW D A ad K (uS S 0 s) Q qa tp bo e uc x2 x3) 17 [(0, .ref (ad 0)), (1, vI (q_uncut s)), (2, vI ((pM s : Int) - 1)), (3, vI x1)] [] := by
    intro dL4
    induction dL4 using Nat.strongRecOn with
    | ind dL4 ihL4 =>
      intro q hq5 hq6
      intro x1 hx1
      subst hx1
      intro x2 hx2
      intro x3 hx3
      refine v_iload_n hG dX11_findOrder_17 rfl 3 rfl ?_
      refine v_if_lt (tgt := 136) hG dX11_findOrder_18 (by decide) (by omega) (fun c7 => ?_) (fun c7 => ?_)
      · skip
        exact v_return hG hR dX11_findOrder_136 (x2, x3) rfl (by rw [show (0 : Nat) = q by omega]; assumption) (fun _ hM => hM)
      · skip
        obtain ⟨y, rfl⟩ : ∃ y : Nat, q = y + 1 := ⟨q - 1, by omega⟩
        rw [show (((y + 1 : Nat) : Int) - 1) = (y : Int) by omega]
        refine v_aload_n hG dX11_findOrder_21 rfl 0 rfl ?_
        refine v_iload_n hG dX11_findOrder_22 rfl 3 rfl ?_
        refine v_iload_n hG dX11_findOrder_23 rfl 1 rfl ?_
        refine v_callV (k1' := 0) (k2' := 0) hG dX11_findOrder_24 zc_X11_tiredBehindSet ⟨zl_X11_314, zi_X11_tiredBehindSet, zs_X11_tiredBehindSet⟩ (fun l => kc11_tiredBehindSet l D A ad K S Q qa tp s bo e uc x2 x3 y SL (by assumption) (by assumption) (by assumption) (by assumption) (by omega) (by omega)) rfl cR11 (fun _ h => h) ⟨by decide, by decide⟩ rfl rfl ⟨by decide, by decide⟩ (rest := []) rfl (Nat.le_of_ble_eq_true rfl) (fun u8 => [vI (ts s uc y (q_uncut s).toNat)]) (fun _ => rfl) (fun u8 hu8 => ?_)
        have fu8 : 0 ≤ ts s uc y (q_uncut s).toNat ∧ ts s uc y (q_uncut s).toNat ≤ 99 := hu8
        refine v_istore (lo' := [(4, vI (ts s uc y (q_uncut s).toNat)), (0, .ref (ad 0)), (1, vI (q_uncut s)), (2, vI ((pM s : Int) - 1)), (3, vI (y : Int))]) hG dX11_findOrder_27 (by decide) rfl ?_
        refine v_aload_n hG dX11_findOrder_29 rfl 1 rfl ?_
        refine cg11 hG dX11_findOrder_30 zf_X11_44 (k := 6) (by decide) (v := .ref (ad 5)) rfl ?_
        refine v_iload_n hG dX11_findOrder_33 rfl 4 rfl ?_
        refine v_ldcw (n := 1000000000) hG dX11_findOrder_34 (ztb 780 (by decide +kernel) (by decide +kernel)) rfl ?_
        refine cs_lr hG dX11_findOrder_37 (by omega) ?_
        refine v_iconst hG dX11_findOrder_38 ?_
        refine v_istore (lo' := [(5, vI 0), (4, vI (ts s uc y (q_uncut s).toNat)), (0, .ref (ad 0)), (1, vI (q_uncut s)), (2, vI ((pM s : Int) - 1)), (3, vI (y : Int))]) hG dX11_findOrder_39 (by decide) rfl ?_
        refine v_lo [2, 3, 4, 5, 1, 0] (lo' := [(0, .ref (ad 0)), (1, vI (q_uncut s)), (2, vI ((pM s : Int) - 1)), (3, vI (y : Int)), (4, vI (ts s uc y (q_uncut s).toNat)), (5, vI 0)]) rfl ?_
        have L12 : ∀ mz : Nat, ∀ (i : Nat), ((i : Int) ≤ q_uncut s) → (q_uncut s - (i : Int)).toNat = mz → ∀ x9 : Int, x9 = ((i : Int)) → ∀ x10 : Int → Int, True → ∀ x11 : Int → Int, INN s uc SL y i x10 x11 → V G 0 0 (CW D A ad K (uS S 0 s) Q qa tp bo e uc x10 x11) 41 [(0, .ref (ad 0)), (1, vI (q_uncut s)), (2, vI ((pM s : Int) - 1)), (3, vI (y : Int)), (4, vI (ts s uc y (q_uncut s).toNat)), (5, vI x9)] [] := by
          intro dL12
          induction dL12 using Nat.strongRecOn with
          | ind dL12 ihL12 =>
            intro i hq13 hq14
            intro x9 hx9
            subst hx9
            intro x10 hx10
            intro x11 hx11
            refine v_iload hG dX11_findOrder_41 5 rfl ?_
            refine v_iload_n hG dX11_findOrder_43 rfl 1 rfl ?_
            refine v_icmp_ge (tgt := 130) hG dX11_findOrder_44 (by decide) (by omega) (by omega) (fun c15 => ?_) (fun c15 => ?_)
            · skip
              refine v_iinc (lo' := [(3, vI ((y : Int) + (-1))), (0, .ref (ad 0)), (1, vI (q_uncut s)), (2, vI ((pM s : Int) - 1)), (4, vI (ts s uc y (q_uncut s).toNat)), (5, vI (i : Int))]) hG dX11_findOrder_130 3 rfl (by decide) rfl ?_
              refine v_goto (tgt := 17) hG dX11_findOrder_133 (by decide) ?_
              refine v_lo [1, 2, 3, 0] (lo' := [(0, .ref (ad 0)), (1, vI (q_uncut s)), (2, vI ((pM s : Int) - 1)), (3, vI ((y : Int) + (-1)))]) rfl ?_
              exact ihL4 _ (by omega) y (by omega) rfl _ (by omega) _ (by trivial) _ (by exact INN_end hT2 hM6 hqn (by omega) (show (i : Int) = q_uncut s by omega) (by assumption))
            · skip
              have hbr := bv_rng (y := y) (i := i) (by omega)
              refine v_iload_n hG dX11_findOrder_47 rfl 3 rfl ?_
              refine v_iload hG dX11_findOrder_48 5 rfl ?_
              refine v_ishr hG dX11_findOrder_50 (by omega) (by omega) ?_
              refine v_iconst hG dX11_findOrder_51 ?_
              refine v_iand hG dX11_findOrder_52 ?_
              refine v_if_ne (tgt := 124) hG dX11_findOrder_53 (by decide) (by omega) (fun c16 => ?_) (fun c16 => ?_)
              · skip
                refine v_iinc (lo' := [(5, vI ((i : Int) + 1)), (0, .ref (ad 0)), (1, vI (q_uncut s)), (2, vI ((pM s : Int) - 1)), (3, vI (y : Int)), (4, vI (ts s uc y (q_uncut s).toNat))]) hG dX11_findOrder_124 5 rfl (by decide) rfl ?_
                refine v_goto (tgt := 41) hG dX11_findOrder_127 (by decide) ?_
                refine v_lo [1, 2, 3, 4, 5, 0] (lo' := [(0, .ref (ad 0)), (1, vI (q_uncut s)), (2, vI ((pM s : Int) - 1)), (3, vI (y : Int)), (4, vI (ts s uc y (q_uncut s).toNat)), (5, vI ((i : Int) + 1))]) rfl ?_
                exact ihL12 _ (by omega) (i + 1) (by omega) rfl _ (by first | omega | rfl | (simp [c7, c15, c16]; done)) _ (by trivial) _ (by first | exact INN_t (bv_t (by omega) (by assumption)) (by assumption) | (rw [← hvq]; exact INN_y (bv_f (by omega) (by assumption)) (by omega) (by omega) (by assumption)) | exact INN_n (by omega) (by assumption))
              · skip
                obtain ⟨j, hj, hjc, hju⟩ := UC_ex hUC (s 43).toNat (Nat.le_refl _) i (by rw [unc_cnt]; omega)
                have hu8 : 0 ≤ uc (i : Int) ∧ uc (i : Int) < s 43 := by rw [hju]; omega
                have hmu := hM (uc (i : Int)) hu8.1 hu8.2
                refine v_aload_n hG dX11_findOrder_56 rfl 0 rfl ?_
                refine cg11 hG dX11_findOrder_57 zf_X11_17 (k := 0) (by decide) (v := .ref (kB ad 0)) rfl ?_
                refine cg0 (by decide) hG dX11_findOrder_60 zf_X11_86 (k := 5) (by decide) (v := .ref (kP ad (hc s))) rfl ?_
                refine v_aload_n hG dX11_findOrder_63 rfl 0 rfl ?_
                refine cg11 hG dX11_findOrder_64 zf_X11_17 (k := 0) (by decide) (v := .ref (kB ad 0)) rfl ?_
                refine cg0 (by decide) hG dX11_findOrder_67 zf_X11_91 (k := 6) (by decide) (v := .ref (kA ad 0)) rfl ?_
                refine v_aload_n hG dX11_findOrder_70 rfl 0 rfl ?_
                refine cg11 hG dX11_findOrder_71 zf_X11_40 (k := 5) (by decide) (v := .ref (ad 4)) rfl ?_
                refine v_iload hG dX11_findOrder_74 5 rfl ?_
                refine ca_uc hG dX11_findOrder_76 (by omega) rfl ?_
                refine ca_M (x := uc (i : Int)) (by decide) (by omega) hG dX11_findOrder_77 ?_
                refine v_iload hG dX11_findOrder_78 4 rfl ?_
                refine v_callV (k1' := 0) (k2' := 0) hG dX11_findOrder_80 zc_X6_riskOf ⟨zl_X11_133, zi_X6_riskOf, zs_X6_riskOf⟩ (fun l => kc6_riskOf l D A ad K S Q qa tp s bo e uc x10 x11 0 (by decide) (hc s) (uc (i : Int)) (ts s uc y (q_uncut s).toNat) SL (by first | assumption | omega) (by omega) (by first | assumption | omega) (by first | assumption | exact hM _ (by omega) (by omega)) (by omega) (by assumption)) rfl (cR6 (by assumption)) (fun _ h => h) ⟨by decide, by decide⟩ rfl rfl ⟨by decide, by decide⟩ (rest := []) rfl (Nat.le_of_ble_eq_true rfl) (fun u17 => [vI (q_risk s SL (uc (i : Int)) (ts s uc y (q_uncut s).toNat))]) (fun _ => rfl) (fun u17 hu17 => ?_)
                have fu17 : 0 ≤ q_risk s SL (uc (i : Int)) (ts s uc y (q_uncut s).toNat) ∧ q_risk s SL (uc (i : Int)) (ts s uc y (q_uncut s).toNat) ≤ 99 := hu17
                refine v_aload_n hG dX11_findOrder_83 rfl 0 rfl ?_
                refine cg11 hG dX11_findOrder_84 zf_X11_44 (k := 6) (by decide) (v := .ref (ad 5)) rfl ?_
                refine v_iload_n hG dX11_findOrder_87 rfl 3 rfl ?_
                refine v_iconst hG dX11_findOrder_88 ?_
                refine v_iload hG dX11_findOrder_89 5 rfl ?_
                refine v_ishl hG dX11_findOrder_91 (by omega) ?_
                refine v_ior hG dX11_findOrder_92 ?_
                have hor := or_lt (s := s) (y := y) (i := i) (by omega) (by omega)
                rw [ior_pow (by omega)]
                refine ca_lr hG dX11_findOrder_93 (by omega) rfl ?_
                refine v_iadd hG dX11_findOrder_94 ?_
                refine v_istore (lo' := [(6, vI ((q_risk s SL (uc (i : Int)) (ts s uc y (q_uncut s).toNat)) + (x10 ((y ||| 2 ^ i : Nat) : Int)))), (0, .ref (ad 0)), (1, vI (q_uncut s)), (2, vI ((pM s : Int) - 1)), (3, vI (y : Int)), (4, vI (ts s uc y (q_uncut s).toNat)), (5, vI (i : Int))]) hG dX11_findOrder_95 (by decide) rfl ?_
                have hvo := vO_eq (i := i) (by omega) (by omega) (bv_f (by omega) (by assumption)) (show INN s uc SL y i x10 x11 by assumption)
                have hor2 := oO_rng (s := s) (u := uc) (SL := SL) (M := (q_uncut s).toNat) (y := y ||| 2 ^ i) (by omega)
                have hbo := (show INN s uc SL y i x10 x11 by assumption).2.1
                have hbr2 := bO_rng (s := s) (u := uc) (SL := SL) (y := y) (i := i) (by omega)
                have hvq : vO s uc SL (q_uncut s).toNat y i = q_risk s SL (uc (i : Int)) (ts s uc y (q_uncut s).toNat) + x10 ((y ||| 2 ^ i : Nat) : Int) := by rw [hvo]; rfl
                refine v_iload hG dX11_findOrder_97 0 rfl ?_
                refine v_aload_n hG dX11_findOrder_99 rfl 1 rfl ?_
                refine cg11 hG dX11_findOrder_100 zf_X11_44 (k := 6) (by decide) (v := .ref (ad 5)) rfl ?_
                refine v_iload_n hG dX11_findOrder_103 rfl 4 rfl ?_
                refine ca_lr hG dX11_findOrder_104 (by omega) rfl ?_
                refine v_icmp_ge (tgt := 124) hG dX11_findOrder_105 (by decide) (by omega) (by omega) (fun c18 => ?_) (fun c18 => ?_)
                · skip
                  refine v_iinc (lo' := [(5, vI ((i : Int) + 1)), (6, vI ((q_risk s SL (uc (i : Int)) (ts s uc y (q_uncut s).toNat)) + (x10 ((y ||| 2 ^ i : Nat) : Int)))), (0, .ref (ad 0)), (1, vI (q_uncut s)), (2, vI ((pM s : Int) - 1)), (3, vI (y : Int)), (4, vI (ts s uc y (q_uncut s).toNat))]) hG dX11_findOrder_124 6 rfl (by decide) rfl ?_
                  refine v_goto (tgt := 41) hG dX11_findOrder_127 (by decide) ?_
                  refine v_lo [2, 3, 4, 5, 6, 0] (lo' := [(0, .ref (ad 0)), (1, vI (q_uncut s)), (2, vI ((pM s : Int) - 1)), (3, vI (y : Int)), (4, vI (ts s uc y (q_uncut s).toNat)), (5, vI ((i : Int) + 1))]) rfl ?_
                  exact ihL12 _ (by omega) (i + 1) (by omega) rfl _ (by first | omega | rfl | (simp [c7, c15, c16, c18]; done)) _ (by trivial) _ (by first | exact INN_t (bv_t (by omega) (by assumption)) (by assumption) | (rw [← hvq]; exact INN_y (bv_f (by omega) (by assumption)) (by omega) (by omega) (by assumption)) | exact INN_n (by omega) (by assumption))
                · skip
                  refine v_aload_n hG dX11_findOrder_108 rfl 1 rfl ?_
                  refine cg11 hG dX11_findOrder_109 zf_X11_44 (k := 6) (by decide) (v := .ref (ad 5)) rfl ?_
                  refine v_iload_n hG dX11_findOrder_112 rfl 4 rfl ?_
                  refine v_iload hG dX11_findOrder_113 0 rfl ?_
                  refine cs_lr hG dX11_findOrder_115 (by omega) ?_
                  refine v_aload_n hG dX11_findOrder_116 rfl 1 rfl ?_
                  refine cg11 hG dX11_findOrder_117 zf_X11_47 (k := 7) (by decide) (v := .ref (ad 6)) rfl ?_
                  refine v_iload_n hG dX11_findOrder_120 rfl 4 rfl ?_
                  refine v_iload hG dX11_findOrder_121 6 rfl ?_
                  refine cs_nx hG dX11_findOrder_123 (by omega) ?_
                  refine v_iinc (lo' := [(5, vI ((i : Int) + 1)), (6, vI ((q_risk s SL (uc (i : Int)) (ts s uc y (q_uncut s).toNat)) + (x10 ((y ||| 2 ^ i : Nat) : Int)))), (0, .ref (ad 0)), (1, vI (q_uncut s)), (2, vI ((pM s : Int) - 1)), (3, vI (y : Int)), (4, vI (ts s uc y (q_uncut s).toNat))]) hG dX11_findOrder_124 6 rfl (by decide) rfl ?_
                  refine v_goto (tgt := 41) hG dX11_findOrder_127 (by decide) ?_
                  refine v_lo [2, 3, 4, 5, 6, 0] (lo' := [(0, .ref (ad 0)), (1, vI (q_uncut s)), (2, vI ((pM s : Int) - 1)), (3, vI (y : Int)), (4, vI (ts s uc y (q_uncut s).toNat)), (5, vI ((i : Int) + 1))]) rfl ?_
                  exact ihL12 _ (by omega) (i + 1) (by omega) rfl _ (by first | omega | rfl | (simp [c7, c15, c16, c18]; done)) _ (by trivial) _ (by first | exact INN_t (bv_t (by omega) (by assumption)) (by assumption) | (rw [← hvq]; exact INN_y (bv_f (by omega) (by assumption)) (by omega) (by omega) (by assumption)) | exact INN_n (by omega) (by assumption))
        exact L12 _ 0 (by omega) rfl _ (by first | omega | rfl | (simp [c7]; done)) _ (by trivial) _ (by exact INN_0 (by assumption))
  exact L4 _ (pM s - 1) (by omega) rfl _ (by omega) _ (by trivial) _ (by exact OKs_top)
