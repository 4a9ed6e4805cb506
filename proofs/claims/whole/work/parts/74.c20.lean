/-! THE CLASS: reading a tape, signs and numbers -/
theorem chT_in {s : Int → Int} {p : Nat} (h : (p : Int) < s 48) : chT s p = s (158 + p) := if_pos h
theorem chT_out {s : Int → Int} {p : Nat} (h : s 48 ≤ (p : Int)) : chT s p = -1 := if_neg (by omega)
theorem sU_at3 {q : Int → Int} {x : Int} (h : q 3 = x) : q = sU q 3 x := by rw [← h]; exact sU_self.symm
/-- one or two digits, as read so far: the number, the place -/
def rn (c : Nat → Int) (p : Nat) : Nat → Int × Nat
  | 0 => (-1, p)
  | k + 1 => if (rn c p k).1 ≠ 0 ∧ isDp (c (rn c p k).2) then ((if (rn c p k).1 < 0 then c (rn c p k).2 - 48 else (rn c p k).1 * 10 + (c (rn c p k).2 - 48)), (rn c p k).2 + 1) else rn c p k
theorem rn_stop {c : Nat → Int} {p k : Nat} (h : ¬ ((rn c p k).1 ≠ 0 ∧ isDp (c (rn c p k).2))) (hk : k ≤ 2) : rn c p 2 = rn c p k := by
  have e : ∀ d : Nat, rn c p (k + d) = rn c p k := fun d => by
    induction d with
    | zero => rfl
    | succ d ih =>
      show (if (rn c p (k + d)).1 ≠ 0 ∧ isDp (c (rn c p (k + d)).2) then _ else rn c p (k + d)) = rn c p k
      rw [ih, if_neg h]
  have h2 := e (2 - k)
  rw [show k + (2 - k) = 2 by omega] at h2
  exact h2
theorem rn_go {c : Nat → Int} {p k : Nat} (h : (rn c p k).1 ≠ 0 ∧ isDp (c (rn c p k).2)) : rn c p (k + 1) = ((if (rn c p k).1 < 0 then c (rn c p k).2 - 48 else (rn c p k).1 * 10 + (c (rn c p k).2 - 48)), (rn c p k).2 + 1) := if_pos h
theorem rn_pl {c : Nat → Int} {p : Nat} : ∀ k : Nat, p ≤ (rn c p k).2 ∧ (rn c p k).2 ≤ p + k
  | 0 => ⟨Nat.le_refl _, Nat.le_refl _⟩
  | k + 1 => by
    obtain ⟨h3, h4⟩ := rn_pl (c := c) (p := p) k
    by_cases h : (rn c p k).1 ≠ 0 ∧ isDp (c (rn c p k).2)
    · have e : (rn c p (k + 1)).2 = (rn c p k).2 + 1 := by rw [rn_go h]
      omega
    · have e : rn c p (k + 1) = rn c p k := if_neg h
      rw [e]
      omega
theorem rn_s {c : Nat → Int} {p k : Nat} {a b : Int} (hk : -1 ≤ (rn c p k).1 ∧ (rn c p k).1 ≤ a) (hb : 9 ≤ b ∧ 10 * a + 9 ≤ b ∧ a ≤ b) : -1 ≤ (rn c p (k + 1)).1 ∧ (rn c p (k + 1)).1 ≤ b := by
  by_cases h : (rn c p k).1 ≠ 0 ∧ isDp (c (rn c p k).2)
  · have e : (rn c p (k + 1)).1 = if (rn c p k).1 < 0 then c (rn c p k).2 - 48 else (rn c p k).1 * 10 + (c (rn c p k).2 - 48) := by rw [rn_go h]
    have hd1 : 48 ≤ c (rn c p k).2 := h.2.1
    have hd2 : c (rn c p k).2 ≤ 57 := h.2.2
    rw [e]
    split <;> omega
  · have e : rn c p (k + 1) = rn c p k := if_neg h
    rw [e]
    omega
theorem rn_rng {c : Nat → Int} {p k : Nat} (hk : k ≤ 2) : -1 ≤ (rn c p k).1 ∧ (rn c p k).1 ≤ 99 ∧ p ≤ (rn c p k).2 ∧ (rn c p k).2 ≤ p + k := by
  have h0 : -1 ≤ (rn c p 0).1 ∧ (rn c p 0).1 ≤ 0 := by show (-1 : Int) ≤ -1 ∧ (-1 : Int) ≤ 0; omega
  have h1 : -1 ≤ (rn c p 1).1 ∧ (rn c p 1).1 ≤ 9 := rn_s (k := 0) h0 (by omega)
  have h2 : -1 ≤ (rn c p 2).1 ∧ (rn c p 2).1 ≤ 99 := rn_s (k := 1) h1 (by omega)
  have hp := rn_pl (c := c) (p := p) k
  rcases (show k = 0 ∨ k = 1 ∨ k = 2 by omega) with rfl | rfl | rfl <;> omega
theorem rn_fig (c : Nat → Int) (p : Nat) : (rn c p 2).2 = (figF c (p, true)).1.1 ∧ (rn c p 2).1 = if (figF c (p, true)).1.2 = true then (figF c (p, true)).2 else -1 := by
  unfold figF
  by_cases h0 : isDp (c p)
  · have e1 : rn c p 1 = (c p - 48, p + 1) := by
      rw [rn_go (k := 0) ⟨by show (-1 : Int) ≠ 0; omega, h0⟩]
      show ((if (-1 : Int) < 0 then c p - 48 else _), p + 1) = _
      rw [if_pos (by omega)]
    have hd1 : 48 ≤ c p := h0.1
    rw [if_pos ⟨rfl, h0⟩]
    by_cases h1 : isDp (c (p + 1)) ∧ 0 < c p - 48
    · rw [if_pos h1, rn_go (k := 1) (by rw [e1]; exact ⟨by show c p - 48 ≠ 0; omega, h1.1⟩), e1]
      refine ⟨rfl, ?_⟩
      show (if c p - 48 < 0 then _ else (c p - 48) * 10 + (c (p + 1) - 48)) = if true = true then 10 * (c p - 48) + c (p + 1) - 48 else -1
      rw [if_neg (by omega), if_pos rfl]
      omega
    · rw [if_neg h1, rn_stop (k := 1) (by rw [e1]; exact fun q => h1 ⟨q.2, by have : c p - 48 ≠ 0 := q.1; omega⟩) (by omega), e1]
      exact ⟨rfl, by show c p - 48 = if true = true then c p - 48 else -1; rw [if_pos rfl]⟩
  · rw [if_neg (fun q => h0 q.2), rn_stop (k := 0) (fun q => h0 q.2) (by omega)]
    exact ⟨rfl, by show (-1 : Int) = if false = true then 0 else -1; rw [if_neg Bool.false_ne_true]⟩
set_option maxHeartbeats 4000000 in
set_option maxRecDepth 100000 in
theorem kc6_skip (l : Launch) (D : Dx) (A : Nat → Prop) (ad : Nat → Nat) (K : Int → Int) (S Q qa : Nat → Int → Int) (tp : Nat → Nat) (s q w0 w1 w2 w3 bo e uc lr nx : Int → Int) (p : Nat) (hp : p < 6) (pp : Nat) (g : Int) (hq2 : q 2 = s 48) (h3 : q 3 = (pp : Int)) (hTS : TS s) (hpn : (pp : Int) ≤ s 48) (htp : tp p = kC ad 0 0) (hg : 0 ≤ g ∧ g ≤ 127) : CT l D A yX6_skip cX6_skip 2 (some .boolean) { frames := 0, cells := 0, slots := 0, locals := 0 } [.ref (kP ad p), vI g] (CW D A ad K (uS S 0 s) (uS Q p q) (q4 qa p w0 w1 w2 w3) tp bo e uc lr nx) (fun _ : Unit => some (vI (bi (chT s pp = g)))) (fun _ => True) (fun _ => CW D A ad K (uS S 0 s) (uS Q p (sU q 3 ((mustF (chT s) g (pp, true)).1 : Nat))) (q4 qa p w0 w1 w2 w3) tp bo e uc lr nx) := by
  refine ct_of (lo0 := [(0, .ref (kP ad p)), (1, vI g)]) (by decide) (Nat.le_of_ble_eq_true rfl) rfl ?_
  intro G hG hR
  have hT1 := hTS.1
  have hT2 := hTS.2 (q 3) (by omega)
  refine v_aload_n hG dX6_skip_0 rfl 0 rfl ?_
  refine cq6 hp hG dX6_skip_1 zf_X6_43 (k := 8) (by decide) (v := vI (q 3)) rfl ?_
  refine v_aload_n hG dX6_skip_4 rfl 0 rfl ?_
  refine cq6 hp hG dX6_skip_5 zf_X6_40 (k := 7) (by decide) (v := vI (q 2)) rfl ?_
  refine v_icmp_ge (tgt := 24) hG dX6_skip_8 (by decide) (by omega) (by omega) (fun c1 => ?_) (fun c1 => ?_)
  · skip
    refine v_iconst hG dX6_skip_24 ?_
    have e2 : q = sU q 3 ((mustF (chT s) g (pp, true)).1 : Nat) := by have hx : ¬ chT s pp = g := (fun h => by first | (rw [chT_out (by omega)] at h; omega) | (rw [chT_in (by omega), ← h3] at h; omega)); rw [show mustF (chT s) g (pp, true) = (pp, false) from if_neg (fun h => hx h.2)]; exact sU_at3 h3
    have e3 : @Eq Int (bi (chT s pp = g)) (0) := by have hx : ¬ chT s pp = g := (fun h => by first | (rw [chT_out (by omega)] at h; omega) | (rw [chT_in (by omega), ← h3] at h; omega)); rw [bi_neg hx]
    exact v_zreturn hG hR dX6_skip_25 (Or.inl rfl) () (congrArg (fun z => some (vI z)) e3) (by trivial) (fun _ hM => by rw [← e2]; exact hM)
  · skip
    refine v_aload_n hG dX6_skip_11 rfl 0 rfl ?_
    refine cq6 hp hG dX6_skip_12 zf_X6_24 (k := 6) (by decide) (v := .ref (kC ad 0 0)) (congrArg (fun z => some (Value.ref z)) htp) ?_
    refine v_aload_n hG dX6_skip_15 rfl 0 rfl ?_
    refine cq6 hp hG dX6_skip_16 zf_X6_43 (k := 8) (by decide) (v := vI (q 3)) rfl ?_
    refine ca_tape (by decide) hG dX6_skip_19 (by omega) (by omega) rfl ?_
    refine v_iload_n hG dX6_skip_20 rfl 1 rfl ?_
    refine v_icmp_eq (tgt := 26) hG dX6_skip_21 (by decide) (by omega) (by omega) (fun c4 => ?_) (fun c4 => ?_)
    · skip
      refine v_aload_n hG dX6_skip_26 rfl 0 rfl ?_
      refine v_dup hG dX6_skip_27 rfl ?_
      refine cq6 hp hG dX6_skip_28 zf_X6_43 (k := 8) (by decide) (v := vI (q 3)) rfl ?_
      refine v_iconst hG dX6_skip_31 ?_
      refine v_iadd hG dX6_skip_32 ?_
      refine cp6_at hp hG dX6_skip_33 zf_X6_43 ?_
      refine v_iconst hG dX6_skip_36 ?_
      have e5 : sU q 3 ((q 3) + 1) = sU q 3 ((mustF (chT s) g (pp, true)).1 : Nat) := by have hx : chT s pp = g := (by rw [chT_in (by omega), ← h3]; assumption); rw [show mustF (chT s) g (pp, true) = (pp + 1, true) from if_pos ⟨rfl, hx⟩, h3]; rfl
      have e6 : @Eq Int (bi (chT s pp = g)) (1) := by have hx : chT s pp = g := (by rw [chT_in (by omega), ← h3]; assumption); rw [bi_pos hx]
      exact v_zreturn hG hR dX6_skip_37 (Or.inr rfl) () (congrArg (fun z => some (vI z)) e6) (by trivial) (fun _ hM => by rw [← e5]; exact hM)
    · skip
      refine v_iconst hG dX6_skip_24 ?_
      have e7 : q = sU q 3 ((mustF (chT s) g (pp, true)).1 : Nat) := by have hx : ¬ chT s pp = g := (fun h => by first | (rw [chT_out (by omega)] at h; omega) | (rw [chT_in (by omega), ← h3] at h; omega)); rw [show mustF (chT s) g (pp, true) = (pp, false) from if_neg (fun h => hx h.2)]; exact sU_at3 h3
      have e8 : @Eq Int (bi (chT s pp = g)) (0) := by have hx : ¬ chT s pp = g := (fun h => by first | (rw [chT_out (by omega)] at h; omega) | (rw [chT_in (by omega), ← h3] at h; omega)); rw [bi_neg hx]
      exact v_zreturn hG hR dX6_skip_25 (Or.inl rfl) () (congrArg (fun z => some (vI z)) e8) (by trivial) (fun _ hM => by rw [← e7]; exact hM)
set_option maxHeartbeats 4000000 in
set_option maxRecDepth 100000 in
theorem kc6_keep (l : Launch) (D : Dx) (A : Nat → Prop) (ad : Nat → Nat) (K : Int → Int) (S Q qa : Nat → Int → Int) (tp : Nat → Nat) (s q w0 w1 w2 w3 bo e uc lr nx : Int → Int) (p : Nat) (hp : p < 6) (code : Int) (hkc : 0 ≤ q 1 ∧ q 1 < 100) : CT l D A yX6_keep cX6_keep 2 none { frames := 0, cells := 0, slots := 0, locals := 0 } [.ref (kP ad p), vI code] (CW D A ad K (uS S 0 s) (uS Q p q) (q4 qa p w0 w1 w2 w3) tp bo e uc lr nx) (fun _ : Unit => none) (fun _ => True) (fun _ => CW D A ad K (uS S 0 s) (uS Q p (sU q 1 (q 1 + 1))) (q4 qa p w0 w1 w2 (sU w3 (q 1) code)) tp bo e uc lr nx) := by
  refine ct_of (lo0 := [(0, .ref (kP ad p)), (1, vI code)]) (by decide) (Nat.le_of_ble_eq_true rfl) rfl ?_
  intro G hG hR
  refine v_aload_n hG dX6_keep_0 rfl 0 rfl ?_
  refine cq6 hp hG dX6_keep_1 zf_X6_49 (k := 5) (by decide) (v := vI (q 1)) rfl ?_
  refine v_aload_n hG dX6_keep_4 rfl 0 rfl ?_
  refine cq6 hp hG dX6_keep_5 zf_X6_21 (k := 3) (by decide) (v := .ref (kQ ad 3 p)) rfl ?_
  refine cl_q3 hp hG dX6_keep_8 ?_
  refine v_icmp_ge (tgt := 32) hG dX6_keep_9 (by decide) (by omega) (by omega) (fun c1 => ?_) (fun c1 => ?_)
  · skip
    exfalso; omega
  · skip
    refine v_aload_n hG dX6_keep_12 rfl 0 rfl ?_
    refine cq6 hp hG dX6_keep_13 zf_X6_21 (k := 3) (by decide) (v := .ref (kQ ad 3 p)) rfl ?_
    refine v_aload_n hG dX6_keep_16 rfl 0 rfl ?_
    refine cq6 hp hG dX6_keep_17 zf_X6_49 (k := 5) (by decide) (v := vI (q 1)) rfl ?_
    refine v_iload_n hG dX6_keep_20 rfl 1 rfl ?_
    refine cs_q3 hp hG dX6_keep_21 (by omega) ?_
    refine v_aload_n hG dX6_keep_22 rfl 0 rfl ?_
    refine v_dup hG dX6_keep_23 rfl ?_
    refine cq6 hp hG dX6_keep_24 zf_X6_49 (k := 5) (by decide) (v := vI (q 1)) rfl ?_
    refine v_iconst hG dX6_keep_27 ?_
    refine v_iadd hG dX6_keep_28 ?_
    refine cp6_kc hp hG dX6_keep_29 zf_X6_49 ?_
    have e2 : sU q 1 ((q 1) + 1) = sU q 1 (q 1 + 1) := by first | rfl | omega | (exact bi_congr (by omega)) | (simp [c1]; done)
    exact v_return hG hR dX6_keep_32 () rfl (by trivial) (fun _ hM => by rw [← e2]; exact hM)
set_option maxHeartbeats 4000000 in
set_option maxRecDepth 100000 in
theorem kc6_readNumber (l : Launch) (D : Dx) (A : Nat → Prop) (ad : Nat → Nat) (K : Int → Int) (S Q qa : Nat → Int → Int) (tp : Nat → Nat) (s q w0 w1 w2 w3 bo e uc lr nx : Int → Int) (p : Nat) (hp : p < 6) (pp : Nat) (hq2 : q 2 = s 48) (h3 : q 3 = (pp : Int)) (hTS : TS s) (hpn : (pp : Int) ≤ s 48) (htp : tp p = kC ad 0 0) : CT l D A yX6_readNumber cX6_readNumber 4 (some .int) { frames := 0, cells := 0, slots := 0, locals := 0 } [.ref (kP ad p)] (CW D A ad K (uS S 0 s) (uS Q p q) (q4 qa p w0 w1 w2 w3) tp bo e uc lr nx) (fun _ : Unit => some (vI (if (figF (chT s) (pp, true)).1.2 = true then (figF (chT s) (pp, true)).2 else -1))) (fun _ => True) (fun _ => CW D A ad K (uS S 0 s) (uS Q p (sU q 3 ((figF (chT s) (pp, true)).1.1 : Nat))) (q4 qa p w0 w1 w2 w3) tp bo e uc lr nx) := by
  refine ct_of (lo0 := [(0, .ref (kP ad p))]) (by decide) (Nat.le_of_ble_eq_true rfl) rfl ?_
  intro G hG hR
  have hT1 := hTS.1
  refine v_iconst hG dX6_readNumber_0 ?_
  refine v_istore_n (lo' := [(1, vI (-1)), (0, .ref (kP ad p))]) hG dX6_readNumber_1 rfl (by decide) rfl ?_
  refine v_iconst hG dX6_readNumber_2 ?_
  refine v_istore_n (lo' := [(2, vI 0), (1, vI (-1)), (0, .ref (kP ad p))]) hG dX6_readNumber_3 rfl (by decide) rfl ?_
  refine v_lo [2, 1, 0] (lo' := [(0, .ref (kP ad p)), (1, vI (-1)), (2, vI 0)]) rfl ?_
  have L4 : ∀ mz : Nat, ∀ (k : Nat), (k ≤ 2) → 2 - k = mz → ∀ x1 : Int, x1 = ((k : Int)) → ∀ x2 : Int, x2 = ((rn (chT s) pp k).1) → ∀ x3 : Int → Int, x3 = (sU q 3 ((rn (chT s) pp k).2 : Nat)) → V G 0 0 (CW D A ad K (uS S 0 s) (uS Q p x3) (q4 qa p w0 w1 w2 w3) tp bo e uc lr nx) 4 [(0, .ref (kP ad p)), (1, vI x2), (2, vI x1)] [] := by
    intro dL4
    induction dL4 using Nat.strongRecOn with
    | ind dL4 ihL4 =>
      intro k hq5 hq6
      intro x1 hx1
      subst hx1
      intro x2 hx2
      subst hx2
      intro x3 hx3
      subst hx3
      have hrr := rn_rng (c := chT s) (p := pp) (k := k) (by omega)
      have hts9 := hTS.2 (((rn (chT s) pp k).2 : Nat) : Int) (by omega)
      refine v_iload_n hG dX6_readNumber_4 rfl 2 rfl ?_
      refine v_iconst hG dX6_readNumber_5 ?_
      refine v_icmp_ge (tgt := 81) hG dX6_readNumber_6 (by decide) (by omega) (by omega) (fun c7 => ?_) (fun c7 => ?_)
      · skip
        refine v_iload_n hG dX6_readNumber_81 rfl 1 rfl ?_
        have e8 : sU q 3 ((rn (chT s) pp k).2 : Nat) = sU q 3 ((figF (chT s) (pp, true)).1.1 : Nat) := by rw [← (rn_fig (chT s) pp).1]; first | (rw [show k = 2 by omega]; done) | (rw [rn_stop (k := k) (fun h => by have h1 := h.1; have h2 : 48 ≤ chT s (rn (chT s) pp k).2 := h.2.1; have h3 : chT s (rn (chT s) pp k).2 ≤ 57 := h.2.2; first | omega | (rw [chT_out (by omega)] at h2; omega) | (rw [chT_in (by omega)] at h2 h3; omega)) (by omega)]; done)
        have e9 : @Eq Int (if (figF (chT s) (pp, true)).1.2 = true then (figF (chT s) (pp, true)).2 else -1) ((rn (chT s) pp k).1) := by rw [← (rn_fig (chT s) pp).2]; first | (rw [show k = 2 by omega]; done) | (rw [rn_stop (k := k) (fun h => by have h1 := h.1; have h2 : 48 ≤ chT s (rn (chT s) pp k).2 := h.2.1; have h3 : chT s (rn (chT s) pp k).2 ≤ 57 := h.2.2; first | omega | (rw [chT_out (by omega)] at h2; omega) | (rw [chT_in (by omega)] at h2 h3; omega)) (by omega)]; done)
        exact v_ireturn hG hR dX6_readNumber_82 () (congrArg (fun z => some (vI z)) e9) (by trivial) (fun _ hM => by rw [← e8]; exact hM)
      · skip
        refine v_iload_n hG dX6_readNumber_9 rfl 1 rfl ?_
        refine v_if_eq (tgt := 81) hG dX6_readNumber_10 (by decide) (by omega) (fun c10 => ?_) (fun c10 => ?_)
        · skip
          refine v_iload_n hG dX6_readNumber_81 rfl 1 rfl ?_
          have e11 : sU q 3 ((rn (chT s) pp k).2 : Nat) = sU q 3 ((figF (chT s) (pp, true)).1.1 : Nat) := by rw [← (rn_fig (chT s) pp).1]; first | (rw [show k = 2 by omega]; done) | (rw [rn_stop (k := k) (fun h => by have h1 := h.1; have h2 : 48 ≤ chT s (rn (chT s) pp k).2 := h.2.1; have h3 : chT s (rn (chT s) pp k).2 ≤ 57 := h.2.2; first | omega | (rw [chT_out (by omega)] at h2; omega) | (rw [chT_in (by omega)] at h2 h3; omega)) (by omega)]; done)
          have e12 : @Eq Int (if (figF (chT s) (pp, true)).1.2 = true then (figF (chT s) (pp, true)).2 else -1) ((rn (chT s) pp k).1) := by rw [← (rn_fig (chT s) pp).2]; first | (rw [show k = 2 by omega]; done) | (rw [rn_stop (k := k) (fun h => by have h1 := h.1; have h2 : 48 ≤ chT s (rn (chT s) pp k).2 := h.2.1; have h3 : chT s (rn (chT s) pp k).2 ≤ 57 := h.2.2; first | omega | (rw [chT_out (by omega)] at h2; omega) | (rw [chT_in (by omega)] at h2 h3; omega)) (by omega)]; done)
          exact v_ireturn hG hR dX6_readNumber_82 () (congrArg (fun z => some (vI z)) e12) (by trivial) (fun _ hM => by rw [← e11]; exact hM)
        · skip
          refine v_aload_n hG dX6_readNumber_13 rfl 0 rfl ?_
          refine cq6 hp hG dX6_readNumber_14 zf_X6_43 (k := 8) (by decide) (v := vI ((rn (chT s) pp k).2 : Nat)) (congrArg (fun z => some (vI z)) (show (sU q 3 ((rn (chT s) pp k).2 : Nat)) 3 = ((rn (chT s) pp k).2 : Nat) from by rw [sU_eq])) ?_
          refine v_aload_n hG dX6_readNumber_17 rfl 0 rfl ?_
          refine cq6 hp hG dX6_readNumber_18 zf_X6_40 (k := 7) (by decide) (v := vI (q 2)) (congrArg (fun z => some (vI z)) (show (sU q 3 ((rn (chT s) pp k).2 : Nat)) 2 = q 2 from by rw [sU_ne (by omega)])) ?_
          refine v_icmp_ge (tgt := 81) hG dX6_readNumber_21 (by decide) (by omega) (by omega) (fun c13 => ?_) (fun c13 => ?_)
          · skip
            refine v_iload_n hG dX6_readNumber_81 rfl 1 rfl ?_
            have e14 : sU q 3 ((rn (chT s) pp k).2 : Nat) = sU q 3 ((figF (chT s) (pp, true)).1.1 : Nat) := by rw [← (rn_fig (chT s) pp).1]; first | (rw [show k = 2 by omega]; done) | (rw [rn_stop (k := k) (fun h => by have h1 := h.1; have h2 : 48 ≤ chT s (rn (chT s) pp k).2 := h.2.1; have h3 : chT s (rn (chT s) pp k).2 ≤ 57 := h.2.2; first | omega | (rw [chT_out (by omega)] at h2; omega) | (rw [chT_in (by omega)] at h2 h3; omega)) (by omega)]; done)
            have e15 : @Eq Int (if (figF (chT s) (pp, true)).1.2 = true then (figF (chT s) (pp, true)).2 else -1) ((rn (chT s) pp k).1) := by rw [← (rn_fig (chT s) pp).2]; first | (rw [show k = 2 by omega]; done) | (rw [rn_stop (k := k) (fun h => by have h1 := h.1; have h2 : 48 ≤ chT s (rn (chT s) pp k).2 := h.2.1; have h3 : chT s (rn (chT s) pp k).2 ≤ 57 := h.2.2; first | omega | (rw [chT_out (by omega)] at h2; omega) | (rw [chT_in (by omega)] at h2 h3; omega)) (by omega)]; done)
            exact v_ireturn hG hR dX6_readNumber_82 () (congrArg (fun z => some (vI z)) e15) (by trivial) (fun _ hM => by rw [← e14]; exact hM)
          · skip
            refine v_aload_n hG dX6_readNumber_24 rfl 0 rfl ?_
            refine cq6 hp hG dX6_readNumber_25 zf_X6_24 (k := 6) (by decide) (v := .ref (kC ad 0 0)) (congrArg (fun z => some (Value.ref z)) htp) ?_
            refine v_aload_n hG dX6_readNumber_28 rfl 0 rfl ?_
            refine cq6 hp hG dX6_readNumber_29 zf_X6_43 (k := 8) (by decide) (v := vI ((rn (chT s) pp k).2 : Nat)) (congrArg (fun z => some (vI z)) (show (sU q 3 ((rn (chT s) pp k).2 : Nat)) 3 = ((rn (chT s) pp k).2 : Nat) from by rw [sU_eq])) ?_
            refine ca_tape (by decide) hG dX6_readNumber_32 (by omega) (by omega) rfl ?_
            refine v_bipush hG dX6_readNumber_33 (by decide) ?_
            refine v_isub hG dX6_readNumber_35 ?_
            refine v_istore_n (lo' := [(3, vI ((s (158 + ((rn (chT s) pp k).2 : Nat))) - 48)), (0, .ref (kP ad p)), (1, vI ((rn (chT s) pp k).1)), (2, vI (k : Int))]) hG dX6_readNumber_36 rfl (by decide) rfl ?_
            refine v_iload_n hG dX6_readNumber_37 rfl 0 rfl ?_
            refine v_if_lt (tgt := 81) hG dX6_readNumber_38 (by decide) (by omega) (fun c16 => ?_) (fun c16 => ?_)
            · skip
              refine v_iload_n hG dX6_readNumber_81 rfl 2 rfl ?_
              have e17 : sU q 3 ((rn (chT s) pp k).2 : Nat) = sU q 3 ((figF (chT s) (pp, true)).1.1 : Nat) := by rw [← (rn_fig (chT s) pp).1]; first | (rw [show k = 2 by omega]; done) | (rw [rn_stop (k := k) (fun h => by have h1 := h.1; have h2 : 48 ≤ chT s (rn (chT s) pp k).2 := h.2.1; have h3 : chT s (rn (chT s) pp k).2 ≤ 57 := h.2.2; first | omega | (rw [chT_out (by omega)] at h2; omega) | (rw [chT_in (by omega)] at h2 h3; omega)) (by omega)]; done)
              have e18 : @Eq Int (if (figF (chT s) (pp, true)).1.2 = true then (figF (chT s) (pp, true)).2 else -1) ((rn (chT s) pp k).1) := by rw [← (rn_fig (chT s) pp).2]; first | (rw [show k = 2 by omega]; done) | (rw [rn_stop (k := k) (fun h => by have h1 := h.1; have h2 : 48 ≤ chT s (rn (chT s) pp k).2 := h.2.1; have h3 : chT s (rn (chT s) pp k).2 ≤ 57 := h.2.2; first | omega | (rw [chT_out (by omega)] at h2; omega) | (rw [chT_in (by omega)] at h2 h3; omega)) (by omega)]; done)
              exact v_ireturn hG hR dX6_readNumber_82 () (congrArg (fun z => some (vI z)) e18) (by trivial) (fun _ hM => by rw [← e17]; exact hM)
            · skip
              refine v_iload_n hG dX6_readNumber_41 rfl 0 rfl ?_
              refine v_bipush hG dX6_readNumber_42 (by decide) ?_
              refine v_icmp_le (tgt := 50) hG dX6_readNumber_44 (by decide) (by omega) (by omega) (fun c19 => ?_) (fun c19 => ?_)
              · skip
                refine v_iload_n hG dX6_readNumber_50 rfl 2 rfl ?_
                refine v_if_ge (tgt := 58) hG dX6_readNumber_51 (by decide) (by omega) (fun c20 => ?_) (fun c20 => ?_)
                · skip
                  refine v_iload_n hG dX6_readNumber_58 rfl 2 rfl ?_
                  refine v_bipush hG dX6_readNumber_59 (by decide) ?_
                  refine v_imul hG dX6_readNumber_61 ?_
                  refine v_iload_n hG dX6_readNumber_62 rfl 0 rfl ?_
                  refine v_iadd hG dX6_readNumber_63 ?_
                  refine v_istore_n (lo' := [(1, vI ((((rn (chT s) pp k).1) * 10) + ((s (158 + ((rn (chT s) pp k).2 : Nat))) - 48))), (3, vI ((s (158 + ((rn (chT s) pp k).2 : Nat))) - 48)), (0, .ref (kP ad p)), (2, vI (k : Int))]) hG dX6_readNumber_64 rfl (by decide) rfl ?_
                  refine v_aload_n hG dX6_readNumber_65 rfl 2 rfl ?_
                  refine v_dup hG dX6_readNumber_66 rfl ?_
                  refine cq6 hp hG dX6_readNumber_67 zf_X6_43 (k := 8) (by decide) (v := vI ((rn (chT s) pp k).2 : Nat)) (congrArg (fun z => some (vI z)) (show (sU q 3 ((rn (chT s) pp k).2 : Nat)) 3 = ((rn (chT s) pp k).2 : Nat) from by rw [sU_eq])) ?_
                  refine v_iconst hG dX6_readNumber_70 ?_
                  refine v_iadd hG dX6_readNumber_71 ?_
                  refine cp6_at hp hG dX6_readNumber_72 zf_X6_43 ?_
                  refine v_iinc (lo' := [(2, vI ((k : Int) + 1)), (1, vI ((((rn (chT s) pp k).1) * 10) + ((s (158 + ((rn (chT s) pp k).2 : Nat))) - 48))), (3, vI ((s (158 + ((rn (chT s) pp k).2 : Nat))) - 48)), (0, .ref (kP ad p))]) hG dX6_readNumber_75 3 rfl (by decide) rfl ?_
                  refine v_goto (tgt := 4) hG dX6_readNumber_78 (by decide) ?_
                  refine v_lo [3, 1, 0] (lo' := [(0, .ref (kP ad p)), (1, vI ((((rn (chT s) pp k).1) * 10) + ((s (158 + ((rn (chT s) pp k).2 : Nat))) - 48))), (2, vI ((k : Int) + 1))]) rfl ?_
                  exact ihL4 _ (by omega) (k + 1) (by omega) rfl _ (by omega) _ (by rw [rn_go ⟨by omega, by rw [chT_in (by omega)]; exact ⟨by omega, by omega⟩⟩, chT_in (by omega)]; first | (rw [if_pos (by omega)]; done) | (rw [if_neg (by omega)]; done)) _ (by rw [rn_go ⟨by omega, by rw [chT_in (by omega)]; exact ⟨by omega, by omega⟩⟩]; first | rfl | (funext z; simp only [sU_at]; (repeat' split) <;> first | rfl | omega))
                · skip
                  refine v_iload_n hG dX6_readNumber_54 rfl 0 rfl ?_
                  refine v_goto (tgt := 64) hG dX6_readNumber_55 (by decide) ?_
                  refine v_istore_n (lo' := [(1, vI ((s (158 + ((rn (chT s) pp k).2 : Nat))) - 48)), (3, vI ((s (158 + ((rn (chT s) pp k).2 : Nat))) - 48)), (0, .ref (kP ad p)), (2, vI (k : Int))]) hG dX6_readNumber_64 rfl (by decide) rfl ?_
                  refine v_aload_n hG dX6_readNumber_65 rfl 2 rfl ?_
                  refine v_dup hG dX6_readNumber_66 rfl ?_
                  refine cq6 hp hG dX6_readNumber_67 zf_X6_43 (k := 8) (by decide) (v := vI ((rn (chT s) pp k).2 : Nat)) (congrArg (fun z => some (vI z)) (show (sU q 3 ((rn (chT s) pp k).2 : Nat)) 3 = ((rn (chT s) pp k).2 : Nat) from by rw [sU_eq])) ?_
                  refine v_iconst hG dX6_readNumber_70 ?_
                  refine v_iadd hG dX6_readNumber_71 ?_
                  refine cp6_at hp hG dX6_readNumber_72 zf_X6_43 ?_
                  refine v_iinc (lo' := [(2, vI ((k : Int) + 1)), (1, vI ((s (158 + ((rn (chT s) pp k).2 : Nat))) - 48)), (3, vI ((s (158 + ((rn (chT s) pp k).2 : Nat))) - 48)), (0, .ref (kP ad p))]) hG dX6_readNumber_75 3 rfl (by decide) rfl ?_
                  refine v_goto (tgt := 4) hG dX6_readNumber_78 (by decide) ?_
                  refine v_lo [3, 1, 0] (lo' := [(0, .ref (kP ad p)), (1, vI ((s (158 + ((rn (chT s) pp k).2 : Nat))) - 48)), (2, vI ((k : Int) + 1))]) rfl ?_
                  exact ihL4 _ (by omega) (k + 1) (by omega) rfl _ (by omega) _ (by rw [rn_go ⟨by omega, by rw [chT_in (by omega)]; exact ⟨by omega, by omega⟩⟩, chT_in (by omega)]; first | (rw [if_pos (by omega)]; done) | (rw [if_neg (by omega)]; done)) _ (by rw [rn_go ⟨by omega, by rw [chT_in (by omega)]; exact ⟨by omega, by omega⟩⟩]; first | rfl | (funext z; simp only [sU_at]; (repeat' split) <;> first | rfl | omega))
              · skip
                refine v_goto (tgt := 81) hG dX6_readNumber_47 (by decide) ?_
                refine v_iload_n hG dX6_readNumber_81 rfl 2 rfl ?_
                have e21 : sU q 3 ((rn (chT s) pp k).2 : Nat) = sU q 3 ((figF (chT s) (pp, true)).1.1 : Nat) := by rw [← (rn_fig (chT s) pp).1]; first | (rw [show k = 2 by omega]; done) | (rw [rn_stop (k := k) (fun h => by have h1 := h.1; have h2 : 48 ≤ chT s (rn (chT s) pp k).2 := h.2.1; have h3 : chT s (rn (chT s) pp k).2 ≤ 57 := h.2.2; first | omega | (rw [chT_out (by omega)] at h2; omega) | (rw [chT_in (by omega)] at h2 h3; omega)) (by omega)]; done)
                have e22 : @Eq Int (if (figF (chT s) (pp, true)).1.2 = true then (figF (chT s) (pp, true)).2 else -1) ((rn (chT s) pp k).1) := by rw [← (rn_fig (chT s) pp).2]; first | (rw [show k = 2 by omega]; done) | (rw [rn_stop (k := k) (fun h => by have h1 := h.1; have h2 : 48 ≤ chT s (rn (chT s) pp k).2 := h.2.1; have h3 : chT s (rn (chT s) pp k).2 ≤ 57 := h.2.2; first | omega | (rw [chT_out (by omega)] at h2; omega) | (rw [chT_in (by omega)] at h2 h3; omega)) (by omega)]; done)
                exact v_ireturn hG hR dX6_readNumber_82 () (congrArg (fun z => some (vI z)) e22) (by trivial) (fun _ hM => by rw [← e21]; exact hM)
  exact L4 _ 0 (by omega) rfl _ (by rfl) _ (by rfl) _ (by exact sU_at3 h3)
