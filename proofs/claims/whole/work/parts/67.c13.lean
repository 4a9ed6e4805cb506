/-! THE CLASS: copies of benches, by the model's row -/
def wkC (s t : Int → Int) : Int → Int := fun q => if (45 ≤ q ∧ q ≤ 48) ∨ (106 ≤ q ∧ q < 258) then t q else s q
theorem wkC_in {s t : Int → Int} {q : Int} (h : ¬ ((45 ≤ q ∧ q ≤ 48) ∨ (106 ≤ q ∧ q < 258))) : wkC s t q = s q := if_neg h
theorem wkC_out {s t : Int → Int} {q : Int} (h : (45 ≤ q ∧ q ≤ 48) ∨ (106 ≤ q ∧ q < 258)) : wkC s t q = t q := if_pos h
def r3 (K s : Int → Int) (b : Nat) (R2 : Nat → Int → Int) : Nat → Int → Int := fun i => if 8 * b ≤ i ∧ i < 8 * b + 8 ∧ ¬ K (50 + ((i - 8 * b : Nat) : Int)) = 6 then (fun q => s (74 + 4 * ((i - 8 * b : Nat) : Int) + q)) else R2 i
theorem r3_6 {K s : Int → Int} {b : Nat} {R2 : Nat → Int → Int} {x : Int} (hx : 0 ≤ x ∧ x < 8) (h : K (50 + x) = 6) : r3 K s b R2 (8 * b + x.toNat) = R2 (8 * b + x.toNat) := by
  unfold r3
  rw [if_neg]
  rintro ⟨h1, h2, h3⟩
  exact h3 (by rw [show ((8 * b + x.toNat - 8 * b : Nat) : Int) = x by omega]; exact h)
theorem r3_n {K s : Int → Int} {b : Nat} {R2 : Nat → Int → Int} {x : Int} (hx : 0 ≤ x ∧ x < 8) (h : ¬ K (50 + x) = 6) : r3 K s b R2 (8 * b + x.toNat) = fun q => s (74 + 4 * x + q) := by
  unfold r3
  have e : ((8 * b + x.toNat - 8 * b : Nat) : Int) = x := by omega
  rw [e, if_pos ⟨by omega, by omega, h⟩]
theorem r3_o {K s : Int → Int} {b d : Nat} {R2 : Nat → Int → Int} {x : Int} (hd : d ≠ b) (hx : 0 ≤ x ∧ x < 8) : r3 K s b R2 (8 * d + x.toNat) = R2 (8 * d + x.toNat) := by
  unfold r3
  rw [if_neg (by omega)]
theorem XW_r {D : Dx} {A : Nat → Prop} {ad : Nat → Nat} {K : Int → Int} {hB mB rB rB' tz : Nat → Int → Int} {tc : Nat → Int → Int} {Q qa : Nat → Int → Int} {tp : Nat → Nat} {bo e uc lr nx : Int → Int} {H : Heap} (h : XW D A ad K hB mB rB tz tc Q qa tp bo e uc lr nx H) (hr : ∀ (d : Nat) (x : Int), d < 3 → 0 ≤ x → x < 8 → K (50 + x) = 6 → rB' (8 * d + x.toNat) = rB (8 * d + x.toNat)) : XW D A ad K hB mB rB' tz tc Q qa tp bo e uc lr nx H :=
  ⟨h.i, h.f0, h.f1, h.f2, h.f3, h.f4, h.f5, h.f6, h.fb, h.fa, h.ft, h.fc, h.fm, fun d x h1 h2 h3 h4 => by rw [hr d x h1 h2 h3 h4]; exact h.fr d x h1 h2 h3 h4, h.fp, h.fq⟩
theorem AG_copy {K s t : Int → Int} {S hB mB rB tz : Nat → Int → Int} {tc : Nat → Int → Int} {b c : Nat} {f2 : Int → Int} {R2 : Nat → Int → Int} (hb : b < 3) (hc3 : c < 3) (hcb : c ≠ b) (hT : TB t) (h8 : 0 ≤ s 43 ∧ s 43 ≤ 8) (h : AG K (uS (uS S b t) c s) hB mB rB tz tc) (hf : CPF K (mB c) rB b c (hB c 43) f2 R2) : AG K (uS (uS S b (wkC s t)) c s) (uS hB b (hcp (hB b) (hB c))) (uS mB b f2) (r3 K s b R2) tz tc := by
  have hcw : Ag K s (hB c) (mB c) rB c (tz c) tc := h.at hc3
  obtain ⟨hf1, hf2, hf3⟩ := hf
  intro d hd
  have hd' := h d hd
  by_cases e : d = b
  · subst e
    rw [uS_ne (by omega), uS_eq] at hd'
    rw [uS_ne (by omega), uS_eq, uS_eq, uS_eq]
    obtain ⟨⟨h0, h1, h2, h3, h4, h5⟩, -, hm, -⟩ := hcw
    obtain ⟨-, ⟨t0, t1, t2, t3⟩, -, ht⟩ := hd'
    rw [h3] at hf1 hf2
    refine ⟨?_, ⟨by rw [wkC_out (by omega)]; exact t0, by rw [wkC_out (by omega)]; exact t1, by rw [wkC_out (by omega)]; exact t2, by rw [wkC_out (by omega)]; exact t3⟩, fun x g1 g2 g3 => ?_, TA_eq hT (fun q hq => wkC_out (by omega)) ht⟩
    · rw [wkC_in (by omega), wkC_in (by omega), wkC_in (by omega), wkC_in (by omega), wkC_in (by omega), wkC_in (by omega)]
      unfold hcp
      exact ⟨by rw [sU_ne (by omega), sU_ne (by omega), sU_ne (by omega), sU_ne (by omega), sU_ne (by omega), sU_eq]; exact h0, by rw [sU_ne (by omega), sU_ne (by omega), sU_ne (by omega), sU_ne (by omega), sU_eq]; exact h1, by rw [sU_ne (by omega), sU_ne (by omega), sU_ne (by omega), sU_eq]; exact h2, by rw [sU_ne (by omega), sU_ne (by omega), sU_eq]; exact h3, by rw [sU_ne (by omega), sU_eq]; exact h4, by rw [sU_eq]; exact h5⟩
    · rw [wkC_in (by omega)] at g2
      have hmx := hm x g1 g2 g3
      obtain ⟨i1, i2, i3, i4, i5⟩ := hf1 x g1 g2
      unfold MA at hmx ⊢
      obtain ⟨a1, ⟨b1, b2, b3, b4, b5⟩, a3⟩ := hmx
      rw [wkC_in (by omega), wkC_in (by omega), wkC_in (by omega), wkC_in (by omega), wkC_in (by omega), wkC_in (by omega), wkC_in (by omega), wkC_in (by omega)]
      refine ⟨a1, ⟨i1.trans b1, i2.trans b2, i3.trans b3, i4.trans b4, i5.trans b5⟩, fun q q0 q4 => ?_⟩
      rw [wkC_in (by omega)]
      by_cases hk : K (50 + x) = 6
      · rw [r3_6 ⟨g1, g3⟩ hk, hf2 x g1 g2 hk q q0 q4]; exact a3 q q0 q4
      · rw [r3_n ⟨g1, g3⟩ hk]
  · rw [uS_ne e, uS_ne e]
    have key : Ag K (uS (uS S b t) c s d) (hB d) (mB d) (r3 K s b R2) d (tz d) tc := Ag_row hd' (fun x x0 x8 => by rw [r3_o e ⟨x0, x8⟩, hf3 _ (by omega)])
    by_cases e2 : d = c
    · subst e2
      rw [uS_eq] at key ⊢
      exact key
    · rw [uS_ne e2, uS_ne e] at key ⊢
      exact key
theorem AG_sw {K f g : Int → Int} {S hB mB rB tz : Nat → Int → Int} {tc : Nat → Int → Int} {b c : Nat} (hcb : b ≠ c) (h : AG K (uS (uS S b f) c g) hB mB rB tz tc) : AG K (uS (uS S c g) b f) hB mB rB tz tc := by
  rw [uS_sw hcb] at h
  exact h
def tlo (t : Nat) : Int := if t = 0 then 158 else if t = 1 then 106 else if t = 2 then 118 else 134
def thi (t : Nat) : Int := if t = 0 then 258 else if t = 1 then 118 else if t = 2 then 134 else 158
def tpC (t : Nat) (s f : Int → Int) : Int → Int := fun q => if q = tix t ∨ (tlo t ≤ q ∧ q < thi t) then s q else f q
theorem TB_wk {s t : Int → Int} (h : TB t) : TB (wkC s t) := TB_of h (fun q hq => wkC_out (by omega))
theorem TB_tp (n : Nat) {s t : Int → Int} (hs : TB s) (ht : TB t) : TB (tpC n s t) := by
  have h : ∀ q : Int, tpC n s t q = s q ∨ tpC n s t q = t q := fun q => by unfold tpC; split; exact Or.inl rfl; exact Or.inr rfl
  unfold TB at *
  have h5 := h 45
  have h6 := h 46
  have h7 := h 47
  have h8 := h 48
  omega
theorem Ag_same {K s s' hB mB : Int → Int} {rB : Nat → Int → Int} {b : Nat} {tz : Int → Int} {tc : Nat → Int → Int} (hT : TB s) (hs : ∀ q : Int, 0 ≤ q → q < 258 → s' q = s q) (h : Ag K s hB mB rB b tz tc) : Ag K s' hB mB rB b tz tc := by
  obtain ⟨⟨h0, h1, h2, h3, h4, h5⟩, ⟨t0, t1, t2, t3⟩, hm, ht⟩ := h
  refine ⟨?_, ?_, fun x g1 g2 g3 => ?_, TA_eq hT (fun q hq => hs q (by omega) (by omega)) ht⟩
  · rw [hs 0 (by omega) (by omega), hs 1 (by omega) (by omega), hs 2 (by omega) (by omega), hs 43 (by omega) (by omega), hs 44 (by omega) (by omega), hs 49 (by omega) (by omega)]; exact ⟨h0, h1, h2, h3, h4, h5⟩
  · rw [hs 45 (by omega) (by omega), hs 46 (by omega) (by omega), hs 47 (by omega) (by omega), hs 48 (by omega) (by omega)]; exact ⟨t0, t1, t2, t3⟩
  · rw [hs 43 (by omega) (by omega)] at g2
    exact MA_eq ⟨g1, g3⟩ (fun q hq => hs q (by omega) (by omega)) (hm x g1 g2 g3)
theorem CW_same {D : Dx} {A : Nat → Prop} {ad : Nat → Nat} {K : Int → Int} {S Q qa : Nat → Int → Int} {tp : Nat → Nat} {bo e uc lr nx : Int → Int} {b : Nat} {s s' : Int → Int} {H : Heap} (hb : b < 3) (hT : TB s) (hs : ∀ q : Int, 0 ≤ q → q < 258 → s' q = s q) (h : CW D A ad K (uS S b s) Q qa tp bo e uc lr nx H) : CW D A ad K (uS S b s') Q qa tp bo e uc lr nx H := by
  obtain ⟨hB, mB, rB, tz, tc, hA, hX⟩ := h
  exact ⟨hB, mB, rB, tz, tc, AG_upd hb hA (fun g => Ag_same hT hs g) (fun c _ _ g => g), hX⟩
theorem all_eq {s t : Int → Int} {q : Int} (h0 : 0 ≤ q) (h1 : q < 258) : tpC 3 s (tpC 2 s (tpC 1 s (tpC 0 s (wkC s t)))) q = s q := by
  unfold tpC tix tlo thi wkC
  simp only [show (3 : Nat) ≠ 0 from by decide, show (3 : Nat) ≠ 1 from by decide, show (3 : Nat) ≠ 2 from by decide, show (2 : Nat) ≠ 0 from by decide, show (2 : Nat) ≠ 1 from by decide, show (1 : Nat) ≠ 0 from by decide, if_true, if_false]
  (repeat' split) <;> first | rfl | omega
theorem Ag_tcopy0 {K s f hB mB : Int → Int} {rB : Nat → Int → Int} {b c : Nat} {tz : Int → Int} {tc : Nat → Int → Int} (hs9 : TB s) (hf9 : TB f) (h : Ag K f hB mB rB b tz tc) (hc : TA s tc c) : Ag K (tpC 0 s f) hB mB rB b (sU tz (0 : Nat) (s 48)) (uS tc (4 * b + 0) (cpy (s 48 * 1) (tc (4 * c + 0)) (tc (4 * b + 0)))) := by
  have hin : ∀ q : Int, q = 48 ∨ (158 ≤ q ∧ q < 258) → tpC 0 s f q = s q := fun q hq => if_pos hq
  have hs : ∀ q : Int, ¬ (q = 48 ∨ (158 ≤ q ∧ q < 258)) → tpC 0 s f q = f q := fun q hq => if_neg hq
  obtain ⟨⟨h0, h1, h2, h3, h4, h5⟩, ⟨t0, t1, t2, t3⟩, hm, ⟨a1, a2, a3, a4⟩⟩ := h
  obtain ⟨c1, c2, c3, c4⟩ := hc
  unfold TB at hs9 hf9
  refine ⟨?_, ⟨by rw [show (0 : Int) = ((0 : Nat) : Int) from rfl, sU_eq, hin 48 (by omega)], by rw [sU_ne (by omega), hs 45 (by omega)]; exact t1, by rw [sU_ne (by omega), hs 46 (by omega)]; exact t2, by rw [sU_ne (by omega), hs 47 (by omega)]; exact t3⟩, fun x g1 g2 g3 => ?_, ⟨fun i g1 g2 => by rw [hin 48 (by omega)] at g2; exact (by rw [uS_eq, cpy_in (by omega), hin _ (by omega)]; exact c1 i g1 g2), by rw [uS_ne (by omega), hs 45 (by omega)]; exact fun i g1 g2 => by rw [hs _ (by omega), hs _ (by omega)]; exact a2 i g1 g2, by rw [uS_ne (by omega), hs 46 (by omega)]; exact fun i g1 g2 => by rw [hs _ (by omega), hs _ (by omega)]; exact a3 i g1 g2, by rw [uS_ne (by omega), hs 47 (by omega)]; exact fun i g1 g2 => by rw [hs _ (by omega), hs _ (by omega), hs _ (by omega)]; exact a4 i g1 g2⟩⟩
  · rw [hs 0 (by omega), hs 1 (by omega), hs 2 (by omega), hs 43 (by omega), hs 44 (by omega), hs 49 (by omega)]; exact ⟨h0, h1, h2, h3, h4, h5⟩
  · rw [hs 43 (by omega)] at g2
    exact MA_eq ⟨g1, g3⟩ (fun q hq => hs q (by omega)) (hm x g1 g2 g3)
theorem Ag_tcopy1 {K s f hB mB : Int → Int} {rB : Nat → Int → Int} {b c : Nat} {tz : Int → Int} {tc : Nat → Int → Int} (hs9 : TB s) (hf9 : TB f) (h : Ag K f hB mB rB b tz tc) (hc : TA s tc c) : Ag K (tpC 1 s f) hB mB rB b (sU tz (1 : Nat) (s 45)) (uS tc (4 * b + 1) (cpy (s 45 * 2) (tc (4 * c + 1)) (tc (4 * b + 1)))) := by
  have hin : ∀ q : Int, q = 45 ∨ (106 ≤ q ∧ q < 118) → tpC 1 s f q = s q := fun q hq => if_pos hq
  have hs : ∀ q : Int, ¬ (q = 45 ∨ (106 ≤ q ∧ q < 118)) → tpC 1 s f q = f q := fun q hq => if_neg hq
  obtain ⟨⟨h0, h1, h2, h3, h4, h5⟩, ⟨t0, t1, t2, t3⟩, hm, ⟨a1, a2, a3, a4⟩⟩ := h
  obtain ⟨c1, c2, c3, c4⟩ := hc
  unfold TB at hs9 hf9
  refine ⟨?_, ⟨by rw [sU_ne (by omega), hs 48 (by omega)]; exact t0, by rw [show (1 : Int) = ((1 : Nat) : Int) from rfl, sU_eq, hin 45 (by omega)], by rw [sU_ne (by omega), hs 46 (by omega)]; exact t2, by rw [sU_ne (by omega), hs 47 (by omega)]; exact t3⟩, fun x g1 g2 g3 => ?_, ⟨by rw [uS_ne (by omega), hs 48 (by omega)]; exact fun i g1 g2 => by rw [hs _ (by omega)]; exact a1 i g1 g2, fun i g1 g2 => by rw [hin 45 (by omega)] at g2; exact ⟨by rw [uS_eq, cpy_in (by omega), hin _ (by omega)]; exact (c2 i g1 g2).1, by rw [uS_eq, cpy_in (by omega), hin _ (by omega)]; exact (c2 i g1 g2).2⟩, by rw [uS_ne (by omega), hs 46 (by omega)]; exact fun i g1 g2 => by rw [hs _ (by omega), hs _ (by omega)]; exact a3 i g1 g2, by rw [uS_ne (by omega), hs 47 (by omega)]; exact fun i g1 g2 => by rw [hs _ (by omega), hs _ (by omega), hs _ (by omega)]; exact a4 i g1 g2⟩⟩
  · rw [hs 0 (by omega), hs 1 (by omega), hs 2 (by omega), hs 43 (by omega), hs 44 (by omega), hs 49 (by omega)]; exact ⟨h0, h1, h2, h3, h4, h5⟩
  · rw [hs 43 (by omega)] at g2
    exact MA_eq ⟨g1, g3⟩ (fun q hq => hs q (by omega)) (hm x g1 g2 g3)
theorem Ag_tcopy2 {K s f hB mB : Int → Int} {rB : Nat → Int → Int} {b c : Nat} {tz : Int → Int} {tc : Nat → Int → Int} (hs9 : TB s) (hf9 : TB f) (h : Ag K f hB mB rB b tz tc) (hc : TA s tc c) : Ag K (tpC 2 s f) hB mB rB b (sU tz (2 : Nat) (s 46)) (uS tc (4 * b + 2) (cpy (s 46 * 2) (tc (4 * c + 2)) (tc (4 * b + 2)))) := by
  have hin : ∀ q : Int, q = 46 ∨ (118 ≤ q ∧ q < 134) → tpC 2 s f q = s q := fun q hq => if_pos hq
  have hs : ∀ q : Int, ¬ (q = 46 ∨ (118 ≤ q ∧ q < 134)) → tpC 2 s f q = f q := fun q hq => if_neg hq
  obtain ⟨⟨h0, h1, h2, h3, h4, h5⟩, ⟨t0, t1, t2, t3⟩, hm, ⟨a1, a2, a3, a4⟩⟩ := h
  obtain ⟨c1, c2, c3, c4⟩ := hc
  unfold TB at hs9 hf9
  refine ⟨?_, ⟨by rw [sU_ne (by omega), hs 48 (by omega)]; exact t0, by rw [sU_ne (by omega), hs 45 (by omega)]; exact t1, by rw [show (2 : Int) = ((2 : Nat) : Int) from rfl, sU_eq, hin 46 (by omega)], by rw [sU_ne (by omega), hs 47 (by omega)]; exact t3⟩, fun x g1 g2 g3 => ?_, ⟨by rw [uS_ne (by omega), hs 48 (by omega)]; exact fun i g1 g2 => by rw [hs _ (by omega)]; exact a1 i g1 g2, by rw [uS_ne (by omega), hs 45 (by omega)]; exact fun i g1 g2 => by rw [hs _ (by omega), hs _ (by omega)]; exact a2 i g1 g2, fun i g1 g2 => by rw [hin 46 (by omega)] at g2; exact ⟨by rw [uS_eq, cpy_in (by omega), hin _ (by omega)]; exact (c3 i g1 g2).1, by rw [uS_eq, cpy_in (by omega), hin _ (by omega)]; exact (c3 i g1 g2).2⟩, by rw [uS_ne (by omega), hs 47 (by omega)]; exact fun i g1 g2 => by rw [hs _ (by omega), hs _ (by omega), hs _ (by omega)]; exact a4 i g1 g2⟩⟩
  · rw [hs 0 (by omega), hs 1 (by omega), hs 2 (by omega), hs 43 (by omega), hs 44 (by omega), hs 49 (by omega)]; exact ⟨h0, h1, h2, h3, h4, h5⟩
  · rw [hs 43 (by omega)] at g2
    exact MA_eq ⟨g1, g3⟩ (fun q hq => hs q (by omega)) (hm x g1 g2 g3)
theorem Ag_tcopy3 {K s f hB mB : Int → Int} {rB : Nat → Int → Int} {b c : Nat} {tz : Int → Int} {tc : Nat → Int → Int} (hs9 : TB s) (hf9 : TB f) (h : Ag K f hB mB rB b tz tc) (hc : TA s tc c) : Ag K (tpC 3 s f) hB mB rB b (sU tz (3 : Nat) (s 47)) (uS tc (4 * b + 3) (cpy (s 47 * 3) (tc (4 * c + 3)) (tc (4 * b + 3)))) := by
  have hin : ∀ q : Int, q = 47 ∨ (134 ≤ q ∧ q < 158) → tpC 3 s f q = s q := fun q hq => if_pos hq
  have hs : ∀ q : Int, ¬ (q = 47 ∨ (134 ≤ q ∧ q < 158)) → tpC 3 s f q = f q := fun q hq => if_neg hq
  obtain ⟨⟨h0, h1, h2, h3, h4, h5⟩, ⟨t0, t1, t2, t3⟩, hm, ⟨a1, a2, a3, a4⟩⟩ := h
  obtain ⟨c1, c2, c3, c4⟩ := hc
  unfold TB at hs9 hf9
  refine ⟨?_, ⟨by rw [sU_ne (by omega), hs 48 (by omega)]; exact t0, by rw [sU_ne (by omega), hs 45 (by omega)]; exact t1, by rw [sU_ne (by omega), hs 46 (by omega)]; exact t2, by rw [show (3 : Int) = ((3 : Nat) : Int) from rfl, sU_eq, hin 47 (by omega)]⟩, fun x g1 g2 g3 => ?_, ⟨by rw [uS_ne (by omega), hs 48 (by omega)]; exact fun i g1 g2 => by rw [hs _ (by omega)]; exact a1 i g1 g2, by rw [uS_ne (by omega), hs 45 (by omega)]; exact fun i g1 g2 => by rw [hs _ (by omega), hs _ (by omega)]; exact a2 i g1 g2, by rw [uS_ne (by omega), hs 46 (by omega)]; exact fun i g1 g2 => by rw [hs _ (by omega), hs _ (by omega)]; exact a3 i g1 g2, fun i g1 g2 => by rw [hin 47 (by omega)] at g2; exact ⟨by rw [uS_eq, cpy_in (by omega), hin _ (by omega)]; exact (c4 i g1 g2).1, by rw [uS_eq, cpy_in (by omega), hin _ (by omega)]; exact (c4 i g1 g2).2.1, by rw [uS_eq, cpy_in (by omega), hin _ (by omega)]; exact (c4 i g1 g2).2.2⟩⟩⟩
  · rw [hs 0 (by omega), hs 1 (by omega), hs 2 (by omega), hs 43 (by omega), hs 44 (by omega), hs 49 (by omega)]; exact ⟨h0, h1, h2, h3, h4, h5⟩
  · rw [hs 43 (by omega)] at g2
    exact MA_eq ⟨g1, g3⟩ (fun q hq => hs q (by omega)) (hm x g1 g2 g3)
theorem kd0_copyWork (l : Launch) (D : Dx) (A : Nat → Prop) (ad : Nat → Nat) (K : Int → Int) (S Q qa : Nat → Int → Int) (tp : Nat → Nat) (s t bo e uc lr nx : Int → Int) (b c : Nat) (hb : b < 3) (hc3 : c < 3) (hcb : c ≠ b) (hTt : TB t) (h8 : 0 ≤ s 43 ∧ s 43 ≤ 8) (hp6 : hc s < 6) (h01 : ∀ x : Int, 0 ≤ x → x < s 43 → s (11 + x) = 0 ∨ s (11 + x) = 1) : CT l D A yX0_copyWork cX0_copyWork 3 none { frames := 2, cells := 0, slots := 0, locals := 44 } [.ref (kB ad b), .ref (kB ad c)] (CW D A ad K (uS (uS S b t) c s) Q qa tp bo e uc lr nx) (fun _ : Unit => none) (fun _ => True) (fun _ => CW D A ad K (uS (uS S b (wkC s t)) c s) Q qa tp bo e uc lr nx) := by
  refine CT_map (I := CI K (uS (uS S b t) c s)) (S := (Int → Int) × (Nat → Int → Int)) (P := fun i => XW D A ad K i.1.1 i.1.2.1 i.1.2.2.1 i.1.2.2.2.1 i.1.2.2.2.2 Q qa tp bo e uc lr nx) (rv := fun _ _ => none) (φ := fun i u => CPF K (i.1.2.1 c) i.1.2.2.1 b c (i.1.1 c 43) u.1 u.2) (P1 := fun i u => XW D A ad K (uS i.1.1 b (hcp (i.1.1 b) (i.1.1 c))) (uS i.1.2.1 b u.1) u.2 i.1.2.2.2.1 i.1.2.2.2.2 Q qa tp bo e uc lr nx) (fun H h => CW_I h) (fun i => ?_) (fun i u hu => ⟨(), rfl, trivial, fun H h => ⟨_, _, _, _, _, AG_copy hb hc3 hcb hTt h8 i.2 hu, XW_r h (fun d x d3 x0 x8 h6 => ?_)⟩⟩)
  · have hag : Ag K s (i.1.1 c) (i.1.2.1 c) i.1.2.2.1 c (i.1.2.2.2.1 c) i.1.2.2.2.2 := i.2.at hc3
    obtain ⟨⟨e0, e1, e2, e3, e4, e5⟩, -, hm, -⟩ := hag
    have k9 := kc0_copyWork l D A ad K i.1.1 i.1.2.1 i.1.2.2.2.1 i.1.2.2.2.2 Q qa tp bo e uc lr nx i.1.2.2.1 b c (i.1.1 b) (i.1.2.1 b) hb hc3 hcb (by omega) (by rw [hc_eq e5]; exact hp6) (fun x x0 x1 => by have hmx := hm x x0 (by omega) (by omega); rw [hmx.2.1.2.1]; exact h01 x x0 (by omega))
    rw [uS_self, uS_self] at k9
    exact k9
  · by_cases hd : d = b
    · subst hd; exact r3_6 ⟨x0, x8⟩ h6
    · exact r3_o hd ⟨x0, x8⟩
theorem kd7_copyFrom0 (l : Launch) (D : Dx) (A : Nat → Prop) (ad : Nat → Nat) (K : Int → Int) (S Q qa : Nat → Int → Int) (tp : Nat → Nat) (s t bo e uc lr nx : Int → Int) (b c : Nat) (hb : b < 3) (hc3 : c < 3) (hcb : c ≠ b) (hTt : TB t) (hTs : TB s) : CT l D A yX7_copyFrom cX7_copyFrom 3 none { frames := 0, cells := 0, slots := 0, locals := 0 } [.ref (kT ad b 0), .ref (kT ad c 0)] (CW D A ad K (uS (uS S b t) c s) Q qa tp bo e uc lr nx) (fun _ : Unit => none) (fun _ => True) (fun _ => CW D A ad K (uS (uS S b (tpC 0 s t)) c s) Q qa tp bo e uc lr nx) := by
  refine CT_map (I := CI K (uS (uS S b t) c s)) (S := Unit) (P := fun i => XW D A ad K i.1.1 i.1.2.1 i.1.2.2.1 i.1.2.2.2.1 i.1.2.2.2.2 Q qa tp bo e uc lr nx) (rv := fun _ _ => none) (φ := fun _ _ => True) (P1 := fun i _ => XT D A ad K i.1.1 i.1.2.1 i.1.2.2.1 i.1.2.2.2.1 i.1.2.2.2.2 Q qa tp bo e uc lr nx b 0 (s 48) (cpy (s 48 * 1) (i.1.2.2.2.2 (4 * c + 0)) (i.1.2.2.2.2 (4 * b + 0)))) (fun H h => CW_I h) (fun i => ?_) (fun i u _ => ⟨(), rfl, trivial, fun H h => ⟨_, _, _, _, _, ?_, h⟩⟩)
  · have hag : Ag K s (i.1.1 c) (i.1.2.1 c) i.1.2.2.1 c (i.1.2.2.2.1 c) i.1.2.2.2.2 := i.2.at hc3
    have e9 := tz_ag (t := 0) hag (by decide)
    have e8 : i.1.2.2.2.1 c ((0 : Nat) : Int) = s 48 := e9
    have hTs9 := hTs
    unfold TB at hTs9
    have k9 := kc7_copyFrom l D A ad K i.1.1 i.1.2.1 i.1.2.2.1 i.1.2.2.2.1 i.1.2.2.2.2 Q qa tp bo e uc lr nx b 0 (i.1.2.2.2.1 b (0 : Nat)) (i.1.2.2.2.2 (4 * b + 0)) hb (by decide) c hc3 hcb (by rw [e8]; omega) (by rw [e8]; show s 48 * 1 ≤ 100; omega)
    rw [XT_self, e8] at k9
    exact k9
  · have i2 := AG_sw (by omega) i.2
    have hag : Ag K s (i.1.1 c) (i.1.2.1 c) i.1.2.2.1 c (i.1.2.2.2.1 c) i.1.2.2.2.2 := i.2.at hc3
    refine AG_sw (by omega) (AG_upd (hB' := i.1.1) (mB' := i.1.2.1) (rB' := i.1.2.2.1) hb i2 (fun g => ?_) (fun d hd h3 g => Ag_tz g (uS_ne hd) (fun t ht => uS_ne (by omega))))
    rw [uS_eq]
    exact Ag_tcopy0 hTs hTt g hag.2.2.2
theorem kd7_copyFrom1 (l : Launch) (D : Dx) (A : Nat → Prop) (ad : Nat → Nat) (K : Int → Int) (S Q qa : Nat → Int → Int) (tp : Nat → Nat) (s t bo e uc lr nx : Int → Int) (b c : Nat) (hb : b < 3) (hc3 : c < 3) (hcb : c ≠ b) (hTt : TB t) (hTs : TB s) : CT l D A yX7_copyFrom cX7_copyFrom 3 none { frames := 0, cells := 0, slots := 0, locals := 0 } [.ref (kT ad b 1), .ref (kT ad c 1)] (CW D A ad K (uS (uS S b t) c s) Q qa tp bo e uc lr nx) (fun _ : Unit => none) (fun _ => True) (fun _ => CW D A ad K (uS (uS S b (tpC 1 s t)) c s) Q qa tp bo e uc lr nx) := by
  refine CT_map (I := CI K (uS (uS S b t) c s)) (S := Unit) (P := fun i => XW D A ad K i.1.1 i.1.2.1 i.1.2.2.1 i.1.2.2.2.1 i.1.2.2.2.2 Q qa tp bo e uc lr nx) (rv := fun _ _ => none) (φ := fun _ _ => True) (P1 := fun i _ => XT D A ad K i.1.1 i.1.2.1 i.1.2.2.1 i.1.2.2.2.1 i.1.2.2.2.2 Q qa tp bo e uc lr nx b 1 (s 45) (cpy (s 45 * 2) (i.1.2.2.2.2 (4 * c + 1)) (i.1.2.2.2.2 (4 * b + 1)))) (fun H h => CW_I h) (fun i => ?_) (fun i u _ => ⟨(), rfl, trivial, fun H h => ⟨_, _, _, _, _, ?_, h⟩⟩)
  · have hag : Ag K s (i.1.1 c) (i.1.2.1 c) i.1.2.2.1 c (i.1.2.2.2.1 c) i.1.2.2.2.2 := i.2.at hc3
    have e9 := tz_ag (t := 1) hag (by decide)
    have e8 : i.1.2.2.2.1 c ((1 : Nat) : Int) = s 45 := e9
    have hTs9 := hTs
    unfold TB at hTs9
    have k9 := kc7_copyFrom l D A ad K i.1.1 i.1.2.1 i.1.2.2.1 i.1.2.2.2.1 i.1.2.2.2.2 Q qa tp bo e uc lr nx b 1 (i.1.2.2.2.1 b (1 : Nat)) (i.1.2.2.2.2 (4 * b + 1)) hb (by decide) c hc3 hcb (by rw [e8]; omega) (by rw [e8]; show s 45 * 2 ≤ 12; omega)
    rw [XT_self, e8] at k9
    exact k9
  · have i2 := AG_sw (by omega) i.2
    have hag : Ag K s (i.1.1 c) (i.1.2.1 c) i.1.2.2.1 c (i.1.2.2.2.1 c) i.1.2.2.2.2 := i.2.at hc3
    refine AG_sw (by omega) (AG_upd (hB' := i.1.1) (mB' := i.1.2.1) (rB' := i.1.2.2.1) hb i2 (fun g => ?_) (fun d hd h3 g => Ag_tz g (uS_ne hd) (fun t ht => uS_ne (by omega))))
    rw [uS_eq]
    exact Ag_tcopy1 hTs hTt g hag.2.2.2
theorem kd7_copyFrom2 (l : Launch) (D : Dx) (A : Nat → Prop) (ad : Nat → Nat) (K : Int → Int) (S Q qa : Nat → Int → Int) (tp : Nat → Nat) (s t bo e uc lr nx : Int → Int) (b c : Nat) (hb : b < 3) (hc3 : c < 3) (hcb : c ≠ b) (hTt : TB t) (hTs : TB s) : CT l D A yX7_copyFrom cX7_copyFrom 3 none { frames := 0, cells := 0, slots := 0, locals := 0 } [.ref (kT ad b 2), .ref (kT ad c 2)] (CW D A ad K (uS (uS S b t) c s) Q qa tp bo e uc lr nx) (fun _ : Unit => none) (fun _ => True) (fun _ => CW D A ad K (uS (uS S b (tpC 2 s t)) c s) Q qa tp bo e uc lr nx) := by
  refine CT_map (I := CI K (uS (uS S b t) c s)) (S := Unit) (P := fun i => XW D A ad K i.1.1 i.1.2.1 i.1.2.2.1 i.1.2.2.2.1 i.1.2.2.2.2 Q qa tp bo e uc lr nx) (rv := fun _ _ => none) (φ := fun _ _ => True) (P1 := fun i _ => XT D A ad K i.1.1 i.1.2.1 i.1.2.2.1 i.1.2.2.2.1 i.1.2.2.2.2 Q qa tp bo e uc lr nx b 2 (s 46) (cpy (s 46 * 2) (i.1.2.2.2.2 (4 * c + 2)) (i.1.2.2.2.2 (4 * b + 2)))) (fun H h => CW_I h) (fun i => ?_) (fun i u _ => ⟨(), rfl, trivial, fun H h => ⟨_, _, _, _, _, ?_, h⟩⟩)
  · have hag : Ag K s (i.1.1 c) (i.1.2.1 c) i.1.2.2.1 c (i.1.2.2.2.1 c) i.1.2.2.2.2 := i.2.at hc3
    have e9 := tz_ag (t := 2) hag (by decide)
    have e8 : i.1.2.2.2.1 c ((2 : Nat) : Int) = s 46 := e9
    have hTs9 := hTs
    unfold TB at hTs9
    have k9 := kc7_copyFrom l D A ad K i.1.1 i.1.2.1 i.1.2.2.1 i.1.2.2.2.1 i.1.2.2.2.2 Q qa tp bo e uc lr nx b 2 (i.1.2.2.2.1 b (2 : Nat)) (i.1.2.2.2.2 (4 * b + 2)) hb (by decide) c hc3 hcb (by rw [e8]; omega) (by rw [e8]; show s 46 * 2 ≤ 16; omega)
    rw [XT_self, e8] at k9
    exact k9
  · have i2 := AG_sw (by omega) i.2
    have hag : Ag K s (i.1.1 c) (i.1.2.1 c) i.1.2.2.1 c (i.1.2.2.2.1 c) i.1.2.2.2.2 := i.2.at hc3
    refine AG_sw (by omega) (AG_upd (hB' := i.1.1) (mB' := i.1.2.1) (rB' := i.1.2.2.1) hb i2 (fun g => ?_) (fun d hd h3 g => Ag_tz g (uS_ne hd) (fun t ht => uS_ne (by omega))))
    rw [uS_eq]
    exact Ag_tcopy2 hTs hTt g hag.2.2.2
theorem kd7_copyFrom3 (l : Launch) (D : Dx) (A : Nat → Prop) (ad : Nat → Nat) (K : Int → Int) (S Q qa : Nat → Int → Int) (tp : Nat → Nat) (s t bo e uc lr nx : Int → Int) (b c : Nat) (hb : b < 3) (hc3 : c < 3) (hcb : c ≠ b) (hTt : TB t) (hTs : TB s) : CT l D A yX7_copyFrom cX7_copyFrom 3 none { frames := 0, cells := 0, slots := 0, locals := 0 } [.ref (kT ad b 3), .ref (kT ad c 3)] (CW D A ad K (uS (uS S b t) c s) Q qa tp bo e uc lr nx) (fun _ : Unit => none) (fun _ => True) (fun _ => CW D A ad K (uS (uS S b (tpC 3 s t)) c s) Q qa tp bo e uc lr nx) := by
  refine CT_map (I := CI K (uS (uS S b t) c s)) (S := Unit) (P := fun i => XW D A ad K i.1.1 i.1.2.1 i.1.2.2.1 i.1.2.2.2.1 i.1.2.2.2.2 Q qa tp bo e uc lr nx) (rv := fun _ _ => none) (φ := fun _ _ => True) (P1 := fun i _ => XT D A ad K i.1.1 i.1.2.1 i.1.2.2.1 i.1.2.2.2.1 i.1.2.2.2.2 Q qa tp bo e uc lr nx b 3 (s 47) (cpy (s 47 * 3) (i.1.2.2.2.2 (4 * c + 3)) (i.1.2.2.2.2 (4 * b + 3)))) (fun H h => CW_I h) (fun i => ?_) (fun i u _ => ⟨(), rfl, trivial, fun H h => ⟨_, _, _, _, _, ?_, h⟩⟩)
  · have hag : Ag K s (i.1.1 c) (i.1.2.1 c) i.1.2.2.1 c (i.1.2.2.2.1 c) i.1.2.2.2.2 := i.2.at hc3
    have e9 := tz_ag (t := 3) hag (by decide)
    have e8 : i.1.2.2.2.1 c ((3 : Nat) : Int) = s 47 := e9
    have hTs9 := hTs
    unfold TB at hTs9
    have k9 := kc7_copyFrom l D A ad K i.1.1 i.1.2.1 i.1.2.2.1 i.1.2.2.2.1 i.1.2.2.2.2 Q qa tp bo e uc lr nx b 3 (i.1.2.2.2.1 b (3 : Nat)) (i.1.2.2.2.2 (4 * b + 3)) hb (by decide) c hc3 hcb (by rw [e8]; omega) (by rw [e8]; show s 47 * 3 ≤ 24; omega)
    rw [XT_self, e8] at k9
    exact k9
  · have i2 := AG_sw (by omega) i.2
    have hag : Ag K s (i.1.1 c) (i.1.2.1 c) i.1.2.2.1 c (i.1.2.2.2.1 c) i.1.2.2.2.2 := i.2.at hc3
    refine AG_sw (by omega) (AG_upd (hB' := i.1.1) (mB' := i.1.2.1) (rB' := i.1.2.2.1) hb i2 (fun g => ?_) (fun d hd h3 g => Ag_tz g (uS_ne hd) (fun t ht => uS_ne (by omega))))
    rw [uS_eq]
    exact Ag_tcopy3 hTs hTt g hag.2.2.2
theorem kw_20 (l : Launch) (D : Dx) (A : Nat → Prop) (ad : Nat → Nat) (K : Int → Int) (S Q qa : Nat → Int → Int) (tp : Nat → Nat) (s t bo e uc lr nx : Int → Int) (hTt : TB t) (hC8 : 0 ≤ s 43 ∧ s 43 ≤ 8) (hC6 : hc s < 6) (hC1 : ∀ x : Int, 0 ≤ x → x < s 43 → s (11 + x) = 0 ∨ s (11 + x) = 1) : CT l D A yX0_copyWork cX0_copyWork 3 none { frames := 2, cells := 0, slots := 0, locals := 44 } [.ref (kB ad 2), .ref (kB ad 0)] (CW D A ad K (uS (uS S 2 t) 0 s) Q qa tp bo e uc lr nx) (fun _ : Unit => none) (fun _ => True) (fun _ => CW D A ad K (uS (uS S 2 (wkC s t)) 0 s) Q qa tp bo e uc lr nx) := kd0_copyWork l D A ad K S Q qa tp s t bo e uc lr nx 2 0 (by decide) (by decide) (by decide) hTt hC8 hC6 hC1
theorem kw_10 (l : Launch) (D : Dx) (A : Nat → Prop) (ad : Nat → Nat) (K : Int → Int) (S Q qa : Nat → Int → Int) (tp : Nat → Nat) (s t bo e uc lr nx : Int → Int) (hTt : TB t) (hC8 : 0 ≤ s 43 ∧ s 43 ≤ 8) (hC6 : hc s < 6) (hC1 : ∀ x : Int, 0 ≤ x → x < s 43 → s (11 + x) = 0 ∨ s (11 + x) = 1) : CT l D A yX0_copyWork cX0_copyWork 3 none { frames := 2, cells := 0, slots := 0, locals := 44 } [.ref (kB ad 1), .ref (kB ad 0)] (CW D A ad K (uS (uS S 1 t) 0 s) Q qa tp bo e uc lr nx) (fun _ : Unit => none) (fun _ => True) (fun _ => CW D A ad K (uS (uS S 1 (wkC s t)) 0 s) Q qa tp bo e uc lr nx) := kd0_copyWork l D A ad K S Q qa tp s t bo e uc lr nx 1 0 (by decide) (by decide) (by decide) hTt hC8 hC6 hC1
theorem kv_10_0 (l : Launch) (D : Dx) (A : Nat → Prop) (ad : Nat → Nat) (K : Int → Int) (S Q qa : Nat → Int → Int) (tp : Nat → Nat) (s t bo e uc lr nx : Int → Int) (hTt : TB t) (hTs : TB s) : CT l D A yX7_copyFrom cX7_copyFrom 3 none { frames := 0, cells := 0, slots := 0, locals := 0 } [.ref (kT ad 1 0), .ref (kT ad 0 0)] (CW D A ad K (uS (uS S 1 t) 0 s) Q qa tp bo e uc lr nx) (fun _ : Unit => none) (fun _ => True) (fun _ => CW D A ad K (uS (uS S 1 (tpC 0 s t)) 0 s) Q qa tp bo e uc lr nx) := kd7_copyFrom0 l D A ad K S Q qa tp s t bo e uc lr nx 1 0 (by decide) (by decide) (by decide) hTt hTs
theorem kv_10_1 (l : Launch) (D : Dx) (A : Nat → Prop) (ad : Nat → Nat) (K : Int → Int) (S Q qa : Nat → Int → Int) (tp : Nat → Nat) (s t bo e uc lr nx : Int → Int) (hTt : TB t) (hTs : TB s) : CT l D A yX7_copyFrom cX7_copyFrom 3 none { frames := 0, cells := 0, slots := 0, locals := 0 } [.ref (kT ad 1 1), .ref (kT ad 0 1)] (CW D A ad K (uS (uS S 1 t) 0 s) Q qa tp bo e uc lr nx) (fun _ : Unit => none) (fun _ => True) (fun _ => CW D A ad K (uS (uS S 1 (tpC 1 s t)) 0 s) Q qa tp bo e uc lr nx) := kd7_copyFrom1 l D A ad K S Q qa tp s t bo e uc lr nx 1 0 (by decide) (by decide) (by decide) hTt hTs
theorem kv_10_2 (l : Launch) (D : Dx) (A : Nat → Prop) (ad : Nat → Nat) (K : Int → Int) (S Q qa : Nat → Int → Int) (tp : Nat → Nat) (s t bo e uc lr nx : Int → Int) (hTt : TB t) (hTs : TB s) : CT l D A yX7_copyFrom cX7_copyFrom 3 none { frames := 0, cells := 0, slots := 0, locals := 0 } [.ref (kT ad 1 2), .ref (kT ad 0 2)] (CW D A ad K (uS (uS S 1 t) 0 s) Q qa tp bo e uc lr nx) (fun _ : Unit => none) (fun _ => True) (fun _ => CW D A ad K (uS (uS S 1 (tpC 2 s t)) 0 s) Q qa tp bo e uc lr nx) := kd7_copyFrom2 l D A ad K S Q qa tp s t bo e uc lr nx 1 0 (by decide) (by decide) (by decide) hTt hTs
theorem kv_10_3 (l : Launch) (D : Dx) (A : Nat → Prop) (ad : Nat → Nat) (K : Int → Int) (S Q qa : Nat → Int → Int) (tp : Nat → Nat) (s t bo e uc lr nx : Int → Int) (hTt : TB t) (hTs : TB s) : CT l D A yX7_copyFrom cX7_copyFrom 3 none { frames := 0, cells := 0, slots := 0, locals := 0 } [.ref (kT ad 1 3), .ref (kT ad 0 3)] (CW D A ad K (uS (uS S 1 t) 0 s) Q qa tp bo e uc lr nx) (fun _ : Unit => none) (fun _ => True) (fun _ => CW D A ad K (uS (uS S 1 (tpC 3 s t)) 0 s) Q qa tp bo e uc lr nx) := kd7_copyFrom3 l D A ad K S Q qa tp s t bo e uc lr nx 1 0 (by decide) (by decide) (by decide) hTt hTs
theorem kw_01 (l : Launch) (D : Dx) (A : Nat → Prop) (ad : Nat → Nat) (K : Int → Int) (S Q qa : Nat → Int → Int) (tp : Nat → Nat) (s t bo e uc lr nx : Int → Int) (hTt : TB t) (hC8 : 0 ≤ s 43 ∧ s 43 ≤ 8) (hC6 : hc s < 6) (hC1 : ∀ x : Int, 0 ≤ x → x < s 43 → s (11 + x) = 0 ∨ s (11 + x) = 1) : CT l D A yX0_copyWork cX0_copyWork 3 none { frames := 2, cells := 0, slots := 0, locals := 44 } [.ref (kB ad 0), .ref (kB ad 1)] (CW D A ad K (uS (uS S 0 t) 1 s) Q qa tp bo e uc lr nx) (fun _ : Unit => none) (fun _ => True) (fun _ => CW D A ad K (uS (uS S 0 (wkC s t)) 1 s) Q qa tp bo e uc lr nx) := kd0_copyWork l D A ad K S Q qa tp s t bo e uc lr nx 0 1 (by decide) (by decide) (by decide) hTt hC8 hC6 hC1
theorem kv_01_0 (l : Launch) (D : Dx) (A : Nat → Prop) (ad : Nat → Nat) (K : Int → Int) (S Q qa : Nat → Int → Int) (tp : Nat → Nat) (s t bo e uc lr nx : Int → Int) (hTt : TB t) (hTs : TB s) : CT l D A yX7_copyFrom cX7_copyFrom 3 none { frames := 0, cells := 0, slots := 0, locals := 0 } [.ref (kT ad 0 0), .ref (kT ad 1 0)] (CW D A ad K (uS (uS S 0 t) 1 s) Q qa tp bo e uc lr nx) (fun _ : Unit => none) (fun _ => True) (fun _ => CW D A ad K (uS (uS S 0 (tpC 0 s t)) 1 s) Q qa tp bo e uc lr nx) := kd7_copyFrom0 l D A ad K S Q qa tp s t bo e uc lr nx 0 1 (by decide) (by decide) (by decide) hTt hTs
theorem kv_01_1 (l : Launch) (D : Dx) (A : Nat → Prop) (ad : Nat → Nat) (K : Int → Int) (S Q qa : Nat → Int → Int) (tp : Nat → Nat) (s t bo e uc lr nx : Int → Int) (hTt : TB t) (hTs : TB s) : CT l D A yX7_copyFrom cX7_copyFrom 3 none { frames := 0, cells := 0, slots := 0, locals := 0 } [.ref (kT ad 0 1), .ref (kT ad 1 1)] (CW D A ad K (uS (uS S 0 t) 1 s) Q qa tp bo e uc lr nx) (fun _ : Unit => none) (fun _ => True) (fun _ => CW D A ad K (uS (uS S 0 (tpC 1 s t)) 1 s) Q qa tp bo e uc lr nx) := kd7_copyFrom1 l D A ad K S Q qa tp s t bo e uc lr nx 0 1 (by decide) (by decide) (by decide) hTt hTs
theorem kv_01_2 (l : Launch) (D : Dx) (A : Nat → Prop) (ad : Nat → Nat) (K : Int → Int) (S Q qa : Nat → Int → Int) (tp : Nat → Nat) (s t bo e uc lr nx : Int → Int) (hTt : TB t) (hTs : TB s) : CT l D A yX7_copyFrom cX7_copyFrom 3 none { frames := 0, cells := 0, slots := 0, locals := 0 } [.ref (kT ad 0 2), .ref (kT ad 1 2)] (CW D A ad K (uS (uS S 0 t) 1 s) Q qa tp bo e uc lr nx) (fun _ : Unit => none) (fun _ => True) (fun _ => CW D A ad K (uS (uS S 0 (tpC 2 s t)) 1 s) Q qa tp bo e uc lr nx) := kd7_copyFrom2 l D A ad K S Q qa tp s t bo e uc lr nx 0 1 (by decide) (by decide) (by decide) hTt hTs
theorem kv_01_3 (l : Launch) (D : Dx) (A : Nat → Prop) (ad : Nat → Nat) (K : Int → Int) (S Q qa : Nat → Int → Int) (tp : Nat → Nat) (s t bo e uc lr nx : Int → Int) (hTt : TB t) (hTs : TB s) : CT l D A yX7_copyFrom cX7_copyFrom 3 none { frames := 0, cells := 0, slots := 0, locals := 0 } [.ref (kT ad 0 3), .ref (kT ad 1 3)] (CW D A ad K (uS (uS S 0 t) 1 s) Q qa tp bo e uc lr nx) (fun _ : Unit => none) (fun _ => True) (fun _ => CW D A ad K (uS (uS S 0 (tpC 3 s t)) 1 s) Q qa tp bo e uc lr nx) := kd7_copyFrom3 l D A ad K S Q qa tp s t bo e uc lr nx 0 1 (by decide) (by decide) (by decide) hTt hTs
set_option maxHeartbeats 4000000 in
set_option maxRecDepth 100000 in
theorem kx_10 (l : Launch) (D : Dx) (A : Nat → Prop) (ad : Nat → Nat) (K : Int → Int) (S Q qa : Nat → Int → Int) (tp : Nat → Nat) (s t bo e uc lr nx : Int → Int) (hTt : TB t) (hTB : TB s) (hC8 : 0 ≤ s 43 ∧ s 43 ≤ 8) (hC6 : hc s < 6) (hC1 : ∀ x : Int, 0 ≤ x → x < s 43 → s (11 + x) = 0 ∨ s (11 + x) = 1) : CT l D A yX0_copyAll cX0_copyAll 2 none { frames := 3, cells := 0, slots := 0, locals := 66 } [.ref (kB ad 1), .ref (kB ad 0)] (CW D A ad K (uS (uS S 1 t) 0 s) Q qa tp bo e uc lr nx) (fun _ : Unit => none) (fun _ => True) (fun _ => CW D A ad K (uS (uS S 1 (tpC 3 s (tpC 2 s (tpC 1 s (tpC 0 s (wkC s t)))))) 0 s) Q qa tp bo e uc lr nx) := by
  refine ct_of (lo0 := [(0, .ref (kB ad 1)), (1, .ref (kB ad 0))]) (by decide) (Nat.le_of_ble_eq_true rfl) rfl ?_
  intro G hG hR
  refine v_aload_n hG dX0_copyAll_0 rfl 0 rfl ?_
  refine v_aload_n hG dX0_copyAll_1 rfl 1 rfl ?_
  refine v_callV (k1' := 0) (k2' := 0) hG dX0_copyAll_2 zc_X0_copyWork ⟨zl_X0_66, zi_X0_copyWork, zs_X0_copyWork⟩ (fun l => kw_10 l D A ad K S Q qa tp s t bo e uc lr nx (by assumption) (by omega) (by assumption) (by assumption)) rfl (cR0 (by decide)) (fun _ h => h) ⟨by decide, by decide⟩ rfl rfl ⟨by decide, by decide⟩ (rest := []) rfl (Nat.le_of_ble_eq_true rfl) (fun u1 => []) (fun _ => rfl) (fun u1 hu1 => ?_)
  refine v_aload_n hG dX0_copyAll_5 rfl 0 rfl ?_
  refine v_P (fun _ h => by rw [uS_sw (by decide)] at h; exact h) ?_
  refine cg0 (by decide) hG dX0_copyAll_6 zf_X0_29 (k := 7) (by decide) (v := .ref (kT ad 1 0)) rfl ?_
  refine v_P (fun _ h => by rw [uS_sw (by decide)] at h; exact h) ?_
  refine v_aload_n hG dX0_copyAll_9 rfl 1 rfl ?_
  refine cg0 (by decide) hG dX0_copyAll_10 zf_X0_29 (k := 7) (by decide) (v := .ref (kT ad 0 0)) rfl ?_
  refine v_callV (k1' := 0) (k2' := 0) hG dX0_copyAll_13 zc_X7_copyFrom ⟨zl_X0_70, zi_X7_copyFrom, zs_X7_copyFrom⟩ (fun l => kv_10_0 l D A ad K S Q qa tp s (wkC s t) bo e uc lr nx (by first | assumption | exact TB_wk hTt | exact TB_tp 0 hTB (TB_wk hTt) | exact TB_tp 1 hTB (TB_tp 0 hTB (TB_wk hTt)) | exact TB_tp 2 hTB (TB_tp 1 hTB (TB_tp 0 hTB (TB_wk hTt)))) (by assumption)) rfl (cR7 (by decide) (t := 0) (by decide)) (fun _ h => h) ⟨by decide, by decide⟩ rfl rfl ⟨by decide, by decide⟩ (rest := []) rfl (Nat.le_of_ble_eq_true rfl) (fun u2 => []) (fun _ => rfl) (fun u2 hu2 => ?_)
  refine v_aload_n hG dX0_copyAll_16 rfl 0 rfl ?_
  refine v_P (fun _ h => by rw [uS_sw (by decide)] at h; exact h) ?_
  refine cg0 (by decide) hG dX0_copyAll_17 zf_X0_33 (k := 8) (by decide) (v := .ref (kT ad 1 1)) rfl ?_
  refine v_P (fun _ h => by rw [uS_sw (by decide)] at h; exact h) ?_
  refine v_aload_n hG dX0_copyAll_20 rfl 1 rfl ?_
  refine cg0 (by decide) hG dX0_copyAll_21 zf_X0_33 (k := 8) (by decide) (v := .ref (kT ad 0 1)) rfl ?_
  refine v_callV (k1' := 0) (k2' := 0) hG dX0_copyAll_24 zc_X7_copyFrom ⟨zl_X0_70, zi_X7_copyFrom, zs_X7_copyFrom⟩ (fun l => kv_10_1 l D A ad K S Q qa tp s (tpC 0 s (wkC s t)) bo e uc lr nx (by first | assumption | exact TB_wk hTt | exact TB_tp 0 hTB (TB_wk hTt) | exact TB_tp 1 hTB (TB_tp 0 hTB (TB_wk hTt)) | exact TB_tp 2 hTB (TB_tp 1 hTB (TB_tp 0 hTB (TB_wk hTt)))) (by assumption)) rfl (cR7 (by decide) (t := 1) (by decide)) (fun _ h => h) ⟨by decide, by decide⟩ rfl rfl ⟨by decide, by decide⟩ (rest := []) rfl (Nat.le_of_ble_eq_true rfl) (fun u3 => []) (fun _ => rfl) (fun u3 hu3 => ?_)
  refine v_aload_n hG dX0_copyAll_27 rfl 0 rfl ?_
  refine v_P (fun _ h => by rw [uS_sw (by decide)] at h; exact h) ?_
  refine cg0 (by decide) hG dX0_copyAll_28 zf_X0_36 (k := 9) (by decide) (v := .ref (kT ad 1 2)) rfl ?_
  refine v_P (fun _ h => by rw [uS_sw (by decide)] at h; exact h) ?_
  refine v_aload_n hG dX0_copyAll_31 rfl 1 rfl ?_
  refine cg0 (by decide) hG dX0_copyAll_32 zf_X0_36 (k := 9) (by decide) (v := .ref (kT ad 0 2)) rfl ?_
  refine v_callV (k1' := 0) (k2' := 0) hG dX0_copyAll_35 zc_X7_copyFrom ⟨zl_X0_70, zi_X7_copyFrom, zs_X7_copyFrom⟩ (fun l => kv_10_2 l D A ad K S Q qa tp s (tpC 1 s (tpC 0 s (wkC s t))) bo e uc lr nx (by first | assumption | exact TB_wk hTt | exact TB_tp 0 hTB (TB_wk hTt) | exact TB_tp 1 hTB (TB_tp 0 hTB (TB_wk hTt)) | exact TB_tp 2 hTB (TB_tp 1 hTB (TB_tp 0 hTB (TB_wk hTt)))) (by assumption)) rfl (cR7 (by decide) (t := 2) (by decide)) (fun _ h => h) ⟨by decide, by decide⟩ rfl rfl ⟨by decide, by decide⟩ (rest := []) rfl (Nat.le_of_ble_eq_true rfl) (fun u4 => []) (fun _ => rfl) (fun u4 hu4 => ?_)
  refine v_aload_n hG dX0_copyAll_38 rfl 0 rfl ?_
  refine v_P (fun _ h => by rw [uS_sw (by decide)] at h; exact h) ?_
  refine cg0 (by decide) hG dX0_copyAll_39 zf_X0_39 (k := 10) (by decide) (v := .ref (kT ad 1 3)) rfl ?_
  refine v_P (fun _ h => by rw [uS_sw (by decide)] at h; exact h) ?_
  refine v_aload_n hG dX0_copyAll_42 rfl 1 rfl ?_
  refine cg0 (by decide) hG dX0_copyAll_43 zf_X0_39 (k := 10) (by decide) (v := .ref (kT ad 0 3)) rfl ?_
  refine v_callV (k1' := 0) (k2' := 0) hG dX0_copyAll_46 zc_X7_copyFrom ⟨zl_X0_70, zi_X7_copyFrom, zs_X7_copyFrom⟩ (fun l => kv_10_3 l D A ad K S Q qa tp s (tpC 2 s (tpC 1 s (tpC 0 s (wkC s t)))) bo e uc lr nx (by first | assumption | exact TB_wk hTt | exact TB_tp 0 hTB (TB_wk hTt) | exact TB_tp 1 hTB (TB_tp 0 hTB (TB_wk hTt)) | exact TB_tp 2 hTB (TB_tp 1 hTB (TB_tp 0 hTB (TB_wk hTt)))) (by assumption)) rfl (cR7 (by decide) (t := 3) (by decide)) (fun _ h => h) ⟨by decide, by decide⟩ rfl rfl ⟨by decide, by decide⟩ (rest := []) rfl (Nat.le_of_ble_eq_true rfl) (fun u5 => []) (fun _ => rfl) (fun u5 hu5 => ?_)
  exact v_return hG hR dX0_copyAll_49 () rfl (by trivial) (fun _ hM => hM)
theorem ky_10 (l : Launch) (D : Dx) (A : Nat → Prop) (ad : Nat → Nat) (K : Int → Int) (S Q qa : Nat → Int → Int) (tp : Nat → Nat) (s t bo e uc lr nx : Int → Int) (hTt : TB t) (hTB : TB s) (hC8 : 0 ≤ s 43 ∧ s 43 ≤ 8) (hC6 : hc s < 6) (hC1 : ∀ x : Int, 0 ≤ x → x < s 43 → s (11 + x) = 0 ∨ s (11 + x) = 1) : CT l D A yX0_copyAll cX0_copyAll 2 none { frames := 3, cells := 0, slots := 0, locals := 66 } [.ref (kB ad 1), .ref (kB ad 0)] (CW D A ad K (uS (uS S 1 t) 0 s) Q qa tp bo e uc lr nx) (fun _ : Unit => none) (fun _ => True) (fun _ => CW D A ad K (uS (uS S 1 s) 0 s) Q qa tp bo e uc lr nx) := by
  refine CT_map (I := Unit) (fun H h => ⟨(), h⟩) (fun _ => kx_10 l D A ad K S Q qa tp s t bo e uc lr nx hTt hTB hC8 hC6 hC1) (fun _ u _ => ⟨u, rfl, trivial, fun H h => ?_⟩)
  rw [uS_sw (by decide)] at h ⊢
  exact CW_same (by decide) (TB_tp 3 hTB (TB_tp 2 hTB (TB_tp 1 hTB (TB_tp 0 hTB (TB_wk hTt))))) (fun q h0 h1 => (all_eq h0 h1).symm) h
set_option maxHeartbeats 4000000 in
set_option maxRecDepth 100000 in
theorem kx_01 (l : Launch) (D : Dx) (A : Nat → Prop) (ad : Nat → Nat) (K : Int → Int) (S Q qa : Nat → Int → Int) (tp : Nat → Nat) (s t bo e uc lr nx : Int → Int) (hTt : TB t) (hTB : TB s) (hC8 : 0 ≤ s 43 ∧ s 43 ≤ 8) (hC6 : hc s < 6) (hC1 : ∀ x : Int, 0 ≤ x → x < s 43 → s (11 + x) = 0 ∨ s (11 + x) = 1) : CT l D A yX0_copyAll cX0_copyAll 2 none { frames := 3, cells := 0, slots := 0, locals := 66 } [.ref (kB ad 0), .ref (kB ad 1)] (CW D A ad K (uS (uS S 0 t) 1 s) Q qa tp bo e uc lr nx) (fun _ : Unit => none) (fun _ => True) (fun _ => CW D A ad K (uS (uS S 0 (tpC 3 s (tpC 2 s (tpC 1 s (tpC 0 s (wkC s t)))))) 1 s) Q qa tp bo e uc lr nx) := by
  refine ct_of (lo0 := [(0, .ref (kB ad 0)), (1, .ref (kB ad 1))]) (by decide) (Nat.le_of_ble_eq_true rfl) rfl ?_
  intro G hG hR
  refine v_aload_n hG dX0_copyAll_0 rfl 0 rfl ?_
  refine v_aload_n hG dX0_copyAll_1 rfl 1 rfl ?_
  refine v_callV (k1' := 0) (k2' := 0) hG dX0_copyAll_2 zc_X0_copyWork ⟨zl_X0_66, zi_X0_copyWork, zs_X0_copyWork⟩ (fun l => kw_01 l D A ad K S Q qa tp s t bo e uc lr nx (by assumption) (by omega) (by assumption) (by assumption)) rfl (cR0 (by decide)) (fun _ h => h) ⟨by decide, by decide⟩ rfl rfl ⟨by decide, by decide⟩ (rest := []) rfl (Nat.le_of_ble_eq_true rfl) (fun u1 => []) (fun _ => rfl) (fun u1 hu1 => ?_)
  refine v_aload_n hG dX0_copyAll_5 rfl 0 rfl ?_
  refine v_P (fun _ h => by rw [uS_sw (by decide)] at h; exact h) ?_
  refine cg0 (by decide) hG dX0_copyAll_6 zf_X0_29 (k := 7) (by decide) (v := .ref (kT ad 0 0)) rfl ?_
  refine v_P (fun _ h => by rw [uS_sw (by decide)] at h; exact h) ?_
  refine v_aload_n hG dX0_copyAll_9 rfl 1 rfl ?_
  refine cg0 (by decide) hG dX0_copyAll_10 zf_X0_29 (k := 7) (by decide) (v := .ref (kT ad 1 0)) rfl ?_
  refine v_callV (k1' := 0) (k2' := 0) hG dX0_copyAll_13 zc_X7_copyFrom ⟨zl_X0_70, zi_X7_copyFrom, zs_X7_copyFrom⟩ (fun l => kv_01_0 l D A ad K S Q qa tp s (wkC s t) bo e uc lr nx (by first | assumption | exact TB_wk hTt | exact TB_tp 0 hTB (TB_wk hTt) | exact TB_tp 1 hTB (TB_tp 0 hTB (TB_wk hTt)) | exact TB_tp 2 hTB (TB_tp 1 hTB (TB_tp 0 hTB (TB_wk hTt)))) (by assumption)) rfl (cR7 (by decide) (t := 0) (by decide)) (fun _ h => h) ⟨by decide, by decide⟩ rfl rfl ⟨by decide, by decide⟩ (rest := []) rfl (Nat.le_of_ble_eq_true rfl) (fun u2 => []) (fun _ => rfl) (fun u2 hu2 => ?_)
  refine v_aload_n hG dX0_copyAll_16 rfl 0 rfl ?_
  refine v_P (fun _ h => by rw [uS_sw (by decide)] at h; exact h) ?_
  refine cg0 (by decide) hG dX0_copyAll_17 zf_X0_33 (k := 8) (by decide) (v := .ref (kT ad 0 1)) rfl ?_
  refine v_P (fun _ h => by rw [uS_sw (by decide)] at h; exact h) ?_
  refine v_aload_n hG dX0_copyAll_20 rfl 1 rfl ?_
  refine cg0 (by decide) hG dX0_copyAll_21 zf_X0_33 (k := 8) (by decide) (v := .ref (kT ad 1 1)) rfl ?_
  refine v_callV (k1' := 0) (k2' := 0) hG dX0_copyAll_24 zc_X7_copyFrom ⟨zl_X0_70, zi_X7_copyFrom, zs_X7_copyFrom⟩ (fun l => kv_01_1 l D A ad K S Q qa tp s (tpC 0 s (wkC s t)) bo e uc lr nx (by first | assumption | exact TB_wk hTt | exact TB_tp 0 hTB (TB_wk hTt) | exact TB_tp 1 hTB (TB_tp 0 hTB (TB_wk hTt)) | exact TB_tp 2 hTB (TB_tp 1 hTB (TB_tp 0 hTB (TB_wk hTt)))) (by assumption)) rfl (cR7 (by decide) (t := 1) (by decide)) (fun _ h => h) ⟨by decide, by decide⟩ rfl rfl ⟨by decide, by decide⟩ (rest := []) rfl (Nat.le_of_ble_eq_true rfl) (fun u3 => []) (fun _ => rfl) (fun u3 hu3 => ?_)
  refine v_aload_n hG dX0_copyAll_27 rfl 0 rfl ?_
  refine v_P (fun _ h => by rw [uS_sw (by decide)] at h; exact h) ?_
  refine cg0 (by decide) hG dX0_copyAll_28 zf_X0_36 (k := 9) (by decide) (v := .ref (kT ad 0 2)) rfl ?_
  refine v_P (fun _ h => by rw [uS_sw (by decide)] at h; exact h) ?_
  refine v_aload_n hG dX0_copyAll_31 rfl 1 rfl ?_
  refine cg0 (by decide) hG dX0_copyAll_32 zf_X0_36 (k := 9) (by decide) (v := .ref (kT ad 1 2)) rfl ?_
  refine v_callV (k1' := 0) (k2' := 0) hG dX0_copyAll_35 zc_X7_copyFrom ⟨zl_X0_70, zi_X7_copyFrom, zs_X7_copyFrom⟩ (fun l => kv_01_2 l D A ad K S Q qa tp s (tpC 1 s (tpC 0 s (wkC s t))) bo e uc lr nx (by first | assumption | exact TB_wk hTt | exact TB_tp 0 hTB (TB_wk hTt) | exact TB_tp 1 hTB (TB_tp 0 hTB (TB_wk hTt)) | exact TB_tp 2 hTB (TB_tp 1 hTB (TB_tp 0 hTB (TB_wk hTt)))) (by assumption)) rfl (cR7 (by decide) (t := 2) (by decide)) (fun _ h => h) ⟨by decide, by decide⟩ rfl rfl ⟨by decide, by decide⟩ (rest := []) rfl (Nat.le_of_ble_eq_true rfl) (fun u4 => []) (fun _ => rfl) (fun u4 hu4 => ?_)
  refine v_aload_n hG dX0_copyAll_38 rfl 0 rfl ?_
  refine v_P (fun _ h => by rw [uS_sw (by decide)] at h; exact h) ?_
  refine cg0 (by decide) hG dX0_copyAll_39 zf_X0_39 (k := 10) (by decide) (v := .ref (kT ad 0 3)) rfl ?_
  refine v_P (fun _ h => by rw [uS_sw (by decide)] at h; exact h) ?_
  refine v_aload_n hG dX0_copyAll_42 rfl 1 rfl ?_
  refine cg0 (by decide) hG dX0_copyAll_43 zf_X0_39 (k := 10) (by decide) (v := .ref (kT ad 1 3)) rfl ?_
  refine v_callV (k1' := 0) (k2' := 0) hG dX0_copyAll_46 zc_X7_copyFrom ⟨zl_X0_70, zi_X7_copyFrom, zs_X7_copyFrom⟩ (fun l => kv_01_3 l D A ad K S Q qa tp s (tpC 2 s (tpC 1 s (tpC 0 s (wkC s t)))) bo e uc lr nx (by first | assumption | exact TB_wk hTt | exact TB_tp 0 hTB (TB_wk hTt) | exact TB_tp 1 hTB (TB_tp 0 hTB (TB_wk hTt)) | exact TB_tp 2 hTB (TB_tp 1 hTB (TB_tp 0 hTB (TB_wk hTt)))) (by assumption)) rfl (cR7 (by decide) (t := 3) (by decide)) (fun _ h => h) ⟨by decide, by decide⟩ rfl rfl ⟨by decide, by decide⟩ (rest := []) rfl (Nat.le_of_ble_eq_true rfl) (fun u5 => []) (fun _ => rfl) (fun u5 hu5 => ?_)
  exact v_return hG hR dX0_copyAll_49 () rfl (by trivial) (fun _ hM => hM)
theorem ky_01 (l : Launch) (D : Dx) (A : Nat → Prop) (ad : Nat → Nat) (K : Int → Int) (S Q qa : Nat → Int → Int) (tp : Nat → Nat) (s t bo e uc lr nx : Int → Int) (hTt : TB t) (hTB : TB s) (hC8 : 0 ≤ s 43 ∧ s 43 ≤ 8) (hC6 : hc s < 6) (hC1 : ∀ x : Int, 0 ≤ x → x < s 43 → s (11 + x) = 0 ∨ s (11 + x) = 1) : CT l D A yX0_copyAll cX0_copyAll 2 none { frames := 3, cells := 0, slots := 0, locals := 66 } [.ref (kB ad 0), .ref (kB ad 1)] (CW D A ad K (uS (uS S 0 t) 1 s) Q qa tp bo e uc lr nx) (fun _ : Unit => none) (fun _ => True) (fun _ => CW D A ad K (uS (uS S 0 s) 1 s) Q qa tp bo e uc lr nx) := by
  refine CT_map (I := Unit) (fun H h => ⟨(), h⟩) (fun _ => kx_01 l D A ad K S Q qa tp s t bo e uc lr nx hTt hTB hC8 hC6 hC1) (fun _ u _ => ⟨u, rfl, trivial, fun H h => ?_⟩)
  rw [uS_sw (by decide)] at h ⊢
  exact CW_same (by decide) (TB_tp 3 hTB (TB_tp 2 hTB (TB_tp 1 hTB (TB_tp 0 hTB (TB_wk hTt))))) (fun q h0 h1 => (all_eq h0 h1).symm) h
