/-! THE CLASS: the bench's questions -/
theorem risk_any {by' : Int → Int} {w n u : Int} {L : List Int} {R : List Cla} (hw : 0 ≤ w ∧ w ≤ 3) (hL : ∀ o ∈ L, okO o) (hn : 0 ≤ n ∧ n ≤ 99) : evalS by' (slO ((w, n, L) :: R)) [] u = evalS by' (slO R) [] (if 2 ≤ w ∧ (evl by' L []).headD false = true then (if w = 2 then u + n else u + -n) else u) := by
  rcases (show w < 2 ∨ w = 2 ∨ w = 3 by omega) with h1 | rfl | rfl
  · rw [sl_0 h1, if_neg (fun q => absurd q.1 (by omega))]
  · rw [risk_2 hL hn]
    congr 1
    by_cases h : (evl by' L []).headD false = true
    · rw [if_pos h, if_pos ⟨by omega, h⟩, if_pos rfl]
    · rw [if_neg h, if_neg (fun q => h q.2)]
  · rw [risk_3 hL hn]
    congr 1
    by_cases h : (evl by' L []).headD false = true
    · rw [if_pos h, if_pos ⟨by omega, h⟩, if_neg (by omega)]
    · rw [if_neg h, if_neg (fun q => h q.2)]
/-- what a plate's cells say, as steps; what holds on a bench -/
def PLS (Q qa : Nat → Int → Int) (p : Nat) (SL : List Int) : Prop := ∃ CL : List Cla, slO CL = SL ∧ PR (Q p) (qa (6 * 0 + p)) (qa (6 * 1 + p)) (qa (6 * 2 + p)) (qa (6 * 3 + p)) CL ∧ wfS SL 0
def CHP (Q qa : Nat → Int → Int) (s : Int → Int) (SL : List Int) : Prop := hc s < 6 ∧ PLS Q qa (hc s) SL ∧ Q (hc s) 4 = q_wear s ∧ Q (hc s) 5 = q_mend s
theorem CHP_lo {Q qa : Nat → Int → Int} {s t : Int → Int} {SL : List Int} (h : LoEq s t) (hP : PL s) (hc1 : CHP Q qa s SL) : CHP Q qa t SL := by
  unfold CHP at *
  rw [hc_eq (h 49 (by omega)), lo_wear h hP, lo_mend h hP]
  exact hc1
theorem prt_t {s : Int → Int} {n : Int} {k : Nat} (h : ¬ q_dk s k n ≤ 0) : prt s n k = true := decide_eq_true (Int.not_le.mp h)
theorem prt_f {s : Int → Int} {n : Int} {k : Nat} (h : q_dk s k n ≤ 0) : prt s n k = false := decide_eq_false (Int.not_lt.mpr h)
theorem bset_same2 {f : Nat → Bool} {k : Nat} (h : f k = false) : bset f k = bset f (k + 1) := by
  show bset f k = bset f k + (if f k then 2 ^ k else 0)
  rw [h]; simp
theorem ok_bad {s : Int → Int} {x : Int} {n : Nat} (hx : 0 ≤ x ∧ x < 256) : okF s x n = true ↔ leastM (badF s x (n : Int)) (s 43).toNat = -1 := by
  unfold okF
  rw [allM_iff, leastM_none]
  refine ⟨fun h k hk => ?_, fun h k hk => ?_⟩
  · have h1 := h k hk
    have h2 := sh_rng (x := x) (k := k) (by omega)
    have h3 := iand1_rng h2
    unfold goodF at h1
    unfold badF
    by_cases e : iand (x / 2 ^ (k : Int).toNat) 1 = 1
    · rw [decide_eq_true e]
      rw [decide_eq_false (by omega), Bool.false_or] at h1
      rw [h1]; rfl
    · rw [decide_eq_false e]; rfl
  · have h1 := h k hk
    have h2 := sh_rng (x := x) (k := k) (by omega)
    have h3 := iand1_rng h2
    unfold badF at h1
    unfold goodF
    by_cases e : iand (x / 2 ^ (k : Int).toNat) 1 = 1
    · rw [decide_eq_true e, Bool.true_and] at h1
      rw [decide_eq_false (by omega), Bool.false_or]
      cases hq : prt s (n : Int) k
      · rw [hq] at h1; exact Bool.noConfusion h1
      · rfl
    · rw [decide_eq_true (by omega)]; rfl
theorem gd_hit {ok : Nat → Bool} {m : Int} {j : Nat} (h : m = gdown ok (j + 1)) (h2 : ok j = true) : m = (j : Int) := by
  rw [h]; show (if ok j then (j : Int) else gdown ok j) = _
  rw [h2]; rfl
theorem gd_down {ok : Nat → Bool} {m : Int} {j : Nat} (h : m = gdown ok (j + 1)) (h2 : ¬ ok j = true) : m = gdown ok j := by
  rw [h]; show (if ok j then (j : Int) else gdown ok j) = _
  rw [if_neg h2]
theorem now_ok {s : Int → Int} (hN : NM s) : okF s (q_now s) 0 = true := by
  have hN9 : 0 ≤ s 43 ∧ s 43 ≤ 8 := hN
  unfold okF
  rw [allM_iff]
  intro k hk
  unfold goodF
  cases hq : prt s 0 k
  · have hb := bset_rng (prt s 0)
    have e : q_now s / 2 ^ (k : Int).toNat % 2 = 0 := by
      unfold q_now
      have key : ∀ n : Nat, k < n → bset (prt s 0) n / 2 ^ k % 2 = 0 := by
        intro n
        induction n with
        | zero => intro h; omega
        | succ n ih =>
          intro h
          show (bset (prt s 0) n + (if prt s 0 n then 2 ^ n else 0)) / 2 ^ k % 2 = 0
          by_cases e : n = k
          · subst e
            rw [hq]
            have := hb n
            simp only [Bool.false_eq_true, if_false, Int.add_zero]
            rw [Int.ediv_eq_zero_of_lt this.1 this.2]; rfl
          · have i1 := ih (by omega)
            split
            · have e2 : (2 : Int) ^ n = 2 ^ k * (2 * 2 ^ (n - k - 1)) := by
                rw [← Int.pow_succ', ← Int.pow_add]
                congr 1
                omega
              rw [e2, Int.add_mul_ediv_left _ _ (Int.ne_of_gt (Int.pow_pos (by omega)))]
              omega
            · rw [Int.add_zero]; exact i1
      rw [show (k : Int).toNat = k from Int.toNat_natCast k]
      exact key _ hk
    have hr := sh_rng (x := q_now s) (k := k) (by have := q_now_rng hN; omega)
    rw [iand_1 hr, e]
    rfl
  · exact Bool.or_true _
def ZU (s : Int → Int) : Prop := ∀ m : Int, 0 ≤ m → m < s 43 → s (11 + m) ≠ 1 → s (19 + m) = 0 ∧ s (27 + m) = 0 ∧ s (35 + m) = 0
theorem flawed_c {s : Int → Int} (hM : GM s) (hZ : ZU s) {k : Nat} (hk : (k : Int) < s 43) : flawed s k = true ↔ ¬ s (19 + (k : Int)) = 0 := by
  have h1 := hM k (by omega) hk
  have h2 := hZ k (by omega) hk
  have h6 := h1.2.2.2.2.2.1
  unfold flawed
  rw [Bool.and_eq_true, decide_eq_true_eq, decide_eq_true_eq]
  by_cases e : s (11 + (k : Int)) = 1
  · omega
  · have := h2 e; omega
theorem flw_t {s : Int → Int} (hM : GM s) (hZ : ZU s) {k : Nat} (hk : (k : Int) < s 43) (h : ¬ s (19 + (k : Int)) = 0) : (fun m : Nat => flawed s m) k = true := (flawed_c hM hZ hk).mpr h
theorem flw_f {s : Int → Int} (hM : GM s) (hZ : ZU s) {k : Nat} (hk : (k : Int) < s 43) (h : s (19 + (k : Int)) = 0) : (fun m : Nat => flawed s m) k = false := by
  cases hq : flawed s k
  · exact hq
  · exact absurd h ((flawed_c hM hZ hk).mp hq)
theorem errF_t {s : Int → Int} {f : Int} (hM : GM s) (hZ : ZU s) (hf : 1 ≤ f) {k : Nat} (hk : (k : Int) < s 43) (h : s (19 + (k : Int)) = f) : errF s f k = true := by
  unfold errF
  rw [Bool.and_eq_true, decide_eq_true_eq, decide_eq_true_eq]
  refine ⟨?_, h⟩
  by_cases e : s (11 + (k : Int)) = 1
  · exact e
  · have := hZ k (by omega) hk e; omega
theorem errF_f {s : Int → Int} {f : Int} {k : Nat} (h : ¬ s (19 + (k : Int)) = f) : errF s f k = false := by
  unfold errF
  rw [decide_eq_false h, Bool.and_false]
theorem besF_c {s : Int → Int} {m : Int} {k : Nat} {v : Int} (hv : (if 0 ≤ s (66 + (k : Int)) - s (66 + m) then s (66 + (k : Int)) - s (66 + m) else -(s (66 + (k : Int)) - s (66 + m))) = v) : q_apart s k (s (66 + m)) = v := hv
theorem proF_t2 {s : Int → Int} (hM : GM s) (hZ : ZU s) {e : Int} {k : Nat} (hk : (k : Int) < s 43) (h : ¬ s (19 + (k : Int)) = 0) (h2 : ¬ q_dk s k 0 + e < 6) : proF s e k = true := by
  unfold proF
  rw [(flawed_c hM hZ hk).mpr h, decide_eq_false h2]
  rfl
theorem proF_g1 {s : Int → Int} (hM : GM s) (hZ : ZU s) {e : Int} {k : Nat} (hk : (k : Int) < s 43) (h : s (19 + (k : Int)) = 0) : proF s e k = false := by
  unfold proF
  have := flw_f hM hZ hk h
  rw [show flawed s k = false from this]
  rfl
theorem besF_t {s : Int → Int} {m v : Int} {k : Nat} (h : ¬ (k : Int) = m) (hv : (if 0 ≤ s (66 + (k : Int)) - s (66 + m) then s (66 + (k : Int)) - s (66 + m) else -(s (66 + (k : Int)) - s (66 + m))) = v) (h2 : v ≤ 3) : besF s m k = true := by
  unfold besF
  rw [besF_c hv, decide_eq_false h, decide_eq_false (by omega)]
  rfl
theorem besF_f1 {s : Int → Int} {m : Int} {k : Nat} (h : (k : Int) = m) : besF s m k = false := by
  unfold besF
  rw [decide_eq_true h]
  rfl
theorem besF_f2 {s : Int → Int} {m v : Int} {k : Nat} (hv : (if 0 ≤ s (66 + (k : Int)) - s (66 + m) then s (66 + (k : Int)) - s (66 + m) else -(s (66 + (k : Int)) - s (66 + m))) = v) (h2 : 3 < v) : besF s m k = false := by
  unfold besF
  rw [besF_c hv, decide_eq_true h2, Bool.and_comm]
  rfl
set_option maxHeartbeats 4000000 in
set_option maxRecDepth 100000 in
theorem kc6_riskOf (l : Launch) (D : Dx) (A : Nat → Prop) (ad : Nat → Nat) (K : Int → Int) (S Q qa : Nat → Int → Int) (tp : Nat → Nat) (s bo e uc lr nx : Int → Int) (b : Nat) (hb : b < 3) (p : Nat) (m : Int) (t : Int) (SL : List Int) (hp9 : p < 6) (h8 : 0 ≤ m ∧ m < 8) (h43 : m < s 43) (hm : MK s m) (ht : 0 ≤ t ∧ t ≤ 99) (hpl : PLS Q qa p SL) : CT l D A yX6_riskOf cX6_riskOf 6 (some .int) { frames := 3, cells := 0, slots := 0, locals := 74 } [.ref (kP ad p), .ref (kM ad b m), vI t] (CW D A ad K (uS S b s) Q qa tp bo e uc lr nx) (fun _ : Unit => some (vI (q_risk s SL m t))) (fun _ => 0 ≤ q_risk s SL m t ∧ q_risk s SL m t ≤ 99) (fun _ => CW D A ad K (uS S b s) Q qa tp bo e uc lr nx) := by
  refine ct_of (lo0 := [(0, .ref (kP ad p)), (1, .ref (kM ad b m)), (2, vI t)]) (by decide) (Nat.le_of_ble_eq_true rfl) rfl ?_
  intro G hG hR
  obtain ⟨CL, hsl, ⟨hq0, hcl, hprc⟩, hwf⟩ := hpl
  refine v_iload_n hG dX6_riskOf_0 rfl 2 rfl ?_
  refine v_iconst hG dX6_riskOf_1 ?_
  refine v_idiv hG dX6_riskOf_2 (by omega) (by omega) ?_
  refine v_istore_n (lo' := [(3, vI (t / 5)), (0, .ref (kP ad p)), (1, .ref (kM ad b m)), (2, vI t)]) hG dX6_riskOf_3 rfl (by decide) rfl ?_
  refine v_iconst hG dX6_riskOf_4 ?_
  refine v_istore (lo' := [(4, vI 0), (3, vI (t / 5)), (0, .ref (kP ad p)), (1, .ref (kM ad b m)), (2, vI t)]) hG dX6_riskOf_5 (by decide) rfl ?_
  refine v_iconst hG dX6_riskOf_7 ?_
  refine v_istore (lo' := [(5, vI 0), (4, vI 0), (3, vI (t / 5)), (0, .ref (kP ad p)), (1, .ref (kM ad b m)), (2, vI t)]) hG dX6_riskOf_8 (by decide) rfl ?_
  refine v_lo [3, 4, 5, 2, 1, 0] (lo' := [(0, .ref (kP ad p)), (1, .ref (kM ad b m)), (2, vI t), (3, vI (t / 5)), (4, vI 0), (5, vI 0)]) rfl ?_
  have L4 : ∀ mz : Nat, ∀ (i F : Nat) (R : List Cla) (acc : Int), (i + R.length = CL.length) → (PRC (qa (6 * 0 + p)) (qa (6 * 1 + p)) (qa (6 * 2 + p)) (qa (6 * 3 + p)) i F R) → (wfS (slO R) 0) → (evalS (byF s m t) (slO R) [] acc = evalS (byF s m t) (slO CL) [] 0) → (-(99 * (i : Int)) ≤ acc ∧ acc ≤ 99 * (i : Int)) → (F ≤ 100) → R.length = mz → ∀ x1 : Int, x1 = (acc + t / 5) → ∀ x2 : Int, x2 = ((F : Int)) → ∀ x3 : Int, x3 = ((i : Int)) → V G 0 0 (CW D A ad K (uS S b s) Q qa tp bo e uc lr nx) 10 [(0, .ref (kP ad p)), (1, .ref (kM ad b m)), (2, vI t), (3, vI x1), (4, vI x2), (5, vI x3)] [] := by
    intro dL4
    induction dL4 using Nat.strongRecOn with
    | ind dL4 ihL4 =>
      intro i F R acc hq5 hq6 hq7 hq8 hq9 hq10 hq11
      intro x1 hx1
      subst hx1
      intro x2 hx2
      subst hx2
      intro x3 hx3
      subst hx3
      refine v_iload hG dX6_riskOf_10 5 rfl ?_
      refine v_aload_n hG dX6_riskOf_12 rfl 0 rfl ?_
      refine cg6 (by assumption) hG dX6_riskOf_13 zf_X6_46 (k := 4) (by decide) (v := vI (Q p 0)) rfl ?_
      rw [hq0]
      refine v_icmp_ge (tgt := 95) hG dX6_riskOf_16 (by decide) (by omega) (by omega) (fun c12 => ?_) (fun c12 => ?_)
      · skip
        have hRn : R = [] := List.eq_nil_of_length_eq_zero (by omega)
        have hacc : q_look s (slO CL) m t = acc := by
            have hz : evalS (byF s m t) (slO R) [] acc = evalS (byF s m t) (slO CL) [] 0 := (by assumption)
            rw [hRn] at hz; exact hz.symm
        refine v_iconst hG dX6_riskOf_95 ?_
        refine v_bipush hG dX6_riskOf_96 (by decide) ?_
        refine v_iload_n hG dX6_riskOf_98 rfl 3 rfl ?_
        refine v_mmin hG dX6_riskOf_99 zl_X6_34 (by decide) ⟨Nat.le_refl _, Nat.le_refl _⟩ (Nat.le_of_ble_eq_true rfl) (by omega) (by omega) ?_
        generalize hv13 : (if (acc + t / 5) < 99 then (acc + t / 5) else 99) = v13
        have bv13 : (v13 = 99 ∨ v13 = acc + t / 5) ∧ v13 ≤ 99 ∧ v13 ≤ acc + t / 5 := by rw [← hv13]; (repeat' split) <;> omega
        refine v_mmax hG dX6_riskOf_102 zl_X6_67 (by decide) ⟨Nat.le_refl _, Nat.le_refl _⟩ (Nat.le_of_ble_eq_true rfl) (by omega) (by omega) ?_
        generalize hv14 : (if 0 < v13 then v13 else 0) = v14
        have bv14 : (v14 = 0 ∨ v14 = v13) ∧ 0 ≤ v14 ∧ v13 ≤ v14 := by rw [← hv14]; (repeat' split) <;> omega
        have e15 : @Eq Int (q_risk s SL m t) (v14) := by rw [← hsl]; unfold q_risk; rw [hacc]; unfold clamp; (repeat' split) <;> omega
        exact v_ireturn hG hR dX6_riskOf_105 () (congrArg (fun z => some (vI z)) e15) (by exact q_risk_rng s _ m t) (fun _ hM => hM)
      · skip
        refine v_aload_n hG dX6_riskOf_19 rfl 0 rfl ?_
        refine cg6 (by assumption) hG dX6_riskOf_20 zf_X6_11 (k := 0) (by decide) (v := .ref (kQ ad 0 p)) rfl ?_
        refine v_iload hG dX6_riskOf_23 5 rfl ?_
        refine cb_q0 (by assumption) hG dX6_riskOf_25 (by omega) rfl ?_
        obtain ⟨⟨wd, n, L⟩, R2, rfl⟩ : ∃ c R2, R = c :: R2 := List.exists_cons_of_length_pos (by omega)
        have hP9 : PRC (qa (6 * 0 + p)) (qa (6 * 1 + p)) (qa (6 * 2 + p)) (qa (6 * 3 + p)) i F ((wd, n, L) :: R2) := (by assumption)
        obtain ⟨⟨e0, e1, e2, e3⟩, ⟨b0, b1, b2, b3, b4⟩, e5⟩ := hP9
        dsimp only at e0 e1 e2 e3 b0 b1 b2 b3 b4 e5
        have hwf9 := wfsl b0 b1 b3 (by assumption)
        have hev9 := (risk_any (by' := byF s m t) (u := acc) (R := R2) b0 b3 b1).symm.trans (by assumption)
        rw [List.length_cons] at *
        rw [e0]
        refine v_iconst hG dX6_riskOf_26 ?_
        refine v_icmp_lt (tgt := 80) hG dX6_riskOf_27 (by decide) (by omega) (by omega) (fun c16 => ?_) (fun c16 => ?_)
        · skip
          refine v_aload_n hG dX6_riskOf_80 rfl 0 rfl ?_
          refine cg6 (by assumption) hG dX6_riskOf_81 zf_X6_18 (k := 2) (by decide) (v := .ref (kQ ad 2 p)) rfl ?_
          refine v_iload hG dX6_riskOf_84 5 rfl ?_
          refine cb_q2 (by assumption) hG dX6_riskOf_86 (by omega) rfl ?_
          rw [e2]
          refine v_istore (lo' := [(4, vI ((F + L.length : Nat) : Int)), (0, .ref (kP ad p)), (1, .ref (kM ad b m)), (2, vI t), (3, vI (acc + t / 5)), (5, vI (i : Int))]) hG dX6_riskOf_87 (by decide) rfl ?_
          refine v_iinc (lo' := [(5, vI ((i : Int) + 1)), (4, vI ((F + L.length : Nat) : Int)), (0, .ref (kP ad p)), (1, .ref (kM ad b m)), (2, vI t), (3, vI (acc + t / 5))]) hG dX6_riskOf_89 5 rfl (by decide) rfl ?_
          refine v_goto (tgt := 10) hG dX6_riskOf_92 (by decide) ?_
          refine v_lo [2, 3, 4, 5, 1, 0] (lo' := [(0, .ref (kP ad p)), (1, .ref (kM ad b m)), (2, vI t), (3, vI (acc + t / 5)), (4, vI ((F + L.length : Nat) : Int)), (5, vI ((i : Int) + 1))]) rfl ?_
          exact ihL4 _ (by omega) (i + 1) (F + L.length) R2 acc (by omega) (by exact e5) (by exact hwf9.1) (by rw [← hev9]; congr 1; first | rw [if_neg (fun q => absurd q.1 (by omega))] | rw [if_neg (fun q => absurd q.2 (by assumption))] | rw [if_pos ⟨by omega, by assumption⟩, if_pos (by omega)] | rw [if_pos ⟨by omega, by assumption⟩, if_neg (by omega)]) (by omega) (by omega) rfl _ (by omega) _ (by rfl) _ (by omega)
        · skip
          refine v_aload_n hG dX6_riskOf_30 rfl 0 rfl ?_
          refine v_iload hG dX6_riskOf_31 4 rfl ?_
          refine v_aload_n hG dX6_riskOf_33 rfl 0 rfl ?_
          refine cg6 (by assumption) hG dX6_riskOf_34 zf_X6_18 (k := 2) (by decide) (v := .ref (kQ ad 2 p)) rfl ?_
          refine v_iload hG dX6_riskOf_37 5 rfl ?_
          refine cb_q2 (by assumption) hG dX6_riskOf_39 (by omega) rfl ?_
          rw [e2]
          obtain ⟨E, hE9⟩ := hwf9.2 (by omega)
          refine v_aload_n hG dX6_riskOf_40 rfl 1 rfl ?_
          refine v_iload_n hG dX6_riskOf_41 rfl 2 rfl ?_
          refine v_callV (k1' := 0) (k2' := 0) hG dX6_riskOf_42 zc_X6_holds ⟨zl_X6_107, zi_X6_holds, zs_X6_holds⟩ (fun l => kc6_holds l D A ad K S Q qa tp s bo e uc lr nx b hb p m t F L E (by first | assumption | omega) (by omega) (by first | assumption | omega) (by first | assumption | exact hM _ (by omega) (by omega)) (by omega) (by exact e3) (by exact b3) (by exact b4) (by exact hE9)) rfl (cR6 (by assumption)) (fun _ h => h) ⟨by decide, by decide⟩ rfl rfl ⟨by decide, by decide⟩ (rest := []) rfl (Nat.le_of_ble_eq_true rfl) (fun u17 => [vI (bi ((evl (byF s m t) L []).headD false = true))]) (fun _ => rfl) (fun u17 hu17 => ?_)
          refine v_ifb_eq (p := (evl (byF s m t) L []).headD false = true) (tgt := 80) hG dX6_riskOf_45 (by decide) (fun c18 => ?_) (fun c18 => ?_)
          · skip
            refine v_aload_n hG dX6_riskOf_80 rfl 0 rfl ?_
            refine cg6 (by assumption) hG dX6_riskOf_81 zf_X6_18 (k := 2) (by decide) (v := .ref (kQ ad 2 p)) rfl ?_
            refine v_iload hG dX6_riskOf_84 5 rfl ?_
            refine cb_q2 (by assumption) hG dX6_riskOf_86 (by omega) rfl ?_
            rw [e2]
            refine v_istore (lo' := [(4, vI ((F + L.length : Nat) : Int)), (0, .ref (kP ad p)), (1, .ref (kM ad b m)), (2, vI t), (3, vI (acc + t / 5)), (5, vI (i : Int))]) hG dX6_riskOf_87 (by decide) rfl ?_
            refine v_iinc (lo' := [(5, vI ((i : Int) + 1)), (4, vI ((F + L.length : Nat) : Int)), (0, .ref (kP ad p)), (1, .ref (kM ad b m)), (2, vI t), (3, vI (acc + t / 5))]) hG dX6_riskOf_89 5 rfl (by decide) rfl ?_
            refine v_goto (tgt := 10) hG dX6_riskOf_92 (by decide) ?_
            refine v_lo [2, 3, 4, 5, 1, 0] (lo' := [(0, .ref (kP ad p)), (1, .ref (kM ad b m)), (2, vI t), (3, vI (acc + t / 5)), (4, vI ((F + L.length : Nat) : Int)), (5, vI ((i : Int) + 1))]) rfl ?_
            exact ihL4 _ (by omega) (i + 1) (F + L.length) R2 acc (by omega) (by exact e5) (by exact hwf9.1) (by rw [← hev9]; congr 1; first | rw [if_neg (fun q => absurd q.1 (by omega))] | rw [if_neg (fun q => absurd q.2 (by assumption))] | rw [if_pos ⟨by omega, by assumption⟩, if_pos (by omega)] | rw [if_pos ⟨by omega, by assumption⟩, if_neg (by omega)]) (by omega) (by omega) rfl _ (by omega) _ (by rfl) _ (by omega)
          · skip
            refine v_iload_n hG dX6_riskOf_48 rfl 3 rfl ?_
            refine v_aload_n hG dX6_riskOf_49 rfl 0 rfl ?_
            refine cg6 (by assumption) hG dX6_riskOf_50 zf_X6_11 (k := 0) (by decide) (v := .ref (kQ ad 0 p)) rfl ?_
            refine v_iload hG dX6_riskOf_53 5 rfl ?_
            refine cb_q0 (by assumption) hG dX6_riskOf_55 (by omega) rfl ?_
            rw [e0]
            refine v_iconst hG dX6_riskOf_56 ?_
            refine v_icmp_ne (tgt := 70) hG dX6_riskOf_57 (by decide) (by omega) (by omega) (fun c19 => ?_) (fun c19 => ?_)
            · skip
              refine v_aload_n hG dX6_riskOf_70 rfl 0 rfl ?_
              refine cg6 (by assumption) hG dX6_riskOf_71 zf_X6_15 (k := 1) (by decide) (v := .ref (kQ ad 1 p)) rfl ?_
              refine v_iload hG dX6_riskOf_74 5 rfl ?_
              refine cb_q1 (by assumption) hG dX6_riskOf_76 (by omega) rfl ?_
              rw [e1]
              refine v_ineg hG dX6_riskOf_77 ?_
              refine v_iadd hG dX6_riskOf_78 ?_
              refine v_istore_n (lo' := [(3, vI ((acc + t / 5) + (-n))), (0, .ref (kP ad p)), (1, .ref (kM ad b m)), (2, vI t), (4, vI (F : Int)), (5, vI (i : Int))]) hG dX6_riskOf_79 rfl (by decide) rfl ?_
              refine v_aload_n hG dX6_riskOf_80 rfl 1 rfl ?_
              refine cg6 (by assumption) hG dX6_riskOf_81 zf_X6_18 (k := 2) (by decide) (v := .ref (kQ ad 2 p)) rfl ?_
              refine v_iload hG dX6_riskOf_84 5 rfl ?_
              refine cb_q2 (by assumption) hG dX6_riskOf_86 (by omega) rfl ?_
              rw [e2]
              refine v_istore (lo' := [(4, vI ((F + L.length : Nat) : Int)), (3, vI ((acc + t / 5) + (-n))), (0, .ref (kP ad p)), (1, .ref (kM ad b m)), (2, vI t), (5, vI (i : Int))]) hG dX6_riskOf_87 (by decide) rfl ?_
              refine v_iinc (lo' := [(5, vI ((i : Int) + 1)), (4, vI ((F + L.length : Nat) : Int)), (3, vI ((acc + t / 5) + (-n))), (0, .ref (kP ad p)), (1, .ref (kM ad b m)), (2, vI t)]) hG dX6_riskOf_89 5 rfl (by decide) rfl ?_
              refine v_goto (tgt := 10) hG dX6_riskOf_92 (by decide) ?_
              refine v_lo [3, 4, 5, 2, 1, 0] (lo' := [(0, .ref (kP ad p)), (1, .ref (kM ad b m)), (2, vI t), (3, vI ((acc + t / 5) + (-n))), (4, vI ((F + L.length : Nat) : Int)), (5, vI ((i : Int) + 1))]) rfl ?_
              exact ihL4 _ (by omega) (i + 1) (F + L.length) R2 (acc + -n) (by omega) (by exact e5) (by exact hwf9.1) (by rw [← hev9]; congr 1; first | rw [if_neg (fun q => absurd q.1 (by omega))] | rw [if_neg (fun q => absurd q.2 (by assumption))] | rw [if_pos ⟨by omega, by assumption⟩, if_pos (by omega)] | rw [if_pos ⟨by omega, by assumption⟩, if_neg (by omega)]) (by omega) (by omega) rfl _ (by omega) _ (by rfl) _ (by omega)
            · skip
              refine v_aload_n hG dX6_riskOf_60 rfl 0 rfl ?_
              refine cg6 (by assumption) hG dX6_riskOf_61 zf_X6_15 (k := 1) (by decide) (v := .ref (kQ ad 1 p)) rfl ?_
              refine v_iload hG dX6_riskOf_64 5 rfl ?_
              refine cb_q1 (by assumption) hG dX6_riskOf_66 (by omega) rfl ?_
              rw [e1]
              refine v_goto (tgt := 78) hG dX6_riskOf_67 (by decide) ?_
              refine v_iadd hG dX6_riskOf_78 ?_
              refine v_istore_n (lo' := [(3, vI ((acc + t / 5) + n)), (0, .ref (kP ad p)), (1, .ref (kM ad b m)), (2, vI t), (4, vI (F : Int)), (5, vI (i : Int))]) hG dX6_riskOf_79 rfl (by decide) rfl ?_
              refine v_aload_n hG dX6_riskOf_80 rfl 1 rfl ?_
              refine cg6 (by assumption) hG dX6_riskOf_81 zf_X6_18 (k := 2) (by decide) (v := .ref (kQ ad 2 p)) rfl ?_
              refine v_iload hG dX6_riskOf_84 5 rfl ?_
              refine cb_q2 (by assumption) hG dX6_riskOf_86 (by omega) rfl ?_
              rw [e2]
              refine v_istore (lo' := [(4, vI ((F + L.length : Nat) : Int)), (3, vI ((acc + t / 5) + n)), (0, .ref (kP ad p)), (1, .ref (kM ad b m)), (2, vI t), (5, vI (i : Int))]) hG dX6_riskOf_87 (by decide) rfl ?_
              refine v_iinc (lo' := [(5, vI ((i : Int) + 1)), (4, vI ((F + L.length : Nat) : Int)), (3, vI ((acc + t / 5) + n)), (0, .ref (kP ad p)), (1, .ref (kM ad b m)), (2, vI t)]) hG dX6_riskOf_89 5 rfl (by decide) rfl ?_
              refine v_goto (tgt := 10) hG dX6_riskOf_92 (by decide) ?_
              refine v_lo [3, 4, 5, 2, 1, 0] (lo' := [(0, .ref (kP ad p)), (1, .ref (kM ad b m)), (2, vI t), (3, vI ((acc + t / 5) + n)), (4, vI ((F + L.length : Nat) : Int)), (5, vI ((i : Int) + 1))]) rfl ?_
              exact ihL4 _ (by omega) (i + 1) (F + L.length) R2 (acc + n) (by omega) (by exact e5) (by exact hwf9.1) (by rw [← hev9]; congr 1; first | rw [if_neg (fun q => absurd q.1 (by omega))] | rw [if_neg (fun q => absurd q.2 (by assumption))] | rw [if_pos ⟨by omega, by assumption⟩, if_pos (by omega)] | rw [if_pos ⟨by omega, by assumption⟩, if_neg (by omega)]) (by omega) (by omega) rfl _ (by omega) _ (by rfl) _ (by omega)
  exact L4 _ 0 0 CL 0 (by omega) (by exact hprc) (by rw [hsl]; exact hwf) (by rfl) (by omega) (by omega) rfl _ (by omega) _ (by rfl) _ (by rfl)
set_option maxHeartbeats 4000000 in
set_option maxRecDepth 100000 in
theorem kc0_markAt_in (l : Launch) (D : Dx) (A : Nat → Prop) (ad : Nat → Nat) (K : Int → Int) (S Q qa : Nat → Int → Int) (tp : Nat → Nat) (s bo e uc lr nx : Int → Int) (b : Nat) (hb : b < 3) (i : Int) (hN : NM s) (hi : 0 ≤ i ∧ i ≤ s 43 - 1) : CT l D A yX0_markAt cX0_markAt 2 (some (.object "MirrorPlate$Mark")) { frames := 1, cells := 0, slots := 0, locals := 22 } [.ref (kB ad b), vI i] (CW D A ad K (uS S b s) Q qa tp bo e uc lr nx) (fun _ : Unit => some (.ref (kM ad b i))) (fun _ => True) (fun _ => CW D A ad K (uS S b s) Q qa tp bo e uc lr nx) := by
  refine ct_of (lo0 := [(0, .ref (kB ad b)), (1, vI i)]) (by decide) (Nat.le_of_ble_eq_true rfl) rfl ?_
  intro G hG hR
  have hN9 : 0 ≤ s 43 ∧ s 43 ≤ 8 := hN
  refine v_iload_n hG dX0_markAt_0 rfl 1 rfl ?_
  refine v_iconst hG dX0_markAt_1 ?_
  refine v_aload_n hG dX0_markAt_2 rfl 0 rfl ?_
  refine cg0 hb hG dX0_markAt_3 zf_X0_42 (k := 3) (by decide) (v := vI (s 43)) rfl ?_
  refine v_iconst hG dX0_markAt_6 ?_
  refine v_isub hG dX0_markAt_7 ?_
  refine v_callSN (k1' := 0) (k2' := 0) hG dX0_markAt_8 zc_X11_within ⟨zl_X0_46, zt_X11_within⟩ (fun l => kc11_within l D A (CW D A ad K (uS S b s) Q qa tp bo e uc lr nx) i 0 ((s 43) - 1) (by omega) (by omega) (by omega)) rfl (fun _ h => h) ⟨by decide, by decide⟩ rfl rfl ⟨by decide, by decide⟩ (rest := []) rfl (Nat.le_of_ble_eq_true rfl) (fun u1 => [vI (bi (0 ≤ i ∧ i ≤ ((s 43) - 1)))]) (fun _ => rfl) (fun u1 hu1 => ?_)
  refine v_ifb_eq (p := 0 ≤ i ∧ i ≤ ((s 43) - 1)) (tgt := 23) hG dX0_markAt_11 (by decide) (fun c2 => ?_) (fun c2 => ?_)
  · skip
    exfalso; omega
  · skip
    refine v_aload_n hG dX0_markAt_14 rfl 0 rfl ?_
    refine cg0 hb hG dX0_markAt_15 zf_X0_17 (k := 6) (by decide) (v := .ref (kA ad b)) rfl ?_
    refine v_iload_n hG dX0_markAt_18 rfl 1 rfl ?_
    refine ca_M (x := i) hb (by omega) hG dX0_markAt_19 ?_
    refine v_goto (tgt := 24) hG dX0_markAt_20 (by decide) ?_
    exact v_areturn hG hR dX0_markAt_24 (Or.inr ⟨_, rfl⟩) () rfl (by trivial) (fun _ hM => hM)
set_option maxHeartbeats 4000000 in
set_option maxRecDepth 100000 in
theorem kc0_markAt_out (l : Launch) (D : Dx) (A : Nat → Prop) (ad : Nat → Nat) (K : Int → Int) (S Q qa : Nat → Int → Int) (tp : Nat → Nat) (s bo e uc lr nx : Int → Int) (b : Nat) (hb : b < 3) (i : Int) (hN : NM s) (hr : -2147483648 ≤ i ∧ i < 2147483648) (hi : ¬ (0 ≤ i ∧ i ≤ s 43 - 1)) : CT l D A yX0_markAt cX0_markAt 2 (some (.object "MirrorPlate$Mark")) { frames := 1, cells := 0, slots := 0, locals := 22 } [.ref (kB ad b), vI i] (CW D A ad K (uS S b s) Q qa tp bo e uc lr nx) (fun _ : Unit => some .null) (fun _ => True) (fun _ => CW D A ad K (uS S b s) Q qa tp bo e uc lr nx) := by
  refine ct_of (lo0 := [(0, .ref (kB ad b)), (1, vI i)]) (by decide) (Nat.le_of_ble_eq_true rfl) rfl ?_
  intro G hG hR
  have hN9 : 0 ≤ s 43 ∧ s 43 ≤ 8 := hN
  refine v_iload_n hG dX0_markAt_0 rfl 1 rfl ?_
  refine v_iconst hG dX0_markAt_1 ?_
  refine v_aload_n hG dX0_markAt_2 rfl 0 rfl ?_
  refine cg0 hb hG dX0_markAt_3 zf_X0_42 (k := 3) (by decide) (v := vI (s 43)) rfl ?_
  refine v_iconst hG dX0_markAt_6 ?_
  refine v_isub hG dX0_markAt_7 ?_
  refine v_callSN (k1' := 0) (k2' := 0) hG dX0_markAt_8 zc_X11_within ⟨zl_X0_46, zt_X11_within⟩ (fun l => kc11_within l D A (CW D A ad K (uS S b s) Q qa tp bo e uc lr nx) i 0 ((s 43) - 1) (by omega) (by omega) (by omega)) rfl (fun _ h => h) ⟨by decide, by decide⟩ rfl rfl ⟨by decide, by decide⟩ (rest := []) rfl (Nat.le_of_ble_eq_true rfl) (fun u1 => [vI (bi (0 ≤ i ∧ i ≤ ((s 43) - 1)))]) (fun _ => rfl) (fun u1 hu1 => ?_)
  refine v_ifb_eq (p := 0 ≤ i ∧ i ≤ ((s 43) - 1)) (tgt := 23) hG dX0_markAt_11 (by decide) (fun c2 => ?_) (fun c2 => ?_)
  · skip
    refine v_null hG dX0_markAt_23 ?_
    exact v_areturn hG hR dX0_markAt_24 (Or.inl rfl) () rfl (by trivial) (fun _ hM => hM)
  · skip
    exfalso; omega
set_option maxHeartbeats 1000000 in
theorem cv_darkWorn {D : Dx} {A : Nat → Prop} {G : Gx} {cc : ByteArray} {nL : Nat} {own : String} {rm : Room} {pc idx : Nat} {lo : List (Nat × Value)} {st : List Value} {ad : Nat → Nat} {K s : Int → Int} {S Q qa : Nat → Int → Int} {tp : Nat → Nat} {bo e uc lr nx : Int → Int} {b : Nat} {m : Int} {w wear : Int} (hb : b < 3) (h8 : 0 ≤ m ∧ m < 8) (h43 : m < s 43) (hm : MK s m) (hw0 : 0 ≤ w ∧ w ≤ 100000) (hwe : 1 ≤ wear ∧ wear ≤ 99) (hG : Ok D A G cc nL own rm) (hd : decode cc pc = .ok (.invokevirtual idx, 3)) (hl : Cond.methodLink own idx yX4_darkWorn ∈ zTB) (hroom : 4 ≤ rm.frames ∧ 90 ≤ rm.locals) (hw : (st.map fun v => v.category).sum ≤ 8) (kk : V G 0 0 (CW D A ad K (uS S b s) Q qa tp bo e uc lr nx) (pc + 3) lo (vI (if s (11 + m) = 1 then darkF (s (50 + m)) (s (3 + m)) (s (19 + m)) (w / wear + s (35 + m)) (s (74 + 4 * m + w % 4)) else 0) :: st)) : V G 0 0 (CW D A ad K (uS S b s) Q qa tp bo e uc lr nx) pc lo (vI wear :: vI w :: .ref (kM ad b m) :: st) := by
  rcases (show s (50 + m) = 0 ∨ s (50 + m) = 1 ∨ s (50 + m) = 2 ∨ s (50 + m) = 3 ∨ s (50 + m) = 4 ∨ s (50 + m) = 5 ∨ s (50 + m) = 6 by have := hm.1; omega) with hk | hk | hk | hk | hk | hk | hk
  · refine v_callU (k1' := 0) (k2' := 0) (As := [vI w, vI wear]) (C := RX4) (owner := RX4) (x := yX4_darkWorn) hG hd zc_X4_darkWorn ⟨hl, (ztb 593 (by decide +kernel) (by decide +kernel)), (ztb 592 (by decide +kernel) (by decide +kernel)), zi_X4_darkWorn, zi_X4_darkWorn, ⟨_, _, _, zc_X4_darkWorn.1⟩, ⟨by decide, by decide⟩, rfl⟩ (fun l => kc4_darkWorn l D A ad K S Q qa tp s bo e uc lr nx b hb m w wear h8 h43 hm hw0 hwe) rfl (cRM0 hb h8 h43 hk) (fun _ h => h) ⟨Nat.le_trans (by decide) hroom.1, Nat.le_trans (by decide) hroom.2⟩ rfl rfl ⟨Nat.zero_le _, Nat.zero_le _⟩ rfl hw (fun _ => vI (if s (11 + m) = 1 then darkF (s (50 + m)) (s (3 + m)) (s (19 + m)) (w / wear + s (35 + m)) (s (74 + 4 * m + w % 4)) else 0) :: st) (fun _ => rfl) (fun _ _ => by exact kk)
  · refine v_callU (k1' := 0) (k2' := 0) (As := [vI w, vI wear]) (C := RX3) (owner := RX4) (x := yX4_darkWorn) hG hd zc_X4_darkWorn ⟨hl, (ztb 593 (by decide +kernel) (by decide +kernel)), (ztb 596 (by decide +kernel) (by decide +kernel)), zi_X4_darkWorn, zi_X4_darkWorn, ⟨_, _, _, zc_X4_darkWorn.1⟩, ⟨by decide, by decide⟩, rfl⟩ (fun l => kc4_darkWorn l D A ad K S Q qa tp s bo e uc lr nx b hb m w wear h8 h43 hm hw0 hwe) rfl (cRM1 hb h8 h43 hk) (fun _ h => h) ⟨Nat.le_trans (by decide) hroom.1, Nat.le_trans (by decide) hroom.2⟩ rfl rfl ⟨Nat.zero_le _, Nat.zero_le _⟩ rfl hw (fun _ => vI (if s (11 + m) = 1 then darkF (s (50 + m)) (s (3 + m)) (s (19 + m)) (w / wear + s (35 + m)) (s (74 + 4 * m + w % 4)) else 0) :: st) (fun _ => rfl) (fun _ _ => by exact kk)
  · refine v_callU (k1' := 0) (k2' := 0) (As := [vI w, vI wear]) (C := RX2) (owner := RX4) (x := yX4_darkWorn) hG hd zc_X4_darkWorn ⟨hl, (ztb 593 (by decide +kernel) (by decide +kernel)), (ztb 595 (by decide +kernel) (by decide +kernel)), zi_X4_darkWorn, zi_X4_darkWorn, ⟨_, _, _, zc_X4_darkWorn.1⟩, ⟨by decide, by decide⟩, rfl⟩ (fun l => kc4_darkWorn l D A ad K S Q qa tp s bo e uc lr nx b hb m w wear h8 h43 hm hw0 hwe) rfl (cRM2 hb h8 h43 hk) (fun _ h => h) ⟨Nat.le_trans (by decide) hroom.1, Nat.le_trans (by decide) hroom.2⟩ rfl rfl ⟨Nat.zero_le _, Nat.zero_le _⟩ rfl hw (fun _ => vI (if s (11 + m) = 1 then darkF (s (50 + m)) (s (3 + m)) (s (19 + m)) (w / wear + s (35 + m)) (s (74 + 4 * m + w % 4)) else 0) :: st) (fun _ => rfl) (fun _ _ => by exact kk)
  · refine v_callU (k1' := 0) (k2' := 0) (As := [vI w, vI wear]) (C := RX5) (owner := RX4) (x := yX4_darkWorn) hG hd zc_X4_darkWorn ⟨hl, (ztb 593 (by decide +kernel) (by decide +kernel)), (ztb 597 (by decide +kernel) (by decide +kernel)), zi_X4_darkWorn, zi_X4_darkWorn, ⟨_, _, _, zc_X4_darkWorn.1⟩, ⟨by decide, by decide⟩, rfl⟩ (fun l => kc4_darkWorn l D A ad K S Q qa tp s bo e uc lr nx b hb m w wear h8 h43 hm hw0 hwe) rfl (cRM3 hb h8 h43 hk) (fun _ h => h) ⟨Nat.le_trans (by decide) hroom.1, Nat.le_trans (by decide) hroom.2⟩ rfl rfl ⟨Nat.zero_le _, Nat.zero_le _⟩ rfl hw (fun _ => vI (if s (11 + m) = 1 then darkF (s (50 + m)) (s (3 + m)) (s (19 + m)) (w / wear + s (35 + m)) (s (74 + 4 * m + w % 4)) else 0) :: st) (fun _ => rfl) (fun _ _ => by exact kk)
  · refine v_callU (k1' := 0) (k2' := 0) (As := [vI w, vI wear]) (C := RX1) (owner := RX4) (x := yX4_darkWorn) hG hd zc_X4_darkWorn ⟨hl, (ztb 593 (by decide +kernel) (by decide +kernel)), (ztb 594 (by decide +kernel) (by decide +kernel)), zi_X4_darkWorn, zi_X4_darkWorn, ⟨_, _, _, zc_X4_darkWorn.1⟩, ⟨by decide, by decide⟩, rfl⟩ (fun l => kc4_darkWorn l D A ad K S Q qa tp s bo e uc lr nx b hb m w wear h8 h43 hm hw0 hwe) rfl (cRM4 hb h8 h43 hk) (fun _ h => h) ⟨Nat.le_trans (by decide) hroom.1, Nat.le_trans (by decide) hroom.2⟩ rfl rfl ⟨Nat.zero_le _, Nat.zero_le _⟩ rfl hw (fun _ => vI (if s (11 + m) = 1 then darkF (s (50 + m)) (s (3 + m)) (s (19 + m)) (w / wear + s (35 + m)) (s (74 + 4 * m + w % 4)) else 0) :: st) (fun _ => rfl) (fun _ _ => by exact kk)
  · refine v_callU (k1' := 0) (k2' := 0) (As := [vI w, vI wear]) (C := RX10) (owner := RX4) (x := yX4_darkWorn) hG hd zc_X4_darkWorn ⟨hl, (ztb 593 (by decide +kernel) (by decide +kernel)), (ztb 599 (by decide +kernel) (by decide +kernel)), zi_X4_darkWorn, zi_X4_darkWorn, ⟨_, _, _, zc_X4_darkWorn.1⟩, ⟨by decide, by decide⟩, rfl⟩ (fun l => kc4_darkWorn l D A ad K S Q qa tp s bo e uc lr nx b hb m w wear h8 h43 hm hw0 hwe) rfl (cRM5 hb h8 h43 hk) (fun _ h => h) ⟨Nat.le_trans (by decide) hroom.1, Nat.le_trans (by decide) hroom.2⟩ rfl rfl ⟨Nat.zero_le _, Nat.zero_le _⟩ rfl hw (fun _ => vI (if s (11 + m) = 1 then darkF (s (50 + m)) (s (3 + m)) (s (19 + m)) (w / wear + s (35 + m)) (s (74 + 4 * m + w % 4)) else 0) :: st) (fun _ => rfl) (fun _ _ => by exact kk)
  · refine v_callU (k1' := 0) (k2' := 0) (As := [vI w, vI wear]) (C := RX8) (owner := RX4) (x := yX4_darkWorn) hG hd zc_X4_darkWorn ⟨hl, (ztb 593 (by decide +kernel) (by decide +kernel)), (ztb 598 (by decide +kernel) (by decide +kernel)), zi_X4_darkWorn, zi_X4_darkWorn, ⟨_, _, _, zc_X4_darkWorn.1⟩, ⟨by decide, by decide⟩, rfl⟩ (fun l => kc4_darkWorn l D A ad K S Q qa tp s bo e uc lr nx b hb m w wear h8 h43 hm hw0 hwe) rfl (cRM6 hb h8 h43 hk) (fun _ h => h) ⟨Nat.le_trans (by decide) hroom.1, Nat.le_trans (by decide) hroom.2⟩ rfl rfl ⟨Nat.zero_le _, Nat.zero_le _⟩ rfl hw (fun _ => vI (if s (11 + m) = 1 then darkF (s (50 + m)) (s (3 + m)) (s (19 + m)) (w / wear + s (35 + m)) (s (74 + 4 * m + w % 4)) else 0) :: st) (fun _ => rfl) (fun _ _ => by exact kk)
set_option maxHeartbeats 1000000 in
theorem cv_tiredBehindCut {D : Dx} {A : Nat → Prop} {G : Gx} {cc : ByteArray} {nL : Nat} {own : String} {rm : Room} {pc idx : Nat} {lo : List (Nat × Value)} {st : List Value} {ad : Nat → Nat} {K s : Int → Int} {S Q qa : Nat → Int → Int} {tp : Nat → Nat} {bo e uc lr nx : Int → Int} {b : Nat} {m : Int} {t : Int} (hb : b < 3) (h8 : 0 ≤ m ∧ m < 8) (h43 : m < s 43) (hm : MK s m) (ht : 0 ≤ t ∧ t ≤ 99) (hG : Ok D A G cc nL own rm) (hd : decode cc pc = .ok (.invokevirtual idx, 3)) (hl : Cond.methodLink own idx yX4_tiredBehindCut ∈ zTB) (hroom : 3 ≤ rm.frames ∧ 63 ≤ rm.locals) (hw : (st.map fun v => v.category).sum ≤ 8) (kk : V G 0 0 (CW D A ad K (uS S b s) Q qa tp bo e uc lr nx) (pc + 3) lo (vI (clamp (t + q_needs s m / 2) 0 99) :: st)) : V G 0 0 (CW D A ad K (uS S b s) Q qa tp bo e uc lr nx) pc lo (vI t :: .ref (kM ad b m) :: st) := by
  rcases (show s (50 + m) = 0 ∨ s (50 + m) = 1 ∨ s (50 + m) = 2 ∨ s (50 + m) = 3 ∨ s (50 + m) = 4 ∨ s (50 + m) = 5 ∨ s (50 + m) = 6 by have := hm.1; omega) with hk | hk | hk | hk | hk | hk | hk
  · refine v_callU (k1' := 0) (k2' := 0) (As := [vI t]) (C := RX4) (owner := RX4) (x := yX4_tiredBehindCut) hG hd zc_X4_tiredBehindCut ⟨hl, (ztb 676 (by decide +kernel) (by decide +kernel)), (ztb 675 (by decide +kernel) (by decide +kernel)), zi_X4_tiredBehindCut, zi_X4_tiredBehindCut, ⟨_, _, _, zc_X4_tiredBehindCut.1⟩, ⟨by decide, by decide⟩, rfl⟩ (fun l => kc4_tiredBehindCut l D A ad K S Q qa tp s bo e uc lr nx b hb m t h8 h43 hm ht) rfl (cRM0 hb h8 h43 hk) (fun _ h => h) ⟨Nat.le_trans (by decide) hroom.1, Nat.le_trans (by decide) hroom.2⟩ rfl rfl ⟨Nat.zero_le _, Nat.zero_le _⟩ rfl hw (fun _ => vI (clamp (t + q_needs s m / 2) 0 99) :: st) (fun _ => rfl) (fun _ _ => by exact kk)
  · refine v_callU (k1' := 0) (k2' := 0) (As := [vI t]) (C := RX3) (owner := RX4) (x := yX4_tiredBehindCut) hG hd zc_X4_tiredBehindCut ⟨hl, (ztb 676 (by decide +kernel) (by decide +kernel)), (ztb 679 (by decide +kernel) (by decide +kernel)), zi_X4_tiredBehindCut, zi_X4_tiredBehindCut, ⟨_, _, _, zc_X4_tiredBehindCut.1⟩, ⟨by decide, by decide⟩, rfl⟩ (fun l => kc4_tiredBehindCut l D A ad K S Q qa tp s bo e uc lr nx b hb m t h8 h43 hm ht) rfl (cRM1 hb h8 h43 hk) (fun _ h => h) ⟨Nat.le_trans (by decide) hroom.1, Nat.le_trans (by decide) hroom.2⟩ rfl rfl ⟨Nat.zero_le _, Nat.zero_le _⟩ rfl hw (fun _ => vI (clamp (t + q_needs s m / 2) 0 99) :: st) (fun _ => rfl) (fun _ _ => by exact kk)
  · refine v_callU (k1' := 0) (k2' := 0) (As := [vI t]) (C := RX2) (owner := RX4) (x := yX4_tiredBehindCut) hG hd zc_X4_tiredBehindCut ⟨hl, (ztb 676 (by decide +kernel) (by decide +kernel)), (ztb 678 (by decide +kernel) (by decide +kernel)), zi_X4_tiredBehindCut, zi_X4_tiredBehindCut, ⟨_, _, _, zc_X4_tiredBehindCut.1⟩, ⟨by decide, by decide⟩, rfl⟩ (fun l => kc4_tiredBehindCut l D A ad K S Q qa tp s bo e uc lr nx b hb m t h8 h43 hm ht) rfl (cRM2 hb h8 h43 hk) (fun _ h => h) ⟨Nat.le_trans (by decide) hroom.1, Nat.le_trans (by decide) hroom.2⟩ rfl rfl ⟨Nat.zero_le _, Nat.zero_le _⟩ rfl hw (fun _ => vI (clamp (t + q_needs s m / 2) 0 99) :: st) (fun _ => rfl) (fun _ _ => by exact kk)
  · refine v_callU (k1' := 0) (k2' := 0) (As := [vI t]) (C := RX5) (owner := RX4) (x := yX4_tiredBehindCut) hG hd zc_X4_tiredBehindCut ⟨hl, (ztb 676 (by decide +kernel) (by decide +kernel)), (ztb 680 (by decide +kernel) (by decide +kernel)), zi_X4_tiredBehindCut, zi_X4_tiredBehindCut, ⟨_, _, _, zc_X4_tiredBehindCut.1⟩, ⟨by decide, by decide⟩, rfl⟩ (fun l => kc4_tiredBehindCut l D A ad K S Q qa tp s bo e uc lr nx b hb m t h8 h43 hm ht) rfl (cRM3 hb h8 h43 hk) (fun _ h => h) ⟨Nat.le_trans (by decide) hroom.1, Nat.le_trans (by decide) hroom.2⟩ rfl rfl ⟨Nat.zero_le _, Nat.zero_le _⟩ rfl hw (fun _ => vI (clamp (t + q_needs s m / 2) 0 99) :: st) (fun _ => rfl) (fun _ _ => by exact kk)
  · refine v_callU (k1' := 0) (k2' := 0) (As := [vI t]) (C := RX1) (owner := RX4) (x := yX4_tiredBehindCut) hG hd zc_X4_tiredBehindCut ⟨hl, (ztb 676 (by decide +kernel) (by decide +kernel)), (ztb 677 (by decide +kernel) (by decide +kernel)), zi_X4_tiredBehindCut, zi_X4_tiredBehindCut, ⟨_, _, _, zc_X4_tiredBehindCut.1⟩, ⟨by decide, by decide⟩, rfl⟩ (fun l => kc4_tiredBehindCut l D A ad K S Q qa tp s bo e uc lr nx b hb m t h8 h43 hm ht) rfl (cRM4 hb h8 h43 hk) (fun _ h => h) ⟨Nat.le_trans (by decide) hroom.1, Nat.le_trans (by decide) hroom.2⟩ rfl rfl ⟨Nat.zero_le _, Nat.zero_le _⟩ rfl hw (fun _ => vI (clamp (t + q_needs s m / 2) 0 99) :: st) (fun _ => rfl) (fun _ _ => by exact kk)
  · refine v_callU (k1' := 0) (k2' := 0) (As := [vI t]) (C := RX10) (owner := RX4) (x := yX4_tiredBehindCut) hG hd zc_X4_tiredBehindCut ⟨hl, (ztb 676 (by decide +kernel) (by decide +kernel)), (ztb 682 (by decide +kernel) (by decide +kernel)), zi_X4_tiredBehindCut, zi_X4_tiredBehindCut, ⟨_, _, _, zc_X4_tiredBehindCut.1⟩, ⟨by decide, by decide⟩, rfl⟩ (fun l => kc4_tiredBehindCut l D A ad K S Q qa tp s bo e uc lr nx b hb m t h8 h43 hm ht) rfl (cRM5 hb h8 h43 hk) (fun _ h => h) ⟨Nat.le_trans (by decide) hroom.1, Nat.le_trans (by decide) hroom.2⟩ rfl rfl ⟨Nat.zero_le _, Nat.zero_le _⟩ rfl hw (fun _ => vI (clamp (t + q_needs s m / 2) 0 99) :: st) (fun _ => rfl) (fun _ _ => by exact kk)
  · refine v_callU (k1' := 0) (k2' := 0) (As := [vI t]) (C := RX8) (owner := RX4) (x := yX4_tiredBehindCut) hG hd zc_X4_tiredBehindCut ⟨hl, (ztb 676 (by decide +kernel) (by decide +kernel)), (ztb 681 (by decide +kernel) (by decide +kernel)), zi_X4_tiredBehindCut, zi_X4_tiredBehindCut, ⟨_, _, _, zc_X4_tiredBehindCut.1⟩, ⟨by decide, by decide⟩, rfl⟩ (fun l => kc4_tiredBehindCut l D A ad K S Q qa tp s bo e uc lr nx b hb m t h8 h43 hm ht) rfl (cRM6 hb h8 h43 hk) (fun _ h => h) ⟨Nat.le_trans (by decide) hroom.1, Nat.le_trans (by decide) hroom.2⟩ rfl rfl ⟨Nat.zero_le _, Nat.zero_le _⟩ rfl hw (fun _ => vI (clamp (t + q_needs s m / 2) 0 99) :: st) (fun _ => rfl) (fun _ _ => by exact kk)
set_option maxHeartbeats 4000000 in
set_option maxRecDepth 100000 in
theorem kc0_darkBehind (l : Launch) (D : Dx) (A : Nat → Prop) (ad : Nat → Nat) (K : Int → Int) (S Q qa : Nat → Int → Int) (tp : Nat → Nat) (s bo e uc lr nx : Int → Int) (b : Nat) (hb : b < 3) (m : Int) (n : Int) (SL : List Int) (h8 : 0 ≤ m ∧ m < 8) (h43 : m < s 43) (hm : MK s m) (hP : PL s) (hCH : CHP Q qa s SL) (hn : 0 ≤ n ∧ n ≤ 10000) : CT l D A yX0_darkBehind cX0_darkBehind 3 (some .int) { frames := 4, cells := 0, slots := 0, locals := 90 } [.ref (kB ad b), .ref (kM ad b m), vI n] (CW D A ad K (uS S b s) Q qa tp bo e uc lr nx) (fun _ : Unit => some (vI (q_dk s m n))) (fun _ => 0 ≤ q_dk s m n ∧ q_dk s m n ≤ 30) (fun _ => CW D A ad K (uS S b s) Q qa tp bo e uc lr nx) := by
  refine ct_of (lo0 := [(0, .ref (kB ad b)), (1, .ref (kM ad b m)), (2, vI n)]) (by decide) (Nat.le_of_ble_eq_true rfl) rfl ?_
  intro G hG hR
  have hm1 := hm.1; have hm2 := hm.2.1; have hm3 := hm.2.2.1; have hm4 := hm.2.2.2.1; have hm5 := hm.2.2.2.2.1; have hm6 := hm.2.2.2.2.2.1; have hm7 := hm.2.2.2.2.2.2.1; have hm8 := hm.2.2.2.2.2.2.2.1
  obtain ⟨hhc, hpls, hwe, hmd⟩ := hCH
  have hwr := q_wear_rng hP
  refine v_aload_n hG dX0_darkBehind_0 rfl 1 rfl ?_
  refine v_aload_n hG dX0_darkBehind_1 rfl 1 rfl ?_
  refine cgM hb (by omega) (by omega) hG dX0_darkBehind_2 zf_X0_112 (k := 7) (by decide) (v := vI (s (27 + m))) rfl ?_
  refine v_iload_n hG dX0_darkBehind_5 rfl 2 rfl ?_
  refine v_iadd hG dX0_darkBehind_6 ?_
  refine v_aload_n hG dX0_darkBehind_7 rfl 0 rfl ?_
  refine cg0 hb hG dX0_darkBehind_8 zf_X0_9 (k := 5) (by decide) (v := .ref (kP ad (hc s))) rfl ?_
  refine cg6 (by assumption) hG dX0_darkBehind_11 zf_X0_121 (k := 9) (by decide) (v := vI (Q (hc s) 4)) rfl ?_
  rw [hwe]
  refine cv_darkWorn hb (by omega) (by omega) (by first | assumption | exact hM _ (by omega) (by omega)) (by omega) (by omega) hG dX0_darkBehind_14 zl_X0_124 ⟨by decide, by decide⟩ (Nat.le_of_ble_eq_true rfl) ?_
  have e1 : @Eq Int (q_dk s m n) (if s (11 + m) = 1 then darkF (s (50 + m)) (s (3 + m)) (s (19 + m)) (((s (27 + m)) + n) / (q_wear s) + s (35 + m)) (s (74 + 4 * m + ((s (27 + m)) + n) % 4)) else 0) := by rfl
  exact v_ireturn hG hR dX0_darkBehind_17 () (congrArg (fun z => some (vI z)) e1) (by exact q_dk_rng hm hP (by omega)) (fun _ hM => hM)
set_option maxHeartbeats 4000000 in
set_option maxRecDepth 100000 in
theorem kc0_printing (l : Launch) (D : Dx) (A : Nat → Prop) (ad : Nat → Nat) (K : Int → Int) (S Q qa : Nat → Int → Int) (tp : Nat → Nat) (s bo e uc lr nx : Int → Int) (b : Nat) (hb : b < 3) (n : Int) (SL : List Int) (hN : NM s) (hM : GM s) (hP : PL s) (hCH : CHP Q qa s SL) (hn : 0 ≤ n ∧ n ≤ 10000) : CT l D A yX0_printing cX0_printing 4 (some .int) { frames := 5, cells := 0, slots := 0, locals := 112 } [.ref (kB ad b), vI n] (CW D A ad K (uS S b s) Q qa tp bo e uc lr nx) (fun _ : Unit => some (vI (bset (prt s n) (s 43).toNat))) (fun _ => 0 ≤ bset (prt s n) (s 43).toNat ∧ bset (prt s n) (s 43).toNat < 256) (fun _ => CW D A ad K (uS S b s) Q qa tp bo e uc lr nx) := by
  refine ct_of (lo0 := [(0, .ref (kB ad b)), (1, vI n)]) (by decide) (Nat.le_of_ble_eq_true rfl) rfl ?_
  intro G hG hR
  have hN9 : 0 ≤ s 43 ∧ s 43 ≤ 8 := hN
  refine v_iconst hG dX0_printing_0 ?_
  refine v_istore_n (lo' := [(2, vI 0), (0, .ref (kB ad b)), (1, vI n)]) hG dX0_printing_1 rfl (by decide) rfl ?_
  refine v_iconst hG dX0_printing_2 ?_
  refine v_istore_n (lo' := [(3, vI 0), (2, vI 0), (0, .ref (kB ad b)), (1, vI n)]) hG dX0_printing_3 rfl (by decide) rfl ?_
  refine v_lo [2, 3, 1, 0] (lo' := [(0, .ref (kB ad b)), (1, vI n), (2, vI 0), (3, vI 0)]) rfl ?_
  have L3 : ∀ mz : Nat, ∀ (k : Nat), ((k : Int) ≤ s 43) → (s 43 - (k : Int)).toNat = mz → ∀ x1 : Int, x1 = ((k : Int)) → ∀ x2 : Int, x2 = (bset (prt s n) k) → V G 0 0 (CW D A ad K (uS S b s) Q qa tp bo e uc lr nx) 4 [(0, .ref (kB ad b)), (1, vI n), (2, vI x2), (3, vI x1)] [] := by
    intro dL3
    induction dL3 using Nat.strongRecOn with
    | ind dL3 ihL3 =>
      intro k hq4 hq5
      intro x1 hx1
      subst hx1
      intro x2 hx2
      subst hx2
      refine v_iload_n hG dX0_printing_4 rfl 3 rfl ?_
      refine v_aload_n hG dX0_printing_5 rfl 0 rfl ?_
      refine cg0 hb hG dX0_printing_6 zf_X0_42 (k := 3) (by decide) (v := vI (s 43)) rfl ?_
      refine v_icmp_ge (tgt := 38) hG dX0_printing_9 (by decide) (by omega) (by omega) (fun c6 => ?_) (fun c6 => ?_)
      · skip
        refine v_iload_n hG dX0_printing_38 rfl 2 rfl ?_
        have e7 : @Eq Int (bset (prt s n) (s 43).toNat) (bset (prt s n) k) := by rw [show k = (s 43).toNat by omega]
        exact v_ireturn hG hR dX0_printing_39 () (congrArg (fun z => some (vI z)) e7) (by exact bset_8 _ (by omega)) (fun _ hM => hM)
      · skip
        refine v_aload_n hG dX0_printing_12 rfl 0 rfl ?_
        refine v_aload_n hG dX0_printing_13 rfl 0 rfl ?_
        refine cg0 hb hG dX0_printing_14 zf_X0_17 (k := 6) (by decide) (v := .ref (kA ad b)) rfl ?_
        refine v_iload_n hG dX0_printing_17 rfl 3 rfl ?_
        refine ca_M (x := (k : Int)) hb (by omega) hG dX0_printing_18 ?_
        refine v_iload_n hG dX0_printing_19 rfl 1 rfl ?_
        refine v_callV (k1' := 0) (k2' := 0) hG dX0_printing_20 zc_X0_darkBehind ⟨zl_X0_127, zi_X0_darkBehind, zs_X0_darkBehind⟩ (fun l => kc0_darkBehind l D A ad K S Q qa tp s bo e uc lr nx b hb (k : Int) n SL (by omega) (by first | assumption | omega) (by first | assumption | exact hM _ (by omega) (by omega)) (by assumption) (by assumption) (by omega)) rfl (cR0 hb) (fun _ h => h) ⟨by decide, by decide⟩ rfl rfl ⟨by decide, by decide⟩ (rest := []) rfl (Nat.le_of_ble_eq_true rfl) (fun u8 => [vI (q_dk s (k : Int) n)]) (fun _ => rfl) (fun u8 hu8 => ?_)
        have fu8 : 0 ≤ q_dk s (k : Int) n ∧ q_dk s (k : Int) n ≤ 30 := hu8
        refine v_if_le (tgt := 32) hG dX0_printing_23 (by decide) (by omega) (fun c9 => ?_) (fun c9 => ?_)
        · skip
          refine v_iinc (lo' := [(3, vI ((k : Int) + 1)), (0, .ref (kB ad b)), (1, vI n), (2, vI (bset (prt s n) k))]) hG dX0_printing_32 3 rfl (by decide) rfl ?_
          refine v_goto (tgt := 4) hG dX0_printing_35 (by decide) ?_
          refine v_lo [1, 2, 3, 0] (lo' := [(0, .ref (kB ad b)), (1, vI n), (2, vI (bset (prt s n) k)), (3, vI ((k : Int) + 1))]) rfl ?_
          exact ihL3 _ (by omega) (k + 1) (by omega) rfl _ (by first | omega | rfl | (simp [c6, c9]; done)) _ (by first | exact bset_step (prt_t (by assumption)) (by omega) | exact bset_same2 (prt_f (by assumption)))
        · skip
          refine v_iload_n hG dX0_printing_26 rfl 2 rfl ?_
          refine v_iconst hG dX0_printing_27 ?_
          refine v_iload_n hG dX0_printing_28 rfl 3 rfl ?_
          refine v_ishl hG dX0_printing_29 (by omega) ?_
          refine v_ior hG dX0_printing_30 ?_
          refine v_istore_n (lo' := [(2, vI (ior (bset (prt s n) k) (1 * 2 ^ (k : Int).toNat))), (0, .ref (kB ad b)), (1, vI n), (3, vI (k : Int))]) hG dX0_printing_31 rfl (by decide) rfl ?_
          refine v_iinc (lo' := [(3, vI ((k : Int) + 1)), (2, vI (ior (bset (prt s n) k) (1 * 2 ^ (k : Int).toNat))), (0, .ref (kB ad b)), (1, vI n)]) hG dX0_printing_32 3 rfl (by decide) rfl ?_
          refine v_goto (tgt := 4) hG dX0_printing_35 (by decide) ?_
          refine v_lo [2, 3, 1, 0] (lo' := [(0, .ref (kB ad b)), (1, vI n), (2, vI (ior (bset (prt s n) k) (1 * 2 ^ (k : Int).toNat))), (3, vI ((k : Int) + 1))]) rfl ?_
          exact ihL3 _ (by omega) (k + 1) (by omega) rfl _ (by first | omega | rfl | (simp [c6, c9]; done)) _ (by first | exact bset_step (prt_t (by assumption)) (by omega) | exact bset_same2 (prt_f (by assumption)))
  exact L3 _ 0 (by omega) rfl _ (by first | omega | rfl | (simp []; done)) _ (by first | omega | rfl | (simp []; done))
set_option maxHeartbeats 4000000 in
set_option maxRecDepth 100000 in
theorem kc0_firstFaded (l : Launch) (D : Dx) (A : Nat → Prop) (ad : Nat → Nat) (K : Int → Int) (S Q qa : Nat → Int → Int) (tp : Nat → Nat) (s bo e uc lr nx : Int → Int) (b : Nat) (hb : b < 3) (x : Int) (n : Int) (SL : List Int) (hN : NM s) (hM : GM s) (hP : PL s) (hCH : CHP Q qa s SL) (hx : 0 ≤ x ∧ x < 256) (hn : 0 ≤ n ∧ n ≤ 10000) : CT l D A yX0_firstFaded cX0_firstFaded 5 (some .int) { frames := 4, cells := 0, slots := 0, locals := 90 } [.ref (kB ad b), vI x, vI n] (CW D A ad K (uS S b s) Q qa tp bo e uc lr nx) (fun _ : Unit => some (vI (leastM (badF s x n) (s 43).toNat))) (fun _ => -1 ≤ leastM (badF s x n) (s 43).toNat ∧ leastM (badF s x n) (s 43).toNat < 8) (fun _ => CW D A ad K (uS S b s) Q qa tp bo e uc lr nx) := by
  refine ct_of (lo0 := [(0, .ref (kB ad b)), (1, vI x), (2, vI n)]) (by decide) (Nat.le_of_ble_eq_true rfl) rfl ?_
  intro G hG hR
  have hN9 : 0 ≤ s 43 ∧ s 43 ≤ 8 := hN
  obtain ⟨hhc, hpls, hwe, hmd⟩ := hCH
  have hwr := q_wear_rng hP
  refine v_iconst hG dX0_firstFaded_0 ?_
  refine v_istore_n (lo' := [(3, vI 0), (0, .ref (kB ad b)), (1, vI x), (2, vI n)]) hG dX0_firstFaded_1 rfl (by decide) rfl ?_
  refine v_lo [1, 2, 3, 0] (lo' := [(0, .ref (kB ad b)), (1, vI x), (2, vI n), (3, vI 0)]) rfl ?_
  have L2 : ∀ mz : Nat, ∀ (k : Nat), ((k : Int) ≤ s 43) → (leastM (badF s x n) k = -1) → (s 43 - (k : Int)).toNat = mz → ∀ x1 : Int, x1 = ((k : Int)) → V G 0 0 (CW D A ad K (uS S b s) Q qa tp bo e uc lr nx) 2 [(0, .ref (kB ad b)), (1, vI x), (2, vI n), (3, vI x1)] [] := by
    intro dL2
    induction dL2 using Nat.strongRecOn with
    | ind dL2 ihL2 =>
      intro k hq3 hq4 hq5
      intro x1 hx1
      subst hx1
      refine v_iload_n hG dX0_firstFaded_2 rfl 3 rfl ?_
      refine v_aload_n hG dX0_firstFaded_3 rfl 0 rfl ?_
      refine cg0 hb hG dX0_firstFaded_4 zf_X0_42 (k := 3) (by decide) (v := vI (s 43)) rfl ?_
      refine v_icmp_ge (tgt := 57) hG dX0_firstFaded_7 (by decide) (by omega) (by omega) (fun c6 => ?_) (fun c6 => ?_)
      · skip
        refine v_iconst hG dX0_firstFaded_57 ?_
        have e7 : @Eq Int (leastM (badF s x n) (s 43).toNat) (-1) := by rw [show (s 43).toNat = k by omega]; assumption
        exact v_ireturn hG hR dX0_firstFaded_58 () (congrArg (fun z => some (vI z)) e7) (by have hl9 := leastM_rng (badF s x n) (s 43).toNat; omega) (fun _ hM => hM)
      · skip
        refine v_aload_n hG dX0_firstFaded_10 rfl 0 rfl ?_
        refine cg0 hb hG dX0_firstFaded_11 zf_X0_17 (k := 6) (by decide) (v := .ref (kA ad b)) rfl ?_
        refine v_iload_n hG dX0_firstFaded_14 rfl 3 rfl ?_
        refine ca_M (x := (k : Int)) hb (by omega) hG dX0_firstFaded_15 ?_
        refine v_astore (lo' := [(4, .ref (kM ad b (k : Int))), (0, .ref (kB ad b)), (1, vI x), (2, vI n), (3, vI (k : Int))]) hG dX0_firstFaded_16 (by decide) rfl ?_
        refine v_iload_n hG dX0_firstFaded_18 rfl 2 rfl ?_
        refine v_iload_n hG dX0_firstFaded_19 rfl 4 rfl ?_
        have hsh := sh_rng (x := x) (k := k) (by omega)
        refine v_ishr hG dX0_firstFaded_20 (by omega) (by omega) ?_
        refine v_iconst hG dX0_firstFaded_21 ?_
        have hia := iand1_rng hsh
        refine v_iand hG dX0_firstFaded_22 ?_
        refine v_iconst hG dX0_firstFaded_23 ?_
        refine v_icmp_ne (tgt := 51) hG dX0_firstFaded_24 (by decide) (by omega) (by omega) (fun c8 => ?_) (fun c8 => ?_)
        · skip
          refine v_iinc (lo' := [(3, vI ((k : Int) + 1)), (4, .ref (kM ad b (k : Int))), (0, .ref (kB ad b)), (1, vI x), (2, vI n)]) hG dX0_firstFaded_51 4 rfl (by decide) rfl ?_
          refine v_goto (tgt := 2) hG dX0_firstFaded_54 (by decide) ?_
          refine v_lo [2, 3, 4, 0] (lo' := [(0, .ref (kB ad b)), (1, vI x), (2, vI n), (3, vI ((k : Int) + 1))]) rfl ?_
          exact ihL2 _ (by omega) (k + 1) (by omega) (by first | exact leastM_stay (by assumption) (badF_f1 (by assumption)) | exact leastM_stay (by assumption) (badF_f2 (by omega))) rfl _ (by first | omega | rfl | (simp [c6, c8]; done))
        · skip
          have hm := hM (k : Int) (by omega) (by omega)
          have hm7 := hm.2.2.2.2.2.2.1
          refine v_aload hG dX0_firstFaded_27 0 rfl ?_
          refine v_aload hG dX0_firstFaded_29 0 rfl ?_
          refine cgM hb (by omega) (by omega) hG dX0_firstFaded_31 zf_X0_112 (k := 7) (by decide) (v := vI (s (27 + (k : Int)))) rfl ?_
          refine v_iload_n hG dX0_firstFaded_34 rfl 3 rfl ?_
          refine v_iadd hG dX0_firstFaded_35 ?_
          refine v_aload_n hG dX0_firstFaded_36 rfl 1 rfl ?_
          refine cg0 hb hG dX0_firstFaded_37 zf_X0_9 (k := 5) (by decide) (v := .ref (kP ad (hc s))) rfl ?_
          refine cg6 (by assumption) hG dX0_firstFaded_40 zf_X0_121 (k := 9) (by decide) (v := vI (Q (hc s) 4)) rfl ?_
          rw [hwe]
          refine cv_darkWorn hb (by omega) (by omega) (by first | assumption | exact hM _ (by omega) (by omega)) (by omega) (by omega) hG dX0_firstFaded_43 zl_X0_124 ⟨by decide, by decide⟩ (Nat.le_of_ble_eq_true rfl) ?_
          rw [show (if s (11 + (k : Int)) = 1 then darkF (s (50 + (k : Int))) (s (3 + (k : Int))) (s (19 + (k : Int))) (((s (27 + (k : Int))) + n) / (q_wear s) + s (35 + (k : Int))) (s (74 + 4 * (k : Int) + ((s (27 + (k : Int))) + n) % 4)) else 0) = q_dk s (k : Int) n from rfl]
          have hdk := q_dk_rng (n := n) hm hP (by omega)
          refine v_if_gt (tgt := 51) hG dX0_firstFaded_46 (by decide) (by omega) (fun c9 => ?_) (fun c9 => ?_)
          · skip
            refine v_iinc (lo' := [(3, vI ((k : Int) + 1)), (4, .ref (kM ad b (k : Int))), (0, .ref (kB ad b)), (1, vI x), (2, vI n)]) hG dX0_firstFaded_51 4 rfl (by decide) rfl ?_
            refine v_goto (tgt := 2) hG dX0_firstFaded_54 (by decide) ?_
            refine v_lo [2, 3, 4, 0] (lo' := [(0, .ref (kB ad b)), (1, vI x), (2, vI n), (3, vI ((k : Int) + 1))]) rfl ?_
            exact ihL2 _ (by omega) (k + 1) (by omega) (by first | exact leastM_stay (by assumption) (badF_f1 (by assumption)) | exact leastM_stay (by assumption) (badF_f2 (by omega))) rfl _ (by first | omega | rfl | (simp [c6, c8, c9]; done))
          · skip
            refine v_iload_n hG dX0_firstFaded_49 rfl 4 rfl ?_
            have e10 : @Eq Int (leastM (badF s x n) (s 43).toNat) ((k : Int)) := by exact leastM_hit (by assumption) (badF_t (by assumption) (by omega)) (by omega)
            exact v_ireturn hG hR dX0_firstFaded_50 () (congrArg (fun z => some (vI z)) e10) (by have hl9 := leastM_rng (badF s x n) (s 43).toNat; omega) (fun _ hM => hM)
  exact L2 _ 0 (by omega) (by rfl) rfl _ (by first | omega | rfl | (simp []; done))
set_option maxHeartbeats 4000000 in
set_option maxRecDepth 100000 in
theorem kc0_goodFor (l : Launch) (D : Dx) (A : Nat → Prop) (ad : Nat → Nat) (K : Int → Int) (S Q qa : Nat → Int → Int) (tp : Nat → Nat) (s bo e uc lr nx : Int → Int) (b : Nat) (hb : b < 3) (x : Int) (SL : List Int) (hN : NM s) (hM : GM s) (hP : PL s) (hCH : CHP Q qa s SL) (hx : 0 ≤ x ∧ x < 256) (hok : okF s x 0 = true) : CT l D A yX0_goodFor cX0_goodFor 3 (some .int) { frames := 5, cells := 0, slots := 0, locals := 114 } [.ref (kB ad b), vI x] (CW D A ad K (uS S b s) Q qa tp bo e uc lr nx) (fun _ : Unit => some (vI (q_goodOf s x))) (fun _ => -5 ≤ q_goodOf s x ∧ q_goodOf s x ≤ 999) (fun _ => CW D A ad K (uS S b s) Q qa tp bo e uc lr nx) := by
  refine ct_of (lo0 := [(0, .ref (kB ad b)), (1, vI x)]) (by decide) (Nat.le_of_ble_eq_true rfl) rfl ?_
  intro G hG hR
  have hN9 : 0 ≤ s 43 ∧ s 43 ≤ 8 := hN
  refine v_iload_n hG dX0_goodFor_0 rfl 1 rfl ?_
  refine v_if_ne (tgt := 7) hG dX0_goodFor_1 (by decide) (by omega) (fun c1 => ?_) (fun c1 => ?_)
  · skip
    refine v_sipush hG dX0_goodFor_7 (by decide) ?_
    refine v_istore_n (lo' := [(2, vI 999), (0, .ref (kB ad b)), (1, vI x)]) hG dX0_goodFor_10 rfl (by decide) rfl ?_
    refine v_lo [1, 2, 0] (lo' := [(0, .ref (kB ad b)), (1, vI x), (2, vI 999)]) rfl ?_
    have L3 : ∀ mz : Nat, ∀ (j : Nat), (j ≤ 999) → (gdown (okF s x) 1000 = gdown (okF s x) (j + 1)) → j = mz → ∀ x2 : Int, x2 = ((j : Int)) → V G 0 0 (CW D A ad K (uS S b s) Q qa tp bo e uc lr nx) 11 [(0, .ref (kB ad b)), (1, vI x), (2, vI x2)] [] := by
      intro dL3
      induction dL3 using Nat.strongRecOn with
      | ind dL3 ihL3 =>
        intro j hq4 hq5 hq6
        intro x2 hx2
        subst hx2
        refine v_iload_n hG dX0_goodFor_11 rfl 2 rfl ?_
        refine v_if_le (tgt := 32) hG dX0_goodFor_12 (by decide) (by omega) (fun c7 => ?_) (fun c7 => ?_)
        · skip
          refine v_iconst hG dX0_goodFor_32 ?_
          have e8 : @Eq Int (q_goodOf s x) (0) := by unfold q_goodOf; rw [if_neg (by assumption)]; have hj0 : j = 0 := (by omega); subst hj0; exact gd_hit (by assumption) hok
          exact v_ireturn hG hR dX0_goodFor_33 () (congrArg (fun z => some (vI z)) e8) (by exact q_goodOf_rng s x) (fun _ hM => hM)
        · skip
          refine v_aload_n hG dX0_goodFor_15 rfl 0 rfl ?_
          refine v_iload_n hG dX0_goodFor_16 rfl 1 rfl ?_
          refine v_iload_n hG dX0_goodFor_17 rfl 2 rfl ?_
          refine v_callV (k1' := 0) (k2' := 0) hG dX0_goodFor_18 zc_X0_firstFaded ⟨zl_X0_130, zi_X0_firstFaded, zs_X0_firstFaded⟩ (fun l => kc0_firstFaded l D A ad K S Q qa tp s bo e uc lr nx b hb x (j : Int) SL (by assumption) (by assumption) (by assumption) (by assumption) (by omega) (by omega)) rfl (cR0 hb) (fun _ h => h) ⟨by decide, by decide⟩ rfl rfl ⟨by decide, by decide⟩ (rest := []) rfl (Nat.le_of_ble_eq_true rfl) (fun u9 => [vI (leastM (badF s x (j : Int)) (s 43).toNat)]) (fun _ => rfl) (fun u9 hu9 => ?_)
          have fu9 : -1 ≤ leastM (badF s x (j : Int)) (s 43).toNat ∧ leastM (badF s x (j : Int)) (s 43).toNat < 8 := hu9
          refine v_if_ge (tgt := 26) hG dX0_goodFor_21 (by decide) (by omega) (fun c10 => ?_) (fun c10 => ?_)
          · skip
            refine v_iinc (lo' := [(2, vI ((j : Int) + (-1))), (0, .ref (kB ad b)), (1, vI x)]) hG dX0_goodFor_26 2 rfl (by decide) rfl ?_
            refine v_goto (tgt := 11) hG dX0_goodFor_29 (by decide) ?_
            refine v_lo [1, 2, 0] (lo' := [(0, .ref (kB ad b)), (1, vI x), (2, vI ((j : Int) + (-1)))]) rfl ?_
            exact ihL3 _ (by omega) (j - 1) (by omega) (by rw [show j - 1 + 1 = j by omega]; exact gd_down (by assumption) (fun q => by have := (ok_bad (n := j) hx).mp q; omega)) rfl _ (by omega)
          · skip
            refine v_iload_n hG dX0_goodFor_24 rfl 2 rfl ?_
            have e11 : @Eq Int (q_goodOf s x) ((j : Int)) := by unfold q_goodOf; rw [if_neg (by assumption)]; exact gd_hit (by assumption) ((ok_bad hx).mpr (by omega))
            exact v_ireturn hG hR dX0_goodFor_25 () (congrArg (fun z => some (vI z)) e11) (by exact q_goodOf_rng s x) (fun _ hM => hM)
    exact L3 _ 999 (by omega) (by rfl) rfl _ (by rfl)
  · skip
    refine v_bipush hG dX0_goodFor_4 (by decide) ?_
    have e12 : @Eq Int (q_goodOf s x) (-5) := by exact goodOf_0 (by assumption)
    exact v_ireturn hG hR dX0_goodFor_6 () (congrArg (fun z => some (vI z)) e12) (by exact q_goodOf_rng s x) (fun _ hM => hM)
set_option maxHeartbeats 4000000 in
set_option maxRecDepth 100000 in
theorem kc0_riskWithRest (l : Launch) (D : Dx) (A : Nat → Prop) (ad : Nat → Nat) (K : Int → Int) (S Q qa : Nat → Int → Int) (tp : Nat → Nat) (s bo e uc lr nx : Int → Int) (b : Nat) (hb : b < 3) (r : Int) (SL : List Int) (hr : -1 ≤ r ∧ r ≤ 100) (hN : NM s) (hM : GM s) (hP : PL s) (hCH : CHP Q qa s SL) (hT : TI s) : CT l D A yX0_riskWithRest cX0_riskWithRest 6 (some .int) { frames := 4, cells := 0, slots := 0, locals := 99 } [.ref (kB ad b), vI r] (CW D A ad K (uS S b s) Q qa tp bo e uc lr nx) (fun _ : Unit => some (vI (q_roa s SL r))) (fun _ => 0 ≤ q_roa s SL r ∧ q_roa s SL r ≤ 1000) (fun _ => CW D A ad K (uS S b s) Q qa tp bo e uc lr nx) := by
  refine ct_of (lo0 := [(0, .ref (kB ad b)), (1, vI r)]) (by decide) (Nat.le_of_ble_eq_true rfl) rfl ?_
  intro G hG hR
  have hN9 : 0 ≤ s 43 ∧ s 43 ≤ 8 := hN
  obtain ⟨hhc, hpls, hwe, hmd⟩ := hCH
  have hwr := q_wear_rng hP
  have hT2 : 0 ≤ s 2 ∧ s 2 ≤ 99 := hT
  refine v_aload_n hG dX0_riskWithRest_0 rfl 0 rfl ?_
  refine cg0 hb hG dX0_riskWithRest_1 zf_X0_56 (k := 2) (by decide) (v := vI (s 2)) rfl ?_
  refine v_istore_n (lo' := [(2, vI (s 2)), (0, .ref (kB ad b)), (1, vI r)]) hG dX0_riskWithRest_4 rfl (by decide) rfl ?_
  refine v_iconst hG dX0_riskWithRest_5 ?_
  refine v_istore_n (lo' := [(3, vI 0), (2, vI (s 2)), (0, .ref (kB ad b)), (1, vI r)]) hG dX0_riskWithRest_6 rfl (by decide) rfl ?_
  refine v_iconst hG dX0_riskWithRest_7 ?_
  refine v_istore (lo' := [(4, vI 0), (3, vI 0), (2, vI (s 2)), (0, .ref (kB ad b)), (1, vI r)]) hG dX0_riskWithRest_8 (by decide) rfl ?_
  refine v_lo [3, 4, 2, 1, 0] (lo' := [(0, .ref (kB ad b)), (1, vI r), (2, vI (s 2)), (3, vI 0), (4, vI 0)]) rfl ?_
  have L4 : ∀ mz : Nat, ∀ (k : Nat), ((k : Int) ≤ s 43) → (s 43 - (k : Int)).toNat = mz → ∀ x1 : Int, x1 = ((k : Int)) → ∀ x2 : Int, x2 = ((roa s SL r k).1) → ∀ x3 : Int, x3 = ((roa s SL r k).2) → V G 0 0 (CW D A ad K (uS S b s) Q qa tp bo e uc lr nx) 10 [(0, .ref (kB ad b)), (1, vI r), (2, vI x2), (3, vI x3), (4, vI x1)] [] := by
    intro dL4
    induction dL4 using Nat.strongRecOn with
    | ind dL4 ihL4 =>
      intro k hq5 hq6
      intro x1 hx1
      subst hx1
      intro x2 hx2
      subst hx2
      intro x3 hx3
      subst hx3
      have hro := roa_rng (SL := SL) (r := r) hT k
      refine v_iload hG dX0_riskWithRest_10 4 rfl ?_
      refine v_aload_n hG dX0_riskWithRest_12 rfl 0 rfl ?_
      refine cg0 hb hG dX0_riskWithRest_13 zf_X0_42 (k := 3) (by decide) (v := vI (s 43)) rfl ?_
      refine v_icmp_ge (tgt := 75) hG dX0_riskWithRest_16 (by decide) (by omega) (by omega) (fun c7 => ?_) (fun c7 => ?_)
      · skip
        refine v_iload_n hG dX0_riskWithRest_75 rfl 3 rfl ?_
        have e8 : @Eq Int (q_roa s SL r) ((roa s SL r k).2) := by rw [show k = (s 43).toNat by omega]; rfl
        exact v_ireturn hG hR dX0_riskWithRest_76 () (congrArg (fun z => some (vI z)) e8) (by exact q_roa_rng hT hN) (fun _ hM => hM)
      · skip
        refine v_aload_n hG dX0_riskWithRest_19 rfl 0 rfl ?_
        refine cg0 hb hG dX0_riskWithRest_20 zf_X0_17 (k := 6) (by decide) (v := .ref (kA ad b)) rfl ?_
        refine v_iload hG dX0_riskWithRest_23 4 rfl ?_
        refine ca_M (x := (k : Int)) hb (by omega) hG dX0_riskWithRest_25 ?_
        refine v_astore (lo' := [(5, .ref (kM ad b (k : Int))), (0, .ref (kB ad b)), (1, vI r), (2, vI ((roa s SL r k).1)), (3, vI ((roa s SL r k).2)), (4, vI (k : Int))]) hG dX0_riskWithRest_26 (by decide) rfl ?_
        have hm := hM (k : Int) (by omega) (by omega)
        have hm5 := hm.2.2.2.2.1
        refine v_aload hG dX0_riskWithRest_28 0 rfl ?_
        refine cgM hb (by omega) (by omega) hG dX0_riskWithRest_30 zf_X0_86 (k := 5) (by decide) (v := vI (s (11 + (k : Int)))) rfl ?_
        refine v_if_ne (tgt := 69) hG dX0_riskWithRest_33 (by decide) (by omega) (fun c9 => ?_) (fun c9 => ?_)
        · skip
          refine v_iinc (lo' := [(4, vI ((k : Int) + 1)), (5, .ref (kM ad b (k : Int))), (0, .ref (kB ad b)), (1, vI r), (2, vI ((roa s SL r k).1)), (3, vI ((roa s SL r k).2))]) hG dX0_riskWithRest_69 5 rfl (by decide) rfl ?_
          refine v_goto (tgt := 10) hG dX0_riskWithRest_72 (by decide) ?_
          refine v_lo [2, 3, 4, 5, 0] (lo' := [(0, .ref (kB ad b)), (1, vI r), (2, vI ((roa s SL r k).1)), (3, vI ((roa s SL r k).2)), (4, vI ((k : Int) + 1))]) rfl ?_
          exact ihL4 _ (by omega) (k + 1) (by omega) rfl _ (by first | omega | rfl | (simp [c7, c9]; done)) _ (by first | (simp only [roa, if_neg (show ¬ s (11 + (k : Int)) = 1 by omega), if_pos (show s (11 + (k : Int)) = 1 by omega)]; done) | (simp only [roa, if_pos (show s (11 + (k : Int)) = 1 by omega)]; done) | (simp only [roa, if_neg (show ¬ s (11 + (k : Int)) = 1 by omega)]; done)) _ (by first | (simp only [roa, if_pos (show s (11 + (k : Int)) = 1 by omega)]; done) | (simp only [roa, if_neg (show ¬ s (11 + (k : Int)) = 1 by omega)]; done))
        · skip
          refine v_iload hG dX0_riskWithRest_36 5 rfl ?_
          refine v_iload_n hG dX0_riskWithRest_38 rfl 2 rfl ?_
          have J11 : ∀ z10 : Int, z10 = (if (k : Int) = r then clamp ((roa s SL r k).1 - 20) 0 99 else (roa s SL r k).1) → V G 0 0 (CW D A ad K (uS S b s) Q qa tp bo e uc lr nx) 49 [(0, .ref (kB ad b)), (1, vI r), (2, vI z10), (3, vI ((roa s SL r k).2)), (4, vI (k : Int)), (5, .ref (kM ad b (k : Int)))] [] := by
            intro z10 hz10
            have bz10 : 0 ≤ z10 ∧ z10 ≤ 99 := by have := clamp_rng ((roa s SL r k).1 - 20) (low := 0) (high := 99) (by omega); rw [hz10]; split <;> omega
            refine v_iload_n hG dX0_riskWithRest_49 rfl 3 rfl ?_
            refine v_aload_n hG dX0_riskWithRest_50 rfl 0 rfl ?_
            refine cg0 hb hG dX0_riskWithRest_51 zf_X0_9 (k := 5) (by decide) (v := .ref (kP ad (hc s))) rfl ?_
            refine v_aload hG dX0_riskWithRest_54 5 rfl ?_
            refine v_iload_n hG dX0_riskWithRest_56 rfl 2 rfl ?_
            refine v_callV (k1' := 0) (k2' := 0) hG dX0_riskWithRest_57 zc_X6_riskOf ⟨zl_X0_73, zi_X6_riskOf, zs_X6_riskOf⟩ (fun l => kc6_riskOf l D A ad K S Q qa tp s bo e uc lr nx b hb (hc s) (k : Int) z10 SL (by first | assumption | omega) (by omega) (by first | assumption | omega) (by first | assumption | exact hM _ (by omega) (by omega)) (by omega) (by assumption)) rfl (cR6 (by assumption)) (fun _ h => h) ⟨by decide, by decide⟩ rfl rfl ⟨by decide, by decide⟩ (rest := [vI ((roa s SL r k).2)]) rfl (Nat.le_of_ble_eq_true rfl) (fun u12 => [vI (q_risk s SL (k : Int) z10), vI ((roa s SL r k).2)]) (fun _ => rfl) (fun u12 hu12 => ?_)
            have fu12 : 0 ≤ q_risk s SL (k : Int) z10 ∧ q_risk s SL (k : Int) z10 ≤ 99 := hu12
            refine v_iadd hG dX0_riskWithRest_60 ?_
            refine v_istore_n (lo' := [(3, vI (((roa s SL r k).2) + (q_risk s SL (k : Int) z10))), (0, .ref (kB ad b)), (1, vI r), (2, vI z10), (4, vI (k : Int)), (5, .ref (kM ad b (k : Int)))]) hG dX0_riskWithRest_61 rfl (by decide) rfl ?_
            refine v_aload hG dX0_riskWithRest_62 5 rfl ?_
            refine v_iload_n hG dX0_riskWithRest_64 rfl 3 rfl ?_
            refine cv_tiredBehindCut hb (by omega) (by omega) (by first | assumption | exact hM _ (by omega) (by omega)) (by omega) hG dX0_riskWithRest_65 zl_X0_94 ⟨by decide, by decide⟩ (Nat.le_of_ble_eq_true rfl) ?_
            refine v_istore_n (lo' := [(2, vI (clamp (z10 + q_needs s (k : Int) / 2) 0 99)), (3, vI (((roa s SL r k).2) + (q_risk s SL (k : Int) z10))), (0, .ref (kB ad b)), (1, vI r), (4, vI (k : Int)), (5, .ref (kM ad b (k : Int)))]) hG dX0_riskWithRest_68 rfl (by decide) rfl ?_
            refine v_iinc (lo' := [(4, vI ((k : Int) + 1)), (2, vI (clamp (z10 + q_needs s (k : Int) / 2) 0 99)), (3, vI (((roa s SL r k).2) + (q_risk s SL (k : Int) z10))), (0, .ref (kB ad b)), (1, vI r), (5, .ref (kM ad b (k : Int)))]) hG dX0_riskWithRest_69 4 rfl (by decide) rfl ?_
            refine v_goto (tgt := 10) hG dX0_riskWithRest_72 (by decide) ?_
            refine v_lo [3, 4, 1, 2, 0] (lo' := [(0, .ref (kB ad b)), (1, vI r), (2, vI (clamp (z10 + q_needs s (k : Int) / 2) 0 99)), (3, vI (((roa s SL r k).2) + (q_risk s SL (k : Int) z10))), (4, vI ((k : Int) + 1))]) rfl ?_
            exact ihL4 _ (by omega) (k + 1) (by omega) rfl _ (by first | omega | rfl | (simp [c7, c9, hz10]; done)) _ (by subst hz10; first | (simp only [roa, if_neg (show ¬ s (11 + (k : Int)) = 1 by omega), if_pos (show s (11 + (k : Int)) = 1 by omega)]; done) | (simp only [roa, if_pos (show s (11 + (k : Int)) = 1 by omega)]; done) | (simp only [roa, if_neg (show ¬ s (11 + (k : Int)) = 1 by omega)]; done)) _ (by subst hz10; first | (simp only [roa, if_pos (show s (11 + (k : Int)) = 1 by omega)]; done) | (simp only [roa, if_neg (show ¬ s (11 + (k : Int)) = 1 by omega)]; done))
          refine v_icmp_ne (tgt := 49) hG dX0_riskWithRest_39 (by decide) (by omega) (by omega) (fun c13 => ?_) (fun c13 => ?_)
          · skip
            refine v_lo [1, 2, 3, 4, 5, 0] (lo' := [(0, .ref (kB ad b)), (1, vI r), (2, vI ((roa s SL r k).1)), (3, vI ((roa s SL r k).2)), (4, vI (k : Int)), (5, .ref (kM ad b (k : Int)))]) rfl ?_
            exact J11 _ (by first | rfl | (simp only [if_neg c7, if_pos c9, if_neg c13]; done) | (simp [bi, c7, c9, c13]; done))
          · skip
            refine v_iload_n hG dX0_riskWithRest_42 rfl 3 rfl ?_
            refine v_bipush hG dX0_riskWithRest_43 (by decide) ?_
            refine v_callSN (k1' := 0) (k2' := 0) hG dX0_riskWithRest_45 zc_X11_lessTired ⟨zl_X0_97, zt_X11_lessTired⟩ (fun l => kc11_lessTired l D A (CW D A ad K (uS S b s) Q qa tp bo e uc lr nx) ((roa s SL r k).1) 10 (by omega) (by omega)) rfl (fun _ h => h) ⟨by decide, by decide⟩ rfl rfl ⟨by decide, by decide⟩ (rest := []) rfl (Nat.le_of_ble_eq_true rfl) (fun u14 => [vI (clamp (((roa s SL r k).1) + -2 * 10) 0 99)]) (fun _ => rfl) (fun u14 hu14 => ?_)
            have fu14 : 0 ≤ clamp (((roa s SL r k).1) + -2 * 10) 0 99 ∧ clamp (((roa s SL r k).1) + -2 * 10) 0 99 ≤ 99 := hu14
            rw [show clamp ((roa s SL r k).1 + -2 * 10) 0 99 = clamp ((roa s SL r k).1 - 20) 0 99 from by rw [show (roa s SL r k).1 + -2 * 10 = (roa s SL r k).1 - 20 by omega]]
            refine v_istore_n (lo' := [(2, vI (clamp ((roa s SL r k).1 - 20) 0 99)), (5, .ref (kM ad b (k : Int))), (0, .ref (kB ad b)), (1, vI r), (3, vI ((roa s SL r k).2)), (4, vI (k : Int))]) hG dX0_riskWithRest_48 rfl (by decide) rfl ?_
            refine v_lo [2, 3, 0, 4, 5, 1] (lo' := [(0, .ref (kB ad b)), (1, vI r), (2, vI (clamp ((roa s SL r k).1 - 20) 0 99)), (3, vI ((roa s SL r k).2)), (4, vI (k : Int)), (5, .ref (kM ad b (k : Int)))]) rfl ?_
            exact J11 _ (by first | rfl | (simp only [if_neg c7, if_pos c9, if_pos c13]; done) | (simp [bi, c7, c9, c13]; done))
  exact L4 _ 0 (by omega) rfl _ (by first | omega | rfl | (simp []; done)) _ (by first | omega | rfl | (simp []; done)) _ (by first | omega | rfl | (simp []; done))
set_option maxHeartbeats 4000000 in
set_option maxRecDepth 100000 in
theorem kc0_isFree (l : Launch) (D : Dx) (A : Nat → Prop) (ad : Nat → Nat) (K : Int → Int) (S Q qa : Nat → Int → Int) (tp : Nat → Nat) (s bo e uc lr nx : Int → Int) (b : Nat) (hb : b < 3) (pl : Int) (d : Int) (hN : NM s) (hM : GM s) (hpl : 0 ≤ pl ∧ pl ≤ 99) (hd : 1 ≤ d ∧ d ≤ 9) : CT l D A yX0_isFree cX0_isFree 4 (some .boolean) { frames := 1, cells := 0, slots := 0, locals := 21 } [.ref (kB ad b), vI pl, vI d] (CW D A ad K (uS S b s) Q qa tp bo e uc lr nx) (fun _ : Unit => some (vI (bi (allM (freeF s pl d) (s 43).toNat = true)))) (fun _ => True) (fun _ => CW D A ad K (uS S b s) Q qa tp bo e uc lr nx) := by
  refine ct_of (lo0 := [(0, .ref (kB ad b)), (1, vI pl), (2, vI d)]) (by decide) (Nat.le_of_ble_eq_true rfl) rfl ?_
  intro G hG hR
  have hN9 : 0 ≤ s 43 ∧ s 43 ≤ 8 := hN
  refine v_iconst hG dX0_isFree_0 ?_
  refine v_istore_n (lo' := [(3, vI 0), (0, .ref (kB ad b)), (1, vI pl), (2, vI d)]) hG dX0_isFree_1 rfl (by decide) rfl ?_
  refine v_lo [1, 2, 3, 0] (lo' := [(0, .ref (kB ad b)), (1, vI pl), (2, vI d), (3, vI 0)]) rfl ?_
  have L2 : ∀ mz : Nat, ∀ (k : Nat), ((k : Int) ≤ s 43) → (allM (freeF s pl d) k = true) → (s 43 - (k : Int)).toNat = mz → ∀ x1 : Int, x1 = ((k : Int)) → V G 0 0 (CW D A ad K (uS S b s) Q qa tp bo e uc lr nx) 2 [(0, .ref (kB ad b)), (1, vI pl), (2, vI d), (3, vI x1)] [] := by
    intro dL2
    induction dL2 using Nat.strongRecOn with
    | ind dL2 ihL2 =>
      intro k hq3 hq4 hq5
      intro x1 hx1
      subst hx1
      refine v_iload_n hG dX0_isFree_2 rfl 3 rfl ?_
      refine v_aload_n hG dX0_isFree_3 rfl 0 rfl ?_
      refine cg0 hb hG dX0_isFree_4 zf_X0_42 (k := 3) (by decide) (v := vI (s 43)) rfl ?_
      refine v_icmp_ge (tgt := 36) hG dX0_isFree_7 (by decide) (by omega) (by omega) (fun c6 => ?_) (fun c6 => ?_)
      · skip
        refine v_iconst hG dX0_isFree_36 ?_
        have e7 : @Eq Int (bi (allM (freeF s pl d) (s 43).toNat = true)) (1) := by rw [show (s 43).toNat = k by omega]; exact bi_pos (show allM (freeF s pl d) k = true from (by assumption))
        exact v_zreturn hG hR dX0_isFree_37 (Or.inr rfl) () (congrArg (fun z => some (vI z)) e7) (by trivial) (fun _ hM => hM)
      · skip
        refine v_aload_n hG dX0_isFree_10 rfl 0 rfl ?_
        refine cg0 hb hG dX0_isFree_11 zf_X0_17 (k := 6) (by decide) (v := .ref (kA ad b)) rfl ?_
        refine v_iload_n hG dX0_isFree_14 rfl 3 rfl ?_
        have hm3 := (hM (k : Int) (by omega) (by omega)).2.2.1
        refine ca_M (x := (k : Int)) hb (by omega) hG dX0_isFree_15 ?_
        refine cgM hb (by omega) (by omega) hG dX0_isFree_16 zf_X0_137 (k := 3) (by decide) (v := vI (s (66 + (k : Int)))) rfl ?_
        refine v_iload_n hG dX0_isFree_19 rfl 1 rfl ?_
        refine v_isub hG dX0_isFree_20 ?_
        refine v_mabs hG dX0_isFree_21 zl_X0_140 (by decide) ⟨Nat.le_refl _, Nat.le_refl _⟩ (Nat.le_of_ble_eq_true rfl) (by omega) ?_
        generalize hv8 : (if 0 ≤ (s (66 + (k : Int))) - pl then (s (66 + (k : Int))) - pl else -((s (66 + (k : Int))) - pl)) = v8
        have bv8 : 0 ≤ v8 ∧ v8 ≤ 2147483647 := by rw [← hv8]; (repeat' split) <;> omega
        refine v_iload_n hG dX0_isFree_24 rfl 2 rfl ?_
        refine v_icmp_ge (tgt := 30) hG dX0_isFree_25 (by decide) (by omega) (by omega) (fun c9 => ?_) (fun c9 => ?_)
        · skip
          refine v_iinc (lo' := [(3, vI ((k : Int) + 1)), (0, .ref (kB ad b)), (1, vI pl), (2, vI d)]) hG dX0_isFree_30 3 rfl (by decide) rfl ?_
          refine v_goto (tgt := 2) hG dX0_isFree_33 (by decide) ?_
          refine v_lo [1, 2, 3, 0] (lo' := [(0, .ref (kB ad b)), (1, vI pl), (2, vI d), (3, vI ((k : Int) + 1))]) rfl ?_
          exact ihL2 _ (by omega) (k + 1) (by omega) (by show (allM (freeF s pl d) k && freeF s pl d k) = true; rw [show allM (freeF s pl d) k = true from (by assumption), freeF_t (by unfold q_apart; omega)]; rfl) rfl _ (by first | omega | rfl | (simp [c6, ← hv8, c9]; done))
        · skip
          refine v_iconst hG dX0_isFree_28 ?_
          have e10 : @Eq Int (bi (allM (freeF s pl d) (s 43).toNat = true)) (0) := by rw [bi_neg (fun q => ?_)]; have hq := (allM_iff.mp q) k (by omega); rw [freeF_f (by unfold q_apart; omega)] at hq; exact Bool.noConfusion hq
          exact v_zreturn hG hR dX0_isFree_29 (Or.inl rfl) () (congrArg (fun z => some (vI z)) e10) (by trivial) (fun _ hM => hM)
  exact L2 _ 0 (by omega) (by rfl) rfl _ (by first | omega | rfl | (simp []; done))
set_option maxHeartbeats 4000000 in
set_option maxRecDepth 100000 in
theorem kc0_flawed (l : Launch) (D : Dx) (A : Nat → Prop) (ad : Nat → Nat) (K : Int → Int) (S Q qa : Nat → Int → Int) (tp : Nat → Nat) (s bo e uc lr nx : Int → Int) (b : Nat) (hb : b < 3) (hN : NM s) (hM : GM s) (hZ : ZU s) : CT l D A yX0_flawed cX0_flawed 3 (some .int) { frames := 0, cells := 0, slots := 0, locals := 0 } [.ref (kB ad b)] (CW D A ad K (uS S b s) Q qa tp bo e uc lr nx) (fun _ : Unit => some (vI (q_flawed s))) (fun _ => 0 ≤ q_flawed s ∧ q_flawed s < 256) (fun _ => CW D A ad K (uS S b s) Q qa tp bo e uc lr nx) := by
  refine ct_of (lo0 := [(0, .ref (kB ad b))]) (by decide) (Nat.le_of_ble_eq_true rfl) rfl ?_
  intro G hG hR
  have hN9 : 0 ≤ s 43 ∧ s 43 ≤ 8 := hN
  refine v_iconst hG dX0_flawed_0 ?_
  refine v_istore_n (lo' := [(1, vI 0), (0, .ref (kB ad b))]) hG dX0_flawed_1 rfl (by decide) rfl ?_
  refine v_iconst hG dX0_flawed_2 ?_
  refine v_istore_n (lo' := [(2, vI 0), (1, vI 0), (0, .ref (kB ad b))]) hG dX0_flawed_3 rfl (by decide) rfl ?_
  refine v_lo [2, 1, 0] (lo' := [(0, .ref (kB ad b)), (1, vI 0), (2, vI 0)]) rfl ?_
  have L3 : ∀ mz : Nat, ∀ (k : Nat), ((k : Int) ≤ s 43) → (s 43 - (k : Int)).toNat = mz → ∀ x1 : Int, x1 = ((k : Int)) → ∀ x2 : Int, x2 = (bset (fun m => flawed s m) k) → V G 0 0 (CW D A ad K (uS S b s) Q qa tp bo e uc lr nx) 4 [(0, .ref (kB ad b)), (1, vI x2), (2, vI x1)] [] := by
    intro dL3
    induction dL3 using Nat.strongRecOn with
    | ind dL3 ihL3 =>
      intro k hq4 hq5
      intro x1 hx1
      subst hx1
      intro x2 hx2
      subst hx2
      refine v_iload_n hG dX0_flawed_4 rfl 2 rfl ?_
      refine v_aload_n hG dX0_flawed_5 rfl 0 rfl ?_
      refine cg0 hb hG dX0_flawed_6 zf_X0_42 (k := 3) (by decide) (v := vI (s 43)) rfl ?_
      refine v_icmp_ge (tgt := 36) hG dX0_flawed_9 (by decide) (by omega) (by omega) (fun c6 => ?_) (fun c6 => ?_)
      · skip
        refine v_iload_n hG dX0_flawed_36 rfl 1 rfl ?_
        have e7 : @Eq Int (q_flawed s) (bset (fun m => flawed s m) k) := by unfold q_flawed; rw [show k = (s 43).toNat by omega]
        exact v_ireturn hG hR dX0_flawed_37 () (congrArg (fun z => some (vI z)) e7) (by exact bset_8 _ (by omega)) (fun _ hM => hM)
      · skip
        refine v_aload_n hG dX0_flawed_12 rfl 0 rfl ?_
        refine cg0 hb hG dX0_flawed_13 zf_X0_17 (k := 6) (by decide) (v := .ref (kA ad b)) rfl ?_
        refine v_iload_n hG dX0_flawed_16 rfl 2 rfl ?_
        refine ca_M (x := (k : Int)) hb (by omega) hG dX0_flawed_17 ?_
        refine cgM hb (by omega) (by omega) hG dX0_flawed_18 zf_X0_83 (k := 6) (by decide) (v := vI (s (19 + (k : Int)))) rfl ?_
        have hm6 := (hM (k : Int) (by omega) (by omega)).2.2.2.2.2.1
        refine v_if_eq (tgt := 30) hG dX0_flawed_21 (by decide) (by omega) (fun c8 => ?_) (fun c8 => ?_)
        · skip
          refine v_iinc (lo' := [(2, vI ((k : Int) + 1)), (0, .ref (kB ad b)), (1, vI (bset (fun m => flawed s m) k))]) hG dX0_flawed_30 2 rfl (by decide) rfl ?_
          refine v_goto (tgt := 4) hG dX0_flawed_33 (by decide) ?_
          refine v_lo [1, 2, 0] (lo' := [(0, .ref (kB ad b)), (1, vI (bset (fun m => flawed s m) k)), (2, vI ((k : Int) + 1))]) rfl ?_
          exact ihL3 _ (by omega) (k + 1) (by omega) rfl _ (by first | omega | rfl | (simp [c6, c8]; done)) _ (by first | exact bset_step (flw_t hM hZ (by omega) (by assumption)) (by omega) | exact bset_same2 (flw_f hM hZ (by omega) (by assumption)))
        · skip
          refine v_iload_n hG dX0_flawed_24 rfl 1 rfl ?_
          refine v_iconst hG dX0_flawed_25 ?_
          refine v_iload_n hG dX0_flawed_26 rfl 2 rfl ?_
          refine v_ishl hG dX0_flawed_27 (by omega) ?_
          refine v_ior hG dX0_flawed_28 ?_
          refine v_istore_n (lo' := [(1, vI (ior (bset (fun m => flawed s m) k) (1 * 2 ^ (k : Int).toNat))), (0, .ref (kB ad b)), (2, vI (k : Int))]) hG dX0_flawed_29 rfl (by decide) rfl ?_
          refine v_iinc (lo' := [(2, vI ((k : Int) + 1)), (1, vI (ior (bset (fun m => flawed s m) k) (1 * 2 ^ (k : Int).toNat))), (0, .ref (kB ad b))]) hG dX0_flawed_30 2 rfl (by decide) rfl ?_
          refine v_goto (tgt := 4) hG dX0_flawed_33 (by decide) ?_
          refine v_lo [2, 1, 0] (lo' := [(0, .ref (kB ad b)), (1, vI (ior (bset (fun m => flawed s m) k) (1 * 2 ^ (k : Int).toNat))), (2, vI ((k : Int) + 1))]) rfl ?_
          exact ihL3 _ (by omega) (k + 1) (by omega) rfl _ (by first | omega | rfl | (simp [c6, c8]; done)) _ (by first | exact bset_step (flw_t hM hZ (by omega) (by assumption)) (by omega) | exact bset_same2 (flw_f hM hZ (by omega) (by assumption)))
  exact L3 _ 0 (by omega) rfl _ (by first | omega | rfl | (simp []; done)) _ (by first | omega | rfl | (simp []; done))
set_option maxHeartbeats 4000000 in
set_option maxRecDepth 100000 in
theorem kc0_countFlaw (l : Launch) (D : Dx) (A : Nat → Prop) (ad : Nat → Nat) (K : Int → Int) (S Q qa : Nat → Int → Int) (tp : Nat → Nat) (s bo e uc lr nx : Int → Int) (b : Nat) (hb : b < 3) (f : Int) (hN : NM s) (hM : GM s) (hZ : ZU s) (hf : 1 ≤ f ∧ f ≤ 3) : CT l D A yX0_countFlaw cX0_countFlaw 4 (some .int) { frames := 0, cells := 0, slots := 0, locals := 0 } [.ref (kB ad b), vI f] (CW D A ad K (uS S b s) Q qa tp bo e uc lr nx) (fun _ : Unit => some (vI (errC s f))) (fun _ => 0 ≤ errC s f ∧ errC s f ≤ 8) (fun _ => CW D A ad K (uS S b s) Q qa tp bo e uc lr nx) := by
  refine ct_of (lo0 := [(0, .ref (kB ad b)), (1, vI f)]) (by decide) (Nat.le_of_ble_eq_true rfl) rfl ?_
  intro G hG hR
  have hN9 : 0 ≤ s 43 ∧ s 43 ≤ 8 := hN
  refine v_iconst hG dX0_countFlaw_0 ?_
  refine v_istore_n (lo' := [(2, vI 0), (0, .ref (kB ad b)), (1, vI f)]) hG dX0_countFlaw_1 rfl (by decide) rfl ?_
  refine v_iconst hG dX0_countFlaw_2 ?_
  refine v_istore_n (lo' := [(3, vI 0), (2, vI 0), (0, .ref (kB ad b)), (1, vI f)]) hG dX0_countFlaw_3 rfl (by decide) rfl ?_
  refine v_lo [2, 3, 1, 0] (lo' := [(0, .ref (kB ad b)), (1, vI f), (2, vI 0), (3, vI 0)]) rfl ?_
  have L3 : ∀ mz : Nat, ∀ (k : Nat), ((k : Int) ≤ s 43) → (s 43 - (k : Int)).toNat = mz → ∀ x1 : Int, x1 = ((k : Int)) → ∀ x2 : Int, x2 = (cntB (errF s f) k) → V G 0 0 (CW D A ad K (uS S b s) Q qa tp bo e uc lr nx) 4 [(0, .ref (kB ad b)), (1, vI f), (2, vI x2), (3, vI x1)] [] := by
    intro dL3
    induction dL3 using Nat.strongRecOn with
    | ind dL3 ihL3 =>
      intro k hq4 hq5
      intro x1 hx1
      subst hx1
      intro x2 hx2
      subst hx2
      have hcb := cntB_rng (errF s f) k
      refine v_iload_n hG dX0_countFlaw_4 rfl 3 rfl ?_
      refine v_aload_n hG dX0_countFlaw_5 rfl 0 rfl ?_
      refine cg0 hb hG dX0_countFlaw_6 zf_X0_42 (k := 3) (by decide) (v := vI (s 43)) rfl ?_
      refine v_icmp_ge (tgt := 34) hG dX0_countFlaw_9 (by decide) (by omega) (by omega) (fun c6 => ?_) (fun c6 => ?_)
      · skip
        refine v_iload_n hG dX0_countFlaw_34 rfl 2 rfl ?_
        have e7 : @Eq Int (errC s f) (cntB (errF s f) k) := by rw [show k = (s 43).toNat by omega]; rfl
        exact v_ireturn hG hR dX0_countFlaw_35 () (congrArg (fun z => some (vI z)) e7) (by exact errC_rng hN f) (fun _ hM => hM)
      · skip
        refine v_aload_n hG dX0_countFlaw_12 rfl 0 rfl ?_
        refine cg0 hb hG dX0_countFlaw_13 zf_X0_17 (k := 6) (by decide) (v := .ref (kA ad b)) rfl ?_
        refine v_iload_n hG dX0_countFlaw_16 rfl 3 rfl ?_
        refine ca_M (x := (k : Int)) hb (by omega) hG dX0_countFlaw_17 ?_
        have hm6 := (hM (k : Int) (by omega) (by omega)).2.2.2.2.2.1
        refine cgM hb (by omega) (by omega) hG dX0_countFlaw_18 zf_X0_83 (k := 6) (by decide) (v := vI (s (19 + (k : Int)))) rfl ?_
        refine v_iload_n hG dX0_countFlaw_21 rfl 1 rfl ?_
        refine v_icmp_ne (tgt := 28) hG dX0_countFlaw_22 (by decide) (by omega) (by omega) (fun c8 => ?_) (fun c8 => ?_)
        · skip
          refine v_iinc (lo' := [(3, vI ((k : Int) + 1)), (0, .ref (kB ad b)), (1, vI f), (2, vI (cntB (errF s f) k))]) hG dX0_countFlaw_28 3 rfl (by decide) rfl ?_
          refine v_goto (tgt := 4) hG dX0_countFlaw_31 (by decide) ?_
          refine v_lo [1, 2, 3, 0] (lo' := [(0, .ref (kB ad b)), (1, vI f), (2, vI (cntB (errF s f) k)), (3, vI ((k : Int) + 1))]) rfl ?_
          exact ihL3 _ (by omega) (k + 1) (by omega) rfl _ (by first | omega | rfl | (simp [c6, c8]; done)) _ (by first | exact cnt_t (errF_t hM hZ hf.1 (by omega) (by assumption)) | (have hq := cnt_f (errF_f (s := s) (f := f) (k := k) (by assumption)); omega))
        · skip
          refine v_iinc (lo' := [(2, vI ((cntB (errF s f) k) + 1)), (0, .ref (kB ad b)), (1, vI f), (3, vI (k : Int))]) hG dX0_countFlaw_25 2 rfl (by decide) rfl ?_
          refine v_iinc (lo' := [(3, vI ((k : Int) + 1)), (2, vI ((cntB (errF s f) k) + 1)), (0, .ref (kB ad b)), (1, vI f)]) hG dX0_countFlaw_28 3 rfl (by decide) rfl ?_
          refine v_goto (tgt := 4) hG dX0_countFlaw_31 (by decide) ?_
          refine v_lo [2, 3, 1, 0] (lo' := [(0, .ref (kB ad b)), (1, vI f), (2, vI ((cntB (errF s f) k) + 1)), (3, vI ((k : Int) + 1))]) rfl ?_
          exact ihL3 _ (by omega) (k + 1) (by omega) rfl _ (by first | omega | rfl | (simp [c6, c8]; done)) _ (by first | exact cnt_t (errF_t hM hZ hf.1 (by omega) (by assumption)) | (have hq := cnt_f (errF_f (s := s) (f := f) (k := k) (by assumption)); omega))
  exact L3 _ 0 (by omega) rfl _ (by first | omega | rfl | (simp []; done)) _ (by first | omega | rfl | (simp []; done))
set_option maxHeartbeats 4000000 in
set_option maxRecDepth 100000 in
theorem kc0_provedBy (l : Launch) (D : Dx) (A : Nat → Prop) (ad : Nat → Nat) (K : Int → Int) (S Q qa : Nat → Int → Int) (tp : Nat → Nat) (s bo e uc lr nx : Int → Int) (b : Nat) (hb : b < 3) (e0 : Int) (SL : List Int) (hN : NM s) (hM : GM s) (hP : PL s) (hCH : CHP Q qa s SL) (hZ : ZU s) (he : 0 ≤ e0 ∧ e0 ≤ 9) : CT l D A yX0_provedBy cX0_provedBy 5 (some .int) { frames := 5, cells := 0, slots := 0, locals := 112 } [.ref (kB ad b), vI e0] (CW D A ad K (uS S b s) Q qa tp bo e uc lr nx) (fun _ : Unit => some (vI (q_proof s e0))) (fun _ => 0 ≤ q_proof s e0 ∧ q_proof s e0 < 256) (fun _ => CW D A ad K (uS S b s) Q qa tp bo e uc lr nx) := by
  refine ct_of (lo0 := [(0, .ref (kB ad b)), (1, vI e0)]) (by decide) (Nat.le_of_ble_eq_true rfl) rfl ?_
  intro G hG hR
  have hN9 : 0 ≤ s 43 ∧ s 43 ≤ 8 := hN
  refine v_iconst hG dX0_provedBy_0 ?_
  refine v_istore_n (lo' := [(2, vI 0), (0, .ref (kB ad b)), (1, vI e0)]) hG dX0_provedBy_1 rfl (by decide) rfl ?_
  refine v_iconst hG dX0_provedBy_2 ?_
  refine v_istore_n (lo' := [(3, vI 0), (2, vI 0), (0, .ref (kB ad b)), (1, vI e0)]) hG dX0_provedBy_3 rfl (by decide) rfl ?_
  refine v_lo [2, 3, 1, 0] (lo' := [(0, .ref (kB ad b)), (1, vI e0), (2, vI 0), (3, vI 0)]) rfl ?_
  have L3 : ∀ mz : Nat, ∀ (k : Nat), ((k : Int) ≤ s 43) → (s 43 - (k : Int)).toNat = mz → ∀ x1 : Int, x1 = ((k : Int)) → ∀ x2 : Int, x2 = (bset (proF s e0) k) → V G 0 0 (CW D A ad K (uS S b s) Q qa tp bo e uc lr nx) 4 [(0, .ref (kB ad b)), (1, vI e0), (2, vI x2), (3, vI x1)] [] := by
    intro dL3
    induction dL3 using Nat.strongRecOn with
    | ind dL3 ihL3 =>
      intro k hq4 hq5
      intro x1 hx1
      subst hx1
      intro x2 hx2
      subst hx2
      refine v_iload_n hG dX0_provedBy_4 rfl 3 rfl ?_
      refine v_aload_n hG dX0_provedBy_5 rfl 0 rfl ?_
      refine cg0 hb hG dX0_provedBy_6 zf_X0_42 (k := 3) (by decide) (v := vI (s 43)) rfl ?_
      refine v_icmp_ge (tgt := 54) hG dX0_provedBy_9 (by decide) (by omega) (by omega) (fun c6 => ?_) (fun c6 => ?_)
      · skip
        refine v_iload_n hG dX0_provedBy_54 rfl 2 rfl ?_
        have e7 : @Eq Int (q_proof s e0) (bset (proF s e0) k) := by unfold q_proof; rw [show k = (s 43).toNat by omega]
        exact v_ireturn hG hR dX0_provedBy_55 () (congrArg (fun z => some (vI z)) e7) (by exact bset_8 _ (by omega)) (fun _ hM => hM)
      · skip
        refine v_aload_n hG dX0_provedBy_12 rfl 0 rfl ?_
        refine cg0 hb hG dX0_provedBy_13 zf_X0_17 (k := 6) (by decide) (v := .ref (kA ad b)) rfl ?_
        refine v_iload_n hG dX0_provedBy_16 rfl 3 rfl ?_
        refine ca_M (x := (k : Int)) hb (by omega) hG dX0_provedBy_17 ?_
        refine v_astore (lo' := [(4, .ref (kM ad b (k : Int))), (0, .ref (kB ad b)), (1, vI e0), (2, vI (bset (proF s e0) k)), (3, vI (k : Int))]) hG dX0_provedBy_18 (by decide) rfl ?_
        refine v_aload hG dX0_provedBy_20 0 rfl ?_
        refine cgM hb (by omega) (by omega) hG dX0_provedBy_22 zf_X0_83 (k := 6) (by decide) (v := vI (s (19 + (k : Int)))) rfl ?_
        have hm6 := (hM (k : Int) (by omega) (by omega)).2.2.2.2.2.1
        refine v_if_eq (tgt := 48) hG dX0_provedBy_25 (by decide) (by omega) (fun c8 => ?_) (fun c8 => ?_)
        · skip
          refine v_iinc (lo' := [(3, vI ((k : Int) + 1)), (4, .ref (kM ad b (k : Int))), (0, .ref (kB ad b)), (1, vI e0), (2, vI (bset (proF s e0) k))]) hG dX0_provedBy_48 4 rfl (by decide) rfl ?_
          refine v_goto (tgt := 4) hG dX0_provedBy_51 (by decide) ?_
          refine v_lo [2, 3, 4, 0] (lo' := [(0, .ref (kB ad b)), (1, vI e0), (2, vI (bset (proF s e0) k)), (3, vI ((k : Int) + 1))]) rfl ?_
          exact ihL3 _ (by omega) (k + 1) (by omega) rfl _ (by first | omega | rfl | (simp [c6, c8]; done)) _ (by first | exact bset_step (proF_t2 hM hZ (by omega) (by assumption) (by omega)) (by omega) | exact bset_same2 (proF_g1 hM hZ (by omega) (by assumption)) | exact bset_same2 (proF_f2 (by omega)))
        · skip
          refine v_aload_n hG dX0_provedBy_28 rfl 1 rfl ?_
          refine v_aload hG dX0_provedBy_29 0 rfl ?_
          refine v_iconst hG dX0_provedBy_31 ?_
          refine v_callV (k1' := 0) (k2' := 0) hG dX0_provedBy_32 zc_X0_darkBehind ⟨zl_X0_127, zi_X0_darkBehind, zs_X0_darkBehind⟩ (fun l => kc0_darkBehind l D A ad K S Q qa tp s bo e uc lr nx b hb (k : Int) 0 SL (by omega) (by first | assumption | omega) (by first | assumption | exact hM _ (by omega) (by omega)) (by assumption) (by assumption) (by omega)) rfl (cR0 hb) (fun _ h => h) ⟨by decide, by decide⟩ rfl rfl ⟨by decide, by decide⟩ (rest := []) rfl (Nat.le_of_ble_eq_true rfl) (fun u9 => [vI (q_dk s (k : Int) 0)]) (fun _ => rfl) (fun u9 hu9 => ?_)
          have fu9 : 0 ≤ q_dk s (k : Int) 0 ∧ q_dk s (k : Int) 0 ≤ 30 := hu9
          refine v_iload_n hG dX0_provedBy_35 rfl 2 rfl ?_
          refine v_iadd hG dX0_provedBy_36 ?_
          refine v_bipush hG dX0_provedBy_37 (by decide) ?_
          refine v_icmp_lt (tgt := 48) hG dX0_provedBy_39 (by decide) (by omega) (by omega) (fun c10 => ?_) (fun c10 => ?_)
          · skip
            refine v_iinc (lo' := [(3, vI ((k : Int) + 1)), (4, .ref (kM ad b (k : Int))), (0, .ref (kB ad b)), (1, vI e0), (2, vI (bset (proF s e0) k))]) hG dX0_provedBy_48 4 rfl (by decide) rfl ?_
            refine v_goto (tgt := 4) hG dX0_provedBy_51 (by decide) ?_
            refine v_lo [2, 3, 4, 0] (lo' := [(0, .ref (kB ad b)), (1, vI e0), (2, vI (bset (proF s e0) k)), (3, vI ((k : Int) + 1))]) rfl ?_
            exact ihL3 _ (by omega) (k + 1) (by omega) rfl _ (by first | omega | rfl | (simp [c6, c8, c10]; done)) _ (by first | exact bset_step (proF_t2 hM hZ (by omega) (by assumption) (by omega)) (by omega) | exact bset_same2 (proF_g1 hM hZ (by omega) (by assumption)) | exact bset_same2 (proF_f2 (by omega)))
          · skip
            refine v_iload_n hG dX0_provedBy_42 rfl 3 rfl ?_
            refine v_iconst hG dX0_provedBy_43 ?_
            refine v_iload_n hG dX0_provedBy_44 rfl 4 rfl ?_
            refine v_ishl hG dX0_provedBy_45 (by omega) ?_
            refine v_ior hG dX0_provedBy_46 ?_
            refine v_istore_n (lo' := [(2, vI (ior (bset (proF s e0) k) (1 * 2 ^ (k : Int).toNat))), (4, .ref (kM ad b (k : Int))), (0, .ref (kB ad b)), (1, vI e0), (3, vI (k : Int))]) hG dX0_provedBy_47 rfl (by decide) rfl ?_
            refine v_iinc (lo' := [(3, vI ((k : Int) + 1)), (2, vI (ior (bset (proF s e0) k) (1 * 2 ^ (k : Int).toNat))), (4, .ref (kM ad b (k : Int))), (0, .ref (kB ad b)), (1, vI e0)]) hG dX0_provedBy_48 4 rfl (by decide) rfl ?_
            refine v_goto (tgt := 4) hG dX0_provedBy_51 (by decide) ?_
            refine v_lo [3, 4, 1, 0] (lo' := [(0, .ref (kB ad b)), (1, vI e0), (2, vI (ior (bset (proF s e0) k) (1 * 2 ^ (k : Int).toNat))), (3, vI ((k : Int) + 1))]) rfl ?_
            exact ihL3 _ (by omega) (k + 1) (by omega) rfl _ (by first | omega | rfl | (simp [c6, c8, c10]; done)) _ (by first | exact bset_step (proF_t2 hM hZ (by omega) (by assumption) (by omega)) (by omega) | exact bset_same2 (proF_g1 hM hZ (by omega) (by assumption)) | exact bset_same2 (proF_f2 (by omega)))
  exact L3 _ 0 (by omega) rfl _ (by first | omega | rfl | (simp []; done)) _ (by first | omega | rfl | (simp []; done))
set_option maxHeartbeats 4000000 in
set_option maxRecDepth 100000 in
theorem kc0_besideOf (l : Launch) (D : Dx) (A : Nat → Prop) (ad : Nat → Nat) (K : Int → Int) (S Q qa : Nat → Int → Int) (tp : Nat → Nat) (s bo e uc lr nx : Int → Int) (b : Nat) (hb : b < 3) (m : Int) (h8 : 0 ≤ m ∧ m < s 43) (hN : NM s) (hM : GM s) : CT l D A yX0_besideOf cX0_besideOf 5 (some .int) { frames := 2, cells := 0, slots := 0, locals := 43 } [.ref (kB ad b), vI m] (CW D A ad K (uS S b s) Q qa tp bo e uc lr nx) (fun _ : Unit => some (vI (q_bes s m))) (fun _ => 0 ≤ q_bes s m ∧ q_bes s m < 256) (fun _ => CW D A ad K (uS S b s) Q qa tp bo e uc lr nx) := by
  refine ct_of (lo0 := [(0, .ref (kB ad b)), (1, vI m)]) (by decide) (Nat.le_of_ble_eq_true rfl) rfl ?_
  intro G hG hR
  have hN9 : 0 ≤ s 43 ∧ s 43 ≤ 8 := hN
  have hp3 := (hM m h8.1 h8.2).2.2.1
  refine v_iconst hG dX0_besideOf_0 ?_
  refine v_istore_n (lo' := [(2, vI 0), (0, .ref (kB ad b)), (1, vI m)]) hG dX0_besideOf_1 rfl (by decide) rfl ?_
  refine v_aload_n hG dX0_besideOf_2 rfl 1 rfl ?_
  refine v_iload_n hG dX0_besideOf_3 rfl 2 rfl ?_
  refine v_callV (k1' := 0) (k2' := 0) hG dX0_besideOf_4 zc_X0_markAt ⟨zl_X0_133, zi_X0_markAt, zs_X0_markAt⟩ (fun l => kc0_markAt_in l D A ad K S Q qa tp s bo e uc lr nx b hb m (by assumption) (by omega)) rfl (cR0 hb) (fun _ h => h) ⟨by decide, by decide⟩ rfl rfl ⟨by decide, by decide⟩ (rest := []) rfl (Nat.le_of_ble_eq_true rfl) (fun u1 => [.ref (kM ad b m)]) (fun _ => rfl) (fun u1 hu1 => ?_)
  refine v_astore_n (lo' := [(3, .ref (kM ad b m)), (2, vI 0), (0, .ref (kB ad b)), (1, vI m)]) hG dX0_besideOf_7 rfl (by decide) rfl ?_
  refine v_iconst hG dX0_besideOf_8 ?_
  refine v_istore (lo' := [(4, vI 0), (3, .ref (kM ad b m)), (2, vI 0), (0, .ref (kB ad b)), (1, vI m)]) hG dX0_besideOf_9 (by decide) rfl ?_
  refine v_lo [3, 4, 2, 1, 0] (lo' := [(0, .ref (kB ad b)), (1, vI m), (2, vI 0), (3, .ref (kM ad b m)), (4, vI 0)]) rfl ?_
  have L4 : ∀ mz : Nat, ∀ (k : Nat), ((k : Int) ≤ s 43) → (s 43 - (k : Int)).toNat = mz → ∀ x2 : Int, x2 = ((k : Int)) → ∀ x3 : Int, x3 = (bset (besF s m) k) → V G 0 0 (CW D A ad K (uS S b s) Q qa tp bo e uc lr nx) 11 [(0, .ref (kB ad b)), (1, vI m), (2, vI x3), (3, .ref (kM ad b m)), (4, vI x2)] [] := by
    intro dL4
    induction dL4 using Nat.strongRecOn with
    | ind dL4 ihL4 =>
      intro k hq5 hq6
      intro x2 hx2
      subst hx2
      intro x3 hx3
      subst hx3
      refine v_aload_n hG dX0_besideOf_11 rfl 3 rfl ?_
      refine v_ifnull hG dX0_besideOf_12 ?_
      refine v_iload hG dX0_besideOf_15 4 rfl ?_
      refine v_aload_n hG dX0_besideOf_17 rfl 0 rfl ?_
      refine cg0 hb hG dX0_besideOf_18 zf_X0_42 (k := 3) (by decide) (v := vI (s 43)) rfl ?_
      refine v_icmp_ge (tgt := 65) hG dX0_besideOf_21 (by decide) (by omega) (by omega) (fun c7 => ?_) (fun c7 => ?_)
      · skip
        refine v_iload_n hG dX0_besideOf_65 rfl 2 rfl ?_
        have e8 : @Eq Int (q_bes s m) (bset (besF s m) k) := by unfold q_bes; rw [show k = (s 43).toNat by omega]
        exact v_ireturn hG hR dX0_besideOf_66 () (congrArg (fun z => some (vI z)) e8) (by exact bset_8 _ (by omega)) (fun _ hM => hM)
      · skip
        refine v_iload hG dX0_besideOf_24 4 rfl ?_
        refine v_iload_n hG dX0_besideOf_26 rfl 1 rfl ?_
        refine v_icmp_eq (tgt := 59) hG dX0_besideOf_27 (by decide) (by omega) (by omega) (fun c9 => ?_) (fun c9 => ?_)
        · skip
          refine v_iinc (lo' := [(4, vI ((k : Int) + 1)), (0, .ref (kB ad b)), (1, vI m), (2, vI (bset (besF s m) k)), (3, .ref (kM ad b m))]) hG dX0_besideOf_59 4 rfl (by decide) rfl ?_
          refine v_goto (tgt := 11) hG dX0_besideOf_62 (by decide) ?_
          refine v_lo [1, 2, 3, 4, 0] (lo' := [(0, .ref (kB ad b)), (1, vI m), (2, vI (bset (besF s m) k)), (3, .ref (kM ad b m)), (4, vI ((k : Int) + 1))]) rfl ?_
          exact ihL4 _ (by omega) (k + 1) (by omega) rfl _ (by first | omega | rfl | (simp [c7, c9]; done)) _ (by first | exact bset_step (besF_t (by assumption) (by assumption) (by omega)) (by omega) | exact bset_same2 (besF_f1 (by assumption)) | exact bset_same2 (besF_f2 (by assumption) (by omega)))
        · skip
          refine v_aload_n hG dX0_besideOf_30 rfl 0 rfl ?_
          refine cg0 hb hG dX0_besideOf_31 zf_X0_17 (k := 6) (by decide) (v := .ref (kA ad b)) rfl ?_
          refine v_iload hG dX0_besideOf_34 4 rfl ?_
          refine ca_M (x := (k : Int)) hb (by omega) hG dX0_besideOf_36 ?_
          have hm3 := (hM (k : Int) (by omega) (by omega)).2.2.1
          refine cgM hb (by omega) (by omega) hG dX0_besideOf_37 zf_X0_137 (k := 3) (by decide) (v := vI (s (66 + (k : Int)))) rfl ?_
          refine v_aload_n hG dX0_besideOf_40 rfl 3 rfl ?_
          refine cgM hb (by omega) (by omega) hG dX0_besideOf_41 zf_X0_137 (k := 3) (by decide) (v := vI (s (66 + m))) rfl ?_
          refine v_isub hG dX0_besideOf_44 ?_
          refine v_mabs hG dX0_besideOf_45 zl_X0_140 (by decide) ⟨Nat.le_refl _, Nat.le_refl _⟩ (Nat.le_of_ble_eq_true rfl) (by omega) ?_
          generalize hv10 : (if 0 ≤ (s (66 + (k : Int))) - (s (66 + m)) then (s (66 + (k : Int))) - (s (66 + m)) else -((s (66 + (k : Int))) - (s (66 + m)))) = v10
          have bv10 : 0 ≤ v10 ∧ v10 ≤ 2147483647 := by rw [← hv10]; (repeat' split) <;> omega
          refine v_iconst hG dX0_besideOf_48 ?_
          refine v_icmp_gt (tgt := 59) hG dX0_besideOf_49 (by decide) (by omega) (by omega) (fun c11 => ?_) (fun c11 => ?_)
          · skip
            refine v_iinc (lo' := [(4, vI ((k : Int) + 1)), (0, .ref (kB ad b)), (1, vI m), (2, vI (bset (besF s m) k)), (3, .ref (kM ad b m))]) hG dX0_besideOf_59 4 rfl (by decide) rfl ?_
            refine v_goto (tgt := 11) hG dX0_besideOf_62 (by decide) ?_
            refine v_lo [1, 2, 3, 4, 0] (lo' := [(0, .ref (kB ad b)), (1, vI m), (2, vI (bset (besF s m) k)), (3, .ref (kM ad b m)), (4, vI ((k : Int) + 1))]) rfl ?_
            exact ihL4 _ (by omega) (k + 1) (by omega) rfl _ (by first | omega | rfl | (simp [c7, c9, ← hv10, c11]; done)) _ (by first | exact bset_step (besF_t (by assumption) (by assumption) (by omega)) (by omega) | exact bset_same2 (besF_f1 (by assumption)) | exact bset_same2 (besF_f2 (by assumption) (by omega)))
          · skip
            refine v_iload_n hG dX0_besideOf_52 rfl 2 rfl ?_
            refine v_iconst hG dX0_besideOf_53 ?_
            refine v_iload hG dX0_besideOf_54 4 rfl ?_
            refine v_ishl hG dX0_besideOf_56 (by omega) ?_
            refine v_ior hG dX0_besideOf_57 ?_
            refine v_istore_n (lo' := [(2, vI (ior (bset (besF s m) k) (1 * 2 ^ (k : Int).toNat))), (0, .ref (kB ad b)), (1, vI m), (3, .ref (kM ad b m)), (4, vI (k : Int))]) hG dX0_besideOf_58 rfl (by decide) rfl ?_
            refine v_iinc (lo' := [(4, vI ((k : Int) + 1)), (2, vI (ior (bset (besF s m) k) (1 * 2 ^ (k : Int).toNat))), (0, .ref (kB ad b)), (1, vI m), (3, .ref (kM ad b m))]) hG dX0_besideOf_59 4 rfl (by decide) rfl ?_
            refine v_goto (tgt := 11) hG dX0_besideOf_62 (by decide) ?_
            refine v_lo [2, 3, 1, 4, 0] (lo' := [(0, .ref (kB ad b)), (1, vI m), (2, vI (ior (bset (besF s m) k) (1 * 2 ^ (k : Int).toNat))), (3, .ref (kM ad b m)), (4, vI ((k : Int) + 1))]) rfl ?_
            exact ihL4 _ (by omega) (k + 1) (by omega) rfl _ (by first | omega | rfl | (simp [c7, c9, ← hv10, c11]; done)) _ (by first | exact bset_step (besF_t (by assumption) (by assumption) (by omega)) (by omega) | exact bset_same2 (besF_f1 (by assumption)) | exact bset_same2 (besF_f2 (by assumption) (by omega)))
  exact L4 _ 0 (by omega) rfl _ (by first | omega | rfl | (simp []; done)) _ (by first | omega | rfl | (simp []; done))
