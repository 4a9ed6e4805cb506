/-! THE CLASS: what a plate says -/
/-- a step as the class keeps it -/
def cvO (op : Int) : Int := if op < 0 then op else (op % 8 * 3 + op / 8 % 4) * 100 + op / 32
def okO (op : Int) : Prop := -10 < op ∧ op < 3200
def evl (by' : Int → Int) : List Int → List Bool → List Bool
  | [], S => S
  | op :: r, S => evl by' r (evalOp by' op S)
def pb : List Bool → Nat
  | [] => 0
  | b :: r => 2 * pb r + (if b then 1 else 0)
theorem pb_lt : ∀ S : List Bool, pb S < 2 ^ S.length
  | [] => by simp [pb]
  | b :: r => by
    have := pb_lt r
    rw [List.length_cons, Nat.pow_succ]
    unfold pb
    split <;> omega
theorem pb_rng {S : List Bool} (h : S.length ≤ 21) : pb S < 2097152 := by
  have h1 := pb_lt S
  have h2 : 2 ^ S.length ≤ 2 ^ 21 := Nat.pow_le_pow_right (by omega) h
  omega
theorem nat_and_m2 {a : Nat} (h : a < 2147483648) : a &&& 4294967294 = 2 * (a / 2) := by
  apply Nat.eq_of_testBit_eq
  intro i
  rw [Nat.testBit_and]
  cases i with
  | zero => simp [Nat.testBit_zero]
  | succ i =>
    rw [Nat.testBit_succ, Nat.testBit_succ, Nat.testBit_succ, show 4294967294 / 2 = 2 ^ 31 - 1 from rfl, Nat.testBit_two_pow_sub_one, Nat.mul_div_cancel_left _ (by decide)]
    by_cases hi : i < 31
    · simp [hi]
    · have : a / 2 < 2 ^ i := Nat.lt_of_lt_of_le (show a / 2 < 2 ^ 31 by omega) (Nat.pow_le_pow_right (by omega) (by omega))
      rw [Nat.testBit_lt_two_pow this]
      simp
theorem iand_m2 {a : Nat} (h : a < 2147483648) : iand (a : Int) (-2) = ((2 * (a / 2) : Nat) : Int) := by
  unfold iand
  rw [ii_natE, show ii (-2) = nI 4294967294 from by decide +kernel, nI_and, nat_and_m2 h, nI_toInt (by omega)]
theorem iand_m1 {a : Nat} (h : a < 2147483648) : iand (a : Int) (-1) = (a : Int) := by
  have e : a &&& 4294967295 = a := by
    rw [show 4294967295 = 2 ^ 32 - 1 from rfl, Nat.and_two_pow_sub_one_eq_mod]
    omega
  unfold iand
  rw [ii_natE, show ii (-1) = nI 4294967295 from by decide +kernel, nI_and, e, nI_toInt h]
theorem ior_1 {a : Nat} (h : a < 2147483647) : ior (a : Int) 1 = ((2 * (a / 2) + 1 : Nat) : Int) := by
  have e : a ||| 1 = 2 * (a / 2) + 1 := by
    rcases Nat.mod_two_eq_zero_or_one a with q | q
    · have h1 : a = 2 ^ 1 * (a / 2) := by omega
      have := Nat.two_pow_add_eq_or_of_lt (i := 1) (b := 1) (by decide) (a / 2)
      rw [← h1] at this
      omega
    · have h1 : a = 2 ^ 1 * (a / 2) + 1 := by omega
      have := Nat.two_pow_add_eq_or_of_lt (i := 1) (b := 1) (by decide) (a / 2)
      rw [← h1] at this
      rw [this, Nat.or_assoc, Nat.or_self, ← this]
      omega
  have := ior_nat (a := a) (b := 1) (by rw [e]; omega)
  rw [e] at this
  exact this
theorem ixor_1 {a : Nat} (h : a < 2147483646) : ixor (a : Int) 1 = ((2 * (a / 2) + (1 - a % 2) : Nat) : Int) := by
  have e : a ^^^ 1 = 2 * (a / 2) + (1 - a % 2) := by
    apply Nat.eq_of_testBit_eq
    intro i
    rw [Nat.testBit_xor]
    cases i with
    | zero =>
      rw [Nat.testBit_zero, Nat.testBit_zero, Nat.testBit_zero]
      rcases Nat.mod_two_eq_zero_or_one a with q | q
      · rw [q, show (2 * (a / 2) + (1 - 0)) % 2 = 1 by omega]; rfl
      · rw [q, show (2 * (a / 2) + (1 - 1)) % 2 = 0 by omega]; rfl
    | succ i =>
      rw [Nat.testBit_succ, Nat.testBit_succ, Nat.testBit_succ, show (2 * (a / 2) + (1 - a % 2)) / 2 = a / 2 by omega]
      simp
  unfold ixor
  rw [ii_natE, show ii 1 = nI 1 from by decide +kernel, nI_xor, e, nI_toInt (by omega)]
theorem iand_pb {S : List Bool} (h : S.length ≤ 21) : iand (pb S : Int) 1 = bi (S.headD false = true) := by
  have := pb_rng h
  rw [iand_1 (by omega)]
  cases S with
  | nil => rfl
  | cons b r =>
    show ((2 * pb r + (if b then 1 else 0) : Nat) : Int) % 2 = bi (b = true)
    cases b
    · rw [bi_neg (by decide)]; simp
    · rw [bi_pos rfl]; simp
theorem pb_pushT {S : List Bool} {by' : Int → Int} {op : Int} (h : S.length ≤ 20) (h0 : 0 ≤ op) (ht : testOp by' op = true) : ior ((pb S : Int) * 2 ^ (1 : Int).toNat) 1 = (pb (evalOp by' op S) : Int) := by
  have := pb_rng (S := S) (by omega)
  rw [show (pb S : Int) * 2 ^ (1 : Int).toNat = ((2 * pb S : Nat) : Int) by show (pb S : Int) * 2 ^ 1 = _; omega, ior_1 (by omega)]
  unfold evalOp
  rw [if_pos h0, ht]
  show ((2 * (2 * pb S / 2) + 1 : Nat) : Int) = ((2 * pb S + 1 : Nat) : Int)
  omega
theorem pb_pushF {S : List Bool} {by' : Int → Int} {op : Int} (h : S.length ≤ 20) (h0 : 0 ≤ op) (ht : ¬ testOp by' op = true) : ior ((pb S : Int) * 2 ^ (1 : Int).toNat) 0 = (pb (evalOp by' op S) : Int) := by
  have := pb_rng (S := S) (by omega)
  rw [show (pb S : Int) * 2 ^ (1 : Int).toNat = ((2 * pb S : Nat) : Int) by show (pb S : Int) * 2 ^ 1 = _; omega, ior_0 (by omega)]
  unfold evalOp
  rw [if_pos h0, Bool.not_eq_true _ |>.mp ht]
  rfl
theorem pb_not {S : List Bool} {by' : Int → Int} {op : Int} (h : S.length ≤ 20) (hl : 1 ≤ S.length) (h0 : op = -1) : ixor (pb S : Int) 1 = (pb (evalOp by' op S) : Int) := by
  have hr := pb_rng (S := S) (by omega)
  rw [ixor_1 (by omega)]
  cases S with
  | nil => exact absurd hl (by decide)
  | cons b r =>
    unfold evalOp
    rw [if_neg (by omega), if_pos h0]
    show ((2 * ((2 * pb r + (if b then 1 else 0)) / 2) + (1 - (2 * pb r + (if b then 1 else 0)) % 2) : Nat) : Int) = ((2 * pb r + (if (!b) then 1 else 0) : Nat) : Int)
    cases b <;> simp <;> omega
theorem pb_half {b : Bool} {r : List Bool} : (pb (b :: r) : Int) / 2 ^ (1 : Int).toNat = (pb r : Int) := by
  show ((2 * pb r + (if b then 1 else 0) : Nat) : Int) / 2 ^ 1 = _
  split <;> omega
theorem pb_and {S : List Bool} {by' : Int → Int} {op : Int} (h : S.length ≤ 20) (hl : 2 ≤ S.length) (h0 : op = -2) : iand ((pb S : Int) / 2 ^ (1 : Int).toNat) (ior (-2) (iand (pb S : Int) 1)) = (pb (evalOp by' op S) : Int) := by
  cases S with
  | nil => exact absurd hl (by decide)
  | cons b r =>
    cases r with
    | nil => exact absurd hl (by simp)
    | cons c r =>
      have hr := pb_rng (S := c :: r) (by rw [List.length_cons] at h; omega)
      rw [iand_pb (by omega), pb_half]
      unfold evalOp
      rw [if_neg (by omega), if_neg (by omega), if_pos h0]
      show iand (pb (c :: r) : Int) (ior (-2) (bi (b = true))) = (pb ((c && b) :: r) : Int)
      cases b
      · rw [bi_neg (by decide), show ior (-2) 0 = -2 from by decide +kernel, iand_m2 (by omega), Bool.and_false]
        show ((2 * ((2 * pb r + (if c then 1 else 0)) / 2) : Nat) : Int) = ((2 * pb r + 0 : Nat) : Int)
        split <;> omega
      · rw [bi_pos rfl, show ior (-2) 1 = -1 from by decide +kernel, iand_m1 (by omega), Bool.and_true]
theorem pb_or {S : List Bool} {by' : Int → Int} {op : Int} (h : S.length ≤ 20) (hl : 2 ≤ S.length) (h0 : op = -3) : ior ((pb S : Int) / 2 ^ (1 : Int).toNat) (iand (pb S : Int) 1) = (pb (evalOp by' op S) : Int) := by
  cases S with
  | nil => exact absurd hl (by decide)
  | cons b r =>
    cases r with
    | nil => exact absurd hl (by simp)
    | cons c r =>
      have hr := pb_rng (S := c :: r) (by rw [List.length_cons] at h; omega)
      rw [iand_pb (by omega), pb_half]
      unfold evalOp
      rw [if_neg (by omega), if_neg (by omega), if_neg (by omega)]
      show ior (pb (c :: r) : Int) (bi (b = true)) = (pb ((c || b) :: r) : Int)
      cases b
      · rw [bi_neg (by decide), ior_0 (by omega), Bool.or_false]
      · rw [bi_pos rfl, ior_1 (by omega), Bool.or_true]
        show ((2 * ((2 * pb r + (if c then 1 else 0)) / 2) + 1 : Nat) : Int) = ((2 * pb r + 1 : Nat) : Int)
        split <;> omega
theorem cvO_rng {op : Int} (h : okO op) : (cvO op < 0 ↔ op < 0) ∧ (op < 0 → cvO op = op) ∧ -10 < cvO op ∧ cvO op < 100000 := by
  obtain ⟨h1, h2⟩ := h
  unfold cvO
  split <;> omega
theorem evS_evl {by' : Int → Int} {X : List Int} {u : Int} : ∀ (L : List Int) (S : List Bool), (∀ op ∈ L, okO op) → evalS by' (L ++ X) S u = evalS by' X (evl by' L S) u
  | [], S, _ => rfl
  | op :: r, S, h => by
    rw [List.cons_append, ev_step (h op List.mem_cons_self).1]
    exact evS_evl r _ (fun o ho => h o (List.mem_cons_of_mem _ ho))
theorem wfS_tail {op : Int} {r : List Int} (h0 : op ≤ -10) : ∀ (L : List Int) (d : Nat), (∀ o ∈ L, okO o) → wfS (L ++ op :: r) d → wfS r 0
  | [], d, _, h => (wf_end (r := r) (d := d) h (by omega)).2.2.2
  | o :: L, d, hL, h => by
    have ho := hL o List.mem_cons_self
    have ht := fun x hx => hL x (List.mem_cons_of_mem _ hx)
    by_cases h1 : 0 ≤ o
    · exact wfS_tail h0 L _ ht (wf_pos h h1).2.2.2.2
    · by_cases h2 : o = -1
      · exact wfS_tail h0 L _ ht (wf_not h h2).2
      · exact wfS_tail h0 L _ ht (wf_bin h h1 h2 ho.1).2.2
abbrev Cla : Type := Int × Int × List Int
def slC (c : Cla) : List Int := if c.1 = 2 then c.2.2 ++ [-10 - c.2.1] else if c.1 = 3 then c.2.2 ++ [-200 - c.2.1] else []
def slO : List Cla → List Int
  | [] => []
  | c :: r => slC c ++ slO r
def PRC (w0 w1 w2 w3 : Int → Int) : Nat → Nat → List Cla → Prop
  | _, _, [] => True
  | i, F, c :: r => (w0 i = c.1 ∧ w1 i = c.2.1 ∧ w2 i = ((F + c.2.2.length : Nat) : Int) ∧ ∀ j : Nat, j < c.2.2.length → w3 ((F + j : Nat) : Int) = cvO (c.2.2.getD j 0)) ∧ ((0 ≤ c.1 ∧ c.1 ≤ 3) ∧ (0 ≤ c.2.1 ∧ c.2.1 ≤ 99) ∧ (c.1 < 2 → c.2.2 = []) ∧ (∀ o ∈ c.2.2, okO o) ∧ F + c.2.2.length ≤ 100) ∧ PRC w0 w1 w2 w3 (i + 1) (F + c.2.2.length) r
/-- a plate's cells say these clauses -/
def PR (q w0 w1 w2 w3 : Int → Int) (CL : List Cla) : Prop := q 0 = (CL.length : Int) ∧ CL.length ≤ 10 ∧ PRC w0 w1 w2 w3 0 0 CL
theorem sl_2 {n : Int} {L : List Int} {R : List Cla} : slO ((2, n, L) :: R) = L ++ (-10 - n) :: slO R := by
  show slC (2, n, L) ++ slO R = _
  unfold slC
  simp
theorem sl_3 {n : Int} {L : List Int} {R : List Cla} : slO ((3, n, L) :: R) = L ++ (-200 - n) :: slO R := by
  show slC (3, n, L) ++ slO R = _
  unfold slC
  simp
theorem sl_0 {w n : Int} {L : List Int} {R : List Cla} (h : w < 2) : slO ((w, n, L) :: R) = slO R := by
  show slC (w, n, L) ++ slO R = _
  unfold slC
  rw [if_neg (by show ¬ w = 2; omega), if_neg (by show ¬ w = 3; omega)]
  rfl
theorem risk_2 {by' : Int → Int} {n u : Int} {L : List Int} {R : List Cla} (hL : ∀ o ∈ L, okO o) (hn : 0 ≤ n ∧ n ≤ 99) : evalS by' (slO ((2, n, L) :: R)) [] u = evalS by' (slO R) [] (if (evl by' L []).headD false = true then u + n else u) := by
  rw [sl_2, evS_evl L [] hL, ev_end (by omega)]
  congr 1
  (repeat' split) <;> omega
theorem risk_3 {by' : Int → Int} {n u : Int} {L : List Int} {R : List Cla} (hL : ∀ o ∈ L, okO o) (hn : 0 ≤ n ∧ n ≤ 99) : evalS by' (slO ((3, n, L) :: R)) [] u = evalS by' (slO R) [] (if (evl by' L []).headD false = true then u + -n else u) := by
  rw [sl_3, evS_evl L [] hL, ev_end (by omega)]
  congr 1
  (repeat' split) <;> omega
theorem wfsl {w n : Int} {L : List Int} {R : List Cla} (hw : 0 ≤ w ∧ w ≤ 3) (hn : 0 ≤ n ∧ n ≤ 99) (hL : ∀ o ∈ L, okO o) (h : wfS (slO ((w, n, L) :: R)) 0) : wfS (slO R) 0 ∧ (2 ≤ w → ∃ E, wfS (L ++ E) 0) := by
  rcases (show w < 2 ∨ w = 2 ∨ w = 3 by omega) with h1 | rfl | rfl
  · rw [sl_0 h1] at h
    exact ⟨h, fun q => absurd q (by omega)⟩
  · rw [sl_2] at h
    exact ⟨wfS_tail (by omega) L 0 hL h, fun _ => ⟨_, h⟩⟩
  · rw [sl_3] at h
    exact ⟨wfS_tail (by omega) L 0 hL h, fun _ => ⟨_, h⟩⟩
theorem drop_at {L : List Int} {j : Nat} (h : j < L.length) : L.drop j = L.getD j 0 :: L.drop (j + 1) ∧ L.getD j 0 ∈ L := by
  have e : L.getD j 0 = L[j] := by simp [List.getD, h]
  exact ⟨by rw [e]; exact List.drop_eq_getElem_cons h, by rw [e]; exact List.getElem_mem h⟩
theorem cvO_parts {c op : Int} (hc : c = cvO op) (h : 0 ≤ op ∧ op < 3200 ∧ op % 8 < 6 ∧ op / 8 % 4 < 3) : c / 300 = op % 8 ∧ c % 100 = op / 32 ∧ c / 100 % 3 = op / 8 % 4 ∧ 0 ≤ c ∧ c < 10000 := by
  have key : ∀ a b v : Int, 0 ≤ a ∧ a < 6 → 0 ≤ b ∧ b < 3 → 0 ≤ v ∧ v ≤ 99 → ((a * 3 + b) * 100 + v) / 300 = a ∧ ((a * 3 + b) * 100 + v) % 100 = v ∧ ((a * 3 + b) * 100 + v) / 100 % 3 = b ∧ 0 ≤ (a * 3 + b) * 100 + v ∧ (a * 3 + b) * 100 + v < 10000 := by
    intro a b v h1 h2 h3
    have e1 : ((a * 3 + b) * 100 + v) / 100 = a * 3 + b := by omega
    refine ⟨by omega, by omega, ?_, by omega, by omega⟩
    rw [e1]; omega
  rw [hc]
  unfold cvO
  rw [if_neg (by omega)]
  exact key _ _ _ (by omega) (by omega) (by omega)
theorem bi_h2 {p : Prop} [Decidable p] {x : Int} (h : x = bi p) : (x = 1 ↔ p) := by rw [h]; exact bi_1
set_option maxHeartbeats 4000000 in
set_option maxRecDepth 100000 in
theorem kc6_valueOf (l : Launch) (D : Dx) (A : Nat → Prop) (ad : Nat → Nat) (K : Int → Int) (S Q qa : Nat → Int → Int) (tp : Nat → Nat) (s bo e uc lr nx : Int → Int) (b : Nat) (hb : b < 3) (m : Int) (a : Int) (t : Int) (h8 : 0 ≤ m ∧ m < 8) (h43 : m < s 43) (hm : MK s m) (ha : 0 ≤ a ∧ a ≤ 5) (ht : 0 ≤ t ∧ t ≤ 99) : CT l D A yX6_valueOf cX6_valueOf 3 (some .int) { frames := 0, cells := 0, slots := 0, locals := 0 } [vI a, .ref (kM ad b m), vI t] (CW D A ad K (uS S b s) Q qa tp bo e uc lr nx) (fun _ : Unit => some (vI (byF s m t a))) (fun _ => 0 ≤ byF s m t a ∧ byF s m t a ≤ 1000) (fun _ => CW D A ad K (uS S b s) Q qa tp bo e uc lr nx) := by
  refine ct_of (lo0 := [(0, vI a), (1, .ref (kM ad b m)), (2, vI t)]) (by decide) (Nat.le_of_ble_eq_true rfl) rfl ?_
  intro G hG hR
  have hm1 := hm.1; have hm2 := hm.2.1; have hm3 := hm.2.2.1; have hm4 := hm.2.2.2.1; have hm5 := hm.2.2.2.2.1; have hm6 := hm.2.2.2.2.2.1; have hm7 := hm.2.2.2.2.2.2.1; have hm8 := hm.2.2.2.2.2.2.2.1
  refine v_iload_n hG dX6_valueOf_0 rfl 0 rfl ?_
  by_cases c1 : a = 0
  · refine v_tabIn (tgt := 36) hG dX6_valueOf_1 0 c1 (by decide) (by decide) (by decide) rfl (by decide) ?_
    refine v_aload_n hG dX6_valueOf_36 rfl 1 rfl ?_
    refine cgM hb (by omega) (by omega) hG dX6_valueOf_37 zf_X6_119 (k := 1) (by decide) (v := vI m) rfl ?_
    have e2 : @Eq Int (byF s m t a) (m) := by unfold byF; simp only [if_pos c1]
    exact v_ireturn hG hR dX6_valueOf_40 () (congrArg (fun z => some (vI z)) e2) (by exact byF_rng hm h8 (by omega) a) (fun _ hM => hM)
  by_cases c3 : a = 1
  · refine v_tabIn (tgt := 41) hG dX6_valueOf_1 1 c3 (by decide) (by decide) (by decide) rfl (by decide) ?_
    refine v_aload_n hG dX6_valueOf_41 rfl 1 rfl ?_
    refine cgM hb (by omega) (by omega) hG dX6_valueOf_42 zf_X6_124 (k := 0) (by decide) (v := vI (s (50 + m))) rfl ?_
    have e4 : @Eq Int (byF s m t a) (s (50 + m)) := by unfold byF; simp only [if_neg c1, if_pos c3]
    exact v_ireturn hG hR dX6_valueOf_45 () (congrArg (fun z => some (vI z)) e4) (by exact byF_rng hm h8 (by omega) a) (fun _ hM => hM)
  by_cases c5 : a = 2
  · refine v_tabIn (tgt := 46) hG dX6_valueOf_1 2 c5 (by decide) (by decide) (by decide) rfl (by decide) ?_
    refine v_aload_n hG dX6_valueOf_46 rfl 1 rfl ?_
    refine cgM hb (by omega) (by omega) hG dX6_valueOf_47 zf_X6_127 (k := 4) (by decide) (v := vI (s (3 + m))) rfl ?_
    have e6 : @Eq Int (byF s m t a) (s (3 + m)) := by unfold byF; simp only [if_neg c1, if_neg c3, if_pos c5]
    exact v_ireturn hG hR dX6_valueOf_50 () (congrArg (fun z => some (vI z)) e6) (by exact byF_rng hm h8 (by omega) a) (fun _ hM => hM)
  by_cases c7 : a = 3
  · refine v_tabIn (tgt := 51) hG dX6_valueOf_1 3 c7 (by decide) (by decide) (by decide) rfl (by decide) ?_
    refine v_aload_n hG dX6_valueOf_51 rfl 1 rfl ?_
    refine cgM hb (by omega) (by omega) hG dX6_valueOf_52 zf_X6_130 (k := 3) (by decide) (v := vI (s (66 + m))) rfl ?_
    refine v_bipush hG dX6_valueOf_55 (by decide) ?_
    refine v_idiv hG dX6_valueOf_57 (by omega) (by omega) ?_
    have e8 : @Eq Int (byF s m t a) ((s (66 + m)) / 10) := by unfold byF; simp only [if_neg c1, if_neg c3, if_neg c5, if_pos c7]
    exact v_ireturn hG hR dX6_valueOf_58 () (congrArg (fun z => some (vI z)) e8) (by exact byF_rng hm h8 (by omega) a) (fun _ hM => hM)
  by_cases c9 : a = 4
  · refine v_tabIn (tgt := 59) hG dX6_valueOf_1 4 c9 (by decide) (by decide) (by decide) rfl (by decide) ?_
    refine v_iload_n hG dX6_valueOf_59 rfl 2 rfl ?_
    refine v_bipush hG dX6_valueOf_60 (by decide) ?_
    refine v_idiv hG dX6_valueOf_62 (by omega) (by omega) ?_
    have e10 : @Eq Int (byF s m t a) (t / 10) := by unfold byF; simp only [if_neg c1, if_neg c3, if_neg c5, if_neg c7, if_pos c9]
    exact v_ireturn hG hR dX6_valueOf_63 () (congrArg (fun z => some (vI z)) e10) (by exact byF_rng hm h8 (by omega) a) (fun _ hM => hM)
  refine v_tabOut (tgt := 64) hG dX6_valueOf_1 (by omega) (by omega) (by decide) ?_
  refine v_aload_n hG dX6_valueOf_64 rfl 1 rfl ?_
  refine cgM hb (by omega) (by omega) hG dX6_valueOf_65 zf_X6_133 (k := 2) (by decide) (v := vI (s (58 + m))) rfl ?_
  have e12 : @Eq Int (byF s m t a) (s (58 + m)) := by unfold byF; simp only [if_neg c1, if_neg c3, if_neg c5, if_neg c7, if_neg c9]
  exact v_ireturn hG hR dX6_valueOf_68 () (congrArg (fun z => some (vI z)) e12) (by exact byF_rng hm h8 (by omega) a) (fun _ hM => hM)
set_option maxHeartbeats 4000000 in
set_option maxRecDepth 100000 in
theorem kc6_isSo (l : Launch) (D : Dx) (A : Nat → Prop) (ad : Nat → Nat) (K : Int → Int) (S Q qa : Nat → Int → Int) (tp : Nat → Nat) (s bo e uc lr nx : Int → Int) (b : Nat) (hb : b < 3) (m : Int) (c : Int) (t : Int) (op : Int) (h8 : 0 ≤ m ∧ m < 8) (h43 : m < s 43) (hm : MK s m) (hc0 : c = cvO op) (hop : 0 ≤ op ∧ op < 3200 ∧ op % 8 < 6 ∧ op / 8 % 4 < 3) (ht : 0 ≤ t ∧ t ≤ 99) : CT l D A yX6_isSo cX6_isSo 5 (some .boolean) { frames := 1, cells := 0, slots := 0, locals := 22 } [vI c, .ref (kM ad b m), vI t] (CW D A ad K (uS S b s) Q qa tp bo e uc lr nx) (fun _ : Unit => some (vI (bi (testOp (byF s m t) op = true)))) (fun _ => True) (fun _ => CW D A ad K (uS S b s) Q qa tp bo e uc lr nx) := by
  refine ct_of (lo0 := [(0, vI c), (1, .ref (kM ad b m)), (2, vI t)]) (by decide) (Nat.le_of_ble_eq_true rfl) rfl ?_
  intro G hG hR
  have hcc := cvO_parts hc0 hop
  refine v_iload_n hG dX6_isSo_0 rfl 0 rfl ?_
  refine v_bipush hG dX6_isSo_1 (by decide) ?_
  refine v_irem hG dX6_isSo_3 (by omega) (by omega) ?_
  refine v_istore_n (lo' := [(3, vI (c % 100)), (0, vI c), (1, .ref (kM ad b m)), (2, vI t)]) hG dX6_isSo_4 rfl (by decide) rfl ?_
  refine v_iload_n hG dX6_isSo_5 rfl 1 rfl ?_
  refine v_sipush hG dX6_isSo_6 (by decide) ?_
  refine v_idiv hG dX6_isSo_9 (by omega) (by omega) ?_
  refine v_aload_n hG dX6_isSo_10 rfl 2 rfl ?_
  refine v_iload_n hG dX6_isSo_11 rfl 3 rfl ?_
  refine v_callS (k1' := 0) (k2' := 0) hG dX6_isSo_12 zc_X6_valueOf ⟨zl_X6_115, zt_X6_valueOf⟩ (fun l => kc6_valueOf l D A ad K S Q qa tp s bo e uc lr nx b hb m (c / 300) t (by omega) (by first | assumption | omega) (by first | assumption | exact hM _ (by omega) (by omega)) (by omega) (by omega)) rfl (fun _ h => h) ⟨by decide, by decide⟩ rfl rfl ⟨by decide, by decide⟩ (rest := []) rfl (Nat.le_of_ble_eq_true rfl) (fun u1 => [vI (byF s m t (c / 300))]) (fun _ => rfl) (fun u1 hu1 => ?_)
  have fu1 : 0 ≤ byF s m t (c / 300) ∧ byF s m t (c / 300) ≤ 1000 := hu1
  have hbr := fu1
  refine v_istore (lo' := [(4, vI (byF s m t (c / 300))), (3, vI (c % 100)), (0, vI c), (1, .ref (kM ad b m)), (2, vI t)]) hG dX6_isSo_15 (by decide) rfl ?_
  refine v_iload_n hG dX6_isSo_17 rfl 2 rfl ?_
  refine v_bipush hG dX6_isSo_18 (by decide) ?_
  refine v_idiv hG dX6_isSo_20 (by omega) (by omega) ?_
  refine v_iconst hG dX6_isSo_21 ?_
  refine v_irem hG dX6_isSo_22 (by omega) (by omega) ?_
  by_cases c2 : (c / 100) % 3 = 0
  · refine v_lookup (tgt := 48) hG dX6_isSo_23 (by omega) (by decide) (by rw [c2] <;> rfl) (by decide) ?_
    refine v_iload hG dX6_isSo_48 0 rfl ?_
    refine v_iload_n hG dX6_isSo_50 rfl 1 rfl ?_
    have J4 : ∀ z3 : Int, z3 = (bi (¬ (c % 100 ≤ byF s m t (c / 300)))) → V G 0 0 (CW D A ad K (uS S b s) Q qa tp bo e uc lr nx) 59 [(0, vI c), (1, .ref (kM ad b m)), (2, vI t), (3, vI (c % 100)), (4, vI (byF s m t (c / 300)))] [vI z3] := by
      intro z3 hz3
      subst hz3
      have e5 : @Eq Int (bi (testOp (byF s m t) op = true)) (bi (¬ (c % 100 ≤ byF s m t (c / 300)))) := by (refine bi_congr ?_; unfold testOp; rw [hcc.1, hcc.2.1]; (repeat' split) <;> simp only [decide_eq_true_eq] <;> omega)
      exact v_zreturn hG hR dX6_isSo_59 (bi_01 _) () (congrArg (fun z => some (vI z)) e5) (by trivial) (fun _ hM => hM)
    refine v_icmp_ge (tgt := 58) hG dX6_isSo_51 (by decide) (by omega) (by omega) (fun c6 => ?_) (fun c6 => ?_)
    · skip
      refine v_iconst hG dX6_isSo_58 ?_
      refine v_lo [2, 3, 4, 1, 0] (lo' := [(0, vI c), (1, .ref (kM ad b m)), (2, vI t), (3, vI (c % 100)), (4, vI (byF s m t (c / 300)))]) rfl ?_
      exact J4 _ (by first | rfl | (simp only [if_pos c2, if_pos c6]; done) | (simp [bi, c2, c6]; done))
    · skip
      refine v_iconst hG dX6_isSo_54 ?_
      refine v_goto (tgt := 59) hG dX6_isSo_55 (by decide) ?_
      refine v_lo [2, 3, 4, 1, 0] (lo' := [(0, vI c), (1, .ref (kM ad b m)), (2, vI t), (3, vI (c % 100)), (4, vI (byF s m t (c / 300)))]) rfl ?_
      exact J4 _ (by first | rfl | (simp only [if_pos c2, if_neg c6]; done) | (simp [bi, c2, c6]; done))
  by_cases c7 : (c / 100) % 3 = 1
  · refine v_lookup (tgt := 60) hG dX6_isSo_23 (by omega) (by decide) (by rw [c7] <;> rfl) (by decide) ?_
    refine v_iload hG dX6_isSo_60 0 rfl ?_
    refine v_iload_n hG dX6_isSo_62 rfl 1 rfl ?_
    have J9 : ∀ z8 : Int, z8 = (bi (byF s m t (c / 300) = c % 100)) → V G 0 0 (CW D A ad K (uS S b s) Q qa tp bo e uc lr nx) 71 [(0, vI c), (1, .ref (kM ad b m)), (2, vI t), (3, vI (c % 100)), (4, vI (byF s m t (c / 300)))] [vI z8] := by
      intro z8 hz8
      subst hz8
      have e10 : @Eq Int (bi (testOp (byF s m t) op = true)) (bi (byF s m t (c / 300) = c % 100)) := by (refine bi_congr ?_; unfold testOp; rw [hcc.1, hcc.2.1]; (repeat' split) <;> simp only [decide_eq_true_eq] <;> omega)
      exact v_zreturn hG hR dX6_isSo_71 (bi_01 _) () (congrArg (fun z => some (vI z)) e10) (by trivial) (fun _ hM => hM)
    refine v_icmp_ne (tgt := 70) hG dX6_isSo_63 (by decide) (by omega) (by omega) (fun c11 => ?_) (fun c11 => ?_)
    · skip
      refine v_iconst hG dX6_isSo_70 ?_
      refine v_lo [2, 3, 4, 1, 0] (lo' := [(0, vI c), (1, .ref (kM ad b m)), (2, vI t), (3, vI (c % 100)), (4, vI (byF s m t (c / 300)))]) rfl ?_
      exact J9 _ (by first | rfl | (simp only [if_neg c2, if_pos c7, if_neg c11]; done) | (simp [bi, c2, c7, c11]; done))
    · skip
      refine v_iconst hG dX6_isSo_66 ?_
      refine v_goto (tgt := 71) hG dX6_isSo_67 (by decide) ?_
      refine v_lo [2, 3, 4, 1, 0] (lo' := [(0, vI c), (1, .ref (kM ad b m)), (2, vI t), (3, vI (c % 100)), (4, vI (byF s m t (c / 300)))]) rfl ?_
      exact J9 _ (by first | rfl | (simp only [if_neg c2, if_pos c7, if_pos c11]; done) | (simp [bi, c2, c7, c11]; done))
  refine v_lookup (off := 49) (tgt := 72) hG dX6_isSo_23 (by omega) (by decide) (by simp [Op.lookupswitch.offset, Ne.symm c2, Ne.symm c7]) (by decide) ?_
  refine v_iload hG dX6_isSo_72 0 rfl ?_
  refine v_iload_n hG dX6_isSo_74 rfl 1 rfl ?_
  have J14 : ∀ z13 : Int, z13 = (bi (¬ (byF s m t (c / 300) ≤ c % 100))) → V G 0 0 (CW D A ad K (uS S b s) Q qa tp bo e uc lr nx) 83 [(0, vI c), (1, .ref (kM ad b m)), (2, vI t), (3, vI (c % 100)), (4, vI (byF s m t (c / 300)))] [vI z13] := by
    intro z13 hz13
    subst hz13
    have e15 : @Eq Int (bi (testOp (byF s m t) op = true)) (bi (¬ (byF s m t (c / 300) ≤ c % 100))) := by (refine bi_congr ?_; unfold testOp; rw [hcc.1, hcc.2.1]; (repeat' split) <;> simp only [decide_eq_true_eq] <;> omega)
    exact v_zreturn hG hR dX6_isSo_83 (bi_01 _) () (congrArg (fun z => some (vI z)) e15) (by trivial) (fun _ hM => hM)
  refine v_icmp_le (tgt := 82) hG dX6_isSo_75 (by decide) (by omega) (by omega) (fun c16 => ?_) (fun c16 => ?_)
  · skip
    refine v_iconst hG dX6_isSo_82 ?_
    refine v_lo [2, 3, 4, 1, 0] (lo' := [(0, vI c), (1, .ref (kM ad b m)), (2, vI t), (3, vI (c % 100)), (4, vI (byF s m t (c / 300)))]) rfl ?_
    exact J14 _ (by first | rfl | (simp only [if_neg c2, if_neg c7, if_pos c16]; done) | (simp [bi, c2, c7, c16]; done))
  · skip
    refine v_iconst hG dX6_isSo_78 ?_
    refine v_goto (tgt := 83) hG dX6_isSo_79 (by decide) ?_
    refine v_lo [2, 3, 4, 1, 0] (lo' := [(0, vI c), (1, .ref (kM ad b m)), (2, vI t), (3, vI (c % 100)), (4, vI (byF s m t (c / 300)))]) rfl ?_
    exact J14 _ (by first | rfl | (simp only [if_neg c2, if_neg c7, if_neg c16]; done) | (simp [bi, c2, c7, c16]; done))
set_option maxHeartbeats 4000000 in
set_option maxRecDepth 100000 in
theorem kc6_holds (l : Launch) (D : Dx) (A : Nat → Prop) (ad : Nat → Nat) (K : Int → Int) (S Q qa : Nat → Int → Int) (tp : Nat → Nat) (s bo e uc lr nx : Int → Int) (b : Nat) (hb : b < 3) (p : Nat) (m : Int) (t : Int) (F : Nat) (L : List Int) (E : List Int) (hp9 : p < 6) (h8 : 0 ≤ m ∧ m < 8) (h43 : m < s 43) (hm : MK s m) (ht : 0 ≤ t ∧ t ≤ 99) (hcodes : ∀ j : Nat, j < L.length → qa (6 * 3 + p) ((F + j : Nat) : Int) = cvO (L.getD j 0)) (hops : ∀ o ∈ L, okO o) (hF : F + L.length ≤ 100) (hwf : wfS (L ++ E) 0) : CT l D A yX6_holds cX6_holds 9 (some .boolean) { frames := 2, cells := 0, slots := 0, locals := 46 } [.ref (kP ad p), vI (F : Int), vI ((F + L.length : Nat) : Int), .ref (kM ad b m), vI t] (CW D A ad K (uS S b s) Q qa tp bo e uc lr nx) (fun _ : Unit => some (vI (bi ((evl (byF s m t) L []).headD false = true)))) (fun _ => True) (fun _ => CW D A ad K (uS S b s) Q qa tp bo e uc lr nx) := by
  refine ct_of (lo0 := [(0, .ref (kP ad p)), (1, vI (F : Int)), (2, vI ((F + L.length : Nat) : Int)), (3, .ref (kM ad b m)), (4, vI t)]) (by decide) (Nat.le_of_ble_eq_true rfl) rfl ?_
  intro G hG hR
  refine v_iconst hG dX6_holds_0 ?_
  refine v_istore (lo' := [(5, vI 0), (0, .ref (kP ad p)), (1, vI (F : Int)), (2, vI ((F + L.length : Nat) : Int)), (3, .ref (kM ad b m)), (4, vI t)]) hG dX6_holds_1 (by decide) rfl ?_
  refine v_iload_n hG dX6_holds_3 rfl 2 rfl ?_
  refine v_istore (lo' := [(6, vI (F : Int)), (5, vI 0), (0, .ref (kP ad p)), (1, vI (F : Int)), (2, vI ((F + L.length : Nat) : Int)), (3, .ref (kM ad b m)), (4, vI t)]) hG dX6_holds_4 (by decide) rfl ?_
  refine v_lo [2, 3, 4, 5, 6, 1, 0] (lo' := [(0, .ref (kP ad p)), (1, vI (F : Int)), (2, vI ((F + L.length : Nat) : Int)), (3, .ref (kM ad b m)), (4, vI t), (5, vI 0), (6, vI (F : Int))]) rfl ?_
  have L3 : ∀ mz : Nat, ∀ (j : Nat) (Z : List Bool), (j ≤ L.length) → (Z.length ≤ 20) → (wfS (L.drop j ++ E) Z.length) → (evl (byF s m t) (L.drop j) Z = evl (byF s m t) L []) → L.length - j = mz → ∀ x1 : Int, x1 = ((pb Z : Int)) → ∀ x2 : Int, x2 = (((F + j : Nat) : Int)) → V G 0 0 (CW D A ad K (uS S b s) Q qa tp bo e uc lr nx) 6 [(0, .ref (kP ad p)), (1, vI (F : Int)), (2, vI ((F + L.length : Nat) : Int)), (3, .ref (kM ad b m)), (4, vI t), (5, vI x1), (6, vI x2)] [] := by
    intro dL3
    induction dL3 using Nat.strongRecOn with
    | ind dL3 ihL3 =>
      intro j Z hq4 hq5 hq6 hq7 hq8
      intro x1 hx1
      subst hx1
      intro x2 hx2
      subst hx2
      refine v_iload hG dX6_holds_6 6 rfl ?_
      refine v_iload_n hG dX6_holds_8 rfl 2 rfl ?_
      refine v_icmp_ge (tgt := 120) hG dX6_holds_9 (by decide) (by omega) (by omega) (fun c9 => ?_) (fun c9 => ?_)
      · skip
        have hjL : j = L.length := by omega
        have hevE : evl (byF s m t) L [] = Z := by have hz : evl (byF s m t) (L.drop j) Z = evl (byF s m t) L [] := (by assumption); rw [hjL, List.drop_length] at hz; exact hz.symm
        have hib := iand_pb (S := Z) (by omega)
        have hib2 := bi_01 (Z.headD false = true)
        refine v_iload hG dX6_holds_120 5 rfl ?_
        refine v_iconst hG dX6_holds_122 ?_
        refine v_iand hG dX6_holds_123 ?_
        refine v_iconst hG dX6_holds_124 ?_
        have J11 : ∀ z10 : Int, z10 = (bi (iand (pb Z : Int) 1 = 1)) → V G 0 0 (CW D A ad K (uS S b s) Q qa tp bo e uc lr nx) 133 [(0, .ref (kP ad p)), (1, vI (F : Int)), (2, vI ((F + L.length : Nat) : Int)), (3, .ref (kM ad b m)), (4, vI t), (5, vI (pb Z : Int)), (6, vI ((F + j : Nat) : Int))] [vI z10] := by
          intro z10 hz10
          subst hz10
          have e12 : @Eq Int (bi ((evl (byF s m t) L []).headD false = true)) (bi (iand (pb Z : Int) 1 = 1)) := by rw [hevE]; exact bi_congr (bi_h2 hib).symm
          exact v_zreturn hG hR dX6_holds_133 (bi_01 _) () (congrArg (fun z => some (vI z)) e12) (by trivial) (fun _ hM => hM)
        refine v_icmp_ne (tgt := 132) hG dX6_holds_125 (by decide) (by omega) (by omega) (fun c13 => ?_) (fun c13 => ?_)
        · skip
          refine v_iconst hG dX6_holds_132 ?_
          exact J11 _ (by first | rfl | (simp only [if_pos c9, if_neg c13]; done) | (simp [bi, c9, c13]; done))
        · skip
          refine v_iconst hG dX6_holds_128 ?_
          refine v_goto (tgt := 133) hG dX6_holds_129 (by decide) ?_
          exact J11 _ (by first | rfl | (simp only [if_pos c9, if_pos c13]; done) | (simp [bi, c9, c13]; done))
      · skip
        refine v_iload hG dX6_holds_12 6 rfl ?_
        refine v_aload_n hG dX6_holds_14 rfl 0 rfl ?_
        refine cg6 (by assumption) hG dX6_holds_15 zf_X6_21 (k := 3) (by decide) (v := .ref (kQ ad 3 p)) rfl ?_
        refine cl_q3 (by assumption) hG dX6_holds_18 ?_
        refine v_icmp_ge (tgt := 120) hG dX6_holds_19 (by decide) (by omega) (by omega) (fun c14 => ?_) (fun c14 => ?_)
        · skip
          have hjL : j = L.length := by omega
          have hevE : evl (byF s m t) L [] = Z := by have hz : evl (byF s m t) (L.drop j) Z = evl (byF s m t) L [] := (by assumption); rw [hjL, List.drop_length] at hz; exact hz.symm
          have hib := iand_pb (S := Z) (by omega)
          have hib2 := bi_01 (Z.headD false = true)
          refine v_iload hG dX6_holds_120 5 rfl ?_
          refine v_iconst hG dX6_holds_122 ?_
          refine v_iand hG dX6_holds_123 ?_
          refine v_iconst hG dX6_holds_124 ?_
          have J16 : ∀ z15 : Int, z15 = (bi (iand (pb Z : Int) 1 = 1)) → V G 0 0 (CW D A ad K (uS S b s) Q qa tp bo e uc lr nx) 133 [(0, .ref (kP ad p)), (1, vI (F : Int)), (2, vI ((F + L.length : Nat) : Int)), (3, .ref (kM ad b m)), (4, vI t), (5, vI (pb Z : Int)), (6, vI ((F + j : Nat) : Int))] [vI z15] := by
            intro z15 hz15
            subst hz15
            have e17 : @Eq Int (bi ((evl (byF s m t) L []).headD false = true)) (bi (iand (pb Z : Int) 1 = 1)) := by rw [hevE]; exact bi_congr (bi_h2 hib).symm
            exact v_zreturn hG hR dX6_holds_133 (bi_01 _) () (congrArg (fun z => some (vI z)) e17) (by trivial) (fun _ hM => hM)
          refine v_icmp_ne (tgt := 132) hG dX6_holds_125 (by decide) (by omega) (by omega) (fun c18 => ?_) (fun c18 => ?_)
          · skip
            refine v_iconst hG dX6_holds_132 ?_
            exact J16 _ (by first | rfl | (simp only [if_neg c9, if_pos c14, if_neg c18]; done) | (simp [bi, c9, c14, c18]; done))
          · skip
            refine v_iconst hG dX6_holds_128 ?_
            refine v_goto (tgt := 133) hG dX6_holds_129 (by decide) ?_
            exact J16 _ (by first | rfl | (simp only [if_neg c9, if_pos c14, if_pos c18]; done) | (simp [bi, c9, c14, c18]; done))
        · skip
          refine v_aload_n hG dX6_holds_22 rfl 0 rfl ?_
          refine cg6 (by assumption) hG dX6_holds_23 zf_X6_21 (k := 3) (by decide) (v := .ref (kQ ad 3 p)) rfl ?_
          refine v_iload hG dX6_holds_26 6 rfl ?_
          refine cb_q3 (by assumption) hG dX6_holds_28 (by omega) rfl ?_
          have hjl : j < L.length := by omega
          obtain ⟨hdr, hmem⟩ := drop_at hjl
          rw [hcodes j hjl]
          generalize L.getD j 0 = op at hdr hmem ⊢
          have hok := hops op hmem
          have hcr := cvO_rng hok
          have hwf2 : wfS (op :: (L.drop (j + 1) ++ E)) Z.length := by have hz : wfS (L.drop j ++ E) Z.length := (by assumption); rw [hdr, List.cons_append] at hz; exact hz
          have hev2 : evl (byF s m t) (L.drop (j + 1)) (evalOp (byF s m t) op Z) = evl (byF s m t) L [] := by have hz : evl (byF s m t) (L.drop j) Z = evl (byF s m t) L [] := (by assumption); rw [hdr] at hz; exact hz
          have hpb := pb_rng (S := Z) (by omega)
          refine v_istore (lo' := [(7, vI (cvO op)), (0, .ref (kP ad p)), (1, vI (F : Int)), (2, vI ((F + L.length : Nat) : Int)), (3, .ref (kM ad b m)), (4, vI t), (5, vI (pb Z : Int)), (6, vI ((F + j : Nat) : Int))]) hG dX6_holds_29 (by decide) rfl ?_
          refine v_iload hG dX6_holds_31 0 rfl ?_
          refine v_if_lt (tgt := 62) hG dX6_holds_33 (by decide) (by omega) (fun c19 => ?_) (fun c19 => ?_)
          · skip
            refine v_iload hG dX6_holds_62 0 rfl ?_
            refine v_iconst hG dX6_holds_64 ?_
            refine v_icmp_ne (tgt := 77) hG dX6_holds_65 (by decide) (by omega) (by omega) (fun c20 => ?_) (fun c20 => ?_)
            · skip
              have hwb := wf_bin hwf2 (by omega) (by omega) hok.1
              have hib := iand_pb (S := Z) (by omega)
              have hib2 := bi_01 (Z.headD false = true)
              refine v_iload hG dX6_holds_77 6 rfl ?_
              refine v_iconst hG dX6_holds_79 ?_
              refine v_iand hG dX6_holds_80 ?_
              refine v_istore (lo' := [(8, vI (iand (pb Z : Int) 1)), (7, vI (cvO op)), (0, .ref (kP ad p)), (1, vI (F : Int)), (2, vI ((F + L.length : Nat) : Int)), (3, .ref (kM ad b m)), (4, vI t), (5, vI (pb Z : Int)), (6, vI ((F + j : Nat) : Int))]) hG dX6_holds_81 (by decide) rfl ?_
              refine v_iload hG dX6_holds_83 7 rfl ?_
              refine v_iconst hG dX6_holds_85 ?_
              refine v_ishr hG dX6_holds_86 (by omega) (by omega) ?_
              refine v_istore (lo' := [(5, vI ((pb Z : Int) / 2 ^ (1 : Int).toNat)), (8, vI (iand (pb Z : Int) 1)), (7, vI (cvO op)), (0, .ref (kP ad p)), (1, vI (F : Int)), (2, vI ((F + L.length : Nat) : Int)), (3, .ref (kM ad b m)), (4, vI t), (6, vI ((F + j : Nat) : Int))]) hG dX6_holds_87 (by decide) rfl ?_
              refine v_iload hG dX6_holds_89 2 rfl ?_
              refine v_bipush hG dX6_holds_91 (by decide) ?_
              refine v_icmp_ne (tgt := 107) hG dX6_holds_93 (by decide) (by omega) (by omega) (fun c21 => ?_) (fun c21 => ?_)
              · skip
                refine v_iload hG dX6_holds_107 0 rfl ?_
                refine v_iload hG dX6_holds_109 1 rfl ?_
                refine v_ior hG dX6_holds_111 ?_
                refine v_istore (lo' := [(5, vI (ior ((pb Z : Int) / 2 ^ (1 : Int).toNat) (iand (pb Z : Int) 1))), (8, vI (iand (pb Z : Int) 1)), (7, vI (cvO op)), (0, .ref (kP ad p)), (1, vI (F : Int)), (2, vI ((F + L.length : Nat) : Int)), (3, .ref (kM ad b m)), (4, vI t), (6, vI ((F + j : Nat) : Int))]) hG dX6_holds_112 (by decide) rfl ?_
                refine v_iinc (lo' := [(6, vI (((F + j : Nat) : Int) + 1)), (5, vI (ior ((pb Z : Int) / 2 ^ (1 : Int).toNat) (iand (pb Z : Int) 1))), (8, vI (iand (pb Z : Int) 1)), (7, vI (cvO op)), (0, .ref (kP ad p)), (1, vI (F : Int)), (2, vI ((F + L.length : Nat) : Int)), (3, .ref (kM ad b m)), (4, vI t)]) hG dX6_holds_114 8 rfl (by decide) rfl ?_
                refine v_goto (tgt := 6) hG dX6_holds_117 (by decide) ?_
                refine v_lo [4, 5, 6, 7, 8, 1, 0] (lo' := [(0, .ref (kP ad p)), (1, vI (F : Int)), (2, vI ((F + L.length : Nat) : Int)), (3, .ref (kM ad b m)), (4, vI t), (5, vI (ior ((pb Z : Int) / 2 ^ (1 : Int).toNat) (iand (pb Z : Int) 1))), (6, vI (((F + j : Nat) : Int) + 1))]) rfl ?_
                exact ihL3 _ (by omega) (j + 1) (evalOp (byF s m t) op Z) (by omega) (by first | (rw [len_push (by omega)]; omega) | (rw [len_not (by omega)]; omega) | (rw [len_bin (by omega) (by omega)]; omega)) (by first | (rw [len_push (by omega)]; exact (wf_pos hwf2 (by omega)).2.2.2.2) | (rw [len_not (by omega)]; exact (wf_not hwf2 (by omega)).2) | (rw [len_bin (by omega) (by omega)]; exact (wf_bin hwf2 (by omega) (by omega) hok.1).2.2)) (by exact hev2) rfl _ (by first | rw [pb_pushT (S := Z) (by' := byF s m t) (op := op) (by omega) (by omega) (by assumption)] | rw [pb_pushF (S := Z) (by' := byF s m t) (op := op) (by omega) (by omega) (by assumption)] | rw [pb_not (S := Z) (by' := byF s m t) (op := op) (by omega) (by omega) (by omega)] | rw [pb_and (S := Z) (by' := byF s m t) (op := op) (by omega) (by omega) (by omega)] | rw [pb_or (S := Z) (by' := byF s m t) (op := op) (by omega) (by omega) (by omega)]) _ (by omega)
              · skip
                refine v_iload hG dX6_holds_96 0 rfl ?_
                refine v_bipush hG dX6_holds_98 (by decide) ?_
                refine v_iload hG dX6_holds_100 1 rfl ?_
                refine v_ior hG dX6_holds_102 ?_
                refine v_iand hG dX6_holds_103 ?_
                refine v_goto (tgt := 112) hG dX6_holds_104 (by decide) ?_
                refine v_istore (lo' := [(5, vI (iand ((pb Z : Int) / 2 ^ (1 : Int).toNat) (ior (-2) (iand (pb Z : Int) 1)))), (8, vI (iand (pb Z : Int) 1)), (7, vI (cvO op)), (0, .ref (kP ad p)), (1, vI (F : Int)), (2, vI ((F + L.length : Nat) : Int)), (3, .ref (kM ad b m)), (4, vI t), (6, vI ((F + j : Nat) : Int))]) hG dX6_holds_112 (by decide) rfl ?_
                refine v_iinc (lo' := [(6, vI (((F + j : Nat) : Int) + 1)), (5, vI (iand ((pb Z : Int) / 2 ^ (1 : Int).toNat) (ior (-2) (iand (pb Z : Int) 1)))), (8, vI (iand (pb Z : Int) 1)), (7, vI (cvO op)), (0, .ref (kP ad p)), (1, vI (F : Int)), (2, vI ((F + L.length : Nat) : Int)), (3, .ref (kM ad b m)), (4, vI t)]) hG dX6_holds_114 8 rfl (by decide) rfl ?_
                refine v_goto (tgt := 6) hG dX6_holds_117 (by decide) ?_
                refine v_lo [4, 5, 6, 7, 8, 1, 0] (lo' := [(0, .ref (kP ad p)), (1, vI (F : Int)), (2, vI ((F + L.length : Nat) : Int)), (3, .ref (kM ad b m)), (4, vI t), (5, vI (iand ((pb Z : Int) / 2 ^ (1 : Int).toNat) (ior (-2) (iand (pb Z : Int) 1)))), (6, vI (((F + j : Nat) : Int) + 1))]) rfl ?_
                exact ihL3 _ (by omega) (j + 1) (evalOp (byF s m t) op Z) (by omega) (by first | (rw [len_push (by omega)]; omega) | (rw [len_not (by omega)]; omega) | (rw [len_bin (by omega) (by omega)]; omega)) (by first | (rw [len_push (by omega)]; exact (wf_pos hwf2 (by omega)).2.2.2.2) | (rw [len_not (by omega)]; exact (wf_not hwf2 (by omega)).2) | (rw [len_bin (by omega) (by omega)]; exact (wf_bin hwf2 (by omega) (by omega) hok.1).2.2)) (by exact hev2) rfl _ (by first | rw [pb_pushT (S := Z) (by' := byF s m t) (op := op) (by omega) (by omega) (by assumption)] | rw [pb_pushF (S := Z) (by' := byF s m t) (op := op) (by omega) (by omega) (by assumption)] | rw [pb_not (S := Z) (by' := byF s m t) (op := op) (by omega) (by omega) (by omega)] | rw [pb_and (S := Z) (by' := byF s m t) (op := op) (by omega) (by omega) (by omega)] | rw [pb_or (S := Z) (by' := byF s m t) (op := op) (by omega) (by omega) (by omega)]) _ (by omega)
            · skip
              have hwn := wf_not hwf2 (by omega)
              refine v_iload hG dX6_holds_68 6 rfl ?_
              refine v_iconst hG dX6_holds_70 ?_
              refine v_ixor hG dX6_holds_71 ?_
              refine v_istore (lo' := [(5, vI (ixor (pb Z : Int) 1)), (7, vI (cvO op)), (0, .ref (kP ad p)), (1, vI (F : Int)), (2, vI ((F + L.length : Nat) : Int)), (3, .ref (kM ad b m)), (4, vI t), (6, vI ((F + j : Nat) : Int))]) hG dX6_holds_72 (by decide) rfl ?_
              refine v_goto (tgt := 114) hG dX6_holds_74 (by decide) ?_
              refine v_iinc (lo' := [(6, vI (((F + j : Nat) : Int) + 1)), (5, vI (ixor (pb Z : Int) 1)), (7, vI (cvO op)), (0, .ref (kP ad p)), (1, vI (F : Int)), (2, vI ((F + L.length : Nat) : Int)), (3, .ref (kM ad b m)), (4, vI t)]) hG dX6_holds_114 7 rfl (by decide) rfl ?_
              refine v_goto (tgt := 6) hG dX6_holds_117 (by decide) ?_
              refine v_lo [3, 4, 5, 6, 7, 1, 0] (lo' := [(0, .ref (kP ad p)), (1, vI (F : Int)), (2, vI ((F + L.length : Nat) : Int)), (3, .ref (kM ad b m)), (4, vI t), (5, vI (ixor (pb Z : Int) 1)), (6, vI (((F + j : Nat) : Int) + 1))]) rfl ?_
              exact ihL3 _ (by omega) (j + 1) (evalOp (byF s m t) op Z) (by omega) (by first | (rw [len_push (by omega)]; omega) | (rw [len_not (by omega)]; omega) | (rw [len_bin (by omega) (by omega)]; omega)) (by first | (rw [len_push (by omega)]; exact (wf_pos hwf2 (by omega)).2.2.2.2) | (rw [len_not (by omega)]; exact (wf_not hwf2 (by omega)).2) | (rw [len_bin (by omega) (by omega)]; exact (wf_bin hwf2 (by omega) (by omega) hok.1).2.2)) (by exact hev2) rfl _ (by first | rw [pb_pushT (S := Z) (by' := byF s m t) (op := op) (by omega) (by omega) (by assumption)] | rw [pb_pushF (S := Z) (by' := byF s m t) (op := op) (by omega) (by omega) (by assumption)] | rw [pb_not (S := Z) (by' := byF s m t) (op := op) (by omega) (by omega) (by omega)] | rw [pb_and (S := Z) (by' := byF s m t) (op := op) (by omega) (by omega) (by omega)] | rw [pb_or (S := Z) (by' := byF s m t) (op := op) (by omega) (by omega) (by omega)]) _ (by omega)
          · skip
            have hwp := wf_pos hwf2 (by omega)
            refine v_iload hG dX6_holds_36 6 rfl ?_
            refine v_iconst hG dX6_holds_38 ?_
            refine v_ishl hG dX6_holds_39 (by omega) ?_
            refine v_iload hG dX6_holds_40 0 rfl ?_
            refine v_aload_n hG dX6_holds_42 rfl 4 rfl ?_
            refine v_iload hG dX6_holds_43 5 rfl ?_
            refine v_callS (k1' := 0) (k2' := 0) hG dX6_holds_45 zc_X6_isSo ⟨zl_X6_111, zt_X6_isSo⟩ (fun l => kc6_isSo l D A ad K S Q qa tp s bo e uc lr nx b hb m (cvO op) t op (by omega) (by first | assumption | omega) (by first | assumption | exact hM _ (by omega) (by omega)) (by first | assumption | rfl) (by exact ⟨by omega, hok.2, by omega, by omega⟩) (by omega)) rfl (fun _ h => h) ⟨by decide, by decide⟩ rfl rfl ⟨by decide, by decide⟩ (rest := [vI ((pb Z : Int) * 2 ^ (1 : Int).toNat)]) rfl (Nat.le_of_ble_eq_true rfl) (fun u22 => [vI (bi (testOp (byF s m t) op = true)), vI ((pb Z : Int) * 2 ^ (1 : Int).toNat)]) (fun _ => rfl) (fun u22 hu22 => ?_)
            refine v_ifb_eq (p := testOp (byF s m t) op = true) (tgt := 55) hG dX6_holds_48 (by decide) (fun c23 => ?_) (fun c23 => ?_)
            · skip
              refine v_iconst hG dX6_holds_55 ?_
              refine v_ior hG dX6_holds_56 ?_
              refine v_istore (lo' := [(5, vI (ior ((pb Z : Int) * 2 ^ (1 : Int).toNat) 0)), (7, vI (cvO op)), (0, .ref (kP ad p)), (1, vI (F : Int)), (2, vI ((F + L.length : Nat) : Int)), (3, .ref (kM ad b m)), (4, vI t), (6, vI ((F + j : Nat) : Int))]) hG dX6_holds_57 (by decide) rfl ?_
              refine v_goto (tgt := 114) hG dX6_holds_59 (by decide) ?_
              refine v_iinc (lo' := [(6, vI (((F + j : Nat) : Int) + 1)), (5, vI (ior ((pb Z : Int) * 2 ^ (1 : Int).toNat) 0)), (7, vI (cvO op)), (0, .ref (kP ad p)), (1, vI (F : Int)), (2, vI ((F + L.length : Nat) : Int)), (3, .ref (kM ad b m)), (4, vI t)]) hG dX6_holds_114 7 rfl (by decide) rfl ?_
              refine v_goto (tgt := 6) hG dX6_holds_117 (by decide) ?_
              refine v_lo [3, 4, 5, 6, 7, 1, 0] (lo' := [(0, .ref (kP ad p)), (1, vI (F : Int)), (2, vI ((F + L.length : Nat) : Int)), (3, .ref (kM ad b m)), (4, vI t), (5, vI (ior ((pb Z : Int) * 2 ^ (1 : Int).toNat) 0)), (6, vI (((F + j : Nat) : Int) + 1))]) rfl ?_
              exact ihL3 _ (by omega) (j + 1) (evalOp (byF s m t) op Z) (by omega) (by first | (rw [len_push (by omega)]; omega) | (rw [len_not (by omega)]; omega) | (rw [len_bin (by omega) (by omega)]; omega)) (by first | (rw [len_push (by omega)]; exact (wf_pos hwf2 (by omega)).2.2.2.2) | (rw [len_not (by omega)]; exact (wf_not hwf2 (by omega)).2) | (rw [len_bin (by omega) (by omega)]; exact (wf_bin hwf2 (by omega) (by omega) hok.1).2.2)) (by exact hev2) rfl _ (by first | rw [pb_pushT (S := Z) (by' := byF s m t) (op := op) (by omega) (by omega) (by assumption)] | rw [pb_pushF (S := Z) (by' := byF s m t) (op := op) (by omega) (by omega) (by assumption)] | rw [pb_not (S := Z) (by' := byF s m t) (op := op) (by omega) (by omega) (by omega)] | rw [pb_and (S := Z) (by' := byF s m t) (op := op) (by omega) (by omega) (by omega)] | rw [pb_or (S := Z) (by' := byF s m t) (op := op) (by omega) (by omega) (by omega)]) _ (by omega)
            · skip
              refine v_iconst hG dX6_holds_51 ?_
              refine v_goto (tgt := 56) hG dX6_holds_52 (by decide) ?_
              refine v_ior hG dX6_holds_56 ?_
              refine v_istore (lo' := [(5, vI (ior ((pb Z : Int) * 2 ^ (1 : Int).toNat) 1)), (7, vI (cvO op)), (0, .ref (kP ad p)), (1, vI (F : Int)), (2, vI ((F + L.length : Nat) : Int)), (3, .ref (kM ad b m)), (4, vI t), (6, vI ((F + j : Nat) : Int))]) hG dX6_holds_57 (by decide) rfl ?_
              refine v_goto (tgt := 114) hG dX6_holds_59 (by decide) ?_
              refine v_iinc (lo' := [(6, vI (((F + j : Nat) : Int) + 1)), (5, vI (ior ((pb Z : Int) * 2 ^ (1 : Int).toNat) 1)), (7, vI (cvO op)), (0, .ref (kP ad p)), (1, vI (F : Int)), (2, vI ((F + L.length : Nat) : Int)), (3, .ref (kM ad b m)), (4, vI t)]) hG dX6_holds_114 7 rfl (by decide) rfl ?_
              refine v_goto (tgt := 6) hG dX6_holds_117 (by decide) ?_
              refine v_lo [3, 4, 5, 6, 7, 1, 0] (lo' := [(0, .ref (kP ad p)), (1, vI (F : Int)), (2, vI ((F + L.length : Nat) : Int)), (3, .ref (kM ad b m)), (4, vI t), (5, vI (ior ((pb Z : Int) * 2 ^ (1 : Int).toNat) 1)), (6, vI (((F + j : Nat) : Int) + 1))]) rfl ?_
              exact ihL3 _ (by omega) (j + 1) (evalOp (byF s m t) op Z) (by omega) (by first | (rw [len_push (by omega)]; omega) | (rw [len_not (by omega)]; omega) | (rw [len_bin (by omega) (by omega)]; omega)) (by first | (rw [len_push (by omega)]; exact (wf_pos hwf2 (by omega)).2.2.2.2) | (rw [len_not (by omega)]; exact (wf_not hwf2 (by omega)).2) | (rw [len_bin (by omega) (by omega)]; exact (wf_bin hwf2 (by omega) (by omega) hok.1).2.2)) (by exact hev2) rfl _ (by first | rw [pb_pushT (S := Z) (by' := byF s m t) (op := op) (by omega) (by omega) (by assumption)] | rw [pb_pushF (S := Z) (by' := byF s m t) (op := op) (by omega) (by omega) (by assumption)] | rw [pb_not (S := Z) (by' := byF s m t) (op := op) (by omega) (by omega) (by omega)] | rw [pb_and (S := Z) (by' := byF s m t) (op := op) (by omega) (by omega) (by omega)] | rw [pb_or (S := Z) (by' := byF s m t) (op := op) (by omega) (by omega) (by omega)]) _ (by omega)
  exact L3 _ 0 ([]) (by omega) (by decide) (by exact hwf) (by rfl) rfl _ (by rfl) _ (by rfl)
