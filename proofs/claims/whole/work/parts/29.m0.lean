/-! THE MODEL: zeroth walks -/
theorem looks_at {s : Int → Int} {SL : List Int} {j : Nat} (hE : HE s SL) (hj : j < SL.length) : (0 ≤ s 49 ∧ s 49 ≤ 4) ∧ SL.drop j = s (273 + 140 * s 49 + (j : Int)) :: SL.drop (j + 1) := by
  rcases hE.2.2 with ⟨-, q⟩ | ⟨q1, q2, q3, q4⟩
  · rw [q] at hj; exact absurd hj (Nat.not_lt_zero j)
  · refine ⟨⟨q1, q2⟩, ?_⟩
    rw [q4 j hj, List.drop_eq_getElem_cons hj]
    simp [List.getD, hj]
theorem looks_many {s : Int → Int} {SL : List Int} (hE : HE s SL) : (if s 49 = -1 then 0 else s (268 + s 49)) = (SL.length : Int) ∧ (-1 ≤ s 49 ∧ s 49 ≤ 4) ∧ SL.length ≤ 140 := by
  rcases hE.2.2 with ⟨q, q2⟩ | ⟨q1, q2, q3, q4⟩
  · rw [if_pos q, q2]; exact ⟨rfl, by omega, by simp⟩
  · rw [if_neg (by omega)]; exact ⟨q3, by omega, hE.2.1⟩
theorem wf_pos {op : Int} {r : List Int} {d : Nat} (h : wfS (op :: r) d) (h2 : 0 ≤ op) : op % 8 < 6 ∧ op / 8 % 4 < 3 ∧ op < 4000 ∧ d < 20 ∧ wfS r (d + 1) := by
  unfold wfS at h
  rw [if_pos h2] at h
  exact h
theorem wf_not {op : Int} {r : List Int} {d : Nat} (h : wfS (op :: r) d) (h2 : op = -1) : 1 ≤ d ∧ wfS r d := by
  unfold wfS at h
  rw [if_neg (by omega), if_pos h2] at h
  exact h
theorem wf_bin {op : Int} {r : List Int} {d : Nat} (h : wfS (op :: r) d) (h1 : ¬ 0 ≤ op) (h2 : ¬ op = -1) (h3 : -10 < op) : (op = -2 ∨ op = -3) ∧ 2 ≤ d ∧ wfS r (d - 1) := by
  unfold wfS at h
  rw [if_neg h1, if_neg h2, if_pos h3] at h
  exact h
theorem wf_end {op : Int} {r : List Int} {d : Nat} (h : wfS (op :: r) d) (h3 : ¬ -10 < op) : d = 1 ∧ -299 ≤ op ∧ (op ≤ -200 ∨ -109 ≤ op) ∧ wfS r 0 := by
  unfold wfS at h
  rw [if_neg (by omega), if_neg (by omega), if_neg h3] at h
  exact h
theorem wf_rng {op : Int} {r : List Int} {d : Nat} (h : wfS (op :: r) d) : -299 ≤ op ∧ op < 4000 := by
  by_cases h1 : 0 ≤ op
  · have := wf_pos h h1; omega
  · by_cases h2 : -10 < op
    · omega
    · have := wf_end h h2; omega
def TRU (f : Int → Int) : List Bool → Prop
  | [] => True
  | b :: r => f r.length = bi (b = true) ∧ TRU f r
theorem TRU_sU {f : Int → Int} {q v : Int} : ∀ {st : List Bool}, TRU f st → (st.length : Int) ≤ q → TRU (sU f q v) st
  | [], _, _ => trivial
  | b :: r, h, hq => by
    rw [List.length_cons] at hq
    exact ⟨(sU_ne (by omega)).trans h.1, TRU_sU h.2 (by omega)⟩
theorem tru_hd {f : Int → Int} {st : List Bool} (h : TRU f st) (h1 : 1 ≤ st.length) : f ((st.length : Int) - 1) = bi (st.headD false = true) := by
  cases st with
  | nil => exact absurd h1 (by decide)
  | cons b r =>
    rw [List.length_cons, show ((r.length + 1 : Nat) : Int) - 1 = r.length by omega]
    exact h.1
theorem tru_2 {f : Int → Int} {st : List Bool} (h : TRU f st) (h1 : 2 ≤ st.length) : f ((st.length : Int) + -1 - 1) = bi (st.tail.headD false = true) := by
  cases st with
  | nil => exact absurd h1 (by decide)
  | cons b r =>
    rw [List.length_cons, show ((r.length + 1 : Nat) : Int) + -1 - 1 = r.length - 1 by omega]
    exact tru_hd h.2 (by rw [List.length_cons] at h1; omega)
theorem bi_c {p : Prop} [Decidable p] {b : Bool} (h : p ↔ b = true) : bi p = bi (b = true) := bi_congr h
theorem tru_push {f : Int → Int} {st : List Bool} {by' : Int → Int} {op : Int} {p : Prop} [Decidable p] (h : TRU f st) (h1 : 0 ≤ op) (hp : p ↔ testOp by' op = true) : TRU (sU f (st.length : Int) (bi p)) (evalOp by' op st) := by
  unfold evalOp
  rw [if_pos h1]
  exact ⟨sU_eq.trans (bi_c hp), TRU_sU h (by omega)⟩
theorem tru_not {f : Int → Int} {st : List Bool} {by' : Int → Int} {op : Int} {p : Prop} [Decidable p] (h : TRU f st) (h1 : op = -1) (hl : 1 ≤ st.length) (hp : p ↔ (!st.headD false) = true) : TRU (sU f ((st.length : Int) - 1) (bi p)) (evalOp by' op st) := by
  unfold evalOp
  rw [if_neg (by omega), if_pos h1]
  cases st with
  | nil => exact absurd hl (by decide)
  | cons b r =>
    rw [List.length_cons, show ((r.length + 1 : Nat) : Int) - 1 = r.length by omega]
    exact ⟨sU_eq.trans (bi_c hp), TRU_sU h.2 (by omega)⟩
theorem tru_bin {f : Int → Int} {st : List Bool} {by' : Int → Int} {op : Int} {p : Prop} [Decidable p] (h : TRU f st) (h1 : op = -2 ∨ op = -3) (hl : 2 ≤ st.length) (hp : p ↔ (if op = -2 then (st.tail.headD false && st.headD false) else (st.tail.headD false || st.headD false)) = true) : TRU (sU f ((st.length : Int) + -1 - 1) (bi p)) (evalOp by' op st) := by
  unfold evalOp
  rw [if_neg (by omega), if_neg (by omega)]
  cases st with
  | nil => exact absurd hl (by decide)
  | cons b r =>
    cases r with
    | nil => exact absurd hl (by simp)
    | cons c r =>
      rw [List.length_cons, List.length_cons, show ((r.length + 1 + 1 : Nat) : Int) + -1 - 1 = r.length by omega]
      rcases h1 with q | q
      · rw [if_pos q] at hp ⊢
        exact ⟨sU_eq.trans (bi_c hp), TRU_sU h.2.2 (by omega)⟩
      · rw [if_neg (by omega)] at hp ⊢
        exact ⟨sU_eq.trans (bi_c hp), TRU_sU h.2.2 (by omega)⟩
theorem len_push {by' : Int → Int} {op : Int} {st : List Bool} (h : 0 ≤ op) : (evalOp by' op st).length = st.length + 1 := by
  unfold evalOp
  rw [if_pos h]; rfl
theorem len_not {by' : Int → Int} {op : Int} {st : List Bool} (h : op = -1) : (evalOp by' op st).length = st.length := by
  unfold evalOp
  rw [if_neg (by omega), if_pos h]
  cases st <;> rfl
theorem len_bin {by' : Int → Int} {op : Int} {st : List Bool} (h1 : op = -2 ∨ op = -3) (hl : 2 ≤ st.length) : (evalOp by' op st).length = st.length - 1 := by
  unfold evalOp
  rw [if_neg (by omega), if_neg (by omega)]
  cases st with
  | nil => exact absurd hl (by decide)
  | cons b r =>
    cases r with
    | nil => exact absurd hl (by simp)
    | cons c r => split <;> rfl
theorem ev_step {by' : Int → Int} {op : Int} {r : List Int} {st : List Bool} {u : Int} (h : -10 < op) : evalS by' (op :: r) st u = evalS by' r (evalOp by' op st) u := if_pos h
theorem ev_end {by' : Int → Int} {op : Int} {r : List Int} {st : List Bool} {u : Int} (h : ¬ -10 < op) : evalS by' (op :: r) st u = evalS by' r [] (if st.headD false then (if -200 < op then u + (-10 - op) else u - (-200 - op)) else u) := if_neg h
def bA (bY s : Int → Int) (m t : Int) : Int → Int := sU (sU (sU (sU (sU (sU bY 0 m) 1 (s (50 + m))) 2 (s (3 + m))) 3 (s (66 + m) / 10)) 4 (t / 10)) 5 (s (58 + m))
theorem bA_at {bY s : Int → Int} {m t q : Int} (h : 0 ≤ q ∧ q < 6) : bA bY s m t q = byF s m t q := by
  unfold bA byF
  simp only [sU]
  (repeat' split) <;> first | rfl | omega
theorem byF_rng {s : Int → Int} {m t : Int} (hm : MK s m) (h8 : 0 ≤ m ∧ m < 8) (ht : 0 ≤ t ∧ t ≤ 1000) (q : Int) : 0 ≤ byF s m t q ∧ byF s m t q ≤ 1000 := by
  have h1 := hm.1; have h2 := hm.2.1; have h3 := hm.2.2.1; have h4 := hm.2.2.2.1
  unfold byF
  (repeat' split) <;> omega
theorem bi_h {b : Bool} : bi (b = true) = 0 ∨ bi (b = true) = 1 := bi_01 _
set_option maxHeartbeats 4000000 in
set_option maxRecDepth 100000 in
theorem k_in (l : Launch) (D : Dx) (A : Nat → Prop) (P : Heap → Prop) (v : Int) (low : Int) (high : Int) (h1 : -2147483648 ≤ v ∧ v < 2147483648) (h2 : -2147483648 ≤ low ∧ low < 2147483648) (h3 : -2147483648 ≤ high ∧ high < 2147483648) : CT l D A yX12_in cX12_in 3 (some .boolean) { frames := 0, cells := 0, slots := 0, locals := 0 } [vI v, vI low, vI high] P (fun _ : Unit => some (vI (bi (low ≤ v ∧ v ≤ high)))) (fun _ => True) (fun _ => P) := by
  refine ct_of (lo0 := [(0, vI v), (1, vI low), (2, vI high)]) (by decide) (Nat.le_of_ble_eq_true rfl) rfl ?_
  intro G hG hR
  refine v_iload_n hG dX12_in_0 rfl 0 rfl ?_
  refine v_iload_n hG dX12_in_1 rfl 1 rfl ?_
  have J2 : ∀ z1 : Int, z1 = (bi ((¬ (v < low)) ∧ (¬ (high < v)))) → V G 0 0 (P) 15 [(0, vI v), (1, vI low), (2, vI high)] [vI z1] := by
    intro z1 hz1
    subst hz1
    have e3 : @Eq Int (bi (low ≤ v ∧ v ≤ high)) (bi ((¬ (v < low)) ∧ (¬ (high < v)))) := by first | rfl | omega | (exact bi_congr (by omega)) | (simp []; done)
    exact v_zreturn hG hR dX12_in_15 (bi_01 _) () (congrArg (fun z => some (vI z)) e3) (by trivial) (fun _ hM => hM)
  refine v_icmp_lt (tgt := 14) hG dX12_in_2 (by decide) (by omega) (by omega) (fun c4 => ?_) (fun c4 => ?_)
  · skip
    refine v_iconst hG dX12_in_14 ?_
    exact J2 _ (by first | rfl | (simp only [if_pos c4]; done) | (simp [bi, c4]; done))
  · skip
    refine v_iload_n hG dX12_in_5 rfl 0 rfl ?_
    refine v_iload_n hG dX12_in_6 rfl 2 rfl ?_
    refine v_icmp_gt (tgt := 14) hG dX12_in_7 (by decide) (by omega) (by omega) (fun c5 => ?_) (fun c5 => ?_)
    · skip
      refine v_iconst hG dX12_in_14 ?_
      exact J2 _ (by first | rfl | (simp only [if_neg c4, if_pos c5]; done) | (simp [bi, c4, c5]; done))
    · skip
      refine v_iconst hG dX12_in_10 ?_
      refine v_goto (tgt := 15) hG dX12_in_11 (by decide) ?_
      exact J2 _ (by first | rfl | (simp only [if_neg c4, if_neg c5]; done) | (simp [bi, c4, c5]; done))
set_option maxHeartbeats 4000000 in
set_option maxRecDepth 100000 in
theorem k_within (l : Launch) (D : Dx) (A : Nat → Prop) (P : Heap → Prop) (v : Int) (low : Int) (high : Int) (h1 : -2147483648 ≤ v ∧ v < 2147483648) (h2 : -2147483648 ≤ low ∧ low < 2147483648) (h3 : -2147483648 ≤ high ∧ high < 2147483648) : CT l D A yX12_within cX12_within 3 (some .int) { frames := 0, cells := 0, slots := 0, locals := 0 } [vI v, vI low, vI high] P (fun _ : Unit => some (vI (clamp v low high))) (fun _ => True) (fun _ => P) := by
  refine ct_of (lo0 := [(0, vI v), (1, vI low), (2, vI high)]) (by decide) (Nat.le_of_ble_eq_true rfl) rfl ?_
  intro G hG hR
  refine v_iload_n hG dX12_within_0 rfl 0 rfl ?_
  refine v_iload_n hG dX12_within_1 rfl 1 rfl ?_
  refine v_icmp_ge (tgt := 9) hG dX12_within_2 (by decide) (by omega) (by omega) (fun c1 => ?_) (fun c1 => ?_)
  · skip
    refine v_iload_n hG dX12_within_9 rfl 0 rfl ?_
    refine v_iload_n hG dX12_within_10 rfl 2 rfl ?_
    refine v_icmp_le (tgt := 18) hG dX12_within_11 (by decide) (by omega) (by omega) (fun c2 => ?_) (fun c2 => ?_)
    · skip
      refine v_iload_n hG dX12_within_18 rfl 0 rfl ?_
      have e3 : @Eq Int (clamp v low high) (v) := by (unfold clamp; repeat' split <;> omega)
      exact v_ireturn hG hR dX12_within_19 () (congrArg (fun z => some (vI z)) e3) (by trivial) (fun _ hM => hM)
    · skip
      refine v_iload_n hG dX12_within_14 rfl 2 rfl ?_
      refine v_goto (tgt := 19) hG dX12_within_15 (by decide) ?_
      have e4 : @Eq Int (clamp v low high) (high) := by (unfold clamp; repeat' split <;> omega)
      exact v_ireturn hG hR dX12_within_19 () (congrArg (fun z => some (vI z)) e4) (by trivial) (fun _ hM => hM)
  · skip
    refine v_iload_n hG dX12_within_5 rfl 1 rfl ?_
    refine v_goto (tgt := 19) hG dX12_within_6 (by decide) ?_
    have e5 : @Eq Int (clamp v low high) (low) := by (unfold clamp; repeat' split <;> omega)
    exact v_ireturn hG hR dX12_within_19 () (congrArg (fun z => some (vI z)) e5) (by trivial) (fun _ hM => hM)
set_option maxHeartbeats 4000000 in
set_option maxRecDepth 100000 in
theorem k_tellsOf (l : Launch) (D : Dx) (A : Nat → Prop) (a : Nat → Nat) (s im fr bY tr ln bl bo g lg : Int → Int) (w : Int) (n : Int) (hP1 : -1 ≤ s 49 ∧ s 49 ≤ 4) (h1 : 0 ≤ w ∧ w ≤ 900) : CT l D A yX12_tellsOf cX12_tellsOf 3 (some .int) { frames := 0, cells := 0, slots := 0, locals := 0 } [.ref (a 0), vI w, vI n] (MW D A a s im fr bY tr ln bl bo g lg) (fun _ : Unit => some (vI (if s 49 = -1 then n else s (w + s 49)))) (fun _ => True) (fun _ => MW D A a s im fr bY tr ln bl bo g lg) := by
  refine ct_of (lo0 := [(0, .ref (a 0)), (1, vI w), (2, vI n)]) (by decide) (Nat.le_of_ble_eq_true rfl) rfl ?_
  intro G hG hR
  refine v_aload_n hG dX12_tellsOf_0 rfl 0 rfl ?_
  refine mg_s hG dX12_tellsOf_1 ?_
  refine v_bipush hG dX12_tellsOf_4 (by decide) ?_
  refine ma_s (z := s 49) hG dX12_tellsOf_6 (by omega) rfl ?_
  refine v_iconst hG dX12_tellsOf_7 ?_
  refine v_icmp_ne (tgt := 15) hG dX12_tellsOf_8 (by decide) (by omega) (by omega) (fun c1 => ?_) (fun c1 => ?_)
  · skip
    refine v_aload_n hG dX12_tellsOf_15 rfl 0 rfl ?_
    refine mg_s hG dX12_tellsOf_16 ?_
    refine v_iload_n hG dX12_tellsOf_19 rfl 1 rfl ?_
    refine v_aload_n hG dX12_tellsOf_20 rfl 0 rfl ?_
    refine mg_s hG dX12_tellsOf_21 ?_
    refine v_bipush hG dX12_tellsOf_24 (by decide) ?_
    refine ma_s (z := s 49) hG dX12_tellsOf_26 (by omega) rfl ?_
    refine v_iadd hG dX12_tellsOf_27 ?_
    refine ma_s (z := s (w + (s 49))) hG dX12_tellsOf_28 (by omega) rfl ?_
    have e2 : @Eq Int (if s 49 = -1 then n else s (w + s 49)) (s (w + (s 49))) := by first | rfl | (simp only [if_true, if_neg c1]; done) | (simp only [if_true, if_neg c1]; done) | (simp only [if_true, if_neg c1]; rfl) | (simp only [if_true, if_neg c1]; omega)
    exact v_ireturn hG hR dX12_tellsOf_29 () (congrArg (fun z => some (vI z)) e2) (by trivial) (fun _ hM => hM)
  · skip
    refine v_iload_n hG dX12_tellsOf_11 rfl 2 rfl ?_
    refine v_goto (tgt := 29) hG dX12_tellsOf_12 (by decide) ?_
    have e3 : @Eq Int (if s 49 = -1 then n else s (w + s 49)) (n) := by first | rfl | (simp only [if_true, if_pos c1]; done) | (simp only [if_true, if_pos c1]; done) | (simp only [if_true, if_pos c1]; rfl) | (simp only [if_true, if_pos c1]; omega)
    exact v_ireturn hG hR dX12_tellsOf_29 () (congrArg (fun z => some (vI z)) e3) (by trivial) (fun _ hM => hM)
set_option maxHeartbeats 4000000 in
set_option maxRecDepth 100000 in
theorem k_looks (l : Launch) (D : Dx) (A : Nat → Prop) (a : Nat → Nat) (s im fr bY tr ln bl bo g lg : Int → Int) (m : Int) (t : Int) (SL : List Int) (h8 : 0 ≤ m ∧ m < 8) (hm : MK s m) (hE : HE s SL) (ht : 0 ≤ t ∧ t ≤ 1000) : CT l D A yX12_looks cX12_looks 12 (some .int) { frames := 1, cells := 0, slots := 0, locals := 22 } [.ref (a 0), vI m, vI t] (MW D A a s im fr bY tr ln bl bo g lg) (fun u : (Int → Int) × (Int → Int) => some (vI (q_look s SL m t))) (fun u => -42000 ≤ q_look s SL m t ∧ q_look s SL m t ≤ 42000) (fun u => MW D A a s im fr u.1 u.2 ln bl bo g lg) := by
  refine ct_of (lo0 := [(0, .ref (a 0)), (1, vI m), (2, vI t)]) (by decide) (Nat.le_of_ble_eq_true rfl) rfl ?_
  intro G hG hR
  have hm1 := hm.1; have hm2 := hm.2.1; have hm3 := hm.2.2.1; have hm4 := hm.2.2.2.1
  have h8m := h8
  obtain ⟨hmany, h49a, h140⟩ := looks_many hE
  refine v_aload_n hG dX12_looks_0 rfl 0 rfl ?_
  refine mg_by hG dX12_looks_1 ?_
  refine v_iconst hG dX12_looks_4 ?_
  refine v_iload_n hG dX12_looks_5 rfl 1 rfl ?_
  refine ms_by hG dX12_looks_6 (by omega) ?_
  refine v_aload_n hG dX12_looks_7 rfl 0 rfl ?_
  refine mg_by hG dX12_looks_8 ?_
  refine v_iconst hG dX12_looks_11 ?_
  refine v_aload_n hG dX12_looks_12 rfl 0 rfl ?_
  refine mg_s hG dX12_looks_13 ?_
  refine v_bipush hG dX12_looks_16 (by decide) ?_
  refine v_iload_n hG dX12_looks_18 rfl 1 rfl ?_
  refine v_iadd hG dX12_looks_19 ?_
  refine ma_s (z := s (50 + m)) hG dX12_looks_20 (by omega) rfl ?_
  refine ms_by hG dX12_looks_21 (by omega) ?_
  refine v_aload_n hG dX12_looks_22 rfl 0 rfl ?_
  refine mg_by hG dX12_looks_23 ?_
  refine v_iconst hG dX12_looks_26 ?_
  refine v_aload_n hG dX12_looks_27 rfl 0 rfl ?_
  refine mg_s hG dX12_looks_28 ?_
  refine v_iconst hG dX12_looks_31 ?_
  refine v_iload_n hG dX12_looks_32 rfl 1 rfl ?_
  refine v_iadd hG dX12_looks_33 ?_
  refine ma_s (z := s (3 + m)) hG dX12_looks_34 (by omega) rfl ?_
  refine ms_by hG dX12_looks_35 (by omega) ?_
  refine v_aload_n hG dX12_looks_36 rfl 0 rfl ?_
  refine mg_by hG dX12_looks_37 ?_
  refine v_iconst hG dX12_looks_40 ?_
  refine v_aload_n hG dX12_looks_41 rfl 0 rfl ?_
  refine mg_s hG dX12_looks_42 ?_
  refine v_bipush hG dX12_looks_45 (by decide) ?_
  refine v_iload_n hG dX12_looks_47 rfl 1 rfl ?_
  refine v_iadd hG dX12_looks_48 ?_
  refine ma_s (z := s (66 + m)) hG dX12_looks_49 (by omega) rfl ?_
  refine v_bipush hG dX12_looks_50 (by decide) ?_
  refine v_idiv hG dX12_looks_52 (by omega) (by omega) ?_
  refine ms_by hG dX12_looks_53 (by omega) ?_
  refine v_aload_n hG dX12_looks_54 rfl 0 rfl ?_
  refine mg_by hG dX12_looks_55 ?_
  refine v_iconst hG dX12_looks_58 ?_
  refine v_iload_n hG dX12_looks_59 rfl 2 rfl ?_
  refine v_bipush hG dX12_looks_60 (by decide) ?_
  refine v_idiv hG dX12_looks_62 (by omega) (by omega) ?_
  refine ms_by hG dX12_looks_63 (by omega) ?_
  refine v_aload_n hG dX12_looks_64 rfl 0 rfl ?_
  refine mg_by hG dX12_looks_65 ?_
  refine v_iconst hG dX12_looks_68 ?_
  refine v_aload_n hG dX12_looks_69 rfl 0 rfl ?_
  refine mg_s hG dX12_looks_70 ?_
  refine v_bipush hG dX12_looks_73 (by decide) ?_
  refine v_iload_n hG dX12_looks_75 rfl 1 rfl ?_
  refine v_iadd hG dX12_looks_76 ?_
  refine ma_s (z := s (58 + m)) hG dX12_looks_77 (by omega) rfl ?_
  refine ms_by hG dX12_looks_78 (by omega) ?_
  refine v_iconst hG dX12_looks_79 ?_
  refine v_istore_n (lo' := [(3, vI 0), (0, .ref (a 0)), (1, vI m), (2, vI t)]) hG dX12_looks_80 rfl (by decide) rfl ?_
  refine v_aload_n hG dX12_looks_81 rfl 1 rfl ?_
  refine v_sipush hG dX12_looks_82 (by decide) ?_
  refine v_iconst hG dX12_looks_85 ?_
  refine v_callV (k1' := 0) (k2' := 0) hG dX12_looks_86 zc_X12_tellsOf ⟨zl_X12_123, zi_X12_tellsOf, zs_X12_tellsOf⟩ (fun l => k_tellsOf l D A a s im fr (sU (sU (sU (sU (sU (sU bY 0 m) 1 (s (50 + m))) 2 (s (3 + m))) 3 ((s (66 + m)) / 10)) 4 (t / 10)) 5 (s (58 + m))) tr ln bl bo g lg 268 0 (by first | exact hP.1 | omega) (by omega)) rfl mw_recv (fun _ h => h) ⟨by decide, by decide⟩ rfl rfl ⟨by decide, by decide⟩ (rest := []) rfl (Nat.le_of_ble_eq_true rfl) (fun u1 => [vI (if s 49 = -1 then 0 else s (268 + s 49))]) (fun _ => rfl) (fun u1 hu1 => ?_)
  refine v_istore (lo' := [(4, vI (if s 49 = -1 then 0 else s (268 + s 49))), (3, vI 0), (0, .ref (a 0)), (1, vI m), (2, vI t)]) hG dX12_looks_89 (by decide) rfl ?_
  refine v_sipush hG dX12_looks_91 (by decide) ?_
  refine v_sipush hG dX12_looks_94 (by decide) ?_
  refine v_aload_n hG dX12_looks_97 rfl 2 rfl ?_
  refine mg_s hG dX12_looks_98 ?_
  refine v_bipush hG dX12_looks_101 (by decide) ?_
  refine ma_s (z := s 49) hG dX12_looks_103 (by omega) rfl ?_
  refine v_imul hG dX12_looks_104 ?_
  refine v_iadd hG dX12_looks_105 ?_
  refine v_istore (lo' := [(5, vI (273 + (140 * (s 49)))), (4, vI (if s 49 = -1 then 0 else s (268 + s 49))), (3, vI 0), (0, .ref (a 0)), (1, vI m), (2, vI t)]) hG dX12_looks_106 (by decide) rfl ?_
  refine v_iconst hG dX12_looks_108 ?_
  refine v_istore (lo' := [(6, vI 0), (5, vI (273 + (140 * (s 49)))), (4, vI (if s 49 = -1 then 0 else s (268 + s 49))), (3, vI 0), (0, .ref (a 0)), (1, vI m), (2, vI t)]) hG dX12_looks_109 (by decide) rfl ?_
  refine v_iload hG dX12_looks_111 1 rfl ?_
  refine v_istore (lo' := [(7, vI (273 + (140 * (s 49)))), (6, vI 0), (5, vI (273 + (140 * (s 49)))), (4, vI (if s 49 = -1 then 0 else s (268 + s 49))), (3, vI 0), (0, .ref (a 0)), (1, vI m), (2, vI t)]) hG dX12_looks_113 (by decide) rfl ?_
  refine v_lo [5, 6, 7, 4, 3, 2, 1, 0] (lo' := [(0, .ref (a 0)), (1, vI m), (2, vI t), (3, vI 0), (4, vI (if s 49 = -1 then 0 else s (268 + s 49))), (5, vI (273 + (140 * (s 49)))), (6, vI 0), (7, vI (273 + (140 * (s 49))))]) rfl ?_
  have L6 : ∀ mz : Nat, ∀ (j : Nat) (st : List Bool) (f : Int → Int) (u : Int), (j ≤ SL.length) → (wfS (SL.drop j) st.length) → (TRU f st) → (evalS (byF s m t) (SL.drop j) st u = q_look s SL m t) → (st.length ≤ 60) → (-300 * (j : Int) ≤ u ∧ u ≤ 300 * (j : Int)) → SL.length - j = mz → ∀ x2 : Int, x2 = (273 + 140 * s 49 + (j : Int)) → ∀ x3 : Int, x3 = ((st.length : Int)) → ∀ x4 : Int, x4 = (u) → ∀ x5 : Int → Int, x5 = (f) → V G 0 0 (MW D A a s im fr (sU (sU (sU (sU (sU (sU bY 0 m) 1 (s (50 + m))) 2 (s (3 + m))) 3 ((s (66 + m)) / 10)) 4 (t / 10)) 5 (s (58 + m))) x5 ln bl bo g lg) 115 [(0, .ref (a 0)), (1, vI m), (2, vI t), (3, vI x4), (4, vI (if s 49 = -1 then 0 else s (268 + s 49))), (5, vI (273 + (140 * (s 49)))), (6, vI x3), (7, vI x2)] [] := by
    intro dL6
    induction dL6 using Nat.strongRecOn with
    | ind dL6 ihL6 =>
      intro j st f u hq7 hq8 hq9 hq10 hq11 hq12 hq13
      intro x2 hx2
      subst hx2
      intro x3 hx3
      subst hx3
      intro x4 hx4
      replace hx4 := hx4.symm
      subst hx4
      intro x5 hx5
      replace hx5 := hx5.symm
      subst hx5
      refine v_iload hG dX12_looks_115 7 rfl ?_
      refine v_iload hG dX12_looks_117 5 rfl ?_
      refine v_iload hG dX12_looks_119 4 rfl ?_
      refine v_iadd hG dX12_looks_121 ?_
      refine v_icmp_ge (tgt := 422) hG dX12_looks_122 (by decide) (by omega) (by omega) (fun c14 => ?_) (fun c14 => ?_)
      · skip
        refine v_iload_n hG dX12_looks_422 rfl 3 rfl ?_
        have e15 : @Eq Int (q_look s SL m t) (u) := by have hj9 : j = SL.length := (by omega); have hev := ‹evalS (byF s m t) (SL.drop j) st u = q_look s SL m t›; rw [hj9, List.drop_length] at hev; exact hev.symm
        exact v_ireturn hG hR dX12_looks_423 (sU (sU (sU (sU (sU (sU bY 0 m) 1 (s (50 + m))) 2 (s (3 + m))) 3 ((s (66 + m)) / 10)) 4 (t / 10)) 5 (s (58 + m)), f) (congrArg (fun z => some (vI z)) e15) (by exact q_look_rng m t hE) (fun _ hM => hM)
      · skip
        have hjl : j < SL.length := by omega
        obtain ⟨h49, hdr⟩ := looks_at hE hjl
        have hwf := ‹wfS (SL.drop j) st.length›
        have hev := ‹evalS (byF s m t) (SL.drop j) st u = q_look s SL m t›
        have htr := ‹TRU f st›
        rw [hdr] at hwf hev
        have hwr := wf_rng hwf
        refine v_aload_n hG dX12_looks_125 rfl 0 rfl ?_
        refine mg_s hG dX12_looks_126 ?_
        refine v_iload hG dX12_looks_129 7 rfl ?_
        refine ma_s (z := s (273 + 140 * s 49 + (j : Int))) hG dX12_looks_131 (by omega) rfl ?_
        refine v_istore (lo' := [(8, vI (s (273 + 140 * s 49 + (j : Int)))), (0, .ref (a 0)), (1, vI m), (2, vI t), (3, vI u), (4, vI (if s 49 = -1 then 0 else s (268 + s 49))), (5, vI (273 + (140 * (s 49)))), (6, vI (st.length : Int)), (7, vI (273 + 140 * s 49 + (j : Int)))]) hG dX12_looks_132 (by decide) rfl ?_
        refine v_iload hG dX12_looks_134 0 rfl ?_
        refine v_if_lt (tgt := 233) hG dX12_looks_136 (by decide) (by omega) (fun c16 => ?_) (fun c16 => ?_)
        · skip
          refine v_iload hG dX12_looks_233 0 rfl ?_
          refine v_iconst hG dX12_looks_235 ?_
          refine v_icmp_ne (tgt := 268) hG dX12_looks_236 (by decide) (by omega) (by omega) (fun c17 => ?_) (fun c17 => ?_)
          · skip
            refine v_iload hG dX12_looks_268 0 rfl ?_
            refine v_bipush hG dX12_looks_270 (by decide) ?_
            refine v_icmp_le (tgt := 354) hG dX12_looks_272 (by decide) (by omega) (by omega) (fun c18 => ?_) (fun c18 => ?_)
            · skip
              obtain ⟨w1, w2, w3, w9⟩ := wf_end hwf (by omega)
              rw [ev_end (by omega)] at hev
              have hh1 := tru_hd htr (by omega)
              have hh2 := bi_h (b := st.headD false)
              rw [w1, show ((1 : Nat) : Int) - 1 = 0 by omega] at hh1
              refine v_iconst hG dX12_looks_354 ?_
              refine v_istore (lo' := [(6, vI 0), (8, vI (s (273 + 140 * s 49 + (j : Int)))), (0, .ref (a 0)), (1, vI m), (2, vI t), (3, vI u), (4, vI (if s 49 = -1 then 0 else s (268 + s 49))), (5, vI (273 + (140 * (s 49)))), (7, vI (273 + 140 * s 49 + (j : Int)))]) hG dX12_looks_355 (by decide) rfl ?_
              refine v_aload_n hG dX12_looks_357 rfl 2 rfl ?_
              refine mg_truths hG dX12_looks_358 ?_
              refine v_iconst hG dX12_looks_361 ?_
              refine ma_truths (z := f 0) hG dX12_looks_362 (by omega) rfl ?_
              refine v_istore (lo' := [(9, vI (f 0)), (6, vI 0), (8, vI (s (273 + 140 * s 49 + (j : Int)))), (0, .ref (a 0)), (1, vI m), (2, vI t), (3, vI u), (4, vI (if s 49 = -1 then 0 else s (268 + s 49))), (5, vI (273 + (140 * (s 49)))), (7, vI (273 + 140 * s 49 + (j : Int)))]) hG dX12_looks_363 (by decide) rfl ?_
              refine v_iload_n hG dX12_looks_365 rfl 6 rfl ?_
              refine v_iload hG dX12_looks_366 0 rfl ?_
              have J20 : ∀ z19 : Int, z19 = (if f 0 = 0 then 0 else if s (273 + 140 * s 49 + (j : Int)) ≤ -200 then 0 else (-10) - (s (273 + 140 * s 49 + (j : Int)))) → V G 0 0 (MW D A a s im fr (sU (sU (sU (sU (sU (sU bY 0 m) 1 (s (50 + m))) 2 (s (3 + m))) 3 ((s (66 + m)) / 10)) 4 (t / 10)) 5 (s (58 + m))) f ln bl bo g lg) 388 [(0, .ref (a 0)), (1, vI m), (2, vI t), (3, vI u), (4, vI (if s 49 = -1 then 0 else s (268 + s 49))), (5, vI (273 + (140 * (s 49)))), (6, vI 0), (7, vI (273 + 140 * s 49 + (j : Int))), (8, vI (s (273 + 140 * s 49 + (j : Int)))), (9, vI (f 0))] [vI z19, vI u] := by
                intro z19 hz19
                have bz19 : -300 ≤ z19 ∧ z19 ≤ 300 := by rw [hz19]; (repeat' split) <;> omega
                refine v_iadd hG dX12_looks_388 ?_
                refine v_istore_n (lo' := [(3, vI (u + z19)), (0, .ref (a 0)), (1, vI m), (2, vI t), (4, vI (if s 49 = -1 then 0 else s (268 + s 49))), (5, vI (273 + (140 * (s 49)))), (6, vI 0), (7, vI (273 + 140 * s 49 + (j : Int))), (8, vI (s (273 + 140 * s 49 + (j : Int)))), (9, vI (f 0))]) hG dX12_looks_389 rfl (by decide) rfl ?_
                refine v_iload_n hG dX12_looks_390 rfl 0 rfl ?_
                refine v_iload hG dX12_looks_391 9 rfl ?_
                have J22 : ∀ z21 : Int, z21 = (if f 0 = 0 then 0 else if -200 < s (273 + 140 * s 49 + (j : Int)) then 0 else (-200) - (s (273 + 140 * s 49 + (j : Int)))) → V G 0 0 (MW D A a s im fr (sU (sU (sU (sU (sU (sU bY 0 m) 1 (s (50 + m))) 2 (s (3 + m))) 3 ((s (66 + m)) / 10)) 4 (t / 10)) 5 (s (58 + m))) f ln bl bo g lg) 414 [(0, .ref (a 0)), (1, vI m), (2, vI t), (3, vI (u + z19)), (4, vI (if s 49 = -1 then 0 else s (268 + s 49))), (5, vI (273 + (140 * (s 49)))), (6, vI 0), (7, vI (273 + 140 * s 49 + (j : Int))), (8, vI (s (273 + 140 * s 49 + (j : Int)))), (9, vI (f 0))] [vI z21, vI (u + z19)] := by
                  intro z21 hz21
                  have bz21 : -300 ≤ z21 ∧ z21 ≤ 300 := by rw [hz21]; (repeat' split) <;> omega
                  refine v_isub hG dX12_looks_414 ?_
                  refine v_istore_n (lo' := [(3, vI ((u + z19) - z21)), (0, .ref (a 0)), (1, vI m), (2, vI t), (4, vI (if s 49 = -1 then 0 else s (268 + s 49))), (5, vI (273 + (140 * (s 49)))), (6, vI 0), (7, vI (273 + 140 * s 49 + (j : Int))), (8, vI (s (273 + 140 * s 49 + (j : Int)))), (9, vI (f 0))]) hG dX12_looks_415 rfl (by decide) rfl ?_
                  have ev9 : evalS (byF s m t) (SL.drop (j + 1)) [] ((u + z19) - z21) = q_look s SL m t := by rw [← hev]; congr 1; subst hz19 hz21; rw [hh1]; cases st.headD false <;> simp [bi] <;> (repeat' split) <;> omega
                  refine v_iinc (lo' := [(7, vI ((273 + 140 * s 49 + (j : Int)) + 1)), (3, vI ((u + z19) - z21)), (0, .ref (a 0)), (1, vI m), (2, vI t), (4, vI (if s 49 = -1 then 0 else s (268 + s 49))), (5, vI (273 + (140 * (s 49)))), (6, vI 0), (8, vI (s (273 + 140 * s 49 + (j : Int)))), (9, vI (f 0))]) hG dX12_looks_416 7 rfl (by decide) rfl ?_
                  refine v_goto (tgt := 115) hG dX12_looks_419 (by decide) ?_
                  refine v_lo [2, 3, 4, 1, 5, 6, 7, 0] (lo' := [(0, .ref (a 0)), (1, vI m), (2, vI t), (3, vI ((u + z19) - z21)), (4, vI (if s 49 = -1 then 0 else s (268 + s 49))), (5, vI (273 + (140 * (s 49)))), (6, vI 0), (7, vI ((273 + 140 * s 49 + (j : Int)) + 1))]) rfl ?_
                  exact ihL6 _ (by omega) (j + 1) ([]) f ((u + z19) - z21) (by omega) (by first | exact w9 | (rw [len_push (by omega)]; exact w9) | (rw [len_not (by omega)]; exact w9) | (rw [len_bin (by omega) (by omega)]; exact w9)) (by first | exact trivial | exact tr9) (by exact ev9) (by first | exact Nat.zero_le _ | (rw [len_push (by omega)]; omega) | (rw [len_not (by omega)]; omega) | (rw [len_bin (by omega) (by omega)]; omega)) (by first | omega) rfl _ (by omega) _ (by first | rfl | (rw [len_push (by omega)]; omega) | (rw [len_not (by omega)]) | (rw [len_bin (by omega) (by omega)]; omega)) _ (by rfl) _ (by rfl)
                refine v_if_eq (tgt := 413) hG dX12_looks_393 (by decide) (by omega) (fun c23 => ?_) (fun c23 => ?_)
                · skip
                  refine v_iconst hG dX12_looks_413 ?_
                  refine v_lo [1, 2, 3, 0, 4, 5, 6, 7, 8, 9] (lo' := [(0, .ref (a 0)), (1, vI m), (2, vI t), (3, vI (u + z19)), (4, vI (if s 49 = -1 then 0 else s (268 + s 49))), (5, vI (273 + (140 * (s 49)))), (6, vI 0), (7, vI (273 + 140 * s 49 + (j : Int))), (8, vI (s (273 + 140 * s 49 + (j : Int)))), (9, vI (f 0))]) rfl ?_
                  exact J22 _ (by first | rfl | (simp only [if_neg c14, if_pos c16, if_neg c17, if_pos c18, if_pos c23]; done) | (simp [bi, c14, c16, c17, c18, hz19, c23]; done))
                · skip
                  refine v_iload hG dX12_looks_396 8 rfl ?_
                  refine v_sipush hG dX12_looks_398 (by decide) ?_
                  refine v_icmp_gt (tgt := 413) hG dX12_looks_401 (by decide) (by omega) (by omega) (fun c24 => ?_) (fun c24 => ?_)
                  · skip
                    refine v_iconst hG dX12_looks_413 ?_
                    refine v_lo [1, 2, 3, 0, 4, 5, 6, 7, 8, 9] (lo' := [(0, .ref (a 0)), (1, vI m), (2, vI t), (3, vI (u + z19)), (4, vI (if s 49 = -1 then 0 else s (268 + s 49))), (5, vI (273 + (140 * (s 49)))), (6, vI 0), (7, vI (273 + 140 * s 49 + (j : Int))), (8, vI (s (273 + 140 * s 49 + (j : Int)))), (9, vI (f 0))]) rfl ?_
                    exact J22 _ (by first | rfl | (simp only [if_neg c14, if_pos c16, if_neg c17, if_pos c18, if_neg c23, if_pos c24]; done) | (simp [bi, c14, c16, c17, c18, hz19, c23, c24]; done))
                  · skip
                    refine v_sipush hG dX12_looks_404 (by decide) ?_
                    refine v_iload hG dX12_looks_407 8 rfl ?_
                    refine v_isub hG dX12_looks_409 ?_
                    refine v_goto (tgt := 414) hG dX12_looks_410 (by decide) ?_
                    refine v_lo [1, 2, 3, 0, 4, 5, 6, 7, 8, 9] (lo' := [(0, .ref (a 0)), (1, vI m), (2, vI t), (3, vI (u + z19)), (4, vI (if s 49 = -1 then 0 else s (268 + s 49))), (5, vI (273 + (140 * (s 49)))), (6, vI 0), (7, vI (273 + 140 * s 49 + (j : Int))), (8, vI (s (273 + 140 * s 49 + (j : Int)))), (9, vI (f 0))]) rfl ?_
                    exact J22 _ (by first | rfl | (simp only [if_neg c14, if_pos c16, if_neg c17, if_pos c18, if_neg c23, if_neg c24]; done) | (simp [bi, c14, c16, c17, c18, hz19, c23, c24]; done))
              refine v_if_eq (tgt := 387) hG dX12_looks_368 (by decide) (by omega) (fun c25 => ?_) (fun c25 => ?_)
              · skip
                refine v_iconst hG dX12_looks_387 ?_
                refine v_lo [3, 4, 5, 6, 7, 8, 1, 9, 2, 0] (lo' := [(0, .ref (a 0)), (1, vI m), (2, vI t), (3, vI u), (4, vI (if s 49 = -1 then 0 else s (268 + s 49))), (5, vI (273 + (140 * (s 49)))), (6, vI 0), (7, vI (273 + 140 * s 49 + (j : Int))), (8, vI (s (273 + 140 * s 49 + (j : Int)))), (9, vI (f 0))]) rfl ?_
                exact J20 _ (by first | rfl | (simp only [if_neg c14, if_pos c16, if_neg c17, if_pos c18, if_pos c25]; done) | (simp [bi, c14, c16, c17, c18, c25]; done))
              · skip
                refine v_iload hG dX12_looks_371 2 rfl ?_
                refine v_sipush hG dX12_looks_373 (by decide) ?_
                refine v_icmp_le (tgt := 387) hG dX12_looks_376 (by decide) (by omega) (by omega) (fun c26 => ?_) (fun c26 => ?_)
                · skip
                  refine v_iconst hG dX12_looks_387 ?_
                  refine v_lo [3, 4, 5, 6, 7, 8, 1, 9, 2, 0] (lo' := [(0, .ref (a 0)), (1, vI m), (2, vI t), (3, vI u), (4, vI (if s 49 = -1 then 0 else s (268 + s 49))), (5, vI (273 + (140 * (s 49)))), (6, vI 0), (7, vI (273 + 140 * s 49 + (j : Int))), (8, vI (s (273 + 140 * s 49 + (j : Int)))), (9, vI (f 0))]) rfl ?_
                  exact J20 _ (by first | rfl | (simp only [if_neg c14, if_pos c16, if_neg c17, if_pos c18, if_neg c25, if_pos c26]; done) | (simp [bi, c14, c16, c17, c18, c25, c26]; done))
                · skip
                  refine v_bipush hG dX12_looks_379 (by decide) ?_
                  refine v_iload hG dX12_looks_381 2 rfl ?_
                  refine v_isub hG dX12_looks_383 ?_
                  refine v_goto (tgt := 388) hG dX12_looks_384 (by decide) ?_
                  refine v_lo [3, 4, 5, 6, 7, 8, 1, 9, 2, 0] (lo' := [(0, .ref (a 0)), (1, vI m), (2, vI t), (3, vI u), (4, vI (if s 49 = -1 then 0 else s (268 + s 49))), (5, vI (273 + (140 * (s 49)))), (6, vI 0), (7, vI (273 + 140 * s 49 + (j : Int))), (8, vI (s (273 + 140 * s 49 + (j : Int)))), (9, vI (f 0))]) rfl ?_
                  exact J20 _ (by first | rfl | (simp only [if_neg c14, if_pos c16, if_neg c17, if_pos c18, if_neg c25, if_neg c26]; done) | (simp [bi, c14, c16, c17, c18, c25, c26]; done))
            · skip
              obtain ⟨w1, w2, w9⟩ := wf_bin hwf (by omega) (by omega) (by omega)
              rw [ev_step (by omega)] at hev
              have ev9 := hev
              have hh1 := tru_hd htr (by omega)
              have hh2 := bi_h (b := st.headD false)
              have hh3 := tru_2 htr (by omega)
              have hh4 := bi_h (b := st.tail.headD false)
              rw [show (st.length : Int) - 1 = (st.length : Int) + -1 by omega] at hh1
              refine v_iinc (lo' := [(6, vI ((st.length : Int) + (-1))), (8, vI (s (273 + 140 * s 49 + (j : Int)))), (0, .ref (a 0)), (1, vI m), (2, vI t), (3, vI u), (4, vI (if s 49 = -1 then 0 else s (268 + s 49))), (5, vI (273 + (140 * (s 49)))), (7, vI (273 + 140 * s 49 + (j : Int)))]) hG dX12_looks_275 7 rfl (by decide) rfl ?_
              refine v_aload_n hG dX12_looks_278 rfl 2 rfl ?_
              refine mg_truths hG dX12_looks_279 ?_
              refine v_iload hG dX12_looks_282 0 rfl ?_
              refine v_iconst hG dX12_looks_284 ?_
              refine v_isub hG dX12_looks_285 ?_
              refine v_iload hG dX12_looks_286 1 rfl ?_
              refine v_bipush hG dX12_looks_288 (by decide) ?_
              have J28 : ∀ z27 : Int, z27 = (bi (((s (273 + 140 * s 49 + (j : Int)) = -2) ∧ ((¬ (f (((st.length : Int) + (-1)) - 1) = 0)) ∧ (¬ (f ((st.length : Int) + (-1)) = 0)))) ∨ ((¬ (s (273 + 140 * s 49 + (j : Int)) = -2)) ∧ ((¬ (f (((st.length : Int) + (-1)) - 1) = 0)) ∨ (¬ (f ((st.length : Int) + (-1)) = 0)))))) → V G 0 0 (MW D A a s im fr (sU (sU (sU (sU (sU (sU bY 0 m) 1 (s (50 + m))) 2 (s (3 + m))) 3 ((s (66 + m)) / 10)) 4 (t / 10)) 5 (s (58 + m))) f ln bl bo g lg) 350 [(0, .ref (a 0)), (1, vI m), (2, vI t), (3, vI u), (4, vI (if s 49 = -1 then 0 else s (268 + s 49))), (5, vI (273 + (140 * (s 49)))), (6, vI ((st.length : Int) + (-1))), (7, vI (273 + 140 * s 49 + (j : Int))), (8, vI (s (273 + 140 * s 49 + (j : Int))))] [vI z27, vI (((st.length : Int) + (-1)) - 1), .ref (a 5)] := by
                intro z27 hz27
                subst hz27
                refine ms_truths hG dX12_looks_350 (by omega) (bi_01 _) ?_
                have tr9 : TRU (sU f (((st.length : Int) + (-1)) - 1) (bi (((s (273 + 140 * s 49 + (j : Int)) = -2) ∧ ((¬ (f (((st.length : Int) + (-1)) - 1) = 0)) ∧ (¬ (f ((st.length : Int) + (-1)) = 0)))) ∨ ((¬ (s (273 + 140 * s 49 + (j : Int)) = -2)) ∧ ((¬ (f (((st.length : Int) + (-1)) - 1) = 0)) ∨ (¬ (f ((st.length : Int) + (-1)) = 0))))))) (evalOp (byF s m t) (s (273 + 140 * s 49 + (j : Int))) st) := tru_bin htr w1 w2 (by rw [hh1, hh3]; rcases w1 with q | q <;> simp only [q] <;> cases st.headD false <;> cases st.tail.headD false <;> simp [bi])
                refine v_goto (tgt := 416) hG dX12_looks_351 (by decide) ?_
                refine v_iinc (lo' := [(7, vI ((273 + 140 * s 49 + (j : Int)) + 1)), (0, .ref (a 0)), (1, vI m), (2, vI t), (3, vI u), (4, vI (if s 49 = -1 then 0 else s (268 + s 49))), (5, vI (273 + (140 * (s 49)))), (6, vI ((st.length : Int) + (-1))), (8, vI (s (273 + 140 * s 49 + (j : Int))))]) hG dX12_looks_416 7 rfl (by decide) rfl ?_
                refine v_goto (tgt := 115) hG dX12_looks_419 (by decide) ?_
                refine v_lo [1, 2, 3, 4, 5, 6, 7, 0] (lo' := [(0, .ref (a 0)), (1, vI m), (2, vI t), (3, vI u), (4, vI (if s 49 = -1 then 0 else s (268 + s 49))), (5, vI (273 + (140 * (s 49)))), (6, vI ((st.length : Int) + (-1))), (7, vI ((273 + 140 * s 49 + (j : Int)) + 1))]) rfl ?_
                exact ihL6 _ (by omega) (j + 1) (evalOp (byF s m t) (s (273 + 140 * s 49 + (j : Int))) st) (sU f (((st.length : Int) + (-1)) - 1) (bi (((s (273 + 140 * s 49 + (j : Int)) = -2) ∧ ((¬ (f (((st.length : Int) + (-1)) - 1) = 0)) ∧ (¬ (f ((st.length : Int) + (-1)) = 0)))) ∨ ((¬ (s (273 + 140 * s 49 + (j : Int)) = -2)) ∧ ((¬ (f (((st.length : Int) + (-1)) - 1) = 0)) ∨ (¬ (f ((st.length : Int) + (-1)) = 0))))))) u (by omega) (by first | exact w9 | (rw [len_push (by omega)]; exact w9) | (rw [len_not (by omega)]; exact w9) | (rw [len_bin (by omega) (by omega)]; exact w9)) (by first | exact trivial | exact tr9) (by exact ev9) (by first | exact Nat.zero_le _ | (rw [len_push (by omega)]; omega) | (rw [len_not (by omega)]; omega) | (rw [len_bin (by omega) (by omega)]; omega)) (by first | omega) rfl _ (by omega) _ (by first | rfl | (rw [len_push (by omega)]; omega) | (rw [len_not (by omega)]) | (rw [len_bin (by omega) (by omega)]; omega)) _ (by rfl) _ (by rfl)
              refine v_icmp_ne (tgt := 323) hG dX12_looks_290 (by decide) (by omega) (by omega) (fun c29 => ?_) (fun c29 => ?_)
              · skip
                refine v_aload_n hG dX12_looks_323 rfl 2 rfl ?_
                refine mg_truths hG dX12_looks_324 ?_
                refine v_iload hG dX12_looks_327 0 rfl ?_
                refine v_iconst hG dX12_looks_329 ?_
                refine v_isub hG dX12_looks_330 ?_
                refine ma_truths (z := f (((st.length : Int) + (-1)) - 1)) hG dX12_looks_331 (by omega) rfl ?_
                refine v_if_ne (tgt := 345) hG dX12_looks_332 (by decide) (by omega) (fun c30 => ?_) (fun c30 => ?_)
                · skip
                  refine v_iconst hG dX12_looks_345 ?_
                  refine v_goto (tgt := 350) hG dX12_looks_346 (by decide) ?_
                  refine v_lo [2, 3, 4, 5, 6, 7, 0, 8, 1] (lo' := [(0, .ref (a 0)), (1, vI m), (2, vI t), (3, vI u), (4, vI (if s 49 = -1 then 0 else s (268 + s 49))), (5, vI (273 + (140 * (s 49)))), (6, vI ((st.length : Int) + (-1))), (7, vI (273 + 140 * s 49 + (j : Int))), (8, vI (s (273 + 140 * s 49 + (j : Int))))]) rfl ?_
                  exact J28 _ (by first | rfl | (simp only [if_neg c14, if_pos c16, if_neg c17, if_neg c18, if_neg c29, if_neg c30]; done) | (simp [bi, c14, c16, c17, c18, c29, c30]; done))
                · skip
                  refine v_aload_n hG dX12_looks_335 rfl 2 rfl ?_
                  refine mg_truths hG dX12_looks_336 ?_
                  refine v_iload hG dX12_looks_339 0 rfl ?_
                  refine ma_truths (z := f ((st.length : Int) + (-1))) hG dX12_looks_341 (by omega) rfl ?_
                  refine v_if_eq (tgt := 349) hG dX12_looks_342 (by decide) (by omega) (fun c31 => ?_) (fun c31 => ?_)
                  · skip
                    refine v_iconst hG dX12_looks_349 ?_
                    refine v_lo [2, 3, 4, 5, 6, 7, 0, 8, 1] (lo' := [(0, .ref (a 0)), (1, vI m), (2, vI t), (3, vI u), (4, vI (if s 49 = -1 then 0 else s (268 + s 49))), (5, vI (273 + (140 * (s 49)))), (6, vI ((st.length : Int) + (-1))), (7, vI (273 + 140 * s 49 + (j : Int))), (8, vI (s (273 + 140 * s 49 + (j : Int))))]) rfl ?_
                    exact J28 _ (by first | rfl | (simp only [if_neg c14, if_pos c16, if_neg c17, if_neg c18, if_neg c29, if_pos c30, if_pos c31]; done) | (simp [bi, c14, c16, c17, c18, c29, c30, c31]; done))
                  · skip
                    refine v_iconst hG dX12_looks_345 ?_
                    refine v_goto (tgt := 350) hG dX12_looks_346 (by decide) ?_
                    refine v_lo [2, 3, 4, 5, 6, 7, 0, 8, 1] (lo' := [(0, .ref (a 0)), (1, vI m), (2, vI t), (3, vI u), (4, vI (if s 49 = -1 then 0 else s (268 + s 49))), (5, vI (273 + (140 * (s 49)))), (6, vI ((st.length : Int) + (-1))), (7, vI (273 + 140 * s 49 + (j : Int))), (8, vI (s (273 + 140 * s 49 + (j : Int))))]) rfl ?_
                    exact J28 _ (by first | rfl | (simp only [if_neg c14, if_pos c16, if_neg c17, if_neg c18, if_neg c29, if_pos c30, if_neg c31]; done) | (simp [bi, c14, c16, c17, c18, c29, c30, c31]; done))
              · skip
                refine v_aload_n hG dX12_looks_293 rfl 2 rfl ?_
                refine mg_truths hG dX12_looks_294 ?_
                refine v_iload hG dX12_looks_297 0 rfl ?_
                refine v_iconst hG dX12_looks_299 ?_
                refine v_isub hG dX12_looks_300 ?_
                refine ma_truths (z := f (((st.length : Int) + (-1)) - 1)) hG dX12_looks_301 (by omega) rfl ?_
                refine v_if_eq (tgt := 319) hG dX12_looks_302 (by decide) (by omega) (fun c32 => ?_) (fun c32 => ?_)
                · skip
                  refine v_iconst hG dX12_looks_319 ?_
                  refine v_goto (tgt := 350) hG dX12_looks_320 (by decide) ?_
                  refine v_lo [2, 3, 4, 5, 6, 7, 0, 8, 1] (lo' := [(0, .ref (a 0)), (1, vI m), (2, vI t), (3, vI u), (4, vI (if s 49 = -1 then 0 else s (268 + s 49))), (5, vI (273 + (140 * (s 49)))), (6, vI ((st.length : Int) + (-1))), (7, vI (273 + 140 * s 49 + (j : Int))), (8, vI (s (273 + 140 * s 49 + (j : Int))))]) rfl ?_
                  exact J28 _ (by first | rfl | (simp only [if_neg c14, if_pos c16, if_neg c17, if_neg c18, if_pos c29, if_pos c32]; done) | (simp [bi, c14, c16, c17, c18, c29, c32]; done))
                · skip
                  refine v_aload_n hG dX12_looks_305 rfl 2 rfl ?_
                  refine mg_truths hG dX12_looks_306 ?_
                  refine v_iload hG dX12_looks_309 0 rfl ?_
                  refine ma_truths (z := f ((st.length : Int) + (-1))) hG dX12_looks_311 (by omega) rfl ?_
                  refine v_if_eq (tgt := 319) hG dX12_looks_312 (by decide) (by omega) (fun c33 => ?_) (fun c33 => ?_)
                  · skip
                    refine v_iconst hG dX12_looks_319 ?_
                    refine v_goto (tgt := 350) hG dX12_looks_320 (by decide) ?_
                    refine v_lo [2, 3, 4, 5, 6, 7, 0, 8, 1] (lo' := [(0, .ref (a 0)), (1, vI m), (2, vI t), (3, vI u), (4, vI (if s 49 = -1 then 0 else s (268 + s 49))), (5, vI (273 + (140 * (s 49)))), (6, vI ((st.length : Int) + (-1))), (7, vI (273 + 140 * s 49 + (j : Int))), (8, vI (s (273 + 140 * s 49 + (j : Int))))]) rfl ?_
                    exact J28 _ (by first | rfl | (simp only [if_neg c14, if_pos c16, if_neg c17, if_neg c18, if_pos c29, if_neg c32, if_pos c33]; done) | (simp [bi, c14, c16, c17, c18, c29, c32, c33]; done))
                  · skip
                    refine v_iconst hG dX12_looks_315 ?_
                    refine v_goto (tgt := 350) hG dX12_looks_316 (by decide) ?_
                    refine v_lo [2, 3, 4, 5, 6, 7, 0, 8, 1] (lo' := [(0, .ref (a 0)), (1, vI m), (2, vI t), (3, vI u), (4, vI (if s 49 = -1 then 0 else s (268 + s 49))), (5, vI (273 + (140 * (s 49)))), (6, vI ((st.length : Int) + (-1))), (7, vI (273 + 140 * s 49 + (j : Int))), (8, vI (s (273 + 140 * s 49 + (j : Int))))]) rfl ?_
                    exact J28 _ (by first | rfl | (simp only [if_neg c14, if_pos c16, if_neg c17, if_neg c18, if_pos c29, if_neg c32, if_neg c33]; done) | (simp [bi, c14, c16, c17, c18, c29, c32, c33]; done))
          · skip
            obtain ⟨w1, w9⟩ := wf_not hwf (by omega)
            rw [ev_step (by omega)] at hev
            have ev9 := hev
            have hh1 := tru_hd htr (by omega)
            have hh2 := bi_h (b := st.headD false)
            refine v_aload_n hG dX12_looks_239 rfl 1 rfl ?_
            refine mg_truths hG dX12_looks_240 ?_
            refine v_iload hG dX12_looks_243 7 rfl ?_
            refine v_iconst hG dX12_looks_245 ?_
            refine v_isub hG dX12_looks_246 ?_
            refine v_aload_n hG dX12_looks_247 rfl 1 rfl ?_
            refine mg_truths hG dX12_looks_248 ?_
            refine v_iload hG dX12_looks_251 7 rfl ?_
            refine v_iconst hG dX12_looks_253 ?_
            refine v_isub hG dX12_looks_254 ?_
            refine ma_truths (z := f ((st.length : Int) - 1)) hG dX12_looks_255 (by omega) rfl ?_
            have J35 : ∀ z34 : Int, z34 = (bi (f ((st.length : Int) - 1) = 0)) → V G 0 0 (MW D A a s im fr (sU (sU (sU (sU (sU (sU bY 0 m) 1 (s (50 + m))) 2 (s (3 + m))) 3 ((s (66 + m)) / 10)) 4 (t / 10)) 5 (s (58 + m))) f ln bl bo g lg) 264 [(0, .ref (a 0)), (1, vI m), (2, vI t), (3, vI u), (4, vI (if s 49 = -1 then 0 else s (268 + s 49))), (5, vI (273 + (140 * (s 49)))), (6, vI (st.length : Int)), (7, vI (273 + 140 * s 49 + (j : Int))), (8, vI (s (273 + 140 * s 49 + (j : Int))))] [vI z34, vI ((st.length : Int) - 1), .ref (a 5)] := by
              intro z34 hz34
              subst hz34
              refine ms_truths hG dX12_looks_264 (by omega) (bi_01 _) ?_
              have tr9 : TRU (sU f ((st.length : Int) - 1) (bi (f ((st.length : Int) - 1) = 0))) (evalOp (byF s m t) (s (273 + 140 * s 49 + (j : Int))) st) := tru_not htr (by omega) (by omega) (by rw [hh1]; cases st.headD false <;> simp [bi])
              refine v_goto (tgt := 416) hG dX12_looks_265 (by decide) ?_
              refine v_iinc (lo' := [(7, vI ((273 + 140 * s 49 + (j : Int)) + 1)), (0, .ref (a 0)), (1, vI m), (2, vI t), (3, vI u), (4, vI (if s 49 = -1 then 0 else s (268 + s 49))), (5, vI (273 + (140 * (s 49)))), (6, vI (st.length : Int)), (8, vI (s (273 + 140 * s 49 + (j : Int))))]) hG dX12_looks_416 7 rfl (by decide) rfl ?_
              refine v_goto (tgt := 115) hG dX12_looks_419 (by decide) ?_
              refine v_lo [1, 2, 3, 4, 5, 6, 7, 0] (lo' := [(0, .ref (a 0)), (1, vI m), (2, vI t), (3, vI u), (4, vI (if s 49 = -1 then 0 else s (268 + s 49))), (5, vI (273 + (140 * (s 49)))), (6, vI (st.length : Int)), (7, vI ((273 + 140 * s 49 + (j : Int)) + 1))]) rfl ?_
              exact ihL6 _ (by omega) (j + 1) (evalOp (byF s m t) (s (273 + 140 * s 49 + (j : Int))) st) (sU f ((st.length : Int) - 1) (bi (f ((st.length : Int) - 1) = 0))) u (by omega) (by first | exact w9 | (rw [len_push (by omega)]; exact w9) | (rw [len_not (by omega)]; exact w9) | (rw [len_bin (by omega) (by omega)]; exact w9)) (by first | exact trivial | exact tr9) (by exact ev9) (by first | exact Nat.zero_le _ | (rw [len_push (by omega)]; omega) | (rw [len_not (by omega)]; omega) | (rw [len_bin (by omega) (by omega)]; omega)) (by first | omega) rfl _ (by omega) _ (by first | rfl | (rw [len_push (by omega)]; omega) | (rw [len_not (by omega)]) | (rw [len_bin (by omega) (by omega)]; omega)) _ (by rfl) _ (by rfl)
            refine v_if_ne (tgt := 263) hG dX12_looks_256 (by decide) (by omega) (fun c36 => ?_) (fun c36 => ?_)
            · skip
              refine v_iconst hG dX12_looks_263 ?_
              refine v_lo [1, 2, 3, 4, 5, 6, 7, 8, 0] (lo' := [(0, .ref (a 0)), (1, vI m), (2, vI t), (3, vI u), (4, vI (if s 49 = -1 then 0 else s (268 + s 49))), (5, vI (273 + (140 * (s 49)))), (6, vI (st.length : Int)), (7, vI (273 + 140 * s 49 + (j : Int))), (8, vI (s (273 + 140 * s 49 + (j : Int))))]) rfl ?_
              exact J35 _ (by first | rfl | (simp only [if_neg c14, if_pos c16, if_pos c17, if_neg c36]; done) | (simp [bi, c14, c16, c17, c36]; done))
            · skip
              refine v_iconst hG dX12_looks_259 ?_
              refine v_goto (tgt := 264) hG dX12_looks_260 (by decide) ?_
              refine v_lo [1, 2, 3, 4, 5, 6, 7, 8, 0] (lo' := [(0, .ref (a 0)), (1, vI m), (2, vI t), (3, vI u), (4, vI (if s 49 = -1 then 0 else s (268 + s 49))), (5, vI (273 + (140 * (s 49)))), (6, vI (st.length : Int)), (7, vI (273 + 140 * s 49 + (j : Int))), (8, vI (s (273 + 140 * s 49 + (j : Int))))]) rfl ?_
              exact J35 _ (by first | rfl | (simp only [if_neg c14, if_pos c16, if_pos c17, if_pos c36]; done) | (simp [bi, c14, c16, c17, c36]; done))
        · skip
          obtain ⟨w1, w2, w3, w4, w9⟩ := wf_pos hwf (by omega)
          rw [ev_step (by omega)] at hev
          have ev9 := hev
          refine v_aload_n hG dX12_looks_139 rfl 1 rfl ?_
          refine mg_by hG dX12_looks_140 ?_
          refine v_iload hG dX12_looks_143 0 rfl ?_
          refine v_bipush hG dX12_looks_145 (by decide) ?_
          refine v_irem hG dX12_looks_147 (by omega) (by omega) ?_
          refine ma_by (z := (sU (sU (sU (sU (sU (sU bY 0 m) 1 (s (50 + m))) 2 (s (3 + m))) 3 ((s (66 + m)) / 10)) 4 (t / 10)) 5 (s (58 + m))) ((s (273 + 140 * s 49 + (j : Int))) % 8)) hG dX12_looks_148 (by omega) rfl ?_
          have hba := bA_at (bY := bY) (s := s) (m := m) (t := t) (q := s (273 + 140 * s 49 + (j : Int)) % 8) (by omega)
          have hbr := byF_rng hm h8m ht (s (273 + 140 * s 49 + (j : Int)) % 8)
          rw [← hba] at hbr
          unfold bA at hba hbr
          refine v_istore (lo' := [(9, vI ((sU (sU (sU (sU (sU (sU bY 0 m) 1 (s (50 + m))) 2 (s (3 + m))) 3 ((s (66 + m)) / 10)) 4 (t / 10)) 5 (s (58 + m))) ((s (273 + 140 * s 49 + (j : Int))) % 8))), (8, vI (s (273 + 140 * s 49 + (j : Int)))), (0, .ref (a 0)), (1, vI m), (2, vI t), (3, vI u), (4, vI (if s 49 = -1 then 0 else s (268 + s 49))), (5, vI (273 + (140 * (s 49)))), (6, vI (st.length : Int)), (7, vI (273 + 140 * s 49 + (j : Int)))]) hG dX12_looks_149 (by decide) rfl ?_
          refine v_iload hG dX12_looks_151 1 rfl ?_
          refine v_bipush hG dX12_looks_153 (by decide) ?_
          refine v_idiv hG dX12_looks_155 (by omega) (by omega) ?_
          refine v_iconst hG dX12_looks_156 ?_
          refine v_irem hG dX12_looks_157 (by omega) (by omega) ?_
          refine v_istore (lo' := [(10, vI (((s (273 + 140 * s 49 + (j : Int))) / 8) % 4)), (9, vI ((sU (sU (sU (sU (sU (sU bY 0 m) 1 (s (50 + m))) 2 (s (3 + m))) 3 ((s (66 + m)) / 10)) 4 (t / 10)) 5 (s (58 + m))) ((s (273 + 140 * s 49 + (j : Int))) % 8))), (8, vI (s (273 + 140 * s 49 + (j : Int)))), (0, .ref (a 0)), (1, vI m), (2, vI t), (3, vI u), (4, vI (if s 49 = -1 then 0 else s (268 + s 49))), (5, vI (273 + (140 * (s 49)))), (6, vI (st.length : Int)), (7, vI (273 + 140 * s 49 + (j : Int)))]) hG dX12_looks_158 (by decide) rfl ?_
          refine v_iload hG dX12_looks_160 2 rfl ?_
          refine v_bipush hG dX12_looks_162 (by decide) ?_
          refine v_idiv hG dX12_looks_164 (by omega) (by omega) ?_
          refine v_istore (lo' := [(11, vI ((s (273 + 140 * s 49 + (j : Int))) / 32)), (10, vI (((s (273 + 140 * s 49 + (j : Int))) / 8) % 4)), (9, vI ((sU (sU (sU (sU (sU (sU bY 0 m) 1 (s (50 + m))) 2 (s (3 + m))) 3 ((s (66 + m)) / 10)) 4 (t / 10)) 5 (s (58 + m))) ((s (273 + 140 * s 49 + (j : Int))) % 8))), (8, vI (s (273 + 140 * s 49 + (j : Int)))), (0, .ref (a 0)), (1, vI m), (2, vI t), (3, vI u), (4, vI (if s 49 = -1 then 0 else s (268 + s 49))), (5, vI (273 + (140 * (s 49)))), (6, vI (st.length : Int)), (7, vI (273 + 140 * s 49 + (j : Int)))]) hG dX12_looks_165 (by decide) rfl ?_
          refine v_aload_n hG dX12_looks_167 rfl 4 rfl ?_
          refine mg_truths hG dX12_looks_168 ?_
          refine v_iload hG dX12_looks_171 10 rfl ?_
          refine v_iload hG dX12_looks_173 1 rfl ?_
          have J38 : ∀ z37 : Int, z37 = (bi (((((s (273 + 140 * s 49 + (j : Int))) / 8) % 4 = 0) ∧ (¬ ((s (273 + 140 * s 49 + (j : Int))) / 32 ≤ (sU (sU (sU (sU (sU (sU bY 0 m) 1 (s (50 + m))) 2 (s (3 + m))) 3 ((s (66 + m)) / 10)) 4 (t / 10)) 5 (s (58 + m))) ((s (273 + 140 * s 49 + (j : Int))) % 8)))) ∨ ((¬ (((s (273 + 140 * s 49 + (j : Int))) / 8) % 4 = 0)) ∧ (((((s (273 + 140 * s 49 + (j : Int))) / 8) % 4 = 1) ∧ ((sU (sU (sU (sU (sU (sU bY 0 m) 1 (s (50 + m))) 2 (s (3 + m))) 3 ((s (66 + m)) / 10)) 4 (t / 10)) 5 (s (58 + m))) ((s (273 + 140 * s 49 + (j : Int))) % 8) = (s (273 + 140 * s 49 + (j : Int))) / 32)) ∨ ((¬ (((s (273 + 140 * s 49 + (j : Int))) / 8) % 4 = 1)) ∧ (¬ ((sU (sU (sU (sU (sU (sU bY 0 m) 1 (s (50 + m))) 2 (s (3 + m))) 3 ((s (66 + m)) / 10)) 4 (t / 10)) 5 (s (58 + m))) ((s (273 + 140 * s 49 + (j : Int))) % 8) ≤ (s (273 + 140 * s 49 + (j : Int))) / 32))))))) → V G 0 0 (MW D A a s im fr (sU (sU (sU (sU (sU (sU bY 0 m) 1 (s (50 + m))) 2 (s (3 + m))) 3 ((s (66 + m)) / 10)) 4 (t / 10)) 5 (s (58 + m))) f ln bl bo g lg) 226 [(0, .ref (a 0)), (1, vI m), (2, vI t), (3, vI u), (4, vI (if s 49 = -1 then 0 else s (268 + s 49))), (5, vI (273 + (140 * (s 49)))), (6, vI (st.length : Int)), (7, vI (273 + 140 * s 49 + (j : Int))), (8, vI (s (273 + 140 * s 49 + (j : Int)))), (9, vI ((sU (sU (sU (sU (sU (sU bY 0 m) 1 (s (50 + m))) 2 (s (3 + m))) 3 ((s (66 + m)) / 10)) 4 (t / 10)) 5 (s (58 + m))) ((s (273 + 140 * s 49 + (j : Int))) % 8))), (10, vI (((s (273 + 140 * s 49 + (j : Int))) / 8) % 4)), (11, vI ((s (273 + 140 * s 49 + (j : Int))) / 32))] [vI z37, vI (st.length : Int), .ref (a 5)] := by
            intro z37 hz37
            subst hz37
            refine ms_truths hG dX12_looks_226 (by omega) (bi_01 _) ?_
            have tr9 : TRU (sU f (st.length : Int) (bi (((((s (273 + 140 * s 49 + (j : Int))) / 8) % 4 = 0) ∧ (¬ ((s (273 + 140 * s 49 + (j : Int))) / 32 ≤ (sU (sU (sU (sU (sU (sU bY 0 m) 1 (s (50 + m))) 2 (s (3 + m))) 3 ((s (66 + m)) / 10)) 4 (t / 10)) 5 (s (58 + m))) ((s (273 + 140 * s 49 + (j : Int))) % 8)))) ∨ ((¬ (((s (273 + 140 * s 49 + (j : Int))) / 8) % 4 = 0)) ∧ (((((s (273 + 140 * s 49 + (j : Int))) / 8) % 4 = 1) ∧ ((sU (sU (sU (sU (sU (sU bY 0 m) 1 (s (50 + m))) 2 (s (3 + m))) 3 ((s (66 + m)) / 10)) 4 (t / 10)) 5 (s (58 + m))) ((s (273 + 140 * s 49 + (j : Int))) % 8) = (s (273 + 140 * s 49 + (j : Int))) / 32)) ∨ ((¬ (((s (273 + 140 * s 49 + (j : Int))) / 8) % 4 = 1)) ∧ (¬ ((sU (sU (sU (sU (sU (sU bY 0 m) 1 (s (50 + m))) 2 (s (3 + m))) 3 ((s (66 + m)) / 10)) 4 (t / 10)) 5 (s (58 + m))) ((s (273 + 140 * s 49 + (j : Int))) % 8) ≤ (s (273 + 140 * s 49 + (j : Int))) / 32)))))))) (evalOp (byF s m t) (s (273 + 140 * s 49 + (j : Int))) st) := tru_push htr (by omega) (by unfold testOp; rw [← hba]; (repeat' split) <;> simp only [decide_eq_true_eq] <;> omega)
            refine v_iinc (lo' := [(6, vI ((st.length : Int) + 1)), (0, .ref (a 0)), (1, vI m), (2, vI t), (3, vI u), (4, vI (if s 49 = -1 then 0 else s (268 + s 49))), (5, vI (273 + (140 * (s 49)))), (7, vI (273 + 140 * s 49 + (j : Int))), (8, vI (s (273 + 140 * s 49 + (j : Int)))), (9, vI ((sU (sU (sU (sU (sU (sU bY 0 m) 1 (s (50 + m))) 2 (s (3 + m))) 3 ((s (66 + m)) / 10)) 4 (t / 10)) 5 (s (58 + m))) ((s (273 + 140 * s 49 + (j : Int))) % 8))), (10, vI (((s (273 + 140 * s 49 + (j : Int))) / 8) % 4)), (11, vI ((s (273 + 140 * s 49 + (j : Int))) / 32))]) hG dX12_looks_227 6 rfl (by decide) rfl ?_
            refine v_goto (tgt := 416) hG dX12_looks_230 (by decide) ?_
            refine v_iinc (lo' := [(7, vI ((273 + 140 * s 49 + (j : Int)) + 1)), (6, vI ((st.length : Int) + 1)), (0, .ref (a 0)), (1, vI m), (2, vI t), (3, vI u), (4, vI (if s 49 = -1 then 0 else s (268 + s 49))), (5, vI (273 + (140 * (s 49)))), (8, vI (s (273 + 140 * s 49 + (j : Int)))), (9, vI ((sU (sU (sU (sU (sU (sU bY 0 m) 1 (s (50 + m))) 2 (s (3 + m))) 3 ((s (66 + m)) / 10)) 4 (t / 10)) 5 (s (58 + m))) ((s (273 + 140 * s 49 + (j : Int))) % 8))), (10, vI (((s (273 + 140 * s 49 + (j : Int))) / 8) % 4)), (11, vI ((s (273 + 140 * s 49 + (j : Int))) / 32))]) hG dX12_looks_416 7 rfl (by decide) rfl ?_
            refine v_goto (tgt := 115) hG dX12_looks_419 (by decide) ?_
            refine v_lo [2, 3, 4, 5, 6, 7, 1, 0] (lo' := [(0, .ref (a 0)), (1, vI m), (2, vI t), (3, vI u), (4, vI (if s 49 = -1 then 0 else s (268 + s 49))), (5, vI (273 + (140 * (s 49)))), (6, vI ((st.length : Int) + 1)), (7, vI ((273 + 140 * s 49 + (j : Int)) + 1))]) rfl ?_
            exact ihL6 _ (by omega) (j + 1) (evalOp (byF s m t) (s (273 + 140 * s 49 + (j : Int))) st) (sU f (st.length : Int) (bi (((((s (273 + 140 * s 49 + (j : Int))) / 8) % 4 = 0) ∧ (¬ ((s (273 + 140 * s 49 + (j : Int))) / 32 ≤ (sU (sU (sU (sU (sU (sU bY 0 m) 1 (s (50 + m))) 2 (s (3 + m))) 3 ((s (66 + m)) / 10)) 4 (t / 10)) 5 (s (58 + m))) ((s (273 + 140 * s 49 + (j : Int))) % 8)))) ∨ ((¬ (((s (273 + 140 * s 49 + (j : Int))) / 8) % 4 = 0)) ∧ (((((s (273 + 140 * s 49 + (j : Int))) / 8) % 4 = 1) ∧ ((sU (sU (sU (sU (sU (sU bY 0 m) 1 (s (50 + m))) 2 (s (3 + m))) 3 ((s (66 + m)) / 10)) 4 (t / 10)) 5 (s (58 + m))) ((s (273 + 140 * s 49 + (j : Int))) % 8) = (s (273 + 140 * s 49 + (j : Int))) / 32)) ∨ ((¬ (((s (273 + 140 * s 49 + (j : Int))) / 8) % 4 = 1)) ∧ (¬ ((sU (sU (sU (sU (sU (sU bY 0 m) 1 (s (50 + m))) 2 (s (3 + m))) 3 ((s (66 + m)) / 10)) 4 (t / 10)) 5 (s (58 + m))) ((s (273 + 140 * s 49 + (j : Int))) % 8) ≤ (s (273 + 140 * s 49 + (j : Int))) / 32)))))))) u (by omega) (by first | exact w9 | (rw [len_push (by omega)]; exact w9) | (rw [len_not (by omega)]; exact w9) | (rw [len_bin (by omega) (by omega)]; exact w9)) (by first | exact trivial | exact tr9) (by exact ev9) (by first | exact Nat.zero_le _ | (rw [len_push (by omega)]; omega) | (rw [len_not (by omega)]; omega) | (rw [len_bin (by omega) (by omega)]; omega)) (by first | omega) rfl _ (by omega) _ (by first | rfl | (rw [len_push (by omega)]; omega) | (rw [len_not (by omega)]) | (rw [len_bin (by omega) (by omega)]; omega)) _ (by rfl) _ (by rfl)
          refine v_if_ne (tgt := 193) hG dX12_looks_175 (by decide) (by omega) (fun c39 => ?_) (fun c39 => ?_)
          · skip
            refine v_iload hG dX12_looks_193 1 rfl ?_
            refine v_iconst hG dX12_looks_195 ?_
            refine v_icmp_ne (tgt := 214) hG dX12_looks_196 (by decide) (by omega) (by omega) (fun c40 => ?_) (fun c40 => ?_)
            · skip
              refine v_iload hG dX12_looks_214 2 rfl ?_
              refine v_iload hG dX12_looks_216 0 rfl ?_
              refine v_icmp_le (tgt := 225) hG dX12_looks_218 (by decide) (by omega) (by omega) (fun c41 => ?_) (fun c41 => ?_)
              · skip
                refine v_iconst hG dX12_looks_225 ?_
                refine v_lo [4, 5, 6, 7, 8, 9, 10, 11, 3, 2, 1, 0] (lo' := [(0, .ref (a 0)), (1, vI m), (2, vI t), (3, vI u), (4, vI (if s 49 = -1 then 0 else s (268 + s 49))), (5, vI (273 + (140 * (s 49)))), (6, vI (st.length : Int)), (7, vI (273 + 140 * s 49 + (j : Int))), (8, vI (s (273 + 140 * s 49 + (j : Int)))), (9, vI ((sU (sU (sU (sU (sU (sU bY 0 m) 1 (s (50 + m))) 2 (s (3 + m))) 3 ((s (66 + m)) / 10)) 4 (t / 10)) 5 (s (58 + m))) ((s (273 + 140 * s 49 + (j : Int))) % 8))), (10, vI (((s (273 + 140 * s 49 + (j : Int))) / 8) % 4)), (11, vI ((s (273 + 140 * s 49 + (j : Int))) / 32))]) rfl ?_
                exact J38 _ (by first | rfl | (simp only [if_neg c14, if_neg c16, if_neg c39, if_neg c40, if_pos c41]; done) | (simp [bi, c14, c16, c39, c40, c41]; done))
              · skip
                refine v_iconst hG dX12_looks_221 ?_
                refine v_goto (tgt := 226) hG dX12_looks_222 (by decide) ?_
                refine v_lo [4, 5, 6, 7, 8, 9, 10, 11, 3, 2, 1, 0] (lo' := [(0, .ref (a 0)), (1, vI m), (2, vI t), (3, vI u), (4, vI (if s 49 = -1 then 0 else s (268 + s 49))), (5, vI (273 + (140 * (s 49)))), (6, vI (st.length : Int)), (7, vI (273 + 140 * s 49 + (j : Int))), (8, vI (s (273 + 140 * s 49 + (j : Int)))), (9, vI ((sU (sU (sU (sU (sU (sU bY 0 m) 1 (s (50 + m))) 2 (s (3 + m))) 3 ((s (66 + m)) / 10)) 4 (t / 10)) 5 (s (58 + m))) ((s (273 + 140 * s 49 + (j : Int))) % 8))), (10, vI (((s (273 + 140 * s 49 + (j : Int))) / 8) % 4)), (11, vI ((s (273 + 140 * s 49 + (j : Int))) / 32))]) rfl ?_
                exact J38 _ (by first | rfl | (simp only [if_neg c14, if_neg c16, if_neg c39, if_neg c40, if_neg c41]; done) | (simp [bi, c14, c16, c39, c40, c41]; done))
            · skip
              refine v_iload hG dX12_looks_199 2 rfl ?_
              refine v_iload hG dX12_looks_201 0 rfl ?_
              refine v_icmp_ne (tgt := 210) hG dX12_looks_203 (by decide) (by omega) (by omega) (fun c42 => ?_) (fun c42 => ?_)
              · skip
                refine v_iconst hG dX12_looks_210 ?_
                refine v_goto (tgt := 226) hG dX12_looks_211 (by decide) ?_
                refine v_lo [4, 5, 6, 7, 8, 9, 10, 11, 3, 2, 1, 0] (lo' := [(0, .ref (a 0)), (1, vI m), (2, vI t), (3, vI u), (4, vI (if s 49 = -1 then 0 else s (268 + s 49))), (5, vI (273 + (140 * (s 49)))), (6, vI (st.length : Int)), (7, vI (273 + 140 * s 49 + (j : Int))), (8, vI (s (273 + 140 * s 49 + (j : Int)))), (9, vI ((sU (sU (sU (sU (sU (sU bY 0 m) 1 (s (50 + m))) 2 (s (3 + m))) 3 ((s (66 + m)) / 10)) 4 (t / 10)) 5 (s (58 + m))) ((s (273 + 140 * s 49 + (j : Int))) % 8))), (10, vI (((s (273 + 140 * s 49 + (j : Int))) / 8) % 4)), (11, vI ((s (273 + 140 * s 49 + (j : Int))) / 32))]) rfl ?_
                exact J38 _ (by first | rfl | (simp only [if_neg c14, if_neg c16, if_neg c39, if_pos c40, if_neg c42]; done) | (simp [bi, c14, c16, c39, c40, c42]; done))
              · skip
                refine v_iconst hG dX12_looks_206 ?_
                refine v_goto (tgt := 226) hG dX12_looks_207 (by decide) ?_
                refine v_lo [4, 5, 6, 7, 8, 9, 10, 11, 3, 2, 1, 0] (lo' := [(0, .ref (a 0)), (1, vI m), (2, vI t), (3, vI u), (4, vI (if s 49 = -1 then 0 else s (268 + s 49))), (5, vI (273 + (140 * (s 49)))), (6, vI (st.length : Int)), (7, vI (273 + 140 * s 49 + (j : Int))), (8, vI (s (273 + 140 * s 49 + (j : Int)))), (9, vI ((sU (sU (sU (sU (sU (sU bY 0 m) 1 (s (50 + m))) 2 (s (3 + m))) 3 ((s (66 + m)) / 10)) 4 (t / 10)) 5 (s (58 + m))) ((s (273 + 140 * s 49 + (j : Int))) % 8))), (10, vI (((s (273 + 140 * s 49 + (j : Int))) / 8) % 4)), (11, vI ((s (273 + 140 * s 49 + (j : Int))) / 32))]) rfl ?_
                exact J38 _ (by first | rfl | (simp only [if_neg c14, if_neg c16, if_neg c39, if_pos c40, if_pos c42]; done) | (simp [bi, c14, c16, c39, c40, c42]; done))
          · skip
            refine v_iload hG dX12_looks_178 2 rfl ?_
            refine v_iload hG dX12_looks_180 0 rfl ?_
            refine v_icmp_ge (tgt := 189) hG dX12_looks_182 (by decide) (by omega) (by omega) (fun c43 => ?_) (fun c43 => ?_)
            · skip
              refine v_iconst hG dX12_looks_189 ?_
              refine v_goto (tgt := 226) hG dX12_looks_190 (by decide) ?_
              refine v_lo [4, 5, 6, 7, 8, 9, 10, 11, 3, 2, 1, 0] (lo' := [(0, .ref (a 0)), (1, vI m), (2, vI t), (3, vI u), (4, vI (if s 49 = -1 then 0 else s (268 + s 49))), (5, vI (273 + (140 * (s 49)))), (6, vI (st.length : Int)), (7, vI (273 + 140 * s 49 + (j : Int))), (8, vI (s (273 + 140 * s 49 + (j : Int)))), (9, vI ((sU (sU (sU (sU (sU (sU bY 0 m) 1 (s (50 + m))) 2 (s (3 + m))) 3 ((s (66 + m)) / 10)) 4 (t / 10)) 5 (s (58 + m))) ((s (273 + 140 * s 49 + (j : Int))) % 8))), (10, vI (((s (273 + 140 * s 49 + (j : Int))) / 8) % 4)), (11, vI ((s (273 + 140 * s 49 + (j : Int))) / 32))]) rfl ?_
              exact J38 _ (by first | rfl | (simp only [if_neg c14, if_neg c16, if_pos c39, if_pos c43]; done) | (simp [bi, c14, c16, c39, c43]; done))
            · skip
              refine v_iconst hG dX12_looks_185 ?_
              refine v_goto (tgt := 226) hG dX12_looks_186 (by decide) ?_
              refine v_lo [4, 5, 6, 7, 8, 9, 10, 11, 3, 2, 1, 0] (lo' := [(0, .ref (a 0)), (1, vI m), (2, vI t), (3, vI u), (4, vI (if s 49 = -1 then 0 else s (268 + s 49))), (5, vI (273 + (140 * (s 49)))), (6, vI (st.length : Int)), (7, vI (273 + 140 * s 49 + (j : Int))), (8, vI (s (273 + 140 * s 49 + (j : Int)))), (9, vI ((sU (sU (sU (sU (sU (sU bY 0 m) 1 (s (50 + m))) 2 (s (3 + m))) 3 ((s (66 + m)) / 10)) 4 (t / 10)) 5 (s (58 + m))) ((s (273 + 140 * s 49 + (j : Int))) % 8))), (10, vI (((s (273 + 140 * s 49 + (j : Int))) / 8) % 4)), (11, vI ((s (273 + 140 * s 49 + (j : Int))) / 32))]) rfl ?_
              exact J38 _ (by first | rfl | (simp only [if_neg c14, if_neg c16, if_pos c39, if_neg c43]; done) | (simp [bi, c14, c16, c39, c43]; done))
  exact L6 _ 0 ([]) tr 0 (by omega) (by exact hE.1) (by exact trivial) (by rfl) (by exact Nat.zero_le _) (by omega) rfl _ (by omega) _ (by rfl) _ (by rfl) _ (by rfl)
