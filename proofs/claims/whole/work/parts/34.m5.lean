/-! THE MODEL: fifth walks -/
def a_see (s : Int → Int) (m d : Int) : Int := if m = -1 then 0 else if 0 ≤ m ∧ m ≤ s 43 - 1 then (if 0 ≤ d ∧ d ≤ 30 then (if s 45 = 6 then -4 else s 45 + 1) else -2) else -1
def f_see (s : Int → Int) (m d : Int) : Int → Int := if m = -1 then sU s 45 0 else if 0 ≤ m ∧ m ≤ s 43 - 1 then (if 0 ≤ d ∧ d ≤ 30 then (if s 45 = 6 then s else sU (sU (sU s (106 + s 45) m) (112 + s 45) d) 45 (s 45 + 1)) else s) else s
theorem allB_f {f : Nat → Bool} {k n : Nat} (h : ¬ allM f k = true) (hk : k ≤ n) : bi (allM f n = true) = bi (allM f k = true) := by
  rw [bi_neg h, bi_neg (fun q => h (allM_down hk q))]
theorem seeF_t {s : Int → Int} {n : Int} {k : Nat} (h : q_dk s (s (106 + (k : Int))) n = s (112 + (k : Int))) : seeF s n k = true := decide_eq_true h
theorem seeF_f {s : Int → Int} {n : Int} {k : Nat} (h : ¬ q_dk s (s (106 + (k : Int))) n = s (112 + (k : Int))) : seeF s n k = false := decide_eq_false h
def a_ran (s : Int → Int) (w : Int) : Int := if 0 ≤ w ∧ w ≤ 1 then (if w = 0 then (dnF (asSeen s) 1000).1 else (dnF (asSeen s) 1000).2) else -1
theorem dn_t {s : Int → Int} {k : Nat} (hk : (k : Int) ≤ 999) (h : allM (seeF s (999 - (k : Int))) (s 45).toNat = true) : dnF (asSeen s) (k + 1) = ((dnF (asSeen s) k).1 + 1, 999 - (k : Int)) := by
  have e : asSeen s (999 - k) = true := by
    show allM (seeF s ((999 - k : Nat) : Int)) _ = true
    rw [show ((999 - k : Nat) : Int) = 999 - (k : Int) by omega]
    exact h
  show (if asSeen s (999 - k) then ((dnF (asSeen s) k).1 + 1, ((999 - k : Nat) : Int)) else dnF (asSeen s) k) = _
  rw [if_pos e, show ((999 - k : Nat) : Int) = 999 - (k : Int) by omega]
theorem dn_f {s : Int → Int} {k : Nat} (hk : (k : Int) ≤ 999) (h : ¬ allM (seeF s (999 - (k : Int))) (s 45).toNat = true) : dnF (asSeen s) (k + 1) = dnF (asSeen s) k := by
  have e : ¬ asSeen s (999 - k) = true := by
    show ¬ allM (seeF s ((999 - k : Nat) : Int)) _ = true
    rw [show ((999 - k : Nat) : Int) = 999 - (k : Int) by omega]
    exact h
  show (if asSeen s (999 - k) then ((dnF (asSeen s) k).1 + 1, ((999 - k : Nat) : Int)) else dnF (asSeen s) k) = _
  rw [if_neg e]
def a_hand (s : Int → Int) (SL : List Int) (d : Int) : Int := if 0 ≤ d ∧ d ≤ 99 then bset (hanF s SL d) (s 43).toNat else -2
theorem cnt_t {f : Nat → Bool} {k : Nat} (h : f k = true) : cntB f k + 1 = cntB f (k + 1) := by
  show _ = cntB f k + (if f k then 1 else 0)
  rw [h]; rfl
theorem cnt_f {f : Nat → Bool} {k : Nat} (h : f k = false) : cntB f k + 0 = cntB f (k + 1) := by
  show _ = cntB f k + (if f k then 1 else 0)
  rw [h]; rfl
def errF (s : Int → Int) (f : Int) : Nat → Bool := fun m => decide (s (11 + m) = 1) && decide (s (19 + m) = f)
theorem err_n {s : Int → Int} {j k : Nat} (h : cntB (errF s ((j : Int) + 1)) k ≤ (errB s j).1) (hk : k = (s 43).toNat) : errB s (j + 1) = errB s j := by
  subst hk
  exact if_neg (Int.not_lt.mpr h)
theorem err_y {s : Int → Int} {j k : Nat} (h : ¬ cntB (errF s ((j : Int) + 1)) k ≤ (errB s j).1) (hk : k = (s 43).toNat) : errB s (j + 1) = (cntB (errF s ((j : Int) + 1)) k, (j : Int) + 1) := by
  subst hk
  exact if_pos (Int.not_le.mp h)
def a_odds (s : Int → Int) (q n t : Int) : Int := if 0 ≤ q ∧ q ≤ 30 then (if 0 ≤ n ∧ n ≤ 999 then (if 0 ≤ t ∧ t ≤ 1 then (if s 43 - q_uncut s = 0 then -9223372036854775808 else q_low (cntB (oddF s q n) (s 43).toNat) (s 43 - q_uncut s) t) else -9223372036854775808) else -9223372036854775808) else -9223372036854775808
def a_mean (s : Int → Int) (n t : Int) : Int := if 0 ≤ n ∧ n ≤ 999 then (if 0 ≤ t ∧ t ≤ 1 then (if s 43 - q_uncut s = 0 then -9223372036854775808 else q_low (sumF (fun m => q_dk s m n) (s 43).toNat) (s 43 - q_uncut s) t) else -9223372036854775808) else -9223372036854775808
def a_plan (s : Int → Int) (w m : Int) : Int := if w = -1 then 0 else if 0 ≤ w ∧ w ≤ 4 then (if 3 ≤ w then (if s 46 = 8 then -4 else s 46 + 1) else if 0 ≤ m ∧ m ≤ s 43 - 1 then (if s 46 = 8 then -4 else s 46 + 1) else -1) else -1
def f_plan (s : Int → Int) (w m : Int) : Int → Int := if w = -1 then sU s 46 0 else if 0 ≤ w ∧ w ≤ 4 then (if 3 ≤ w then (if s 46 = 8 then s else sU (sU (sU s (118 + s 46) w) (126 + s 46) m) 46 (s 46 + 1)) else if 0 ≤ m ∧ m ≤ s 43 - 1 then (if s 46 = 8 then s else sU (sU (sU s (118 + s 46) w) (126 + s 46) m) 46 (s 46 + 1)) else s) else s
def a_done (s : Int → Int) (SL : List Int) (w : Int) : Int := if 0 ≤ w ∧ w ≤ 2 then (if w = 0 then pd s SL (s 46).toNat 0 - s 0 else if w = 1 then pd s SL (s 46).toNat 2 else cntB (prt (pd s SL (s 46).toNat) 0) (s 43).toNat) else -1
def a_book (s : Int → Int) (m n d : Int) : Int := if m = -1 then 0 else if 0 ≤ m ∧ m ≤ s 43 - 1 then (if 0 ≤ n ∧ n ≤ 999 then (if 0 ≤ d ∧ d ≤ 30 then (if s 47 = 8 then -4 else s 47 + 1) else -2) else -2) else -1
def f_book (s : Int → Int) (m n d : Int) : Int → Int := if m = -1 then sU s 47 0 else if 0 ≤ m ∧ m ≤ s 43 - 1 then (if 0 ≤ n ∧ n ≤ 999 then (if 0 ≤ d ∧ d ≤ 30 then (if s 47 = 8 then s else sU (sU (sU (sU s (134 + s 47) m) (142 + s 47) n) (150 + s 47) d) 47 (s 47 + 1)) else s) else s) else s
def a_looked (s : Int → Int) : Int := if leastM (looF s) (s 47).toNat = -1 then -5 else leastM (looF s) (s 47).toNat
theorem looF_t {s : Int → Int} {k : Nat} (h : ¬ q_dk s (s (134 + (k : Int))) (s (142 + (k : Int))) = s (150 + (k : Int))) : looF s k = true := by
  unfold looF; rw [decide_eq_false h]; rfl
theorem looF_f {s : Int → Int} {k : Nat} (h : q_dk s (s (134 + (k : Int))) (s (142 + (k : Int))) = s (150 + (k : Int))) : looF s k = false := by
  unfold looF; rw [decide_eq_true h]; rfl
set_option maxHeartbeats 4000000 in
set_option maxRecDepth 100000 in
theorem k_see (l : Launch) (D : Dx) (A : Nat → Prop) (a : Nat → Nat) (s im fr bY tr ln bl bo g lg : Int → Int) (m : Int) (d : Int) (hr : -2147483648 ≤ m ∧ m < 2147483648) (hr2 : -2147483648 ≤ d ∧ d < 2147483648) (hN : NM s) (hSE : SE s) : CT l D A yX12_see cX12_see 3 (some .int) { frames := 2, cells := 0, slots := 0, locals := 43 } [.ref (a 0), vI m, vI d] (MW D A a s im fr bY tr ln bl bo g lg) (fun _ : Unit => some (vI (a_see s m d))) (fun _ => True) (fun _ => MW D A a (f_see s m d) im fr bY tr ln bl bo g lg) := by
  refine ct_of (lo0 := [(0, .ref (a 0)), (1, vI m), (2, vI d)]) (by decide) (Nat.le_of_ble_eq_true rfl) rfl ?_
  intro G hG hR
  have hN9 : 0 ≤ s 43 ∧ s 43 ≤ 8 := hN
  have hS1 := hSE.1
  refine v_iload_n hG dX12_see_0 rfl 1 rfl ?_
  refine v_iconst hG dX12_see_1 ?_
  refine v_icmp_ne (tgt := 15) hG dX12_see_2 (by decide) (by omega) (by omega) (fun c1 => ?_) (fun c1 => ?_)
  · skip
    refine v_aload_n hG dX12_see_15 rfl 0 rfl ?_
    refine v_iload_n hG dX12_see_16 rfl 1 rfl ?_
    refine v_callV (k1' := 0) (k2' := 0) hG dX12_see_17 zc_X12_isMark ⟨zl_X12_150, zi_X12_isMark, zs_X12_isMark⟩ (fun l => k_isMark l D A a s im fr bY tr ln bl bo g lg m (by omega) (by assumption)) rfl mw_recv (fun _ h => h) ⟨by decide, by decide⟩ rfl rfl ⟨by decide, by decide⟩ (rest := []) rfl (Nat.le_of_ble_eq_true rfl) (fun u2 => [vI (bi (0 ≤ m ∧ m ≤ s 43 - 1))]) (fun _ => rfl) (fun u2 hu2 => ?_)
    refine v_ifb_ne (p := 0 ≤ m ∧ m ≤ s 43 - 1) (tgt := 25) hG dX12_see_20 (by decide) (fun c3 => ?_) (fun c3 => ?_)
    · skip
      refine v_iload_n hG dX12_see_25 rfl 2 rfl ?_
      refine v_iconst hG dX12_see_26 ?_
      refine v_bipush hG dX12_see_27 (by decide) ?_
      refine v_callS (k1' := 0) (k2' := 0) hG dX12_see_29 zc_X12_in ⟨zl_X12_41, zt_X12_in⟩ (fun l => k_in l D A (MW D A a s im fr bY tr ln bl bo g lg) d 0 30 (by omega) (by omega) (by omega)) rfl (fun _ h => h) ⟨by decide, by decide⟩ rfl rfl ⟨by decide, by decide⟩ (rest := []) rfl (Nat.le_of_ble_eq_true rfl) (fun u4 => [vI (bi (0 ≤ d ∧ d ≤ 30))]) (fun _ => rfl) (fun u4 hu4 => ?_)
      refine v_ifb_ne (p := 0 ≤ d ∧ d ≤ 30) (tgt := 38) hG dX12_see_32 (by decide) (fun c5 => ?_) (fun c5 => ?_)
      · skip
        refine v_aload_n hG dX12_see_38 rfl 0 rfl ?_
        refine mg_s hG dX12_see_39 ?_
        refine v_bipush hG dX12_see_42 (by decide) ?_
        refine ma_s (z := s 45) hG dX12_see_44 (by omega) rfl ?_
        refine v_bipush hG dX12_see_45 (by decide) ?_
        refine v_icmp_ne (tgt := 53) hG dX12_see_47 (by decide) (by omega) (by omega) (fun c6 => ?_) (fun c6 => ?_)
        · skip
          refine v_aload_n hG dX12_see_53 rfl 0 rfl ?_
          refine mg_s hG dX12_see_54 ?_
          refine v_bipush hG dX12_see_57 (by decide) ?_
          refine v_aload_n hG dX12_see_59 rfl 0 rfl ?_
          refine mg_s hG dX12_see_60 ?_
          refine v_bipush hG dX12_see_63 (by decide) ?_
          refine ma_s (z := s 45) hG dX12_see_65 (by omega) rfl ?_
          refine v_iadd hG dX12_see_66 ?_
          refine v_iload_n hG dX12_see_67 rfl 1 rfl ?_
          refine ms_s hG dX12_see_68 (by omega) ?_
          refine v_aload_n hG dX12_see_69 rfl 0 rfl ?_
          refine mg_s hG dX12_see_70 ?_
          refine v_bipush hG dX12_see_73 (by decide) ?_
          refine v_aload_n hG dX12_see_75 rfl 0 rfl ?_
          refine mg_s hG dX12_see_76 ?_
          refine v_bipush hG dX12_see_79 (by decide) ?_
          refine ma_s (z := s 45) hG dX12_see_81 (by omega) (by rw [sU_ne (by omega)]) ?_
          refine v_iadd hG dX12_see_82 ?_
          refine v_iload_n hG dX12_see_83 rfl 2 rfl ?_
          refine ms_s hG dX12_see_84 (by omega) ?_
          refine v_aload_n hG dX12_see_85 rfl 0 rfl ?_
          refine mg_s hG dX12_see_86 ?_
          refine v_bipush hG dX12_see_89 (by decide) ?_
          refine v_dup2 hG dX12_see_91 rfl rfl ?_
          refine ma_s (z := s 45) hG dX12_see_92 (by omega) (by rw [sU_ne (by omega), sU_ne (by omega)]) ?_
          refine v_iconst hG dX12_see_93 ?_
          refine v_iadd hG dX12_see_94 ?_
          refine ms_s hG dX12_see_95 (by omega) ?_
          refine v_aload_n hG dX12_see_96 rfl 0 rfl ?_
          refine mg_s hG dX12_see_97 ?_
          refine v_bipush hG dX12_see_100 (by decide) ?_
          refine ma_s (z := (s 45) + 1) hG dX12_see_102 (by omega) (by rw [sU_eq]) ?_
          have e7 : sU (sU (sU s (106 + (s 45)) m) (112 + (s 45)) d) 45 ((s 45) + 1) = f_see s m d := by first | rfl | (simp only [a_see, f_see, if_neg c1, if_pos c3, if_pos c5, if_neg c6]; done) | (simp only [a_see, f_see, if_neg c1, if_pos c3, if_pos c5, if_neg c6]; done) | (simp only [a_see, f_see, if_neg c1, if_pos c3, if_pos c5, if_neg c6]; rfl) | (simp only [a_see, f_see, if_neg c1, if_pos c3, if_pos c5, if_neg c6]; omega)
          have e8 : @Eq Int (a_see s m d) ((s 45) + 1) := by first | rfl | (simp only [a_see, f_see, if_neg c1, if_pos c3, if_pos c5, if_neg c6]; done) | (simp only [a_see, f_see, if_neg c1, if_pos c3, if_pos c5, if_neg c6]; done) | (simp only [a_see, f_see, if_neg c1, if_pos c3, if_pos c5, if_neg c6]; rfl) | (simp only [a_see, f_see, if_neg c1, if_pos c3, if_pos c5, if_neg c6]; omega)
          exact v_ireturn hG hR dX12_see_103 () (congrArg (fun z => some (vI z)) e8) (by trivial) (fun _ hM => by rw [← e7]; exact hM)
        · skip
          refine v_bipush hG dX12_see_50 (by decide) ?_
          have e9 : s = f_see s m d := by first | rfl | (simp only [a_see, f_see, if_neg c1, if_pos c3, if_pos c5, if_pos c6]; done) | (simp only [a_see, f_see, if_neg c1, if_pos c3, if_pos c5, if_pos c6]; done) | (simp only [a_see, f_see, if_neg c1, if_pos c3, if_pos c5, if_pos c6]; rfl) | (simp only [a_see, f_see, if_neg c1, if_pos c3, if_pos c5, if_pos c6]; omega)
          have e10 : @Eq Int (a_see s m d) (-4) := by first | rfl | (simp only [a_see, f_see, if_neg c1, if_pos c3, if_pos c5, if_pos c6]; done) | (simp only [a_see, f_see, if_neg c1, if_pos c3, if_pos c5, if_pos c6]; done) | (simp only [a_see, f_see, if_neg c1, if_pos c3, if_pos c5, if_pos c6]; rfl) | (simp only [a_see, f_see, if_neg c1, if_pos c3, if_pos c5, if_pos c6]; omega)
          exact v_ireturn hG hR dX12_see_52 () (congrArg (fun z => some (vI z)) e10) (by trivial) (fun _ hM => by rw [← e9]; exact hM)
      · skip
        refine v_bipush hG dX12_see_35 (by decide) ?_
        have e11 : s = f_see s m d := by first | rfl | (simp only [a_see, f_see, if_neg c1, if_pos c3, if_neg c5]; done) | (simp only [a_see, f_see, if_neg c1, if_pos c3, if_neg c5]; done) | (simp only [a_see, f_see, if_neg c1, if_pos c3, if_neg c5]; rfl) | (simp only [a_see, f_see, if_neg c1, if_pos c3, if_neg c5]; omega)
        have e12 : @Eq Int (a_see s m d) (-2) := by first | rfl | (simp only [a_see, f_see, if_neg c1, if_pos c3, if_neg c5]; done) | (simp only [a_see, f_see, if_neg c1, if_pos c3, if_neg c5]; done) | (simp only [a_see, f_see, if_neg c1, if_pos c3, if_neg c5]; rfl) | (simp only [a_see, f_see, if_neg c1, if_pos c3, if_neg c5]; omega)
        exact v_ireturn hG hR dX12_see_37 () (congrArg (fun z => some (vI z)) e12) (by trivial) (fun _ hM => by rw [← e11]; exact hM)
    · skip
      refine v_iconst hG dX12_see_23 ?_
      have e13 : s = f_see s m d := by first | rfl | (simp only [a_see, f_see, if_neg c1, if_neg c3]; done) | (simp only [a_see, f_see, if_neg c1, if_neg c3]; done) | (simp only [a_see, f_see, if_neg c1, if_neg c3]; rfl) | (simp only [a_see, f_see, if_neg c1, if_neg c3]; omega)
      have e14 : @Eq Int (a_see s m d) (-1) := by first | rfl | (simp only [a_see, f_see, if_neg c1, if_neg c3]; done) | (simp only [a_see, f_see, if_neg c1, if_neg c3]; done) | (simp only [a_see, f_see, if_neg c1, if_neg c3]; rfl) | (simp only [a_see, f_see, if_neg c1, if_neg c3]; omega)
      exact v_ireturn hG hR dX12_see_24 () (congrArg (fun z => some (vI z)) e14) (by trivial) (fun _ hM => by rw [← e13]; exact hM)
  · skip
    refine v_aload_n hG dX12_see_5 rfl 0 rfl ?_
    refine mg_s hG dX12_see_6 ?_
    refine v_bipush hG dX12_see_9 (by decide) ?_
    refine v_iconst hG dX12_see_11 ?_
    refine ms_s hG dX12_see_12 (by omega) ?_
    refine v_iconst hG dX12_see_13 ?_
    have e15 : sU s 45 0 = f_see s m d := by first | rfl | (simp only [a_see, f_see, if_pos c1]; done) | (simp only [a_see, f_see, if_pos c1]; done) | (simp only [a_see, f_see, if_pos c1]; rfl) | (simp only [a_see, f_see, if_pos c1]; omega)
    have e16 : @Eq Int (a_see s m d) (0) := by first | rfl | (simp only [a_see, f_see, if_pos c1]; done) | (simp only [a_see, f_see, if_pos c1]; done) | (simp only [a_see, f_see, if_pos c1]; rfl) | (simp only [a_see, f_see, if_pos c1]; omega)
    exact v_ireturn hG hR dX12_see_14 () (congrArg (fun z => some (vI z)) e16) (by trivial) (fun _ hM => by rw [← e15]; exact hM)
set_option maxHeartbeats 4000000 in
set_option maxRecDepth 100000 in
theorem k_isAsSeen (l : Launch) (D : Dx) (A : Nat → Prop) (a : Nat → Nat) (s im fr bY tr ln bl bo g lg : Int → Int) (n : Int) (hn : 0 ≤ n ∧ n ≤ 999) (hN : NM s) (hM : GM s) (hP : PL s) (hSE : SE s) : CT l D A yX12_isAsSeen cX12_isAsSeen 4 (some .boolean) { frames := 4, cells := 0, slots := 0, locals := 91 } [.ref (a 0), vI n] (MW D A a s im fr bY tr ln bl bo g lg) (fun _ : Unit => some (vI (bi (allM (seeF s n) (s 45).toNat = true)))) (fun _ => True) (fun _ => MW D A a s im fr bY tr ln bl bo g lg) := by
  refine ct_of (lo0 := [(0, .ref (a 0)), (1, vI n)]) (by decide) (Nat.le_of_ble_eq_true rfl) rfl ?_
  intro G hG hR
  have hN9 : 0 ≤ s 43 ∧ s 43 ≤ 8 := hN
  have hS1 := hSE.1
  refine v_iconst hG dX12_isAsSeen_0 ?_
  refine v_istore_n (lo' := [(2, vI 1), (0, .ref (a 0)), (1, vI n)]) hG dX12_isAsSeen_1 rfl (by decide) rfl ?_
  refine v_iconst hG dX12_isAsSeen_2 ?_
  refine v_istore_n (lo' := [(3, vI 0), (2, vI 1), (0, .ref (a 0)), (1, vI n)]) hG dX12_isAsSeen_3 rfl (by decide) rfl ?_
  refine v_lo [2, 3, 1, 0] (lo' := [(0, .ref (a 0)), (1, vI n), (2, vI 1), (3, vI 0)]) rfl ?_
  have L3 : ∀ mz : Nat, ∀ (k : Nat), ((k : Int) ≤ s 45) → (s 45 - (k : Int)).toNat = mz → ∀ x1 : Int, x1 = ((k : Int)) → ∀ x2 : Int, x2 = (bi (allM (seeF s n) k = true)) → V G 0 0 (MW D A a s im fr bY tr ln bl bo g lg) 4 [(0, .ref (a 0)), (1, vI n), (2, vI x2), (3, vI x1)] [] := by
    intro dL3
    induction dL3 using Nat.strongRecOn with
    | ind dL3 ihL3 =>
      intro k h4 h5
      intro x1 hx1
      subst hx1
      intro x2 hx2
      subst hx2
      refine v_iload_n hG dX12_isAsSeen_4 rfl 3 rfl ?_
      refine v_aload_n hG dX12_isAsSeen_5 rfl 0 rfl ?_
      refine mg_s hG dX12_isAsSeen_6 ?_
      refine v_bipush hG dX12_isAsSeen_9 (by decide) ?_
      refine ma_s (z := s 45) hG dX12_isAsSeen_11 (by omega) rfl ?_
      refine v_icmp_ge (tgt := 57) hG dX12_isAsSeen_12 (by decide) (by omega) (by omega) (fun c6 => ?_) (fun c6 => ?_)
      · skip
        refine v_iload_n hG dX12_isAsSeen_57 rfl 2 rfl ?_
        have e7 : @Eq Int (bi (allM (seeF s n) (s 45).toNat = true)) (bi (allM (seeF s n) k = true)) := by first | exact allB_f (by assumption) (by omega) | (rw [show k = (s 45).toNat by omega])
        exact v_zreturn hG hR dX12_isAsSeen_58 (bi_01 _) () (congrArg (fun z => some (vI z)) e7) (by trivial) (fun _ hM => hM)
      · skip
        refine v_iload_n hG dX12_isAsSeen_15 rfl 2 rfl ?_
        refine v_ifb_eq (p := allM (seeF s n) k = true) (tgt := 57) hG dX12_isAsSeen_16 (by decide) (fun c8 => ?_) (fun c8 => ?_)
        · skip
          refine v_iload_n hG dX12_isAsSeen_57 rfl 2 rfl ?_
          have e9 : @Eq Int (bi (allM (seeF s n) (s 45).toNat = true)) (bi (allM (seeF s n) k = true)) := by first | exact allB_f (by assumption) (by omega) | (rw [show k = (s 45).toNat by omega])
          exact v_zreturn hG hR dX12_isAsSeen_58 (bi_01 _) () (congrArg (fun z => some (vI z)) e9) (by trivial) (fun _ hM => hM)
        · skip
          have hse := hSE.2 k (by omega) (by omega)
          refine v_aload_n hG dX12_isAsSeen_19 rfl 0 rfl ?_
          refine v_aload_n hG dX12_isAsSeen_20 rfl 0 rfl ?_
          refine mg_s hG dX12_isAsSeen_21 ?_
          refine v_bipush hG dX12_isAsSeen_24 (by decide) ?_
          refine v_iload_n hG dX12_isAsSeen_26 rfl 3 rfl ?_
          refine v_iadd hG dX12_isAsSeen_27 ?_
          refine ma_s (z := s (106 + (k : Int))) hG dX12_isAsSeen_28 (by omega) rfl ?_
          refine v_iload_n hG dX12_isAsSeen_29 rfl 1 rfl ?_
          refine v_callV (k1' := 0) (k2' := 0) hG dX12_isAsSeen_30 zc_X12_darkBy ⟨zl_X12_147, zi_X12_darkBy, zs_X12_darkBy⟩ (fun l => k_darkBy l D A a s im fr bY tr ln bl bo g lg (s (106 + (k : Int))) n (by omega) (by first | assumption | (exact hM _ (by omega) (by omega))) (by assumption) (by omega)) rfl mw_recv (fun _ h => h) ⟨by decide, by decide⟩ rfl rfl ⟨by decide, by decide⟩ (rest := []) rfl (Nat.le_of_ble_eq_true rfl) (fun u10 => [vI (q_dk s (s (106 + (k : Int))) n)]) (fun _ => rfl) (fun u10 hu10 => ?_)
          have fu10 : 0 ≤ q_dk s (s (106 + (k : Int))) n ∧ q_dk s (s (106 + (k : Int))) n ≤ 30 := hu10
          refine v_aload_n hG dX12_isAsSeen_33 rfl 0 rfl ?_
          refine mg_s hG dX12_isAsSeen_34 ?_
          refine v_bipush hG dX12_isAsSeen_37 (by decide) ?_
          refine v_iload_n hG dX12_isAsSeen_39 rfl 3 rfl ?_
          refine v_iadd hG dX12_isAsSeen_40 ?_
          refine ma_s (z := s (112 + (k : Int))) hG dX12_isAsSeen_41 (by omega) rfl ?_
          refine v_icmp_ne (tgt := 49) hG dX12_isAsSeen_42 (by decide) (by omega) (by omega) (fun c11 => ?_) (fun c11 => ?_)
          · skip
            refine v_iconst hG dX12_isAsSeen_49 ?_
            refine v_istore_n (lo' := [(2, vI 0), (0, .ref (a 0)), (1, vI n), (3, vI (k : Int))]) hG dX12_isAsSeen_50 rfl (by decide) rfl ?_
            refine v_iinc (lo' := [(3, vI ((k : Int) + 1)), (2, vI 0), (0, .ref (a 0)), (1, vI n)]) hG dX12_isAsSeen_51 3 rfl (by decide) rfl ?_
            refine v_goto (tgt := 4) hG dX12_isAsSeen_54 (by decide) ?_
            refine v_lo [2, 3, 1, 0] (lo' := [(0, .ref (a 0)), (1, vI n), (2, vI 0), (3, vI ((k : Int) + 1))]) rfl ?_
            exact ihL3 _ (by omega) (k + 1) (by omega) rfl _ (by first | omega | rfl | (simp [c6, c8, c11]; done)) _ (by first | exact allM_t (by assumption) (seeF_t (by assumption)) | exact allM_f (seeF_f (by assumption)))
          · skip
            refine v_iconst hG dX12_isAsSeen_45 ?_
            refine v_goto (tgt := 50) hG dX12_isAsSeen_46 (by decide) ?_
            refine v_istore_n (lo' := [(2, vI 1), (0, .ref (a 0)), (1, vI n), (3, vI (k : Int))]) hG dX12_isAsSeen_50 rfl (by decide) rfl ?_
            refine v_iinc (lo' := [(3, vI ((k : Int) + 1)), (2, vI 1), (0, .ref (a 0)), (1, vI n)]) hG dX12_isAsSeen_51 3 rfl (by decide) rfl ?_
            refine v_goto (tgt := 4) hG dX12_isAsSeen_54 (by decide) ?_
            refine v_lo [2, 3, 1, 0] (lo' := [(0, .ref (a 0)), (1, vI n), (2, vI 1), (3, vI ((k : Int) + 1))]) rfl ?_
            exact ihL3 _ (by omega) (k + 1) (by omega) rfl _ (by first | omega | rfl | (simp [c6, c8, c11]; done)) _ (by first | exact allM_t (by assumption) (seeF_t (by assumption)) | exact allM_f (seeF_f (by assumption)))
  exact L3 _ 0 (by omega) rfl _ (by first | omega | rfl | (simp []; done)) _ (by exact (bi_pos rfl).symm)
set_option maxHeartbeats 4000000 in
set_option maxRecDepth 100000 in
theorem k_ran (l : Launch) (D : Dx) (A : Nat → Prop) (a : Nat → Nat) (s im fr bY tr ln bl bo g lg : Int → Int) (w : Int) (hr : -2147483648 ≤ w ∧ w < 2147483648) (hN : NM s) (hM : GM s) (hP : PL s) (hSE : SE s) : CT l D A yX12_ran cX12_ran 6 (some .int) { frames := 5, cells := 0, slots := 0, locals := 114 } [.ref (a 0), vI w] (MW D A a s im fr bY tr ln bl bo g lg) (fun _ : Unit => some (vI (a_ran s w))) (fun _ => True) (fun _ => MW D A a s im fr bY tr ln bl bo g lg) := by
  refine ct_of (lo0 := [(0, .ref (a 0)), (1, vI w)]) (by decide) (Nat.le_of_ble_eq_true rfl) rfl ?_
  intro G hG hR
  have hN9 : 0 ≤ s 43 ∧ s 43 ≤ 8 := hN
  refine v_iload_n hG dX12_ran_0 rfl 1 rfl ?_
  refine v_iconst hG dX12_ran_1 ?_
  refine v_iconst hG dX12_ran_2 ?_
  refine v_callS (k1' := 0) (k2' := 0) hG dX12_ran_3 zc_X12_in ⟨zl_X12_41, zt_X12_in⟩ (fun l => k_in l D A (MW D A a s im fr bY tr ln bl bo g lg) w 0 1 (by omega) (by omega) (by omega)) rfl (fun _ h => h) ⟨by decide, by decide⟩ rfl rfl ⟨by decide, by decide⟩ (rest := []) rfl (Nat.le_of_ble_eq_true rfl) (fun u1 => [vI (bi (0 ≤ w ∧ w ≤ 1))]) (fun _ => rfl) (fun u1 hu1 => ?_)
  refine v_ifb_ne (p := 0 ≤ w ∧ w ≤ 1) (tgt := 11) hG dX12_ran_6 (by decide) (fun c2 => ?_) (fun c2 => ?_)
  · skip
    refine v_iconst hG dX12_ran_11 ?_
    refine v_istore_n (lo' := [(2, vI 0), (0, .ref (a 0)), (1, vI w)]) hG dX12_ran_12 rfl (by decide) rfl ?_
    refine v_bipush hG dX12_ran_13 (by decide) ?_
    refine v_istore_n (lo' := [(3, vI (-5)), (2, vI 0), (0, .ref (a 0)), (1, vI w)]) hG dX12_ran_15 rfl (by decide) rfl ?_
    refine v_sipush hG dX12_ran_16 (by decide) ?_
    refine v_istore (lo' := [(4, vI 999), (3, vI (-5)), (2, vI 0), (0, .ref (a 0)), (1, vI w)]) hG dX12_ran_19 (by decide) rfl ?_
    refine v_lo [3, 4, 2, 1, 0] (lo' := [(0, .ref (a 0)), (1, vI w), (2, vI 0), (3, vI (-5)), (4, vI 999)]) rfl ?_
    have L6 : ∀ mz : Nat, ∀ (k : Nat), ((k : Int) ≤ 1000) → (1000 - (k : Int)).toNat = mz → ∀ x3 : Int, x3 = (999 - (k : Int)) → ∀ x4 : Int, x4 = ((dnF (asSeen s) k).1) → ∀ x5 : Int, x5 = ((dnF (asSeen s) k).2) → V G 0 0 (MW D A a s im fr bY tr ln bl bo g lg) 21 [(0, .ref (a 0)), (1, vI w), (2, vI x4), (3, vI x5), (4, vI x3)] [] := by
      intro dL6
      induction dL6 using Nat.strongRecOn with
      | ind dL6 ihL6 =>
        intro k h7 h8
        intro x3 hx3
        subst hx3
        intro x4 hx4
        subst hx4
        intro x5 hx5
        subst hx5
        refine v_iload hG dX12_ran_21 4 rfl ?_
        refine v_if_lt (tgt := 65) hG dX12_ran_23 (by decide) (by omega) (fun c9 => ?_) (fun c9 => ?_)
        · skip
          refine v_iload_n hG dX12_ran_65 rfl 1 rfl ?_
          refine v_if_ne (tgt := 73) hG dX12_ran_66 (by decide) (by omega) (fun c10 => ?_) (fun c10 => ?_)
          · skip
            refine v_iload_n hG dX12_ran_73 rfl 3 rfl ?_
            have e11 : @Eq Int (a_ran s w) ((dnF (asSeen s) k).2) := by rw [show k = 1000 by omega]; simp only [a_ran, if_pos c2, if_pos c9, if_neg c10]
            exact v_ireturn hG hR dX12_ran_74 () (congrArg (fun z => some (vI z)) e11) (by trivial) (fun _ hM => hM)
          · skip
            refine v_iload_n hG dX12_ran_69 rfl 2 rfl ?_
            refine v_goto (tgt := 74) hG dX12_ran_70 (by decide) ?_
            have e12 : @Eq Int (a_ran s w) ((dnF (asSeen s) k).1) := by rw [show k = 1000 by omega]; simp only [a_ran, if_pos c2, if_pos c9, if_pos c10]
            exact v_ireturn hG hR dX12_ran_74 () (congrArg (fun z => some (vI z)) e12) (by trivial) (fun _ hM => hM)
        · skip
          refine v_aload_n hG dX12_ran_26 rfl 0 rfl ?_
          refine v_iload hG dX12_ran_27 4 rfl ?_
          refine v_callV (k1' := 0) (k2' := 0) hG dX12_ran_29 zc_X12_isAsSeen ⟨zl_X12_265, zi_X12_isAsSeen, zs_X12_isAsSeen⟩ (fun l => k_isAsSeen l D A a s im fr bY tr ln bl bo g lg (999 - (k : Int)) (by omega) (by assumption) (by assumption) (by assumption) (by assumption)) rfl mw_recv (fun _ h => h) ⟨by decide, by decide⟩ rfl rfl ⟨by decide, by decide⟩ (rest := []) rfl (Nat.le_of_ble_eq_true rfl) (fun u13 => [vI (bi (allM (seeF s (999 - (k : Int))) (s 45).toNat = true))]) (fun _ => rfl) (fun u13 hu13 => ?_)
          refine v_istore (lo' := [(5, vI (bi (allM (seeF s (999 - (k : Int))) (s 45).toNat = true))), (0, .ref (a 0)), (1, vI w), (2, vI ((dnF (asSeen s) k).1)), (3, vI ((dnF (asSeen s) k).2)), (4, vI (999 - (k : Int)))]) hG dX12_ran_32 (by decide) rfl ?_
          refine v_iload_n hG dX12_ran_34 rfl 3 rfl ?_
          refine v_iload hG dX12_ran_35 0 rfl ?_
          refine v_ifb_eq (p := allM (seeF s (999 - (k : Int))) (s 45).toNat = true) (tgt := 44) hG dX12_ran_37 (by decide) (fun c14 => ?_) (fun c14 => ?_)
          · skip
            refine v_iconst hG dX12_ran_44 ?_
            refine v_iadd hG dX12_ran_45 ?_
            refine v_istore_n (lo' := [(2, vI (((dnF (asSeen s) k).1) + 0)), (5, vI (bi (allM (seeF s (999 - (k : Int))) (s 45).toNat = true))), (0, .ref (a 0)), (1, vI w), (3, vI ((dnF (asSeen s) k).2)), (4, vI (999 - (k : Int)))]) hG dX12_ran_46 rfl (by decide) rfl ?_
            refine v_iload hG dX12_ran_47 1 rfl ?_
            refine v_ifb_eq (p := allM (seeF s (999 - (k : Int))) (s 45).toNat = true) (tgt := 57) hG dX12_ran_49 (by decide) (fun c15 => ?_) (fun c15 => ?_)
            · skip
              refine v_iload_n hG dX12_ran_57 rfl 4 rfl ?_
              refine v_istore_n (lo' := [(3, vI ((dnF (asSeen s) k).2)), (2, vI (((dnF (asSeen s) k).1) + 0)), (5, vI (bi (allM (seeF s (999 - (k : Int))) (s 45).toNat = true))), (0, .ref (a 0)), (1, vI w), (4, vI (999 - (k : Int)))]) hG dX12_ran_58 rfl (by decide) rfl ?_
              refine v_iinc (lo' := [(4, vI ((999 - (k : Int)) + (-1))), (3, vI ((dnF (asSeen s) k).2)), (2, vI (((dnF (asSeen s) k).1) + 0)), (5, vI (bi (allM (seeF s (999 - (k : Int))) (s 45).toNat = true))), (0, .ref (a 0)), (1, vI w)]) hG dX12_ran_59 5 rfl (by decide) rfl ?_
              refine v_goto (tgt := 21) hG dX12_ran_62 (by decide) ?_
              refine v_lo [4, 5, 2, 1, 0] (lo' := [(0, .ref (a 0)), (1, vI w), (2, vI (((dnF (asSeen s) k).1) + 0)), (3, vI ((dnF (asSeen s) k).2)), (4, vI ((999 - (k : Int)) + (-1)))]) rfl ?_
              exact ihL6 _ (by omega) (k + 1) (by omega) rfl _ (by omega) _ (by first | exact absurd (by assumption) (by assumption) | (rw [dn_f (by omega) (by assumption)] <;> first | rfl | omega) | (rw [dn_t (by omega) (by assumption)] <;> first | rfl | omega)) _ (by first | exact absurd (by assumption) (by assumption) | (rw [dn_f (by omega) (by assumption)] <;> first | rfl | omega) | (rw [dn_t (by omega) (by assumption)] <;> first | rfl | omega))
            · skip
              refine v_iload hG dX12_ran_52 5 rfl ?_
              refine v_goto (tgt := 58) hG dX12_ran_54 (by decide) ?_
              refine v_istore_n (lo' := [(3, vI (999 - (k : Int))), (2, vI (((dnF (asSeen s) k).1) + 0)), (5, vI (bi (allM (seeF s (999 - (k : Int))) (s 45).toNat = true))), (0, .ref (a 0)), (1, vI w), (4, vI (999 - (k : Int)))]) hG dX12_ran_58 rfl (by decide) rfl ?_
              refine v_iinc (lo' := [(4, vI ((999 - (k : Int)) + (-1))), (3, vI (999 - (k : Int))), (2, vI (((dnF (asSeen s) k).1) + 0)), (5, vI (bi (allM (seeF s (999 - (k : Int))) (s 45).toNat = true))), (0, .ref (a 0)), (1, vI w)]) hG dX12_ran_59 5 rfl (by decide) rfl ?_
              refine v_goto (tgt := 21) hG dX12_ran_62 (by decide) ?_
              refine v_lo [4, 5, 2, 1, 0] (lo' := [(0, .ref (a 0)), (1, vI w), (2, vI (((dnF (asSeen s) k).1) + 0)), (3, vI (999 - (k : Int))), (4, vI ((999 - (k : Int)) + (-1)))]) rfl ?_
              exact ihL6 _ (by omega) (k + 1) (by omega) rfl _ (by omega) _ (by first | exact absurd (by assumption) (by assumption) | (rw [dn_f (by omega) (by assumption)] <;> first | rfl | omega) | (rw [dn_t (by omega) (by assumption)] <;> first | rfl | omega)) _ (by first | exact absurd (by assumption) (by assumption) | (rw [dn_f (by omega) (by assumption)] <;> first | rfl | omega) | (rw [dn_t (by omega) (by assumption)] <;> first | rfl | omega))
          · skip
            refine v_iconst hG dX12_ran_40 ?_
            refine v_goto (tgt := 45) hG dX12_ran_41 (by decide) ?_
            refine v_iadd hG dX12_ran_45 ?_
            refine v_istore_n (lo' := [(2, vI (((dnF (asSeen s) k).1) + 1)), (5, vI (bi (allM (seeF s (999 - (k : Int))) (s 45).toNat = true))), (0, .ref (a 0)), (1, vI w), (3, vI ((dnF (asSeen s) k).2)), (4, vI (999 - (k : Int)))]) hG dX12_ran_46 rfl (by decide) rfl ?_
            refine v_iload hG dX12_ran_47 1 rfl ?_
            refine v_ifb_eq (p := allM (seeF s (999 - (k : Int))) (s 45).toNat = true) (tgt := 57) hG dX12_ran_49 (by decide) (fun c16 => ?_) (fun c16 => ?_)
            · skip
              refine v_iload_n hG dX12_ran_57 rfl 4 rfl ?_
              refine v_istore_n (lo' := [(3, vI ((dnF (asSeen s) k).2)), (2, vI (((dnF (asSeen s) k).1) + 1)), (5, vI (bi (allM (seeF s (999 - (k : Int))) (s 45).toNat = true))), (0, .ref (a 0)), (1, vI w), (4, vI (999 - (k : Int)))]) hG dX12_ran_58 rfl (by decide) rfl ?_
              refine v_iinc (lo' := [(4, vI ((999 - (k : Int)) + (-1))), (3, vI ((dnF (asSeen s) k).2)), (2, vI (((dnF (asSeen s) k).1) + 1)), (5, vI (bi (allM (seeF s (999 - (k : Int))) (s 45).toNat = true))), (0, .ref (a 0)), (1, vI w)]) hG dX12_ran_59 5 rfl (by decide) rfl ?_
              refine v_goto (tgt := 21) hG dX12_ran_62 (by decide) ?_
              refine v_lo [4, 5, 2, 1, 0] (lo' := [(0, .ref (a 0)), (1, vI w), (2, vI (((dnF (asSeen s) k).1) + 1)), (3, vI ((dnF (asSeen s) k).2)), (4, vI ((999 - (k : Int)) + (-1)))]) rfl ?_
              exact ihL6 _ (by omega) (k + 1) (by omega) rfl _ (by omega) _ (by first | exact absurd (by assumption) (by assumption) | (rw [dn_f (by omega) (by assumption)] <;> first | rfl | omega) | (rw [dn_t (by omega) (by assumption)] <;> first | rfl | omega)) _ (by first | exact absurd (by assumption) (by assumption) | (rw [dn_f (by omega) (by assumption)] <;> first | rfl | omega) | (rw [dn_t (by omega) (by assumption)] <;> first | rfl | omega))
            · skip
              refine v_iload hG dX12_ran_52 5 rfl ?_
              refine v_goto (tgt := 58) hG dX12_ran_54 (by decide) ?_
              refine v_istore_n (lo' := [(3, vI (999 - (k : Int))), (2, vI (((dnF (asSeen s) k).1) + 1)), (5, vI (bi (allM (seeF s (999 - (k : Int))) (s 45).toNat = true))), (0, .ref (a 0)), (1, vI w), (4, vI (999 - (k : Int)))]) hG dX12_ran_58 rfl (by decide) rfl ?_
              refine v_iinc (lo' := [(4, vI ((999 - (k : Int)) + (-1))), (3, vI (999 - (k : Int))), (2, vI (((dnF (asSeen s) k).1) + 1)), (5, vI (bi (allM (seeF s (999 - (k : Int))) (s 45).toNat = true))), (0, .ref (a 0)), (1, vI w)]) hG dX12_ran_59 5 rfl (by decide) rfl ?_
              refine v_goto (tgt := 21) hG dX12_ran_62 (by decide) ?_
              refine v_lo [4, 5, 2, 1, 0] (lo' := [(0, .ref (a 0)), (1, vI w), (2, vI (((dnF (asSeen s) k).1) + 1)), (3, vI (999 - (k : Int))), (4, vI ((999 - (k : Int)) + (-1)))]) rfl ?_
              exact ihL6 _ (by omega) (k + 1) (by omega) rfl _ (by omega) _ (by first | exact absurd (by assumption) (by assumption) | (rw [dn_f (by omega) (by assumption)] <;> first | rfl | omega) | (rw [dn_t (by omega) (by assumption)] <;> first | rfl | omega)) _ (by first | exact absurd (by assumption) (by assumption) | (rw [dn_f (by omega) (by assumption)] <;> first | rfl | omega) | (rw [dn_t (by omega) (by assumption)] <;> first | rfl | omega))
    exact L6 _ 0 (by omega) rfl _ (by first | omega | rfl | (simp [c2]; done)) _ (by rfl) _ (by rfl)
  · skip
    refine v_iconst hG dX12_ran_9 ?_
    have e17 : @Eq Int (a_ran s w) (-1) := by simp only [a_ran, if_neg c2]
    exact v_ireturn hG hR dX12_ran_10 () (congrArg (fun z => some (vI z)) e17) (by trivial) (fun _ hM => hM)
set_option maxHeartbeats 4000000 in
set_option maxRecDepth 100000 in
theorem k_hand (l : Launch) (D : Dx) (A : Nat → Prop) (a : Nat → Nat) (s im fr bY tr ln bl bo g lg : Int → Int) (d : Int) (SL : List Int) (hr : -2147483648 ≤ d ∧ d < 2147483648) (hN : NM s) (hM : GM s) (hE : HE s SL) (hT : TI s) : CT l D A yX12_hand cX12_hand 4 (some .int) { frames := 4, cells := 0, slots := 0, locals := 96 } [.ref (a 0), vI d] (MW D A a s im fr bY tr ln bl bo g lg) (fun u : (Int → Int) × (Int → Int) => some (vI (a_hand s SL d))) (fun _ => True) (fun u => MW D A a s im fr u.1 u.2 ln bl bo g lg) := by
  refine ct_of (lo0 := [(0, .ref (a 0)), (1, vI d)]) (by decide) (Nat.le_of_ble_eq_true rfl) rfl ?_
  intro G hG hR
  have hN9 : 0 ≤ s 43 ∧ s 43 ≤ 8 := hN
  refine v_iload_n hG dX12_hand_0 rfl 1 rfl ?_
  refine v_iconst hG dX12_hand_1 ?_
  refine v_bipush hG dX12_hand_2 (by decide) ?_
  refine v_callS (k1' := 0) (k2' := 0) hG dX12_hand_4 zc_X12_in ⟨zl_X12_41, zt_X12_in⟩ (fun l => k_in l D A (MW D A a s im fr bY tr ln bl bo g lg) d 0 99 (by omega) (by omega) (by omega)) rfl (fun _ h => h) ⟨by decide, by decide⟩ rfl rfl ⟨by decide, by decide⟩ (rest := []) rfl (Nat.le_of_ble_eq_true rfl) (fun u1 => [vI (bi (0 ≤ d ∧ d ≤ 99))]) (fun _ => rfl) (fun u1 hu1 => ?_)
  refine v_ifb_ne (p := 0 ≤ d ∧ d ≤ 99) (tgt := 13) hG dX12_hand_7 (by decide) (fun c2 => ?_) (fun c2 => ?_)
  · skip
    refine v_iconst hG dX12_hand_13 ?_
    refine v_istore_n (lo' := [(2, vI 0), (0, .ref (a 0)), (1, vI d)]) hG dX12_hand_14 rfl (by decide) rfl ?_
    refine v_iconst hG dX12_hand_15 ?_
    refine v_istore_n (lo' := [(3, vI 0), (2, vI 0), (0, .ref (a 0)), (1, vI d)]) hG dX12_hand_16 rfl (by decide) rfl ?_
    refine v_lo [2, 3, 1, 0] (lo' := [(0, .ref (a 0)), (1, vI d), (2, vI 0), (3, vI 0)]) rfl ?_
    have L7 : ∀ mz : Nat, ∀ (k : Nat), ((k : Int) ≤ s 43) → (s 43 - (k : Int)).toNat = mz → ∀ x3 : Int, x3 = ((k : Int)) → ∀ x4 : Int, x4 = (bset (hanF s SL d) k) → ∀ x5 : Int → Int, ∀ x6 : Int → Int, V G 0 0 (MW D A a s im fr x5 x6 ln bl bo g lg) 17 [(0, .ref (a 0)), (1, vI d), (2, vI x4), (3, vI x3)] [] := by
      intro dL7
      induction dL7 using Nat.strongRecOn with
      | ind dL7 ihL7 =>
        intro k h8 h9
        intro x3 hx3
        subst hx3
        intro x4 hx4
        subst hx4
        intro x5
        intro x6
        refine v_iload_n hG dX12_hand_17 rfl 3 rfl ?_
        refine v_aload_n hG dX12_hand_18 rfl 0 rfl ?_
        refine mg_s hG dX12_hand_19 ?_
        refine v_bipush hG dX12_hand_22 (by decide) ?_
        refine ma_s (z := s 43) hG dX12_hand_24 (by omega) rfl ?_
        refine v_icmp_ge (tgt := 61) hG dX12_hand_25 (by decide) (by omega) (by omega) (fun c10 => ?_) (fun c10 => ?_)
        · skip
          refine v_iload_n hG dX12_hand_61 rfl 2 rfl ?_
          have e11 : @Eq Int (a_hand s SL d) (bset (hanF s SL d) k) := by rw [show k = (s 43).toNat by omega]; simp only [a_hand, if_pos c2, if_pos c10]
          exact v_ireturn hG hR dX12_hand_62 (x5, x6) (congrArg (fun z => some (vI z)) e11) (by trivial) (fun _ hM => hM)
        · skip
          refine v_iload_n hG dX12_hand_28 rfl 2 rfl ?_
          refine v_aload_n hG dX12_hand_29 rfl 0 rfl ?_
          refine v_iload_n hG dX12_hand_30 rfl 3 rfl ?_
          refine v_callV (k1' := 0) (k2' := 0) hG dX12_hand_31 zc_X12_isCut ⟨zl_X12_137, zi_X12_isCut, zs_X12_isCut⟩ (fun l => k_isCut l D A a s im fr x5 x6 ln bl bo g lg (k : Int) (by omega) (by first | exact hm.2.2.2.2.1 | exact (hM _ (by omega) (by omega)).2.2.2.2.1 | omega)) rfl mw_recv (fun _ h => h) ⟨by decide, by decide⟩ rfl rfl ⟨by decide, by decide⟩ (rest := [vI (bset (hanF s SL d) k)]) rfl (Nat.le_of_ble_eq_true rfl) (fun u12 => [vI (bi (s (11 + (k : Int)) = 1)), vI (bset (hanF s SL d) k)]) (fun _ => rfl) (fun u12 hu12 => ?_)
          refine v_ifb_ne (p := s (11 + (k : Int)) = 1) (tgt := 52) hG dX12_hand_34 (by decide) (fun c13 => ?_) (fun c13 => ?_)
          · skip
            refine v_iconst hG dX12_hand_52 ?_
            refine v_ior hG dX12_hand_53 ?_
            refine v_istore_n (lo' := [(2, vI (ior (bset (hanF s SL d) k) 0)), (0, .ref (a 0)), (1, vI d), (3, vI (k : Int))]) hG dX12_hand_54 rfl (by decide) rfl ?_
            refine v_iinc (lo' := [(3, vI ((k : Int) + 1)), (2, vI (ior (bset (hanF s SL d) k) 0)), (0, .ref (a 0)), (1, vI d)]) hG dX12_hand_55 3 rfl (by decide) rfl ?_
            refine v_goto (tgt := 17) hG dX12_hand_58 (by decide) ?_
            refine v_lo [2, 3, 1, 0] (lo' := [(0, .ref (a 0)), (1, vI d), (2, vI (ior (bset (hanF s SL d) k) 0)), (3, vI ((k : Int) + 1))]) rfl ?_
            exact ihL7 _ (by omega) (k + 1) (by omega) rfl _ (by first | omega | rfl | (simp [c2, c10, c13]; done)) _ (by first | exact bset_step (by simp only [hanF, decide_eq_true c2, decide_eq_false c10, decide_eq_true c13, Bool.not_true, Bool.not_false, Bool.and_true, Bool.true_and, Bool.and_self]) (by omega) | exact bset_stay (by simp only [hanF, decide_eq_true c2, decide_eq_false c10, decide_eq_true c13, Bool.not_true, Bool.not_false, Bool.and_false, Bool.false_and, Bool.and_self]) (by omega)) _ _
          · skip
            refine v_iload_n hG dX12_hand_37 rfl 1 rfl ?_
            refine v_aload_n hG dX12_hand_38 rfl 0 rfl ?_
            refine v_iload_n hG dX12_hand_39 rfl 3 rfl ?_
            refine v_callV (k1' := 0) (k2' := 0) hG dX12_hand_40 zc_X12_riskOf ⟨zl_X12_153, zi_X12_riskOf, zs_X12_riskOf⟩ (fun l => k_riskOf l D A a s im fr x5 x6 ln bl bo g lg (k : Int) SL (by omega) (by first | assumption | (exact hM _ (by omega) (by omega))) (by assumption) (by exact hT)) rfl mw_recv (fun _ h => h) ⟨by decide, by decide⟩ rfl rfl ⟨by decide, by decide⟩ (rest := [vI d, vI (bset (hanF s SL d) k)]) rfl (Nat.le_of_ble_eq_true rfl) (fun u14 => [vI (q_risk s SL (k : Int) (s 2)), vI d, vI (bset (hanF s SL d) k)]) (fun _ => rfl) (fun u14 hu14 => ?_)
            have fu14 : 0 ≤ q_risk s SL (k : Int) (s 2) ∧ q_risk s SL (k : Int) (s 2) ≤ 99 := hu14
            refine v_icmp_ge (tgt := 52) hG dX12_hand_43 (by decide) (by omega) (by omega) (fun c15 => ?_) (fun c15 => ?_)
            · skip
              refine v_iconst hG dX12_hand_52 ?_
              refine v_ior hG dX12_hand_53 ?_
              refine v_istore_n (lo' := [(2, vI (ior (bset (hanF s SL d) k) 0)), (0, .ref (a 0)), (1, vI d), (3, vI (k : Int))]) hG dX12_hand_54 rfl (by decide) rfl ?_
              refine v_iinc (lo' := [(3, vI ((k : Int) + 1)), (2, vI (ior (bset (hanF s SL d) k) 0)), (0, .ref (a 0)), (1, vI d)]) hG dX12_hand_55 3 rfl (by decide) rfl ?_
              refine v_goto (tgt := 17) hG dX12_hand_58 (by decide) ?_
              refine v_lo [2, 3, 1, 0] (lo' := [(0, .ref (a 0)), (1, vI d), (2, vI (ior (bset (hanF s SL d) k) 0)), (3, vI ((k : Int) + 1))]) rfl ?_
              exact ihL7 _ (by omega) (k + 1) (by omega) rfl _ (by first | omega | rfl | (simp [c2, c10, c13, c15]; done)) _ (by first | exact bset_step (by simp only [hanF, decide_eq_true c2, decide_eq_false c10, decide_eq_false c13, decide_eq_true c15, Bool.not_true, Bool.not_false, Bool.and_true, Bool.true_and, Bool.and_self]) (by omega) | exact bset_stay (by simp only [hanF, decide_eq_true c2, decide_eq_false c10, decide_eq_false c13, decide_eq_true c15, Bool.not_true, Bool.not_false, Bool.and_false, Bool.false_and, Bool.and_self]) (by omega)) _ _
            · skip
              refine v_iconst hG dX12_hand_46 ?_
              refine v_iload_n hG dX12_hand_47 rfl 3 rfl ?_
              refine v_ishl hG dX12_hand_48 (by omega) ?_
              refine v_goto (tgt := 53) hG dX12_hand_49 (by decide) ?_
              refine v_ior hG dX12_hand_53 ?_
              refine v_istore_n (lo' := [(2, vI (ior (bset (hanF s SL d) k) (1 * 2 ^ (k : Int).toNat))), (0, .ref (a 0)), (1, vI d), (3, vI (k : Int))]) hG dX12_hand_54 rfl (by decide) rfl ?_
              refine v_iinc (lo' := [(3, vI ((k : Int) + 1)), (2, vI (ior (bset (hanF s SL d) k) (1 * 2 ^ (k : Int).toNat))), (0, .ref (a 0)), (1, vI d)]) hG dX12_hand_55 3 rfl (by decide) rfl ?_
              refine v_goto (tgt := 17) hG dX12_hand_58 (by decide) ?_
              refine v_lo [2, 3, 1, 0] (lo' := [(0, .ref (a 0)), (1, vI d), (2, vI (ior (bset (hanF s SL d) k) (1 * 2 ^ (k : Int).toNat))), (3, vI ((k : Int) + 1))]) rfl ?_
              exact ihL7 _ (by omega) (k + 1) (by omega) rfl _ (by first | omega | rfl | (simp [c2, c10, c13, c15]; done)) _ (by first | exact bset_step (by simp only [hanF, decide_eq_true c2, decide_eq_false c10, decide_eq_false c13, decide_eq_false c15, Bool.not_true, Bool.not_false, Bool.and_true, Bool.true_and, Bool.and_self]) (by omega) | exact bset_stay (by simp only [hanF, decide_eq_true c2, decide_eq_false c10, decide_eq_false c13, decide_eq_false c15, Bool.not_true, Bool.not_false, Bool.and_false, Bool.false_and, Bool.and_self]) (by omega)) _ _
    exact L7 _ 0 (by omega) rfl _ (by first | omega | rfl | (simp [c2]; done)) _ (by first | omega | rfl | (simp [c2]; done)) _ _
  · skip
    refine v_bipush hG dX12_hand_10 (by decide) ?_
    have e16 : @Eq Int (a_hand s SL d) (-2) := by simp only [a_hand, if_neg c2]
    exact v_ireturn hG hR dX12_hand_12 (bY, tr) (congrArg (fun z => some (vI z)) e16) (by trivial) (fun _ hM => hM)
set_option maxHeartbeats 4000000 in
set_option maxRecDepth 100000 in
theorem k_errs (l : Launch) (D : Dx) (A : Nat → Prop) (a : Nat → Nat) (s im fr bY tr ln bl bo g lg : Int → Int) (hN : NM s) (hM : GM s) : CT l D A yX12_errs cX12_errs 6 (some .int) { frames := 1, cells := 0, slots := 0, locals := 21 } [.ref (a 0)] (MW D A a s im fr bY tr ln bl bo g lg) (fun _ : Unit => some (vI ((errB s 3).2))) (fun _ => True) (fun _ => MW D A a s im fr bY tr ln bl bo g lg) := by
  refine ct_of (lo0 := [(0, .ref (a 0))]) (by decide) (Nat.le_of_ble_eq_true rfl) rfl ?_
  intro G hG hR
  have hN9 : 0 ≤ s 43 ∧ s 43 ≤ 8 := hN
  refine v_iconst hG dX12_errs_0 ?_
  refine v_istore_n (lo' := [(1, vI 0), (0, .ref (a 0))]) hG dX12_errs_1 rfl (by decide) rfl ?_
  refine v_iconst hG dX12_errs_2 ?_
  refine v_istore_n (lo' := [(2, vI 0), (1, vI 0), (0, .ref (a 0))]) hG dX12_errs_3 rfl (by decide) rfl ?_
  refine v_iconst hG dX12_errs_4 ?_
  refine v_istore_n (lo' := [(3, vI 1), (2, vI 0), (1, vI 0), (0, .ref (a 0))]) hG dX12_errs_5 rfl (by decide) rfl ?_
  refine v_lo [3, 2, 1, 0] (lo' := [(0, .ref (a 0)), (1, vI 0), (2, vI 0), (3, vI 1)]) rfl ?_
  have L4 : ∀ mz : Nat, ∀ (j : Nat), ((j : Int) ≤ 3) → (3 - (j : Int)).toNat = mz → ∀ x1 : Int, x1 = ((j : Int) + 1) → ∀ x2 : Int, x2 = ((errB s j).1) → ∀ x3 : Int, x3 = ((errB s j).2) → V G 0 0 (MW D A a s im fr bY tr ln bl bo g lg) 6 [(0, .ref (a 0)), (1, vI x2), (2, vI x3), (3, vI x1)] [] := by
    intro dL4
    induction dL4 using Nat.strongRecOn with
    | ind dL4 ihL4 =>
      intro j h5 h6
      intro x1 hx1
      subst hx1
      intro x2 hx2
      subst hx2
      intro x3 hx3
      subst hx3
      have hbr := errB_rng hN j
      refine v_iload_n hG dX12_errs_6 rfl 3 rfl ?_
      refine v_iconst hG dX12_errs_7 ?_
      refine v_icmp_ge (tgt := 99) hG dX12_errs_8 (by decide) (by omega) (by omega) (fun c7 => ?_) (fun c7 => ?_)
      · skip
        refine v_iload_n hG dX12_errs_99 rfl 2 rfl ?_
        have e8 : @Eq Int ((errB s 3).2) ((errB s j).2) := by rw [show j = 3 by omega]
        exact v_ireturn hG hR dX12_errs_100 () (congrArg (fun z => some (vI z)) e8) (by trivial) (fun _ hM => hM)
      · skip
        refine v_iconst hG dX12_errs_11 ?_
        refine v_istore (lo' := [(4, vI 0), (0, .ref (a 0)), (1, vI ((errB s j).1)), (2, vI ((errB s j).2)), (3, vI ((j : Int) + 1))]) hG dX12_errs_12 (by decide) rfl ?_
        refine v_iconst hG dX12_errs_14 ?_
        refine v_istore (lo' := [(5, vI 0), (4, vI 0), (0, .ref (a 0)), (1, vI ((errB s j).1)), (2, vI ((errB s j).2)), (3, vI ((j : Int) + 1))]) hG dX12_errs_15 (by decide) rfl ?_
        refine v_lo [2, 3, 4, 5, 1, 0] (lo' := [(0, .ref (a 0)), (1, vI ((errB s j).1)), (2, vI ((errB s j).2)), (3, vI ((j : Int) + 1)), (4, vI 0), (5, vI 0)]) rfl ?_
        have L11 : ∀ mz : Nat, ∀ (k : Nat), ((k : Int) ≤ s 43) → (s 43 - (k : Int)).toNat = mz → ∀ x9 : Int, x9 = ((k : Int)) → ∀ x10 : Int, x10 = (cntB (errF s ((j : Int) + 1)) k) → V G 0 0 (MW D A a s im fr bY tr ln bl bo g lg) 17 [(0, .ref (a 0)), (1, vI ((errB s j).1)), (2, vI ((errB s j).2)), (3, vI ((j : Int) + 1)), (4, vI x10), (5, vI x9)] [] := by
          intro dL11
          induction dL11 using Nat.strongRecOn with
          | ind dL11 ihL11 =>
            intro k h12 h13
            intro x9 hx9
            subst hx9
            intro x10 hx10
            subst hx10
            have hcr := cntB_rng (errF s ((j : Int) + 1)) k
            refine v_iload hG dX12_errs_17 5 rfl ?_
            refine v_aload_n hG dX12_errs_19 rfl 0 rfl ?_
            refine mg_s hG dX12_errs_20 ?_
            refine v_bipush hG dX12_errs_23 (by decide) ?_
            refine ma_s (z := s 43) hG dX12_errs_25 (by omega) rfl ?_
            refine v_icmp_ge (tgt := 68) hG dX12_errs_26 (by decide) (by omega) (by omega) (fun c14 => ?_) (fun c14 => ?_)
            · skip
              refine v_iload hG dX12_errs_68 4 rfl ?_
              refine v_iload_n hG dX12_errs_70 rfl 1 rfl ?_
              refine v_icmp_le (tgt := 78) hG dX12_errs_71 (by decide) (by omega) (by omega) (fun c15 => ?_) (fun c15 => ?_)
              · skip
                refine v_iload_n hG dX12_errs_78 rfl 2 rfl ?_
                refine v_istore_n (lo' := [(2, vI ((errB s j).2)), (0, .ref (a 0)), (1, vI ((errB s j).1)), (3, vI ((j : Int) + 1)), (4, vI (cntB (errF s ((j : Int) + 1)) k)), (5, vI (k : Int))]) hG dX12_errs_79 rfl (by decide) rfl ?_
                refine v_iload hG dX12_errs_80 4 rfl ?_
                refine v_iload_n hG dX12_errs_82 rfl 2 rfl ?_
                refine v_icmp_le (tgt := 91) hG dX12_errs_83 (by decide) (by omega) (by omega) (fun c16 => ?_) (fun c16 => ?_)
                · skip
                  refine v_iload_n hG dX12_errs_91 rfl 2 rfl ?_
                  refine v_istore_n (lo' := [(1, vI ((errB s j).1)), (2, vI ((errB s j).2)), (0, .ref (a 0)), (3, vI ((j : Int) + 1)), (4, vI (cntB (errF s ((j : Int) + 1)) k)), (5, vI (k : Int))]) hG dX12_errs_92 rfl (by decide) rfl ?_
                  refine v_iinc (lo' := [(3, vI (((j : Int) + 1) + 1)), (1, vI ((errB s j).1)), (2, vI ((errB s j).2)), (0, .ref (a 0)), (4, vI (cntB (errF s ((j : Int) + 1)) k)), (5, vI (k : Int))]) hG dX12_errs_93 3 rfl (by decide) rfl ?_
                  refine v_goto (tgt := 6) hG dX12_errs_96 (by decide) ?_
                  refine v_lo [3, 1, 2, 0] (lo' := [(0, .ref (a 0)), (1, vI ((errB s j).1)), (2, vI ((errB s j).2)), (3, vI (((j : Int) + 1) + 1))]) rfl ?_
                  exact ihL4 _ (by omega) (j + 1) (by omega) rfl _ (by omega) _ (by first | (exfalso; omega) | (rw [err_n (by assumption) (by omega)] <;> rfl) | (rw [err_y (by assumption) (by omega)] <;> rfl)) _ (by first | (exfalso; omega) | (rw [err_n (by assumption) (by omega)] <;> rfl) | (rw [err_y (by assumption) (by omega)] <;> rfl))
                · skip
                  refine v_iload hG dX12_errs_86 4 rfl ?_
                  refine v_goto (tgt := 92) hG dX12_errs_88 (by decide) ?_
                  refine v_istore_n (lo' := [(1, vI (cntB (errF s ((j : Int) + 1)) k)), (2, vI ((errB s j).2)), (0, .ref (a 0)), (3, vI ((j : Int) + 1)), (4, vI (cntB (errF s ((j : Int) + 1)) k)), (5, vI (k : Int))]) hG dX12_errs_92 rfl (by decide) rfl ?_
                  refine v_iinc (lo' := [(3, vI (((j : Int) + 1) + 1)), (1, vI (cntB (errF s ((j : Int) + 1)) k)), (2, vI ((errB s j).2)), (0, .ref (a 0)), (4, vI (cntB (errF s ((j : Int) + 1)) k)), (5, vI (k : Int))]) hG dX12_errs_93 3 rfl (by decide) rfl ?_
                  refine v_goto (tgt := 6) hG dX12_errs_96 (by decide) ?_
                  refine v_lo [3, 1, 2, 0] (lo' := [(0, .ref (a 0)), (1, vI (cntB (errF s ((j : Int) + 1)) k)), (2, vI ((errB s j).2)), (3, vI (((j : Int) + 1) + 1))]) rfl ?_
                  exact ihL4 _ (by omega) (j + 1) (by omega) rfl _ (by omega) _ (by first | (exfalso; omega) | (rw [err_n (by assumption) (by omega)] <;> rfl) | (rw [err_y (by assumption) (by omega)] <;> rfl)) _ (by first | (exfalso; omega) | (rw [err_n (by assumption) (by omega)] <;> rfl) | (rw [err_y (by assumption) (by omega)] <;> rfl))
              · skip
                refine v_iload_n hG dX12_errs_74 rfl 3 rfl ?_
                refine v_goto (tgt := 79) hG dX12_errs_75 (by decide) ?_
                refine v_istore_n (lo' := [(2, vI ((j : Int) + 1)), (0, .ref (a 0)), (1, vI ((errB s j).1)), (3, vI ((j : Int) + 1)), (4, vI (cntB (errF s ((j : Int) + 1)) k)), (5, vI (k : Int))]) hG dX12_errs_79 rfl (by decide) rfl ?_
                refine v_iload hG dX12_errs_80 4 rfl ?_
                refine v_iload_n hG dX12_errs_82 rfl 2 rfl ?_
                refine v_icmp_le (tgt := 91) hG dX12_errs_83 (by decide) (by omega) (by omega) (fun c17 => ?_) (fun c17 => ?_)
                · skip
                  refine v_iload_n hG dX12_errs_91 rfl 2 rfl ?_
                  refine v_istore_n (lo' := [(1, vI ((errB s j).1)), (2, vI ((j : Int) + 1)), (0, .ref (a 0)), (3, vI ((j : Int) + 1)), (4, vI (cntB (errF s ((j : Int) + 1)) k)), (5, vI (k : Int))]) hG dX12_errs_92 rfl (by decide) rfl ?_
                  refine v_iinc (lo' := [(3, vI (((j : Int) + 1) + 1)), (1, vI ((errB s j).1)), (2, vI ((j : Int) + 1)), (0, .ref (a 0)), (4, vI (cntB (errF s ((j : Int) + 1)) k)), (5, vI (k : Int))]) hG dX12_errs_93 3 rfl (by decide) rfl ?_
                  refine v_goto (tgt := 6) hG dX12_errs_96 (by decide) ?_
                  refine v_lo [3, 1, 2, 0] (lo' := [(0, .ref (a 0)), (1, vI ((errB s j).1)), (2, vI ((j : Int) + 1)), (3, vI (((j : Int) + 1) + 1))]) rfl ?_
                  exact ihL4 _ (by omega) (j + 1) (by omega) rfl _ (by omega) _ (by first | (exfalso; omega) | (rw [err_n (by assumption) (by omega)] <;> rfl) | (rw [err_y (by assumption) (by omega)] <;> rfl)) _ (by first | (exfalso; omega) | (rw [err_n (by assumption) (by omega)] <;> rfl) | (rw [err_y (by assumption) (by omega)] <;> rfl))
                · skip
                  refine v_iload hG dX12_errs_86 4 rfl ?_
                  refine v_goto (tgt := 92) hG dX12_errs_88 (by decide) ?_
                  refine v_istore_n (lo' := [(1, vI (cntB (errF s ((j : Int) + 1)) k)), (2, vI ((j : Int) + 1)), (0, .ref (a 0)), (3, vI ((j : Int) + 1)), (4, vI (cntB (errF s ((j : Int) + 1)) k)), (5, vI (k : Int))]) hG dX12_errs_92 rfl (by decide) rfl ?_
                  refine v_iinc (lo' := [(3, vI (((j : Int) + 1) + 1)), (1, vI (cntB (errF s ((j : Int) + 1)) k)), (2, vI ((j : Int) + 1)), (0, .ref (a 0)), (4, vI (cntB (errF s ((j : Int) + 1)) k)), (5, vI (k : Int))]) hG dX12_errs_93 3 rfl (by decide) rfl ?_
                  refine v_goto (tgt := 6) hG dX12_errs_96 (by decide) ?_
                  refine v_lo [3, 1, 2, 0] (lo' := [(0, .ref (a 0)), (1, vI (cntB (errF s ((j : Int) + 1)) k)), (2, vI ((j : Int) + 1)), (3, vI (((j : Int) + 1) + 1))]) rfl ?_
                  exact ihL4 _ (by omega) (j + 1) (by omega) rfl _ (by omega) _ (by first | (exfalso; omega) | (rw [err_n (by assumption) (by omega)] <;> rfl) | (rw [err_y (by assumption) (by omega)] <;> rfl)) _ (by first | (exfalso; omega) | (rw [err_n (by assumption) (by omega)] <;> rfl) | (rw [err_y (by assumption) (by omega)] <;> rfl))
            · skip
              refine v_iload hG dX12_errs_29 4 rfl ?_
              refine v_aload_n hG dX12_errs_31 rfl 0 rfl ?_
              refine v_iload hG dX12_errs_32 5 rfl ?_
              refine v_callV (k1' := 0) (k2' := 0) hG dX12_errs_34 zc_X12_isCut ⟨zl_X12_137, zi_X12_isCut, zs_X12_isCut⟩ (fun l => k_isCut l D A a s im fr bY tr ln bl bo g lg (k : Int) (by omega) (by first | exact hm.2.2.2.2.1 | exact (hM _ (by omega) (by omega)).2.2.2.2.1 | omega)) rfl mw_recv (fun _ h => h) ⟨by decide, by decide⟩ rfl rfl ⟨by decide, by decide⟩ (rest := [vI (cntB (errF s ((j : Int) + 1)) k)]) rfl (Nat.le_of_ble_eq_true rfl) (fun u18 => [vI (bi (s (11 + (k : Int)) = 1)), vI (cntB (errF s ((j : Int) + 1)) k)]) (fun _ => rfl) (fun u18 hu18 => ?_)
              refine v_ifb_eq (p := s (11 + (k : Int)) = 1) (tgt := 58) hG dX12_errs_37 (by decide) (fun c19 => ?_) (fun c19 => ?_)
              · skip
                refine v_iconst hG dX12_errs_58 ?_
                refine v_iadd hG dX12_errs_59 ?_
                refine v_istore (lo' := [(4, vI ((cntB (errF s ((j : Int) + 1)) k) + 0)), (0, .ref (a 0)), (1, vI ((errB s j).1)), (2, vI ((errB s j).2)), (3, vI ((j : Int) + 1)), (5, vI (k : Int))]) hG dX12_errs_60 (by decide) rfl ?_
                refine v_iinc (lo' := [(5, vI ((k : Int) + 1)), (4, vI ((cntB (errF s ((j : Int) + 1)) k) + 0)), (0, .ref (a 0)), (1, vI ((errB s j).1)), (2, vI ((errB s j).2)), (3, vI ((j : Int) + 1))]) hG dX12_errs_62 5 rfl (by decide) rfl ?_
                refine v_goto (tgt := 17) hG dX12_errs_65 (by decide) ?_
                refine v_lo [2, 3, 4, 5, 1, 0] (lo' := [(0, .ref (a 0)), (1, vI ((errB s j).1)), (2, vI ((errB s j).2)), (3, vI ((j : Int) + 1)), (4, vI ((cntB (errF s ((j : Int) + 1)) k) + 0)), (5, vI ((k : Int) + 1))]) rfl ?_
                exact ihL11 _ (by omega) (k + 1) (by omega) rfl _ (by first | omega | rfl | (simp [c7, c14, c19]; done)) _ (by first | exact cnt_t (by simp only [errF, decide_eq_false c7, decide_eq_false c14, decide_eq_false c19, Bool.not_true, Bool.not_false, Bool.and_true, Bool.true_and, Bool.and_self]) | exact cnt_f (by simp only [errF, decide_eq_false c7, decide_eq_false c14, decide_eq_false c19, Bool.not_true, Bool.not_false, Bool.and_false, Bool.false_and, Bool.and_self]))
              · skip
                refine v_aload_n hG dX12_errs_40 rfl 0 rfl ?_
                refine mg_s hG dX12_errs_41 ?_
                have hm6 := (hM k (by omega) (by omega)).2.2.2.2.2.1
                refine v_bipush hG dX12_errs_44 (by decide) ?_
                refine v_iload hG dX12_errs_46 5 rfl ?_
                refine v_iadd hG dX12_errs_48 ?_
                refine ma_s (z := s (19 + (k : Int))) hG dX12_errs_49 (by omega) rfl ?_
                refine v_iload_n hG dX12_errs_50 rfl 3 rfl ?_
                refine v_icmp_ne (tgt := 58) hG dX12_errs_51 (by decide) (by omega) (by omega) (fun c20 => ?_) (fun c20 => ?_)
                · skip
                  refine v_iconst hG dX12_errs_58 ?_
                  refine v_iadd hG dX12_errs_59 ?_
                  refine v_istore (lo' := [(4, vI ((cntB (errF s ((j : Int) + 1)) k) + 0)), (0, .ref (a 0)), (1, vI ((errB s j).1)), (2, vI ((errB s j).2)), (3, vI ((j : Int) + 1)), (5, vI (k : Int))]) hG dX12_errs_60 (by decide) rfl ?_
                  refine v_iinc (lo' := [(5, vI ((k : Int) + 1)), (4, vI ((cntB (errF s ((j : Int) + 1)) k) + 0)), (0, .ref (a 0)), (1, vI ((errB s j).1)), (2, vI ((errB s j).2)), (3, vI ((j : Int) + 1))]) hG dX12_errs_62 5 rfl (by decide) rfl ?_
                  refine v_goto (tgt := 17) hG dX12_errs_65 (by decide) ?_
                  refine v_lo [2, 3, 4, 5, 1, 0] (lo' := [(0, .ref (a 0)), (1, vI ((errB s j).1)), (2, vI ((errB s j).2)), (3, vI ((j : Int) + 1)), (4, vI ((cntB (errF s ((j : Int) + 1)) k) + 0)), (5, vI ((k : Int) + 1))]) rfl ?_
                  exact ihL11 _ (by omega) (k + 1) (by omega) rfl _ (by first | omega | rfl | (simp [c7, c14, c19, c20]; done)) _ (by first | exact cnt_t (by simp only [errF, decide_eq_false c7, decide_eq_false c14, decide_eq_true c19, decide_eq_false c20, Bool.not_true, Bool.not_false, Bool.and_true, Bool.true_and, Bool.and_self]) | exact cnt_f (by simp only [errF, decide_eq_false c7, decide_eq_false c14, decide_eq_true c19, decide_eq_false c20, Bool.not_true, Bool.not_false, Bool.and_false, Bool.false_and, Bool.and_self]))
                · skip
                  refine v_iconst hG dX12_errs_54 ?_
                  refine v_goto (tgt := 59) hG dX12_errs_55 (by decide) ?_
                  refine v_iadd hG dX12_errs_59 ?_
                  refine v_istore (lo' := [(4, vI ((cntB (errF s ((j : Int) + 1)) k) + 1)), (0, .ref (a 0)), (1, vI ((errB s j).1)), (2, vI ((errB s j).2)), (3, vI ((j : Int) + 1)), (5, vI (k : Int))]) hG dX12_errs_60 (by decide) rfl ?_
                  refine v_iinc (lo' := [(5, vI ((k : Int) + 1)), (4, vI ((cntB (errF s ((j : Int) + 1)) k) + 1)), (0, .ref (a 0)), (1, vI ((errB s j).1)), (2, vI ((errB s j).2)), (3, vI ((j : Int) + 1))]) hG dX12_errs_62 5 rfl (by decide) rfl ?_
                  refine v_goto (tgt := 17) hG dX12_errs_65 (by decide) ?_
                  refine v_lo [2, 3, 4, 5, 1, 0] (lo' := [(0, .ref (a 0)), (1, vI ((errB s j).1)), (2, vI ((errB s j).2)), (3, vI ((j : Int) + 1)), (4, vI ((cntB (errF s ((j : Int) + 1)) k) + 1)), (5, vI ((k : Int) + 1))]) rfl ?_
                  exact ihL11 _ (by omega) (k + 1) (by omega) rfl _ (by first | omega | rfl | (simp [c7, c14, c19, c20]; done)) _ (by first | exact cnt_t (by simp only [errF, decide_eq_false c7, decide_eq_false c14, decide_eq_true c19, decide_eq_true c20, Bool.not_true, Bool.not_false, Bool.and_true, Bool.true_and, Bool.and_self]) | exact cnt_f (by simp only [errF, decide_eq_false c7, decide_eq_false c14, decide_eq_true c19, decide_eq_true c20, Bool.not_true, Bool.not_false, Bool.and_false, Bool.false_and, Bool.and_self]))
        exact L11 _ 0 (by omega) rfl _ (by first | omega | rfl | (simp [c7]; done)) _ (by rfl)
  exact L4 _ 0 (by omega) rfl _ (by rfl) _ (by rfl) _ (by rfl)
set_option maxHeartbeats 4000000 in
set_option maxRecDepth 100000 in
theorem k_odds (l : Launch) (D : Dx) (A : Nat → Prop) (a : Nat → Nat) (s im fr bY tr ln bl bo g lg : Int → Int) (q : Int) (n : Int) (t : Int) (hr : -2147483648 ≤ q ∧ q < 2147483648) (hr2 : -2147483648 ≤ n ∧ n < 2147483648) (hr3 : -2147483648 ≤ t ∧ t < 2147483648) (hN : NM s) (hM : GM s) (hP : PL s) : CT l D A yX12_odds cX12_odds 8 (some .long) { frames := 4, cells := 0, slots := 0, locals := 91 } [.ref (a 0), vI q, vI n, vI t] (MW D A a s im fr bY tr ln bl bo g lg) (fun _ : Unit => some (vL (a_odds s q n t))) (fun _ => True) (fun _ => MW D A a s im fr bY tr ln bl bo g lg) := by
  refine ct_of (lo0 := [(0, .ref (a 0)), (1, vI q), (2, vI n), (3, vI t)]) (by decide) (Nat.le_of_ble_eq_true rfl) rfl ?_
  intro G hG hR
  have hN9 : 0 ≤ s 43 ∧ s 43 ≤ 8 := hN
  refine v_aload_n hG dX12_odds_0 rfl 0 rfl ?_
  refine mg_s hG dX12_odds_1 ?_
  refine v_bipush hG dX12_odds_4 (by decide) ?_
  refine ma_s (z := s 43) hG dX12_odds_6 (by omega) rfl ?_
  refine v_aload_n hG dX12_odds_7 rfl 0 rfl ?_
  refine v_callV (k1' := 0) (k2' := 0) hG dX12_odds_8 zc_X12_uncut ⟨zl_X12_210, zi_X12_uncut, zs_X12_uncut⟩ (fun l => k_uncut l D A a s im fr bY tr ln bl bo g lg (by assumption) (by assumption)) rfl mw_recv (fun _ h => h) ⟨by decide, by decide⟩ rfl rfl ⟨by decide, by decide⟩ (rest := [vI (s 43)]) rfl (Nat.le_of_ble_eq_true rfl) (fun u1 => [vI (q_uncut s), vI (s 43)]) (fun _ => rfl) (fun u1 hu1 => ?_)
  have fu1 : 0 ≤ q_uncut s ∧ q_uncut s ≤ s 43 := hu1
  refine v_isub hG dX12_odds_11 ?_
  refine v_istore (lo' := [(4, vI ((s 43) - (q_uncut s))), (0, .ref (a 0)), (1, vI q), (2, vI n), (3, vI t)]) hG dX12_odds_12 (by decide) rfl ?_
  refine v_iload_n hG dX12_odds_14 rfl 2 rfl ?_
  refine v_iconst hG dX12_odds_15 ?_
  refine v_bipush hG dX12_odds_16 (by decide) ?_
  refine v_callS (k1' := 0) (k2' := 0) hG dX12_odds_18 zc_X12_in ⟨zl_X12_41, zt_X12_in⟩ (fun l => k_in l D A (MW D A a s im fr bY tr ln bl bo g lg) q 0 30 (by omega) (by omega) (by omega)) rfl (fun _ h => h) ⟨by decide, by decide⟩ rfl rfl ⟨by decide, by decide⟩ (rest := []) rfl (Nat.le_of_ble_eq_true rfl) (fun u2 => [vI (bi (0 ≤ q ∧ q ≤ 30))]) (fun _ => rfl) (fun u2 hu2 => ?_)
  refine v_ifb_eq (p := 0 ≤ q ∧ q ≤ 30) (tgt := 49) hG dX12_odds_21 (by decide) (fun c3 => ?_) (fun c3 => ?_)
  · skip
    refine v_ldc2 (n := -9223372036854775808) hG dX12_odds_49 (ztb 1370 (by decide +kernel) (by decide +kernel)) rfl ?_
    have e4 : @Eq Int (a_odds s q n t) (-9223372036854775808) := by simp only [a_odds, if_neg c3]
    exact v_lreturn hG hR dX12_odds_52 () (congrArg (fun z => some (vL z)) e4) (by trivial) (fun _ hM => hM)
  · skip
    refine v_iload_n hG dX12_odds_24 rfl 3 rfl ?_
    refine v_iconst hG dX12_odds_25 ?_
    refine v_sipush hG dX12_odds_26 (by decide) ?_
    refine v_callS (k1' := 0) (k2' := 0) hG dX12_odds_29 zc_X12_in ⟨zl_X12_41, zt_X12_in⟩ (fun l => k_in l D A (MW D A a s im fr bY tr ln bl bo g lg) n 0 999 (by omega) (by omega) (by omega)) rfl (fun _ h => h) ⟨by decide, by decide⟩ rfl rfl ⟨by decide, by decide⟩ (rest := []) rfl (Nat.le_of_ble_eq_true rfl) (fun u5 => [vI (bi (0 ≤ n ∧ n ≤ 999))]) (fun _ => rfl) (fun u5 hu5 => ?_)
    refine v_ifb_eq (p := 0 ≤ n ∧ n ≤ 999) (tgt := 49) hG dX12_odds_32 (by decide) (fun c6 => ?_) (fun c6 => ?_)
    · skip
      refine v_ldc2 (n := -9223372036854775808) hG dX12_odds_49 (ztb 1370 (by decide +kernel) (by decide +kernel)) rfl ?_
      have e7 : @Eq Int (a_odds s q n t) (-9223372036854775808) := by simp only [a_odds, if_pos c3, if_neg c6]
      exact v_lreturn hG hR dX12_odds_52 () (congrArg (fun z => some (vL z)) e7) (by trivial) (fun _ hM => hM)
    · skip
      refine v_iload_n hG dX12_odds_35 rfl 4 rfl ?_
      refine v_iconst hG dX12_odds_36 ?_
      refine v_iconst hG dX12_odds_37 ?_
      refine v_callS (k1' := 0) (k2' := 0) hG dX12_odds_38 zc_X12_in ⟨zl_X12_41, zt_X12_in⟩ (fun l => k_in l D A (MW D A a s im fr bY tr ln bl bo g lg) t 0 1 (by omega) (by omega) (by omega)) rfl (fun _ h => h) ⟨by decide, by decide⟩ rfl rfl ⟨by decide, by decide⟩ (rest := []) rfl (Nat.le_of_ble_eq_true rfl) (fun u8 => [vI (bi (0 ≤ t ∧ t ≤ 1))]) (fun _ => rfl) (fun u8 hu8 => ?_)
      refine v_ifb_eq (p := 0 ≤ t ∧ t ≤ 1) (tgt := 49) hG dX12_odds_41 (by decide) (fun c9 => ?_) (fun c9 => ?_)
      · skip
        refine v_ldc2 (n := -9223372036854775808) hG dX12_odds_49 (ztb 1370 (by decide +kernel) (by decide +kernel)) rfl ?_
        have e10 : @Eq Int (a_odds s q n t) (-9223372036854775808) := by simp only [a_odds, if_pos c3, if_pos c6, if_neg c9]
        exact v_lreturn hG hR dX12_odds_52 () (congrArg (fun z => some (vL z)) e10) (by trivial) (fun _ hM => hM)
      · skip
        refine v_iload hG dX12_odds_44 0 rfl ?_
        refine v_if_ne (tgt := 53) hG dX12_odds_46 (by decide) (by omega) (fun c11 => ?_) (fun c11 => ?_)
        · skip
          refine v_lconst0 hG dX12_odds_53 ?_
          refine v_lstore (lo' := [(5, vL 0), (4, vI ((s 43) - (q_uncut s))), (0, .ref (a 0)), (1, vI q), (2, vI n), (3, vI t)]) hG dX12_odds_54 (by decide) rfl ?_
          refine v_iconst hG dX12_odds_56 ?_
          refine v_istore (lo' := [(7, vI 0), (5, vL 0), (4, vI ((s 43) - (q_uncut s))), (0, .ref (a 0)), (1, vI q), (2, vI n), (3, vI t)]) hG dX12_odds_57 (by decide) rfl ?_
          refine v_lo [3, 4, 5, 6, 2, 1, 0] (lo' := [(0, .ref (a 0)), (1, vI q), (2, vI n), (3, vI t), (4, vI ((s 43) - (q_uncut s))), (5, vL 0), (7, vI 0)]) rfl ?_
          have L14 : ∀ mz : Nat, ∀ (k : Nat), ((k : Int) ≤ s 43) → (s 43 - (k : Int)).toNat = mz → ∀ x12 : Int, x12 = ((k : Int)) → ∀ x13 : Int, x13 = (cntB (oddF s q n) k) → V G 0 0 (MW D A a s im fr bY tr ln bl bo g lg) 59 [(0, .ref (a 0)), (1, vI q), (2, vI n), (3, vI t), (4, vI ((s 43) - (q_uncut s))), (5, vL x13), (7, vI x12)] [] := by
            intro dL14
            induction dL14 using Nat.strongRecOn with
            | ind dL14 ihL14 =>
              intro k h15 h16
              intro x12 hx12
              subst hx12
              intro x13 hx13
              subst hx13
              have hcr := cntB_rng (oddF s q n) k
              refine v_iload hG dX12_odds_59 6 rfl ?_
              refine v_aload_n hG dX12_odds_61 rfl 0 rfl ?_
              refine mg_s hG dX12_odds_62 ?_
              refine v_bipush hG dX12_odds_65 (by decide) ?_
              refine ma_s (z := s 43) hG dX12_odds_67 (by omega) rfl ?_
              refine v_icmp_ge (tgt := 107) hG dX12_odds_68 (by decide) (by omega) (by omega) (fun c17 => ?_) (fun c17 => ?_)
              · skip
                refine v_lload hG dX12_odds_107 5 rfl ?_
                refine v_iload hG dX12_odds_109 4 rfl ?_
                refine v_i2l hG dX12_odds_111 (by omega) ?_
                refine v_iload_n hG dX12_odds_112 rfl 3 rfl ?_
                refine v_callS (k1' := 0) (k2' := 0) hG dX12_odds_113 zc_X12_lowest ⟨zl_X12_234, zt_X12_lowest⟩ (fun l => k_lowest l D A (MW D A a s im fr bY tr ln bl bo g lg) (cntB (oddF s q n) k) ((s 43) - (q_uncut s)) t (by omega) (by omega) (by omega)) rfl (fun _ h => h) ⟨by decide, by decide⟩ rfl rfl ⟨by decide, by decide⟩ (rest := []) rfl (Nat.le_of_ble_eq_true rfl) (fun u18 => [vL (q_low (cntB (oddF s q n) k) ((s 43) - (q_uncut s)) t)]) (fun _ => rfl) (fun u18 hu18 => ?_)
                have e19 : @Eq Int (a_odds s q n t) (q_low (cntB (oddF s q n) k) ((s 43) - (q_uncut s)) t) := by rw [show k = (s 43).toNat by omega]; simp only [a_odds, if_pos c3, if_pos c6, if_pos c9, if_neg c11, if_pos c17]
                exact v_lreturn hG hR dX12_odds_116 () (congrArg (fun z => some (vL z)) e19) (by trivial) (fun _ hM => hM)
              · skip
                refine v_lload hG dX12_odds_71 5 rfl ?_
                refine v_aload_n hG dX12_odds_73 rfl 0 rfl ?_
                refine v_iload hG dX12_odds_74 6 rfl ?_
                refine v_callV (k1' := 0) (k2' := 0) hG dX12_odds_76 zc_X12_isCut ⟨zl_X12_137, zi_X12_isCut, zs_X12_isCut⟩ (fun l => k_isCut l D A a s im fr bY tr ln bl bo g lg (k : Int) (by omega) (by first | exact hm.2.2.2.2.1 | exact (hM _ (by omega) (by omega)).2.2.2.2.1 | omega)) rfl mw_recv (fun _ h => h) ⟨by decide, by decide⟩ rfl rfl ⟨by decide, by decide⟩ (rest := [vL (cntB (oddF s q n) k)]) rfl (Nat.le_of_ble_eq_true rfl) (fun u20 => [vI (bi (s (11 + (k : Int)) = 1)), vL (cntB (oddF s q n) k)]) (fun _ => rfl) (fun u20 hu20 => ?_)
                refine v_ifb_eq (p := s (11 + (k : Int)) = 1) (tgt := 97) hG dX12_odds_79 (by decide) (fun c21 => ?_) (fun c21 => ?_)
                · skip
                  refine v_lconst0 hG dX12_odds_97 ?_
                  refine v_ladd hG dX12_odds_98 ?_
                  refine v_lstore (lo' := [(5, vL ((cntB (oddF s q n) k) + 0)), (0, .ref (a 0)), (1, vI q), (2, vI n), (3, vI t), (4, vI ((s 43) - (q_uncut s))), (7, vI (k : Int))]) hG dX12_odds_99 (by decide) rfl ?_
                  refine v_iinc (lo' := [(7, vI ((k : Int) + 1)), (5, vL ((cntB (oddF s q n) k) + 0)), (0, .ref (a 0)), (1, vI q), (2, vI n), (3, vI t), (4, vI ((s 43) - (q_uncut s)))]) hG dX12_odds_101 6 rfl (by decide) rfl ?_
                  refine v_goto (tgt := 59) hG dX12_odds_104 (by decide) ?_
                  refine v_lo [2, 3, 4, 5, 6, 1, 0] (lo' := [(0, .ref (a 0)), (1, vI q), (2, vI n), (3, vI t), (4, vI ((s 43) - (q_uncut s))), (5, vL ((cntB (oddF s q n) k) + 0)), (7, vI ((k : Int) + 1))]) rfl ?_
                  exact ihL14 _ (by omega) (k + 1) (by omega) rfl _ (by first | omega | rfl | (simp [c3, c6, c9, c11, c17, c21]; done)) _ (by first | exact cnt_t (by simp only [oddF, decide_eq_true c3, decide_eq_true c6, decide_eq_true c9, decide_eq_false c11, decide_eq_false c17, decide_eq_false c21, Bool.not_true, Bool.not_false, Bool.and_true, Bool.true_and, Bool.and_self]) | exact cnt_f (by simp only [oddF, decide_eq_true c3, decide_eq_true c6, decide_eq_true c9, decide_eq_false c11, decide_eq_false c17, decide_eq_false c21, Bool.not_true, Bool.not_false, Bool.and_false, Bool.false_and, Bool.and_self]))
                · skip
                  refine v_aload_n hG dX12_odds_82 rfl 0 rfl ?_
                  refine v_iload hG dX12_odds_83 6 rfl ?_
                  refine v_iload_n hG dX12_odds_85 rfl 2 rfl ?_
                  refine v_callV (k1' := 0) (k2' := 0) hG dX12_odds_86 zc_X12_darkBy ⟨zl_X12_147, zi_X12_darkBy, zs_X12_darkBy⟩ (fun l => k_darkBy l D A a s im fr bY tr ln bl bo g lg (k : Int) n (by omega) (by first | assumption | (exact hM _ (by omega) (by omega))) (by assumption) (by omega)) rfl mw_recv (fun _ h => h) ⟨by decide, by decide⟩ rfl rfl ⟨by decide, by decide⟩ (rest := [vL (cntB (oddF s q n) k)]) rfl (Nat.le_of_ble_eq_true rfl) (fun u22 => [vI (q_dk s (k : Int) n), vL (cntB (oddF s q n) k)]) (fun _ => rfl) (fun u22 hu22 => ?_)
                  have fu22 : 0 ≤ q_dk s (k : Int) n ∧ q_dk s (k : Int) n ≤ 30 := hu22
                  refine v_iload_n hG dX12_odds_89 rfl 1 rfl ?_
                  refine v_icmp_lt (tgt := 97) hG dX12_odds_90 (by decide) (by omega) (by omega) (fun c23 => ?_) (fun c23 => ?_)
                  · skip
                    refine v_lconst0 hG dX12_odds_97 ?_
                    refine v_ladd hG dX12_odds_98 ?_
                    refine v_lstore (lo' := [(5, vL ((cntB (oddF s q n) k) + 0)), (0, .ref (a 0)), (1, vI q), (2, vI n), (3, vI t), (4, vI ((s 43) - (q_uncut s))), (7, vI (k : Int))]) hG dX12_odds_99 (by decide) rfl ?_
                    refine v_iinc (lo' := [(7, vI ((k : Int) + 1)), (5, vL ((cntB (oddF s q n) k) + 0)), (0, .ref (a 0)), (1, vI q), (2, vI n), (3, vI t), (4, vI ((s 43) - (q_uncut s)))]) hG dX12_odds_101 6 rfl (by decide) rfl ?_
                    refine v_goto (tgt := 59) hG dX12_odds_104 (by decide) ?_
                    refine v_lo [2, 3, 4, 5, 6, 1, 0] (lo' := [(0, .ref (a 0)), (1, vI q), (2, vI n), (3, vI t), (4, vI ((s 43) - (q_uncut s))), (5, vL ((cntB (oddF s q n) k) + 0)), (7, vI ((k : Int) + 1))]) rfl ?_
                    exact ihL14 _ (by omega) (k + 1) (by omega) rfl _ (by first | omega | rfl | (simp [c3, c6, c9, c11, c17, c21, c23]; done)) _ (by first | exact cnt_t (by simp only [oddF, decide_eq_true c3, decide_eq_true c6, decide_eq_true c9, decide_eq_false c11, decide_eq_false c17, decide_eq_true c21, decide_eq_true c23, Bool.not_true, Bool.not_false, Bool.and_true, Bool.true_and, Bool.and_self]) | exact cnt_f (by simp only [oddF, decide_eq_true c3, decide_eq_true c6, decide_eq_true c9, decide_eq_false c11, decide_eq_false c17, decide_eq_true c21, decide_eq_true c23, Bool.not_true, Bool.not_false, Bool.and_false, Bool.false_and, Bool.and_self]))
                  · skip
                    refine v_lconst1 hG dX12_odds_93 ?_
                    refine v_goto (tgt := 98) hG dX12_odds_94 (by decide) ?_
                    refine v_ladd hG dX12_odds_98 ?_
                    refine v_lstore (lo' := [(5, vL ((cntB (oddF s q n) k) + 1)), (0, .ref (a 0)), (1, vI q), (2, vI n), (3, vI t), (4, vI ((s 43) - (q_uncut s))), (7, vI (k : Int))]) hG dX12_odds_99 (by decide) rfl ?_
                    refine v_iinc (lo' := [(7, vI ((k : Int) + 1)), (5, vL ((cntB (oddF s q n) k) + 1)), (0, .ref (a 0)), (1, vI q), (2, vI n), (3, vI t), (4, vI ((s 43) - (q_uncut s)))]) hG dX12_odds_101 6 rfl (by decide) rfl ?_
                    refine v_goto (tgt := 59) hG dX12_odds_104 (by decide) ?_
                    refine v_lo [2, 3, 4, 5, 6, 1, 0] (lo' := [(0, .ref (a 0)), (1, vI q), (2, vI n), (3, vI t), (4, vI ((s 43) - (q_uncut s))), (5, vL ((cntB (oddF s q n) k) + 1)), (7, vI ((k : Int) + 1))]) rfl ?_
                    exact ihL14 _ (by omega) (k + 1) (by omega) rfl _ (by first | omega | rfl | (simp [c3, c6, c9, c11, c17, c21, c23]; done)) _ (by first | exact cnt_t (by simp only [oddF, decide_eq_true c3, decide_eq_true c6, decide_eq_true c9, decide_eq_false c11, decide_eq_false c17, decide_eq_true c21, decide_eq_false c23, Bool.not_true, Bool.not_false, Bool.and_true, Bool.true_and, Bool.and_self]) | exact cnt_f (by simp only [oddF, decide_eq_true c3, decide_eq_true c6, decide_eq_true c9, decide_eq_false c11, decide_eq_false c17, decide_eq_true c21, decide_eq_false c23, Bool.not_true, Bool.not_false, Bool.and_false, Bool.false_and, Bool.and_self]))
          exact L14 _ 0 (by omega) rfl _ (by first | omega | rfl | (simp [c3, c6, c9, c11]; done)) _ (by rfl)
        · skip
          refine v_ldc2 (n := -9223372036854775808) hG dX12_odds_49 (ztb 1370 (by decide +kernel) (by decide +kernel)) rfl ?_
          have e24 : @Eq Int (a_odds s q n t) (-9223372036854775808) := by simp only [a_odds, if_pos c3, if_pos c6, if_pos c9, if_pos c11]
          exact v_lreturn hG hR dX12_odds_52 () (congrArg (fun z => some (vL z)) e24) (by trivial) (fun _ hM => hM)
set_option maxHeartbeats 4000000 in
set_option maxRecDepth 100000 in
theorem k_mean (l : Launch) (D : Dx) (A : Nat → Prop) (a : Nat → Nat) (s im fr bY tr ln bl bo g lg : Int → Int) (n : Int) (t : Int) (hr2 : -2147483648 ≤ n ∧ n < 2147483648) (hr3 : -2147483648 ≤ t ∧ t < 2147483648) (hN : NM s) (hM : GM s) (hP : PL s) : CT l D A yX12_mean cX12_mean 7 (some .long) { frames := 4, cells := 0, slots := 0, locals := 91 } [.ref (a 0), vI n, vI t] (MW D A a s im fr bY tr ln bl bo g lg) (fun _ : Unit => some (vL (a_mean s n t))) (fun _ => True) (fun _ => MW D A a s im fr bY tr ln bl bo g lg) := by
  refine ct_of (lo0 := [(0, .ref (a 0)), (1, vI n), (2, vI t)]) (by decide) (Nat.le_of_ble_eq_true rfl) rfl ?_
  intro G hG hR
  have hN9 : 0 ≤ s 43 ∧ s 43 ≤ 8 := hN
  refine v_aload_n hG dX12_mean_0 rfl 0 rfl ?_
  refine mg_s hG dX12_mean_1 ?_
  refine v_bipush hG dX12_mean_4 (by decide) ?_
  refine ma_s (z := s 43) hG dX12_mean_6 (by omega) rfl ?_
  refine v_aload_n hG dX12_mean_7 rfl 0 rfl ?_
  refine v_callV (k1' := 0) (k2' := 0) hG dX12_mean_8 zc_X12_uncut ⟨zl_X12_210, zi_X12_uncut, zs_X12_uncut⟩ (fun l => k_uncut l D A a s im fr bY tr ln bl bo g lg (by assumption) (by assumption)) rfl mw_recv (fun _ h => h) ⟨by decide, by decide⟩ rfl rfl ⟨by decide, by decide⟩ (rest := [vI (s 43)]) rfl (Nat.le_of_ble_eq_true rfl) (fun u1 => [vI (q_uncut s), vI (s 43)]) (fun _ => rfl) (fun u1 hu1 => ?_)
  have fu1 : 0 ≤ q_uncut s ∧ q_uncut s ≤ s 43 := hu1
  refine v_isub hG dX12_mean_11 ?_
  refine v_istore_n (lo' := [(3, vI ((s 43) - (q_uncut s))), (0, .ref (a 0)), (1, vI n), (2, vI t)]) hG dX12_mean_12 rfl (by decide) rfl ?_
  refine v_iload_n hG dX12_mean_13 rfl 2 rfl ?_
  refine v_iconst hG dX12_mean_14 ?_
  refine v_sipush hG dX12_mean_15 (by decide) ?_
  refine v_callS (k1' := 0) (k2' := 0) hG dX12_mean_18 zc_X12_in ⟨zl_X12_41, zt_X12_in⟩ (fun l => k_in l D A (MW D A a s im fr bY tr ln bl bo g lg) n 0 999 (by omega) (by omega) (by omega)) rfl (fun _ h => h) ⟨by decide, by decide⟩ rfl rfl ⟨by decide, by decide⟩ (rest := []) rfl (Nat.le_of_ble_eq_true rfl) (fun u2 => [vI (bi (0 ≤ n ∧ n ≤ 999))]) (fun _ => rfl) (fun u2 hu2 => ?_)
  refine v_ifb_eq (p := 0 ≤ n ∧ n ≤ 999) (tgt := 37) hG dX12_mean_21 (by decide) (fun c3 => ?_) (fun c3 => ?_)
  · skip
    refine v_ldc2 (n := -9223372036854775808) hG dX12_mean_37 (ztb 1370 (by decide +kernel) (by decide +kernel)) rfl ?_
    have e4 : @Eq Int (a_mean s n t) (-9223372036854775808) := by simp only [a_mean, if_neg c3]
    exact v_lreturn hG hR dX12_mean_40 () (congrArg (fun z => some (vL z)) e4) (by trivial) (fun _ hM => hM)
  · skip
    refine v_iload_n hG dX12_mean_24 rfl 3 rfl ?_
    refine v_iconst hG dX12_mean_25 ?_
    refine v_iconst hG dX12_mean_26 ?_
    refine v_callS (k1' := 0) (k2' := 0) hG dX12_mean_27 zc_X12_in ⟨zl_X12_41, zt_X12_in⟩ (fun l => k_in l D A (MW D A a s im fr bY tr ln bl bo g lg) t 0 1 (by omega) (by omega) (by omega)) rfl (fun _ h => h) ⟨by decide, by decide⟩ rfl rfl ⟨by decide, by decide⟩ (rest := []) rfl (Nat.le_of_ble_eq_true rfl) (fun u5 => [vI (bi (0 ≤ t ∧ t ≤ 1))]) (fun _ => rfl) (fun u5 hu5 => ?_)
    refine v_ifb_eq (p := 0 ≤ t ∧ t ≤ 1) (tgt := 37) hG dX12_mean_30 (by decide) (fun c6 => ?_) (fun c6 => ?_)
    · skip
      refine v_ldc2 (n := -9223372036854775808) hG dX12_mean_37 (ztb 1370 (by decide +kernel) (by decide +kernel)) rfl ?_
      have e7 : @Eq Int (a_mean s n t) (-9223372036854775808) := by simp only [a_mean, if_pos c3, if_neg c6]
      exact v_lreturn hG hR dX12_mean_40 () (congrArg (fun z => some (vL z)) e7) (by trivial) (fun _ hM => hM)
    · skip
      refine v_iload_n hG dX12_mean_33 rfl 0 rfl ?_
      refine v_if_ne (tgt := 41) hG dX12_mean_34 (by decide) (by omega) (fun c8 => ?_) (fun c8 => ?_)
      · skip
        refine v_lconst0 hG dX12_mean_41 ?_
        refine v_lstore (lo' := [(4, vL 0), (3, vI ((s 43) - (q_uncut s))), (0, .ref (a 0)), (1, vI n), (2, vI t)]) hG dX12_mean_42 (by decide) rfl ?_
        refine v_iconst hG dX12_mean_44 ?_
        refine v_istore (lo' := [(6, vI 0), (4, vL 0), (3, vI ((s 43) - (q_uncut s))), (0, .ref (a 0)), (1, vI n), (2, vI t)]) hG dX12_mean_45 (by decide) rfl ?_
        refine v_lo [3, 4, 5, 2, 1, 0] (lo' := [(0, .ref (a 0)), (1, vI n), (2, vI t), (3, vI ((s 43) - (q_uncut s))), (4, vL 0), (6, vI 0)]) rfl ?_
        have L11 : ∀ mz : Nat, ∀ (k : Nat), ((k : Int) ≤ s 43) → (s 43 - (k : Int)).toNat = mz → ∀ x9 : Int, x9 = ((k : Int)) → ∀ x10 : Int, x10 = (sumF (fun m => q_dk s m n) k) → V G 0 0 (MW D A a s im fr bY tr ln bl bo g lg) 47 [(0, .ref (a 0)), (1, vI n), (2, vI t), (3, vI ((s 43) - (q_uncut s))), (4, vL x10), (6, vI x9)] [] := by
          intro dL11
          induction dL11 using Nat.strongRecOn with
          | ind dL11 ihL11 =>
            intro k h12 h13
            intro x9 hx9
            subst hx9
            intro x10 hx10
            subst hx10
            have hcr := sumF_rng (f := fun m : Nat => q_dk s m n) (b := 30) k (fun i hi => q_dk_rng (hM _ (by omega) (by omega)) hP (by omega))
            refine v_iload hG dX12_mean_47 5 rfl ?_
            refine v_aload_n hG dX12_mean_49 rfl 0 rfl ?_
            refine mg_s hG dX12_mean_50 ?_
            refine v_bipush hG dX12_mean_53 (by decide) ?_
            refine ma_s (z := s 43) hG dX12_mean_55 (by omega) rfl ?_
            refine v_icmp_ge (tgt := 78) hG dX12_mean_56 (by decide) (by omega) (by omega) (fun c14 => ?_) (fun c14 => ?_)
            · skip
              refine v_lload hG dX12_mean_78 4 rfl ?_
              refine v_iload_n hG dX12_mean_80 rfl 3 rfl ?_
              refine v_i2l hG dX12_mean_81 (by omega) ?_
              refine v_iload_n hG dX12_mean_82 rfl 2 rfl ?_
              refine v_callS (k1' := 0) (k2' := 0) hG dX12_mean_83 zc_X12_lowest ⟨zl_X12_234, zt_X12_lowest⟩ (fun l => k_lowest l D A (MW D A a s im fr bY tr ln bl bo g lg) (sumF (fun m => q_dk s m n) k) ((s 43) - (q_uncut s)) t (by omega) (by omega) (by omega)) rfl (fun _ h => h) ⟨by decide, by decide⟩ rfl rfl ⟨by decide, by decide⟩ (rest := []) rfl (Nat.le_of_ble_eq_true rfl) (fun u15 => [vL (q_low (sumF (fun m => q_dk s m n) k) ((s 43) - (q_uncut s)) t)]) (fun _ => rfl) (fun u15 hu15 => ?_)
              have e16 : @Eq Int (a_mean s n t) (q_low (sumF (fun m => q_dk s m n) k) ((s 43) - (q_uncut s)) t) := by rw [show k = (s 43).toNat by omega]; simp only [a_mean, if_pos c3, if_pos c6, if_neg c8, if_pos c14]
              exact v_lreturn hG hR dX12_mean_86 () (congrArg (fun z => some (vL z)) e16) (by trivial) (fun _ hM => hM)
            · skip
              refine v_lload hG dX12_mean_59 4 rfl ?_
              refine v_aload_n hG dX12_mean_61 rfl 0 rfl ?_
              refine v_iload hG dX12_mean_62 5 rfl ?_
              refine v_iload_n hG dX12_mean_64 rfl 1 rfl ?_
              refine v_callV (k1' := 0) (k2' := 0) hG dX12_mean_65 zc_X12_darkBy ⟨zl_X12_147, zi_X12_darkBy, zs_X12_darkBy⟩ (fun l => k_darkBy l D A a s im fr bY tr ln bl bo g lg (k : Int) n (by omega) (by first | assumption | (exact hM _ (by omega) (by omega))) (by assumption) (by omega)) rfl mw_recv (fun _ h => h) ⟨by decide, by decide⟩ rfl rfl ⟨by decide, by decide⟩ (rest := [vL (sumF (fun m => q_dk s m n) k)]) rfl (Nat.le_of_ble_eq_true rfl) (fun u17 => [vI (q_dk s (k : Int) n), vL (sumF (fun m => q_dk s m n) k)]) (fun _ => rfl) (fun u17 hu17 => ?_)
              have fu17 : 0 ≤ q_dk s (k : Int) n ∧ q_dk s (k : Int) n ≤ 30 := hu17
              refine v_i2l hG dX12_mean_68 (by omega) ?_
              refine v_ladd hG dX12_mean_69 ?_
              refine v_lstore (lo' := [(4, vL ((sumF (fun m => q_dk s m n) k) + (q_dk s (k : Int) n))), (0, .ref (a 0)), (1, vI n), (2, vI t), (3, vI ((s 43) - (q_uncut s))), (6, vI (k : Int))]) hG dX12_mean_70 (by decide) rfl ?_
              refine v_iinc (lo' := [(6, vI ((k : Int) + 1)), (4, vL ((sumF (fun m => q_dk s m n) k) + (q_dk s (k : Int) n))), (0, .ref (a 0)), (1, vI n), (2, vI t), (3, vI ((s 43) - (q_uncut s)))]) hG dX12_mean_72 5 rfl (by decide) rfl ?_
              refine v_goto (tgt := 47) hG dX12_mean_75 (by decide) ?_
              refine v_lo [2, 3, 4, 5, 1, 0] (lo' := [(0, .ref (a 0)), (1, vI n), (2, vI t), (3, vI ((s 43) - (q_uncut s))), (4, vL ((sumF (fun m => q_dk s m n) k) + (q_dk s (k : Int) n))), (6, vI ((k : Int) + 1))]) rfl ?_
              exact ihL11 _ (by omega) (k + 1) (by omega) rfl _ (by first | omega | rfl | (simp [c3, c6, c8, c14]; done)) _ (by rfl)
        exact L11 _ 0 (by omega) rfl _ (by first | omega | rfl | (simp [c3, c6, c8]; done)) _ (by rfl)
      · skip
        refine v_ldc2 (n := -9223372036854775808) hG dX12_mean_37 (ztb 1370 (by decide +kernel) (by decide +kernel)) rfl ?_
        have e18 : @Eq Int (a_mean s n t) (-9223372036854775808) := by simp only [a_mean, if_pos c3, if_pos c6, if_pos c8]
        exact v_lreturn hG hR dX12_mean_40 () (congrArg (fun z => some (vL z)) e18) (by trivial) (fun _ hM => hM)
set_option maxHeartbeats 4000000 in
set_option maxRecDepth 100000 in
theorem k_plan (l : Launch) (D : Dx) (A : Nat → Prop) (a : Nat → Nat) (s im fr bY tr ln bl bo g lg : Int → Int) (w : Int) (m : Int) (hr : -2147483648 ≤ w ∧ w < 2147483648) (hr2 : -2147483648 ≤ m ∧ m < 2147483648) (hN : NM s) (hPN : PN s) : CT l D A yX12_plan cX12_plan 3 (some .int) { frames := 2, cells := 0, slots := 0, locals := 43 } [.ref (a 0), vI w, vI m] (MW D A a s im fr bY tr ln bl bo g lg) (fun _ : Unit => some (vI (a_plan s w m))) (fun _ => True) (fun _ => MW D A a (f_plan s w m) im fr bY tr ln bl bo g lg) := by
  refine ct_of (lo0 := [(0, .ref (a 0)), (1, vI w), (2, vI m)]) (by decide) (Nat.le_of_ble_eq_true rfl) rfl ?_
  intro G hG hR
  have hN9 : 0 ≤ s 43 ∧ s 43 ≤ 8 := hN
  have hS1 := hPN.1
  refine v_iload_n hG dX12_plan_0 rfl 1 rfl ?_
  refine v_iconst hG dX12_plan_1 ?_
  refine v_icmp_ne (tgt := 15) hG dX12_plan_2 (by decide) (by omega) (by omega) (fun c1 => ?_) (fun c1 => ?_)
  · skip
    refine v_iload_n hG dX12_plan_15 rfl 1 rfl ?_
    refine v_iconst hG dX12_plan_16 ?_
    refine v_iconst hG dX12_plan_17 ?_
    refine v_callS (k1' := 0) (k2' := 0) hG dX12_plan_18 zc_X12_in ⟨zl_X12_41, zt_X12_in⟩ (fun l => k_in l D A (MW D A a s im fr bY tr ln bl bo g lg) w 0 4 (by omega) (by omega) (by omega)) rfl (fun _ h => h) ⟨by decide, by decide⟩ rfl rfl ⟨by decide, by decide⟩ (rest := []) rfl (Nat.le_of_ble_eq_true rfl) (fun u2 => [vI (bi (0 ≤ w ∧ w ≤ 4))]) (fun _ => rfl) (fun u2 hu2 => ?_)
    refine v_ifb_eq (p := 0 ≤ w ∧ w ≤ 4) (tgt := 37) hG dX12_plan_21 (by decide) (fun c3 => ?_) (fun c3 => ?_)
    · skip
      refine v_iconst hG dX12_plan_37 ?_
      have e4 : s = f_plan s w m := by first | rfl | (simp only [a_plan, f_plan, if_neg c1, if_neg c3]; done) | (simp only [a_plan, f_plan, if_neg c1, if_neg c3]; done) | (simp only [a_plan, f_plan, if_neg c1, if_neg c3]; rfl) | (simp only [a_plan, f_plan, if_neg c1, if_neg c3]; omega)
      have e5 : @Eq Int (a_plan s w m) (-1) := by first | rfl | (simp only [a_plan, f_plan, if_neg c1, if_neg c3]; done) | (simp only [a_plan, f_plan, if_neg c1, if_neg c3]; done) | (simp only [a_plan, f_plan, if_neg c1, if_neg c3]; rfl) | (simp only [a_plan, f_plan, if_neg c1, if_neg c3]; omega)
      exact v_ireturn hG hR dX12_plan_38 () (congrArg (fun z => some (vI z)) e5) (by trivial) (fun _ hM => by rw [← e4]; exact hM)
    · skip
      refine v_iload_n hG dX12_plan_24 rfl 1 rfl ?_
      refine v_iconst hG dX12_plan_25 ?_
      refine v_icmp_ge (tgt := 39) hG dX12_plan_26 (by decide) (by omega) (by omega) (fun c6 => ?_) (fun c6 => ?_)
      · skip
        refine v_aload_n hG dX12_plan_39 rfl 0 rfl ?_
        refine mg_s hG dX12_plan_40 ?_
        refine v_bipush hG dX12_plan_43 (by decide) ?_
        refine ma_s (z := s 46) hG dX12_plan_45 (by omega) rfl ?_
        refine v_bipush hG dX12_plan_46 (by decide) ?_
        refine v_icmp_ne (tgt := 54) hG dX12_plan_48 (by decide) (by omega) (by omega) (fun c7 => ?_) (fun c7 => ?_)
        · skip
          refine v_aload_n hG dX12_plan_54 rfl 0 rfl ?_
          refine mg_s hG dX12_plan_55 ?_
          refine v_bipush hG dX12_plan_58 (by decide) ?_
          refine v_aload_n hG dX12_plan_60 rfl 0 rfl ?_
          refine mg_s hG dX12_plan_61 ?_
          refine v_bipush hG dX12_plan_64 (by decide) ?_
          refine ma_s (z := s 46) hG dX12_plan_66 (by omega) rfl ?_
          refine v_iadd hG dX12_plan_67 ?_
          refine v_iload_n hG dX12_plan_68 rfl 1 rfl ?_
          refine ms_s hG dX12_plan_69 (by omega) ?_
          refine v_aload_n hG dX12_plan_70 rfl 0 rfl ?_
          refine mg_s hG dX12_plan_71 ?_
          refine v_bipush hG dX12_plan_74 (by decide) ?_
          refine v_aload_n hG dX12_plan_76 rfl 0 rfl ?_
          refine mg_s hG dX12_plan_77 ?_
          refine v_bipush hG dX12_plan_80 (by decide) ?_
          refine ma_s (z := s 46) hG dX12_plan_82 (by omega) (by rw [sU_ne (by omega)]) ?_
          refine v_iadd hG dX12_plan_83 ?_
          refine v_iload_n hG dX12_plan_84 rfl 2 rfl ?_
          refine ms_s hG dX12_plan_85 (by omega) ?_
          refine v_aload_n hG dX12_plan_86 rfl 0 rfl ?_
          refine mg_s hG dX12_plan_87 ?_
          refine v_bipush hG dX12_plan_90 (by decide) ?_
          refine v_dup2 hG dX12_plan_92 rfl rfl ?_
          refine ma_s (z := s 46) hG dX12_plan_93 (by omega) (by rw [sU_ne (by omega), sU_ne (by omega)]) ?_
          refine v_iconst hG dX12_plan_94 ?_
          refine v_iadd hG dX12_plan_95 ?_
          refine ms_s hG dX12_plan_96 (by omega) ?_
          refine v_aload_n hG dX12_plan_97 rfl 0 rfl ?_
          refine mg_s hG dX12_plan_98 ?_
          refine v_bipush hG dX12_plan_101 (by decide) ?_
          refine ma_s (z := (s 46) + 1) hG dX12_plan_103 (by omega) (by rw [sU_eq]) ?_
          have e8 : sU (sU (sU s (118 + (s 46)) w) (126 + (s 46)) m) 46 ((s 46) + 1) = f_plan s w m := by first | rfl | (simp only [a_plan, f_plan, if_neg c1, if_pos c3, if_pos c6, if_neg c7]; done) | (simp only [a_plan, f_plan, if_neg c1, if_pos c3, if_pos c6, if_neg c7]; done) | (simp only [a_plan, f_plan, if_neg c1, if_pos c3, if_pos c6, if_neg c7]; rfl) | (simp only [a_plan, f_plan, if_neg c1, if_pos c3, if_pos c6, if_neg c7]; omega)
          have e9 : @Eq Int (a_plan s w m) ((s 46) + 1) := by first | rfl | (simp only [a_plan, f_plan, if_neg c1, if_pos c3, if_pos c6, if_neg c7]; done) | (simp only [a_plan, f_plan, if_neg c1, if_pos c3, if_pos c6, if_neg c7]; done) | (simp only [a_plan, f_plan, if_neg c1, if_pos c3, if_pos c6, if_neg c7]; rfl) | (simp only [a_plan, f_plan, if_neg c1, if_pos c3, if_pos c6, if_neg c7]; omega)
          exact v_ireturn hG hR dX12_plan_104 () (congrArg (fun z => some (vI z)) e9) (by trivial) (fun _ hM => by rw [← e8]; exact hM)
        · skip
          refine v_bipush hG dX12_plan_51 (by decide) ?_
          have e10 : s = f_plan s w m := by first | rfl | (simp only [a_plan, f_plan, if_neg c1, if_pos c3, if_pos c6, if_pos c7]; done) | (simp only [a_plan, f_plan, if_neg c1, if_pos c3, if_pos c6, if_pos c7]; done) | (simp only [a_plan, f_plan, if_neg c1, if_pos c3, if_pos c6, if_pos c7]; rfl) | (simp only [a_plan, f_plan, if_neg c1, if_pos c3, if_pos c6, if_pos c7]; omega)
          have e11 : @Eq Int (a_plan s w m) (-4) := by first | rfl | (simp only [a_plan, f_plan, if_neg c1, if_pos c3, if_pos c6, if_pos c7]; done) | (simp only [a_plan, f_plan, if_neg c1, if_pos c3, if_pos c6, if_pos c7]; done) | (simp only [a_plan, f_plan, if_neg c1, if_pos c3, if_pos c6, if_pos c7]; rfl) | (simp only [a_plan, f_plan, if_neg c1, if_pos c3, if_pos c6, if_pos c7]; omega)
          exact v_ireturn hG hR dX12_plan_53 () (congrArg (fun z => some (vI z)) e11) (by trivial) (fun _ hM => by rw [← e10]; exact hM)
      · skip
        refine v_aload_n hG dX12_plan_29 rfl 0 rfl ?_
        refine v_iload_n hG dX12_plan_30 rfl 2 rfl ?_
        refine v_callV (k1' := 0) (k2' := 0) hG dX12_plan_31 zc_X12_isMark ⟨zl_X12_150, zi_X12_isMark, zs_X12_isMark⟩ (fun l => k_isMark l D A a s im fr bY tr ln bl bo g lg m (by omega) (by assumption)) rfl mw_recv (fun _ h => h) ⟨by decide, by decide⟩ rfl rfl ⟨by decide, by decide⟩ (rest := []) rfl (Nat.le_of_ble_eq_true rfl) (fun u12 => [vI (bi (0 ≤ m ∧ m ≤ s 43 - 1))]) (fun _ => rfl) (fun u12 hu12 => ?_)
        refine v_ifb_ne (p := 0 ≤ m ∧ m ≤ s 43 - 1) (tgt := 39) hG dX12_plan_34 (by decide) (fun c13 => ?_) (fun c13 => ?_)
        · skip
          refine v_aload_n hG dX12_plan_39 rfl 0 rfl ?_
          refine mg_s hG dX12_plan_40 ?_
          refine v_bipush hG dX12_plan_43 (by decide) ?_
          refine ma_s (z := s 46) hG dX12_plan_45 (by omega) rfl ?_
          refine v_bipush hG dX12_plan_46 (by decide) ?_
          refine v_icmp_ne (tgt := 54) hG dX12_plan_48 (by decide) (by omega) (by omega) (fun c14 => ?_) (fun c14 => ?_)
          · skip
            refine v_aload_n hG dX12_plan_54 rfl 0 rfl ?_
            refine mg_s hG dX12_plan_55 ?_
            refine v_bipush hG dX12_plan_58 (by decide) ?_
            refine v_aload_n hG dX12_plan_60 rfl 0 rfl ?_
            refine mg_s hG dX12_plan_61 ?_
            refine v_bipush hG dX12_plan_64 (by decide) ?_
            refine ma_s (z := s 46) hG dX12_plan_66 (by omega) rfl ?_
            refine v_iadd hG dX12_plan_67 ?_
            refine v_iload_n hG dX12_plan_68 rfl 1 rfl ?_
            refine ms_s hG dX12_plan_69 (by omega) ?_
            refine v_aload_n hG dX12_plan_70 rfl 0 rfl ?_
            refine mg_s hG dX12_plan_71 ?_
            refine v_bipush hG dX12_plan_74 (by decide) ?_
            refine v_aload_n hG dX12_plan_76 rfl 0 rfl ?_
            refine mg_s hG dX12_plan_77 ?_
            refine v_bipush hG dX12_plan_80 (by decide) ?_
            refine ma_s (z := s 46) hG dX12_plan_82 (by omega) (by rw [sU_ne (by omega)]) ?_
            refine v_iadd hG dX12_plan_83 ?_
            refine v_iload_n hG dX12_plan_84 rfl 2 rfl ?_
            refine ms_s hG dX12_plan_85 (by omega) ?_
            refine v_aload_n hG dX12_plan_86 rfl 0 rfl ?_
            refine mg_s hG dX12_plan_87 ?_
            refine v_bipush hG dX12_plan_90 (by decide) ?_
            refine v_dup2 hG dX12_plan_92 rfl rfl ?_
            refine ma_s (z := s 46) hG dX12_plan_93 (by omega) (by rw [sU_ne (by omega), sU_ne (by omega)]) ?_
            refine v_iconst hG dX12_plan_94 ?_
            refine v_iadd hG dX12_plan_95 ?_
            refine ms_s hG dX12_plan_96 (by omega) ?_
            refine v_aload_n hG dX12_plan_97 rfl 0 rfl ?_
            refine mg_s hG dX12_plan_98 ?_
            refine v_bipush hG dX12_plan_101 (by decide) ?_
            refine ma_s (z := (s 46) + 1) hG dX12_plan_103 (by omega) (by rw [sU_eq]) ?_
            have e15 : sU (sU (sU s (118 + (s 46)) w) (126 + (s 46)) m) 46 ((s 46) + 1) = f_plan s w m := by first | rfl | (simp only [a_plan, f_plan, if_neg c1, if_pos c3, if_neg c6, if_pos c13, if_neg c14]; done) | (simp only [a_plan, f_plan, if_neg c1, if_pos c3, if_neg c6, if_pos c13, if_neg c14]; done) | (simp only [a_plan, f_plan, if_neg c1, if_pos c3, if_neg c6, if_pos c13, if_neg c14]; rfl) | (simp only [a_plan, f_plan, if_neg c1, if_pos c3, if_neg c6, if_pos c13, if_neg c14]; omega)
            have e16 : @Eq Int (a_plan s w m) ((s 46) + 1) := by first | rfl | (simp only [a_plan, f_plan, if_neg c1, if_pos c3, if_neg c6, if_pos c13, if_neg c14]; done) | (simp only [a_plan, f_plan, if_neg c1, if_pos c3, if_neg c6, if_pos c13, if_neg c14]; done) | (simp only [a_plan, f_plan, if_neg c1, if_pos c3, if_neg c6, if_pos c13, if_neg c14]; rfl) | (simp only [a_plan, f_plan, if_neg c1, if_pos c3, if_neg c6, if_pos c13, if_neg c14]; omega)
            exact v_ireturn hG hR dX12_plan_104 () (congrArg (fun z => some (vI z)) e16) (by trivial) (fun _ hM => by rw [← e15]; exact hM)
          · skip
            refine v_bipush hG dX12_plan_51 (by decide) ?_
            have e17 : s = f_plan s w m := by first | rfl | (simp only [a_plan, f_plan, if_neg c1, if_pos c3, if_neg c6, if_pos c13, if_pos c14]; done) | (simp only [a_plan, f_plan, if_neg c1, if_pos c3, if_neg c6, if_pos c13, if_pos c14]; done) | (simp only [a_plan, f_plan, if_neg c1, if_pos c3, if_neg c6, if_pos c13, if_pos c14]; rfl) | (simp only [a_plan, f_plan, if_neg c1, if_pos c3, if_neg c6, if_pos c13, if_pos c14]; omega)
            have e18 : @Eq Int (a_plan s w m) (-4) := by first | rfl | (simp only [a_plan, f_plan, if_neg c1, if_pos c3, if_neg c6, if_pos c13, if_pos c14]; done) | (simp only [a_plan, f_plan, if_neg c1, if_pos c3, if_neg c6, if_pos c13, if_pos c14]; done) | (simp only [a_plan, f_plan, if_neg c1, if_pos c3, if_neg c6, if_pos c13, if_pos c14]; rfl) | (simp only [a_plan, f_plan, if_neg c1, if_pos c3, if_neg c6, if_pos c13, if_pos c14]; omega)
            exact v_ireturn hG hR dX12_plan_53 () (congrArg (fun z => some (vI z)) e18) (by trivial) (fun _ hM => by rw [← e17]; exact hM)
        · skip
          refine v_iconst hG dX12_plan_37 ?_
          have e19 : s = f_plan s w m := by first | rfl | (simp only [a_plan, f_plan, if_neg c1, if_pos c3, if_neg c6, if_neg c13]; done) | (simp only [a_plan, f_plan, if_neg c1, if_pos c3, if_neg c6, if_neg c13]; done) | (simp only [a_plan, f_plan, if_neg c1, if_pos c3, if_neg c6, if_neg c13]; rfl) | (simp only [a_plan, f_plan, if_neg c1, if_pos c3, if_neg c6, if_neg c13]; omega)
          have e20 : @Eq Int (a_plan s w m) (-1) := by first | rfl | (simp only [a_plan, f_plan, if_neg c1, if_pos c3, if_neg c6, if_neg c13]; done) | (simp only [a_plan, f_plan, if_neg c1, if_pos c3, if_neg c6, if_neg c13]; done) | (simp only [a_plan, f_plan, if_neg c1, if_pos c3, if_neg c6, if_neg c13]; rfl) | (simp only [a_plan, f_plan, if_neg c1, if_pos c3, if_neg c6, if_neg c13]; omega)
          exact v_ireturn hG hR dX12_plan_38 () (congrArg (fun z => some (vI z)) e20) (by trivial) (fun _ hM => by rw [← e19]; exact hM)
  · skip
    refine v_aload_n hG dX12_plan_5 rfl 0 rfl ?_
    refine mg_s hG dX12_plan_6 ?_
    refine v_bipush hG dX12_plan_9 (by decide) ?_
    refine v_iconst hG dX12_plan_11 ?_
    refine ms_s hG dX12_plan_12 (by omega) ?_
    refine v_iconst hG dX12_plan_13 ?_
    have e21 : sU s 46 0 = f_plan s w m := by first | rfl | (simp only [a_plan, f_plan, if_pos c1]; done) | (simp only [a_plan, f_plan, if_pos c1]; done) | (simp only [a_plan, f_plan, if_pos c1]; rfl) | (simp only [a_plan, f_plan, if_pos c1]; omega)
    have e22 : @Eq Int (a_plan s w m) (0) := by first | rfl | (simp only [a_plan, f_plan, if_pos c1]; done) | (simp only [a_plan, f_plan, if_pos c1]; done) | (simp only [a_plan, f_plan, if_pos c1]; rfl) | (simp only [a_plan, f_plan, if_pos c1]; omega)
    exact v_ireturn hG hR dX12_plan_14 () (congrArg (fun z => some (vI z)) e22) (by trivial) (fun _ hM => by rw [← e21]; exact hM)
set_option maxHeartbeats 4000000 in
set_option maxRecDepth 100000 in
theorem k_does (l : Launch) (D : Dx) (A : Nat → Prop) (a : Nat → Nat) (s im fr bY tr ln bl bo g lg : Int → Int) (w : Int) (m : Int) (SL : List Int) (hw : 0 ≤ w ∧ w ≤ 4) (hmw : w < 3 → 0 ≤ m ∧ m < s 43) (hN : NM s) (hM : GM s) (hP : PL s) (hE : HE s SL) (hT : TI s) : CT l D A yX12_does cX12_does 3 none { frames := 6, cells := 0, slots := 0, locals := 141 } [.ref (a 0), vI w, vI m] (MW D A a s im fr bY tr ln bl bo g lg) (fun u : (Int → Int) × (Int → Int) => none) (fun _ => True) (fun u => MW D A a (p_does s SL w m) im fr u.1 u.2 ln bl bo g lg) := by
  refine ct_of (lo0 := [(0, .ref (a 0)), (1, vI w), (2, vI m)]) (by decide) (Nat.le_of_ble_eq_true rfl) rfl ?_
  intro G hG hR
  have hN9 : 0 ≤ s 43 ∧ s 43 ≤ 8 := hN
  have hT2 : 0 ≤ s 2 ∧ s 2 ≤ 99 := hT
  refine v_iload_n hG dX12_does_0 rfl 1 rfl ?_
  by_cases c1 : w = 0
  · refine v_tabIn (tgt := 32) hG dX12_does_1 0 c1 (by decide) (by decide) (by decide) rfl (by decide) ?_
    refine v_aload_n hG dX12_does_32 rfl 0 rfl ?_
    refine v_iload_n hG dX12_does_33 rfl 2 rfl ?_
    have hmm := hmw (by omega)
    refine v_callV (k1' := 0) (k2' := 0) hG dX12_does_34 zc_X12_isCut ⟨zl_X12_137, zi_X12_isCut, zs_X12_isCut⟩ (fun l => k_isCut l D A a s im fr bY tr ln bl bo g lg m (by omega) (by first | exact hm.2.2.2.2.1 | exact (hM _ (by omega) (by omega)).2.2.2.2.1 | omega)) rfl mw_recv (fun _ h => h) ⟨by decide, by decide⟩ rfl rfl ⟨by decide, by decide⟩ (rest := []) rfl (Nat.le_of_ble_eq_true rfl) (fun u2 => [vI (bi (s (11 + m) = 1))]) (fun _ => rfl) (fun u2 hu2 => ?_)
    refine v_ifb_ne (p := s (11 + m) = 1) (tgt := 97) hG dX12_does_37 (by decide) (fun c3 => ?_) (fun c3 => ?_)
    · skip
      have e4 : s = p_does s SL w m := by first | rfl | (simp only [p_does, if_pos c1, if_pos c3]; done) | (simp only [p_does, if_pos c1, if_pos c3]; done) | (simp only [p_does, if_pos c1, if_pos c3]; rfl) | (simp only [p_does, if_pos c1, if_pos c3]; omega)
      exact v_return hG hR dX12_does_97 (bY, tr) rfl (by trivial) (fun _ hM => by rw [← e4]; exact hM)
    · skip
      refine v_aload_n hG dX12_does_40 rfl 0 rfl ?_
      refine v_iload_n hG dX12_does_41 rfl 2 rfl ?_
      refine v_bipush hG dX12_does_42 (by decide) ?_
      refine v_callV (k1' := 0) (k2' := 0) hG dX12_does_44 zc_X12_cutsOne ⟨zl_X12_174, zi_X12_cutsOne, zs_X12_cutsOne⟩ (fun l => k_cutsOne l D A a s im fr bY tr ln bl bo g lg m 99 SL (by omega) (by first | assumption | (exact hM _ (by omega) (by omega))) (by assumption) (by omega) (by omega)) rfl mw_recv (fun _ h => h) ⟨by decide, by decide⟩ rfl rfl ⟨by decide, by decide⟩ (rest := []) rfl (Nat.le_of_ble_eq_true rfl) (fun u5 => []) (fun _ => rfl) (fun u5 hu5 => ?_)
      refine v_goto (tgt := 97) hG dX12_does_47 (by decide) ?_
      have e6 : p_cut s (flawF (s (50 + m)) (q_risk s SL m (s 2)) 99) m = p_does s SL w m := by first | rfl | (simp only [p_does, if_pos c1, if_neg c3]; done) | (simp only [p_does, if_pos c1, if_neg c3]; done) | (simp only [p_does, if_pos c1, if_neg c3]; rfl) | (simp only [p_does, if_pos c1, if_neg c3]; omega)
      exact v_return hG hR dX12_does_97 (u5.1, u5.2) rfl (by trivial) (fun _ hM => by rw [← e6]; exact hM)
  by_cases c7 : w = 1
  · refine v_tabIn (tgt := 50) hG dX12_does_1 1 c7 (by decide) (by decide) (by decide) rfl (by decide) ?_
    refine v_aload_n hG dX12_does_50 rfl 0 rfl ?_
    refine v_iload_n hG dX12_does_51 rfl 2 rfl ?_
    have hmm := hmw (by omega)
    refine v_callV (k1' := 0) (k2' := 0) hG dX12_does_52 zc_X12_isCut ⟨zl_X12_137, zi_X12_isCut, zs_X12_isCut⟩ (fun l => k_isCut l D A a s im fr bY tr ln bl bo g lg m (by omega) (by first | exact hm.2.2.2.2.1 | exact (hM _ (by omega) (by omega)).2.2.2.2.1 | omega)) rfl mw_recv (fun _ h => h) ⟨by decide, by decide⟩ rfl rfl ⟨by decide, by decide⟩ (rest := []) rfl (Nat.le_of_ble_eq_true rfl) (fun u8 => [vI (bi (s (11 + m) = 1))]) (fun _ => rfl) (fun u8 hu8 => ?_)
    refine v_ifb_eq (p := s (11 + m) = 1) (tgt := 97) hG dX12_does_55 (by decide) (fun c9 => ?_) (fun c9 => ?_)
    · skip
      have e10 : s = p_does s SL w m := by first | rfl | (simp only [p_does, if_neg c1, if_pos c7, if_neg c9]; done) | (simp only [p_does, if_neg c1, if_pos c7, if_neg c9]; done) | (simp only [p_does, if_neg c1, if_pos c7, if_neg c9]; rfl) | (simp only [p_does, if_neg c1, if_pos c7, if_neg c9]; omega)
      exact v_return hG hR dX12_does_97 (bY, tr) rfl (by trivial) (fun _ hM => by rw [← e10]; exact hM)
    · skip
      refine v_aload_n hG dX12_does_58 rfl 0 rfl ?_
      refine v_iload_n hG dX12_does_59 rfl 2 rfl ?_
      refine v_callV (k1' := 0) (k2' := 0) hG dX12_does_60 zc_X12_mendsOne ⟨zl_X12_181, zi_X12_mendsOne, zs_X12_mendsOne⟩ (fun l => k_mendsOne l D A a s im fr bY tr ln bl bo g lg m (by omega) (by first | assumption | (exact hM _ (by omega) (by omega))) (by assumption) (by omega)) rfl mw_recv (fun _ h => h) ⟨by decide, by decide⟩ rfl rfl ⟨by decide, by decide⟩ (rest := []) rfl (Nat.le_of_ble_eq_true rfl) (fun u11 => []) (fun _ => rfl) (fun u11 hu11 => ?_)
      refine v_goto (tgt := 97) hG dX12_does_63 (by decide) ?_
      have e12 : p_mend s m = p_does s SL w m := by first | rfl | (simp only [p_does, if_neg c1, if_pos c7, if_pos c9]; done) | (simp only [p_does, if_neg c1, if_pos c7, if_pos c9]; done) | (simp only [p_does, if_neg c1, if_pos c7, if_pos c9]; rfl) | (simp only [p_does, if_neg c1, if_pos c7, if_pos c9]; omega)
      exact v_return hG hR dX12_does_97 (bY, tr) rfl (by trivial) (fun _ hM => by rw [← e12]; exact hM)
  by_cases c13 : w = 2
  · refine v_tabIn (tgt := 66) hG dX12_does_1 2 c13 (by decide) (by decide) (by decide) rfl (by decide) ?_
    refine v_aload_n hG dX12_does_66 rfl 0 rfl ?_
    refine v_iload_n hG dX12_does_67 rfl 2 rfl ?_
    have hmm := hmw (by omega)
    refine v_callV (k1' := 0) (k2' := 0) hG dX12_does_68 zc_X12_isCut ⟨zl_X12_137, zi_X12_isCut, zs_X12_isCut⟩ (fun l => k_isCut l D A a s im fr bY tr ln bl bo g lg m (by omega) (by first | exact hm.2.2.2.2.1 | exact (hM _ (by omega) (by omega)).2.2.2.2.1 | omega)) rfl mw_recv (fun _ h => h) ⟨by decide, by decide⟩ rfl rfl ⟨by decide, by decide⟩ (rest := []) rfl (Nat.le_of_ble_eq_true rfl) (fun u14 => [vI (bi (s (11 + m) = 1))]) (fun _ => rfl) (fun u14 hu14 => ?_)
    refine v_ifb_eq (p := s (11 + m) = 1) (tgt := 97) hG dX12_does_71 (by decide) (fun c15 => ?_) (fun c15 => ?_)
    · skip
      have e16 : s = p_does s SL w m := by first | rfl | (simp only [p_does, if_neg c1, if_neg c7, if_pos c13, if_neg c15]; done) | (simp only [p_does, if_neg c1, if_neg c7, if_pos c13, if_neg c15]; done) | (simp only [p_does, if_neg c1, if_neg c7, if_pos c13, if_neg c15]; rfl) | (simp only [p_does, if_neg c1, if_neg c7, if_pos c13, if_neg c15]; omega)
      exact v_return hG hR dX12_does_97 (bY, tr) rfl (by trivial) (fun _ hM => by rw [← e16]; exact hM)
    · skip
      refine v_aload_n hG dX12_does_74 rfl 0 rfl ?_
      refine v_iload_n hG dX12_does_75 rfl 2 rfl ?_
      refine v_callV (k1' := 0) (k2' := 0) hG dX12_does_76 zc_X12_goesOver ⟨zl_X12_184, zi_X12_goesOver, zs_X12_goesOver⟩ (fun l => k_goesOver l D A a s im fr bY tr ln bl bo g lg m (by omega) (by first | assumption | (exact hM _ (by omega) (by omega))) (by omega)) rfl mw_recv (fun _ h => h) ⟨by decide, by decide⟩ rfl rfl ⟨by decide, by decide⟩ (rest := []) rfl (Nat.le_of_ble_eq_true rfl) (fun u17 => []) (fun _ => rfl) (fun u17 hu17 => ?_)
      refine v_goto (tgt := 97) hG dX12_does_79 (by decide) ?_
      have e18 : p_over s m = p_does s SL w m := by first | rfl | (simp only [p_does, if_neg c1, if_neg c7, if_pos c13, if_pos c15]; done) | (simp only [p_does, if_neg c1, if_neg c7, if_pos c13, if_pos c15]; done) | (simp only [p_does, if_neg c1, if_neg c7, if_pos c13, if_pos c15]; rfl) | (simp only [p_does, if_neg c1, if_neg c7, if_pos c13, if_pos c15]; omega)
      exact v_return hG hR dX12_does_97 (bY, tr) rfl (by trivial) (fun _ hM => by rw [← e18]; exact hM)
  by_cases c19 : w = 3
  · refine v_tabIn (tgt := 82) hG dX12_does_1 3 c19 (by decide) (by decide) (by decide) rfl (by decide) ?_
    refine v_aload_n hG dX12_does_82 rfl 0 rfl ?_
    refine v_bipush hG dX12_does_83 (by decide) ?_
    refine v_callV (k1' := 0) (k2' := 0) hG dX12_does_85 zc_X12_rests ⟨zl_X12_178, zi_X12_rests, zs_X12_rests⟩ (fun l => k_rests l D A a s im fr bY tr ln bl bo g lg 10 (by omega) (by omega)) rfl mw_recv (fun _ h => h) ⟨by decide, by decide⟩ rfl rfl ⟨by decide, by decide⟩ (rest := []) rfl (Nat.le_of_ble_eq_true rfl) (fun u20 => []) (fun _ => rfl) (fun u20 hu20 => ?_)
    refine v_goto (tgt := 97) hG dX12_does_88 (by decide) ?_
    have e21 : p_rest s 10 = p_does s SL w m := by first | rfl | (simp only [p_does, if_neg c1, if_neg c7, if_neg c13, if_pos c19]; done) | (simp only [p_does, if_neg c1, if_neg c7, if_neg c13, if_pos c19]; done) | (simp only [p_does, if_neg c1, if_neg c7, if_neg c13, if_pos c19]; rfl) | (simp only [p_does, if_neg c1, if_neg c7, if_neg c13, if_pos c19]; omega)
    exact v_return hG hR dX12_does_97 (bY, tr) rfl (by trivial) (fun _ hM => by rw [← e21]; exact hM)
  refine v_tabOut (tgt := 91) hG dX12_does_1 (by omega) (by omega) (by decide) ?_
  refine v_aload_n hG dX12_does_91 rfl 0 rfl ?_
  refine v_bipush hG dX12_does_92 (by decide) ?_
  refine v_callV (k1' := 0) (k2' := 0) hG dX12_does_94 zc_X12_prints ⟨zl_X12_191, zi_X12_prints, zs_X12_prints⟩ (fun l => k_prints l D A a s im fr bY tr ln bl bo g lg 50 (by assumption) (by assumption) (by omega)) rfl mw_recv (fun _ h => h) ⟨by decide, by decide⟩ rfl rfl ⟨by decide, by decide⟩ (rest := []) rfl (Nat.le_of_ble_eq_true rfl) (fun u23 => []) (fun _ => rfl) (fun u23 hu23 => ?_)
  have e24 : p_prints s 50 = p_does s SL w m := by first | rfl | (simp only [p_does, if_neg c1, if_neg c7, if_neg c13, if_neg c19]; done) | (simp only [p_does, if_neg c1, if_neg c7, if_neg c13, if_neg c19]; done) | (simp only [p_does, if_neg c1, if_neg c7, if_neg c13, if_neg c19]; rfl) | (simp only [p_does, if_neg c1, if_neg c7, if_neg c13, if_neg c19]; omega)
  exact v_return hG hR dX12_does_97 (bY, tr) rfl (by trivial) (fun _ hM => by rw [← e24]; exact hM)
set_option maxHeartbeats 4000000 in
set_option maxRecDepth 100000 in
theorem k_done (l : Launch) (D : Dx) (A : Nat → Prop) (a : Nat → Nat) (s im fr bY tr ln bl bo g lg : Int → Int) (w : Int) (SL : List Int) (hr : -2147483648 ≤ w ∧ w < 2147483648) (hN : NM s) (hM : GM s) (hP : PL s) (hE : HE s SL) (hT : TI s) (hW : WW s) (hPN : PN s) : CT l D A yX12_done cX12_done 3 (some .int) { frames := 7, cells := 0, slots := 0, locals := 163 } [.ref (a 0), vI w] (MW D A a s im fr bY tr ln bl bo g lg) (fun u : (Int → Int) × (Int → Int) × (Int → Int) => some (vI (a_done s SL w))) (fun _ => True) (fun u => MW D A a s im u.1 u.2.1 u.2.2 ln bl bo g lg) := by
  refine ct_of (lo0 := [(0, .ref (a 0)), (1, vI w)]) (by decide) (Nat.le_of_ble_eq_true rfl) rfl ?_
  intro G hG hR
  have hN9 : 0 ≤ s 43 ∧ s 43 ≤ 8 := hN
  have hS1 := hPN.1
  refine v_iload_n hG dX12_done_0 rfl 1 rfl ?_
  refine v_iconst hG dX12_done_1 ?_
  refine v_iconst hG dX12_done_2 ?_
  refine v_callS (k1' := 0) (k2' := 0) hG dX12_done_3 zc_X12_in ⟨zl_X12_41, zt_X12_in⟩ (fun l => k_in l D A (MW D A a s im fr bY tr ln bl bo g lg) w 0 2 (by omega) (by omega) (by omega)) rfl (fun _ h => h) ⟨by decide, by decide⟩ rfl rfl ⟨by decide, by decide⟩ (rest := []) rfl (Nat.le_of_ble_eq_true rfl) (fun u1 => [vI (bi (0 ≤ w ∧ w ≤ 2))]) (fun _ => rfl) (fun u1 hu1 => ?_)
  refine v_ifb_ne (p := 0 ≤ w ∧ w ≤ 2) (tgt := 11) hG dX12_done_6 (by decide) (fun c2 => ?_) (fun c2 => ?_)
  · skip
    refine v_aload_n hG dX12_done_11 rfl 0 rfl ?_
    refine v_callV (k1' := 0) (k2' := 0) hG dX12_done_12 zc_X12_keeps ⟨zl_X12_253, zi_X12_keeps, zs_X12_keeps⟩ (fun l => k_keeps l D A a s im fr bY tr ln bl bo g lg) rfl mw_recv (fun _ h => h) ⟨by decide, by decide⟩ rfl rfl ⟨by decide, by decide⟩ (rest := []) rfl (Nat.le_of_ble_eq_true rfl) (fun u3 => []) (fun _ => rfl) (fun u3 hu3 => ?_)
    refine v_iconst hG dX12_done_15 ?_
    refine v_istore_n (lo' := [(2, vI 0), (0, .ref (a 0)), (1, vI w)]) hG dX12_done_16 rfl (by decide) rfl ?_
    refine v_lo [1, 2, 0] (lo' := [(0, .ref (a 0)), (1, vI w), (2, vI 0)]) rfl ?_
    have L8 : ∀ mz : Nat, ∀ (k : Nat), ((k : Int) ≤ s 46) → (s 46 - (k : Int)).toNat = mz → ∀ x4 : Int, x4 = ((k : Int)) → ∀ x5 : Int → Int, x5 = (pd s SL k) → ∀ x6 : Int → Int, ∀ x7 : Int → Int, V G 0 0 (MW D A a x5 im (cpy 43 s fr) x6 x7 ln bl bo g lg) 17 [(0, .ref (a 0)), (1, vI w), (2, vI x4)] [] := by
      intro dL8
      induction dL8 using Nat.strongRecOn with
      | ind dL8 ihL8 =>
        intro k h9 h10
        intro x4 hx4
        subst hx4
        intro x5 hx5
        subst hx5
        intro x6
        intro x7
        obtain ⟨hpl, hpm, hpt, hpw⟩ := pd_all (SL := SL) hN hM hT hW hPN k (by omega)
        have q46 := hpl 46 (by omega)
        have q43 := hpl 43 (by omega)
        refine v_iload_n hG dX12_done_17 rfl 2 rfl ?_
        refine v_aload_n hG dX12_done_18 rfl 0 rfl ?_
        refine mg_s hG dX12_done_19 ?_
        refine v_bipush hG dX12_done_22 (by decide) ?_
        refine ma_s (z := (pd s SL k) 46) hG dX12_done_24 (by omega) rfl ?_
        refine v_icmp_ge (tgt := 56) hG dX12_done_25 (by decide) (by omega) (by omega) (fun c11 => ?_) (fun c11 => ?_)
        · skip
          refine v_iload_n hG dX12_done_56 rfl 1 rfl ?_
          have J13 : ∀ z12 : Int, z12 = (if w = 0 then ((pd s SL k) 0) - ((cpy 43 s fr) 0) else if w = 1 then (pd s SL k) 2 else cntB (prt (pd s SL k) 0) ((pd s SL k) 43).toNat) → V G 0 0 (MW D A a (pd s SL k) im (cpy 43 s fr) x6 x7 ln bl bo g lg) 94 [(0, .ref (a 0)), (1, vI w), (2, vI (k : Int))] [vI z12] := by
            intro z12 hz12
            refine v_istore_n (lo' := [(2, vI z12), (0, .ref (a 0)), (1, vI w)]) hG dX12_done_94 rfl (by decide) rfl ?_
            refine v_aload_n hG dX12_done_95 rfl 1 rfl ?_
            refine v_callV (k1' := 0) (k2' := 0) hG dX12_done_96 zc_X12_goesBack ⟨zl_X12_256, zi_X12_goesBack, zs_X12_goesBack⟩ (fun l => k_goesBack l D A a (pd s SL k) im (cpy 43 s fr) x6 x7 ln bl bo g lg) rfl mw_recv (fun _ h => h) ⟨by decide, by decide⟩ rfl rfl ⟨by decide, by decide⟩ (rest := []) rfl (Nat.le_of_ble_eq_true rfl) (fun u14 => []) (fun _ => rfl) (fun u14 hu14 => ?_)
            rw [show cpy 43 (cpy 43 s fr) (pd s SL k) = s from by exact back_eq hpl]
            refine v_iload_n hG dX12_done_99 rfl 0 rfl ?_
            have q0 : cpy 43 s fr 0 = s 0 := cpy_in (by omega)
            have e15 : @Eq Int (a_done s SL w) (z12) := by subst hz12; rw [q0, q43, show k = (s 46).toNat by omega]; simp only [a_done, if_pos c2, if_pos c11]
            exact v_ireturn hG hR dX12_done_100 (cpy 43 s fr, x6, x7) (congrArg (fun z => some (vI z)) e15) (by trivial) (fun _ hM => hM)
          refine v_if_ne (tgt := 76) hG dX12_done_57 (by decide) (by omega) (fun c16 => ?_) (fun c16 => ?_)
          · skip
            refine v_iload_n hG dX12_done_76 rfl 1 rfl ?_
            refine v_iconst hG dX12_done_77 ?_
            refine v_icmp_ne (tgt := 90) hG dX12_done_78 (by decide) (by omega) (by omega) (fun c17 => ?_) (fun c17 => ?_)
            · skip
              refine v_aload_n hG dX12_done_90 rfl 0 rfl ?_
              refine v_callV (k1' := 0) (k2' := 0) hG dX12_done_91 zc_X12_printing ⟨zl_X12_194, zi_X12_printing, zs_X12_printing⟩ (fun l => k_printing l D A a (pd s SL k) im (cpy 43 s fr) x6 x7 ln bl bo g lg (by exact lo_NM hpl hN) (by exact hpm) (by exact lo_PL hpl hP)) rfl mw_recv (fun _ h => h) ⟨by decide, by decide⟩ rfl rfl ⟨by decide, by decide⟩ (rest := []) rfl (Nat.le_of_ble_eq_true rfl) (fun u18 => [vI (cntB (prt (pd s SL k) 0) ((pd s SL k) 43).toNat)]) (fun _ => rfl) (fun u18 hu18 => ?_)
              exact J13 _ (by first | rfl | (simp only [if_pos c2, if_pos c11, if_neg c16, if_neg c17]; done) | (simp [bi, c2, c11, c16, c17]; done))
            · skip
              refine v_aload_n hG dX12_done_81 rfl 0 rfl ?_
              refine mg_s hG dX12_done_82 ?_
              refine v_iconst hG dX12_done_85 ?_
              refine ma_s (z := (pd s SL k) 2) hG dX12_done_86 (by omega) rfl ?_
              refine v_goto (tgt := 94) hG dX12_done_87 (by decide) ?_
              exact J13 _ (by first | rfl | (simp only [if_pos c2, if_pos c11, if_neg c16, if_pos c17]; done) | (simp [bi, c2, c11, c16, c17]; done))
          · skip
            refine v_aload_n hG dX12_done_60 rfl 0 rfl ?_
            refine mg_s hG dX12_done_61 ?_
            refine v_iconst hG dX12_done_64 ?_
            refine ma_s (z := (pd s SL k) 0) hG dX12_done_65 (by omega) rfl ?_
            refine v_aload_n hG dX12_done_66 rfl 0 rfl ?_
            refine mg_frame hG dX12_done_67 ?_
            refine v_iconst hG dX12_done_70 ?_
            refine ma_frame (z := (cpy 43 s fr) 0) hG dX12_done_71 (by omega) rfl ?_
            refine v_isub hG dX12_done_72 ?_
            refine v_goto (tgt := 94) hG dX12_done_73 (by decide) ?_
            exact J13 _ (by first | rfl | (simp only [if_pos c2, if_pos c11, if_pos c16]; done) | (simp [bi, c2, c11, c16]; done))
        · skip
          have hpk := hPN.2 k (by omega) (by omega)
          have q118 := hpl (118 + (k : Int)) (by omega)
          have q126 := hpl (126 + (k : Int)) (by omega)
          refine v_aload_n hG dX12_done_28 rfl 0 rfl ?_
          refine v_aload_n hG dX12_done_29 rfl 0 rfl ?_
          refine mg_s hG dX12_done_30 ?_
          refine v_bipush hG dX12_done_33 (by decide) ?_
          refine v_iload_n hG dX12_done_35 rfl 2 rfl ?_
          refine v_iadd hG dX12_done_36 ?_
          refine ma_s (z := (pd s SL k) (118 + (k : Int))) hG dX12_done_37 (by omega) rfl ?_
          refine v_aload_n hG dX12_done_38 rfl 0 rfl ?_
          refine mg_s hG dX12_done_39 ?_
          refine v_bipush hG dX12_done_42 (by decide) ?_
          refine v_iload_n hG dX12_done_44 rfl 2 rfl ?_
          refine v_iadd hG dX12_done_45 ?_
          refine ma_s (z := (pd s SL k) (126 + (k : Int))) hG dX12_done_46 (by omega) rfl ?_
          refine v_callV (k1' := 0) (k2' := 0) hG dX12_done_47 zc_X12_does ⟨zl_X12_268, zi_X12_does, zs_X12_does⟩ (fun l => k_does l D A a (pd s SL k) im (cpy 43 s fr) x6 x7 ln bl bo g lg ((pd s SL k) (118 + (k : Int))) ((pd s SL k) (126 + (k : Int))) SL (by omega) (by rw [q118, q126, q43]; exact hpk.2) (by exact lo_NM hpl hN) (by exact hpm) (by exact lo_PL hpl hP) (by exact lo_HE hpl hE) (by exact hpt)) rfl mw_recv (fun _ h => h) ⟨by decide, by decide⟩ rfl rfl ⟨by decide, by decide⟩ (rest := []) rfl (Nat.le_of_ble_eq_true rfl) (fun u19 => []) (fun _ => rfl) (fun u19 hu19 => ?_)
          refine v_iinc (lo' := [(2, vI ((k : Int) + 1)), (0, .ref (a 0)), (1, vI w)]) hG dX12_done_50 2 rfl (by decide) rfl ?_
          refine v_goto (tgt := 17) hG dX12_done_53 (by decide) ?_
          refine v_lo [1, 2, 0] (lo' := [(0, .ref (a 0)), (1, vI w), (2, vI ((k : Int) + 1))]) rfl ?_
          exact ihL8 _ (by omega) (k + 1) (by omega) rfl _ (by first | omega | rfl | (simp [c2, c11]; done)) _ (by rw [hpl (118 + (k : Int)) (by omega), hpl (126 + (k : Int)) (by omega)]; rfl) _ _
    exact L8 _ 0 (by omega) rfl _ (by first | omega | rfl | (simp [c2]; done)) _ (by rfl) _ _
  · skip
    refine v_iconst hG dX12_done_9 ?_
    have e20 : @Eq Int (a_done s SL w) (-1) := by simp only [a_done, if_neg c2]
    exact v_ireturn hG hR dX12_done_10 (fr, bY, tr) (congrArg (fun z => some (vI z)) e20) (by trivial) (fun _ hM => hM)
set_option maxHeartbeats 4000000 in
set_option maxRecDepth 100000 in
theorem k_book (l : Launch) (D : Dx) (A : Nat → Prop) (a : Nat → Nat) (s im fr bY tr ln bl bo g lg : Int → Int) (m : Int) (n : Int) (d : Int) (hr : -2147483648 ≤ m ∧ m < 2147483648) (hr2 : -2147483648 ≤ n ∧ n < 2147483648) (hr3 : -2147483648 ≤ d ∧ d < 2147483648) (hN : NM s) (hBK : BK s) : CT l D A yX12_book cX12_book 4 (some .int) { frames := 2, cells := 0, slots := 0, locals := 43 } [.ref (a 0), vI m, vI n, vI d] (MW D A a s im fr bY tr ln bl bo g lg) (fun _ : Unit => some (vI (a_book s m n d))) (fun _ => True) (fun _ => MW D A a (f_book s m n d) im fr bY tr ln bl bo g lg) := by
  refine ct_of (lo0 := [(0, .ref (a 0)), (1, vI m), (2, vI n), (3, vI d)]) (by decide) (Nat.le_of_ble_eq_true rfl) rfl ?_
  intro G hG hR
  have hN9 : 0 ≤ s 43 ∧ s 43 ≤ 8 := hN
  have hS1 := hBK.1
  refine v_iload_n hG dX12_book_0 rfl 1 rfl ?_
  refine v_iconst hG dX12_book_1 ?_
  refine v_icmp_ne (tgt := 15) hG dX12_book_2 (by decide) (by omega) (by omega) (fun c1 => ?_) (fun c1 => ?_)
  · skip
    refine v_aload_n hG dX12_book_15 rfl 0 rfl ?_
    refine v_iload_n hG dX12_book_16 rfl 1 rfl ?_
    refine v_callV (k1' := 0) (k2' := 0) hG dX12_book_17 zc_X12_isMark ⟨zl_X12_150, zi_X12_isMark, zs_X12_isMark⟩ (fun l => k_isMark l D A a s im fr bY tr ln bl bo g lg m (by omega) (by assumption)) rfl mw_recv (fun _ h => h) ⟨by decide, by decide⟩ rfl rfl ⟨by decide, by decide⟩ (rest := []) rfl (Nat.le_of_ble_eq_true rfl) (fun u2 => [vI (bi (0 ≤ m ∧ m ≤ s 43 - 1))]) (fun _ => rfl) (fun u2 hu2 => ?_)
    refine v_ifb_ne (p := 0 ≤ m ∧ m ≤ s 43 - 1) (tgt := 25) hG dX12_book_20 (by decide) (fun c3 => ?_) (fun c3 => ?_)
    · skip
      refine v_iload_n hG dX12_book_25 rfl 2 rfl ?_
      refine v_iconst hG dX12_book_26 ?_
      refine v_sipush hG dX12_book_27 (by decide) ?_
      refine v_callS (k1' := 0) (k2' := 0) hG dX12_book_30 zc_X12_in ⟨zl_X12_41, zt_X12_in⟩ (fun l => k_in l D A (MW D A a s im fr bY tr ln bl bo g lg) n 0 999 (by omega) (by omega) (by omega)) rfl (fun _ h => h) ⟨by decide, by decide⟩ rfl rfl ⟨by decide, by decide⟩ (rest := []) rfl (Nat.le_of_ble_eq_true rfl) (fun u4 => [vI (bi (0 ≤ n ∧ n ≤ 999))]) (fun _ => rfl) (fun u4 hu4 => ?_)
      refine v_ifb_eq (p := 0 ≤ n ∧ n ≤ 999) (tgt := 46) hG dX12_book_33 (by decide) (fun c5 => ?_) (fun c5 => ?_)
      · skip
        refine v_bipush hG dX12_book_46 (by decide) ?_
        have e6 : s = f_book s m n d := by first | rfl | (simp only [a_book, f_book, if_neg c1, if_pos c3, if_neg c5]; done) | (simp only [a_book, f_book, if_neg c1, if_pos c3, if_neg c5]; done) | (simp only [a_book, f_book, if_neg c1, if_pos c3, if_neg c5]; rfl) | (simp only [a_book, f_book, if_neg c1, if_pos c3, if_neg c5]; omega)
        have e7 : @Eq Int (a_book s m n d) (-2) := by first | rfl | (simp only [a_book, f_book, if_neg c1, if_pos c3, if_neg c5]; done) | (simp only [a_book, f_book, if_neg c1, if_pos c3, if_neg c5]; done) | (simp only [a_book, f_book, if_neg c1, if_pos c3, if_neg c5]; rfl) | (simp only [a_book, f_book, if_neg c1, if_pos c3, if_neg c5]; omega)
        exact v_ireturn hG hR dX12_book_48 () (congrArg (fun z => some (vI z)) e7) (by trivial) (fun _ hM => by rw [← e6]; exact hM)
      · skip
        refine v_iload_n hG dX12_book_36 rfl 3 rfl ?_
        refine v_iconst hG dX12_book_37 ?_
        refine v_bipush hG dX12_book_38 (by decide) ?_
        refine v_callS (k1' := 0) (k2' := 0) hG dX12_book_40 zc_X12_in ⟨zl_X12_41, zt_X12_in⟩ (fun l => k_in l D A (MW D A a s im fr bY tr ln bl bo g lg) d 0 30 (by omega) (by omega) (by omega)) rfl (fun _ h => h) ⟨by decide, by decide⟩ rfl rfl ⟨by decide, by decide⟩ (rest := []) rfl (Nat.le_of_ble_eq_true rfl) (fun u8 => [vI (bi (0 ≤ d ∧ d ≤ 30))]) (fun _ => rfl) (fun u8 hu8 => ?_)
        refine v_ifb_ne (p := 0 ≤ d ∧ d ≤ 30) (tgt := 49) hG dX12_book_43 (by decide) (fun c9 => ?_) (fun c9 => ?_)
        · skip
          refine v_aload_n hG dX12_book_49 rfl 0 rfl ?_
          refine mg_s hG dX12_book_50 ?_
          refine v_bipush hG dX12_book_53 (by decide) ?_
          refine ma_s (z := s 47) hG dX12_book_55 (by omega) rfl ?_
          refine v_bipush hG dX12_book_56 (by decide) ?_
          refine v_icmp_ne (tgt := 64) hG dX12_book_58 (by decide) (by omega) (by omega) (fun c10 => ?_) (fun c10 => ?_)
          · skip
            refine v_aload_n hG dX12_book_64 rfl 0 rfl ?_
            refine mg_s hG dX12_book_65 ?_
            refine v_sipush hG dX12_book_68 (by decide) ?_
            refine v_aload_n hG dX12_book_71 rfl 0 rfl ?_
            refine mg_s hG dX12_book_72 ?_
            refine v_bipush hG dX12_book_75 (by decide) ?_
            refine ma_s (z := s 47) hG dX12_book_77 (by omega) rfl ?_
            refine v_iadd hG dX12_book_78 ?_
            refine v_iload_n hG dX12_book_79 rfl 1 rfl ?_
            refine ms_s hG dX12_book_80 (by omega) ?_
            refine v_aload_n hG dX12_book_81 rfl 0 rfl ?_
            refine mg_s hG dX12_book_82 ?_
            refine v_sipush hG dX12_book_85 (by decide) ?_
            refine v_aload_n hG dX12_book_88 rfl 0 rfl ?_
            refine mg_s hG dX12_book_89 ?_
            refine v_bipush hG dX12_book_92 (by decide) ?_
            refine ma_s (z := s 47) hG dX12_book_94 (by omega) (by rw [sU_ne (by omega)]) ?_
            refine v_iadd hG dX12_book_95 ?_
            refine v_iload_n hG dX12_book_96 rfl 2 rfl ?_
            refine ms_s hG dX12_book_97 (by omega) ?_
            refine v_aload_n hG dX12_book_98 rfl 0 rfl ?_
            refine mg_s hG dX12_book_99 ?_
            refine v_sipush hG dX12_book_102 (by decide) ?_
            refine v_aload_n hG dX12_book_105 rfl 0 rfl ?_
            refine mg_s hG dX12_book_106 ?_
            refine v_bipush hG dX12_book_109 (by decide) ?_
            refine ma_s (z := s 47) hG dX12_book_111 (by omega) (by rw [sU_ne (by omega), sU_ne (by omega)]) ?_
            refine v_iadd hG dX12_book_112 ?_
            refine v_iload_n hG dX12_book_113 rfl 3 rfl ?_
            refine ms_s hG dX12_book_114 (by omega) ?_
            refine v_aload_n hG dX12_book_115 rfl 0 rfl ?_
            refine mg_s hG dX12_book_116 ?_
            refine v_bipush hG dX12_book_119 (by decide) ?_
            refine v_dup2 hG dX12_book_121 rfl rfl ?_
            refine ma_s (z := s 47) hG dX12_book_122 (by omega) (by rw [sU_ne (by omega), sU_ne (by omega), sU_ne (by omega)]) ?_
            refine v_iconst hG dX12_book_123 ?_
            refine v_iadd hG dX12_book_124 ?_
            refine ms_s hG dX12_book_125 (by omega) ?_
            refine v_aload_n hG dX12_book_126 rfl 0 rfl ?_
            refine mg_s hG dX12_book_127 ?_
            refine v_bipush hG dX12_book_130 (by decide) ?_
            refine ma_s (z := (s 47) + 1) hG dX12_book_132 (by omega) (by rw [sU_eq]) ?_
            have e11 : sU (sU (sU (sU s (134 + (s 47)) m) (142 + (s 47)) n) (150 + (s 47)) d) 47 ((s 47) + 1) = f_book s m n d := by first | rfl | (simp only [a_book, f_book, if_neg c1, if_pos c3, if_pos c5, if_pos c9, if_neg c10]; done) | (simp only [a_book, f_book, if_neg c1, if_pos c3, if_pos c5, if_pos c9, if_neg c10]; done) | (simp only [a_book, f_book, if_neg c1, if_pos c3, if_pos c5, if_pos c9, if_neg c10]; rfl) | (simp only [a_book, f_book, if_neg c1, if_pos c3, if_pos c5, if_pos c9, if_neg c10]; omega)
            have e12 : @Eq Int (a_book s m n d) ((s 47) + 1) := by first | rfl | (simp only [a_book, f_book, if_neg c1, if_pos c3, if_pos c5, if_pos c9, if_neg c10]; done) | (simp only [a_book, f_book, if_neg c1, if_pos c3, if_pos c5, if_pos c9, if_neg c10]; done) | (simp only [a_book, f_book, if_neg c1, if_pos c3, if_pos c5, if_pos c9, if_neg c10]; rfl) | (simp only [a_book, f_book, if_neg c1, if_pos c3, if_pos c5, if_pos c9, if_neg c10]; omega)
            exact v_ireturn hG hR dX12_book_133 () (congrArg (fun z => some (vI z)) e12) (by trivial) (fun _ hM => by rw [← e11]; exact hM)
          · skip
            refine v_bipush hG dX12_book_61 (by decide) ?_
            have e13 : s = f_book s m n d := by first | rfl | (simp only [a_book, f_book, if_neg c1, if_pos c3, if_pos c5, if_pos c9, if_pos c10]; done) | (simp only [a_book, f_book, if_neg c1, if_pos c3, if_pos c5, if_pos c9, if_pos c10]; done) | (simp only [a_book, f_book, if_neg c1, if_pos c3, if_pos c5, if_pos c9, if_pos c10]; rfl) | (simp only [a_book, f_book, if_neg c1, if_pos c3, if_pos c5, if_pos c9, if_pos c10]; omega)
            have e14 : @Eq Int (a_book s m n d) (-4) := by first | rfl | (simp only [a_book, f_book, if_neg c1, if_pos c3, if_pos c5, if_pos c9, if_pos c10]; done) | (simp only [a_book, f_book, if_neg c1, if_pos c3, if_pos c5, if_pos c9, if_pos c10]; done) | (simp only [a_book, f_book, if_neg c1, if_pos c3, if_pos c5, if_pos c9, if_pos c10]; rfl) | (simp only [a_book, f_book, if_neg c1, if_pos c3, if_pos c5, if_pos c9, if_pos c10]; omega)
            exact v_ireturn hG hR dX12_book_63 () (congrArg (fun z => some (vI z)) e14) (by trivial) (fun _ hM => by rw [← e13]; exact hM)
        · skip
          refine v_bipush hG dX12_book_46 (by decide) ?_
          have e15 : s = f_book s m n d := by first | rfl | (simp only [a_book, f_book, if_neg c1, if_pos c3, if_pos c5, if_neg c9]; done) | (simp only [a_book, f_book, if_neg c1, if_pos c3, if_pos c5, if_neg c9]; done) | (simp only [a_book, f_book, if_neg c1, if_pos c3, if_pos c5, if_neg c9]; rfl) | (simp only [a_book, f_book, if_neg c1, if_pos c3, if_pos c5, if_neg c9]; omega)
          have e16 : @Eq Int (a_book s m n d) (-2) := by first | rfl | (simp only [a_book, f_book, if_neg c1, if_pos c3, if_pos c5, if_neg c9]; done) | (simp only [a_book, f_book, if_neg c1, if_pos c3, if_pos c5, if_neg c9]; done) | (simp only [a_book, f_book, if_neg c1, if_pos c3, if_pos c5, if_neg c9]; rfl) | (simp only [a_book, f_book, if_neg c1, if_pos c3, if_pos c5, if_neg c9]; omega)
          exact v_ireturn hG hR dX12_book_48 () (congrArg (fun z => some (vI z)) e16) (by trivial) (fun _ hM => by rw [← e15]; exact hM)
    · skip
      refine v_iconst hG dX12_book_23 ?_
      have e17 : s = f_book s m n d := by first | rfl | (simp only [a_book, f_book, if_neg c1, if_neg c3]; done) | (simp only [a_book, f_book, if_neg c1, if_neg c3]; done) | (simp only [a_book, f_book, if_neg c1, if_neg c3]; rfl) | (simp only [a_book, f_book, if_neg c1, if_neg c3]; omega)
      have e18 : @Eq Int (a_book s m n d) (-1) := by first | rfl | (simp only [a_book, f_book, if_neg c1, if_neg c3]; done) | (simp only [a_book, f_book, if_neg c1, if_neg c3]; done) | (simp only [a_book, f_book, if_neg c1, if_neg c3]; rfl) | (simp only [a_book, f_book, if_neg c1, if_neg c3]; omega)
      exact v_ireturn hG hR dX12_book_24 () (congrArg (fun z => some (vI z)) e18) (by trivial) (fun _ hM => by rw [← e17]; exact hM)
  · skip
    refine v_aload_n hG dX12_book_5 rfl 0 rfl ?_
    refine mg_s hG dX12_book_6 ?_
    refine v_bipush hG dX12_book_9 (by decide) ?_
    refine v_iconst hG dX12_book_11 ?_
    refine ms_s hG dX12_book_12 (by omega) ?_
    refine v_iconst hG dX12_book_13 ?_
    have e19 : sU s 47 0 = f_book s m n d := by first | rfl | (simp only [a_book, f_book, if_pos c1]; done) | (simp only [a_book, f_book, if_pos c1]; done) | (simp only [a_book, f_book, if_pos c1]; rfl) | (simp only [a_book, f_book, if_pos c1]; omega)
    have e20 : @Eq Int (a_book s m n d) (0) := by first | rfl | (simp only [a_book, f_book, if_pos c1]; done) | (simp only [a_book, f_book, if_pos c1]; done) | (simp only [a_book, f_book, if_pos c1]; rfl) | (simp only [a_book, f_book, if_pos c1]; omega)
    exact v_ireturn hG hR dX12_book_14 () (congrArg (fun z => some (vI z)) e20) (by trivial) (fun _ hM => by rw [← e19]; exact hM)
set_option maxHeartbeats 4000000 in
set_option maxRecDepth 100000 in
theorem k_looked (l : Launch) (D : Dx) (A : Nat → Prop) (a : Nat → Nat) (s im fr bY tr ln bl bo g lg : Int → Int) (hN : NM s) (hM : GM s) (hP : PL s) (hBK : BK s) : CT l D A yX12_looked cX12_looked 2 (some .int) { frames := 4, cells := 0, slots := 0, locals := 91 } [.ref (a 0)] (MW D A a s im fr bY tr ln bl bo g lg) (fun _ : Unit => some (vI (a_looked s))) (fun _ => True) (fun _ => MW D A a s im fr bY tr ln bl bo g lg) := by
  refine ct_of (lo0 := [(0, .ref (a 0))]) (by decide) (Nat.le_of_ble_eq_true rfl) rfl ?_
  intro G hG hR
  have hN9 : 0 ≤ s 43 ∧ s 43 ≤ 8 := hN
  have hS1 := hBK.1
  refine v_iconst hG dX12_looked_0 ?_
  refine v_istore_n (lo' := [(1, vI 0), (0, .ref (a 0))]) hG dX12_looked_1 rfl (by decide) rfl ?_
  refine v_lo [1, 0] (lo' := [(0, .ref (a 0)), (1, vI 0)]) rfl ?_
  have L2 : ∀ mz : Nat, ∀ (k : Nat), ((k : Int) ≤ s 47) → (leastM (looF s) k = -1) → (s 47 - (k : Int)).toNat = mz → ∀ x1 : Int, x1 = ((k : Int)) → V G 0 0 (MW D A a s im fr bY tr ln bl bo g lg) 2 [(0, .ref (a 0)), (1, vI x1)] [] := by
    intro dL2
    induction dL2 using Nat.strongRecOn with
    | ind dL2 ihL2 =>
      intro k h3 h4 h5
      intro x1 hx1
      subst hx1
      refine v_iload_n hG dX12_looked_2 rfl 1 rfl ?_
      refine v_aload_n hG dX12_looked_3 rfl 0 rfl ?_
      refine mg_s hG dX12_looked_4 ?_
      refine v_bipush hG dX12_looked_7 (by decide) ?_
      refine ma_s (z := s 47) hG dX12_looked_9 (by omega) rfl ?_
      refine v_icmp_ge (tgt := 58) hG dX12_looked_10 (by decide) (by omega) (by omega) (fun c6 => ?_) (fun c6 => ?_)
      · skip
        refine v_bipush hG dX12_looked_58 (by decide) ?_
        have e7 : @Eq Int (a_looked s) (-5) := by exact pos_n (by assumption) (by omega)
        exact v_ireturn hG hR dX12_looked_60 () (congrArg (fun z => some (vI z)) e7) (by trivial) (fun _ hM => hM)
      · skip
        have hbk := hBK.2 k (by omega) (by omega)
        refine v_aload_n hG dX12_looked_13 rfl 0 rfl ?_
        refine v_aload_n hG dX12_looked_14 rfl 0 rfl ?_
        refine mg_s hG dX12_looked_15 ?_
        refine v_sipush hG dX12_looked_18 (by decide) ?_
        refine v_iload_n hG dX12_looked_21 rfl 1 rfl ?_
        refine v_iadd hG dX12_looked_22 ?_
        refine ma_s (z := s (134 + (k : Int))) hG dX12_looked_23 (by omega) rfl ?_
        refine v_aload_n hG dX12_looked_24 rfl 0 rfl ?_
        refine mg_s hG dX12_looked_25 ?_
        refine v_sipush hG dX12_looked_28 (by decide) ?_
        refine v_iload_n hG dX12_looked_31 rfl 1 rfl ?_
        refine v_iadd hG dX12_looked_32 ?_
        refine ma_s (z := s (142 + (k : Int))) hG dX12_looked_33 (by omega) rfl ?_
        refine v_callV (k1' := 0) (k2' := 0) hG dX12_looked_34 zc_X12_darkBy ⟨zl_X12_147, zi_X12_darkBy, zs_X12_darkBy⟩ (fun l => k_darkBy l D A a s im fr bY tr ln bl bo g lg (s (134 + (k : Int))) (s (142 + (k : Int))) (by omega) (by first | assumption | (exact hM _ (by omega) (by omega))) (by assumption) (by omega)) rfl mw_recv (fun _ h => h) ⟨by decide, by decide⟩ rfl rfl ⟨by decide, by decide⟩ (rest := []) rfl (Nat.le_of_ble_eq_true rfl) (fun u8 => [vI (q_dk s (s (134 + (k : Int))) (s (142 + (k : Int))))]) (fun _ => rfl) (fun u8 hu8 => ?_)
        have fu8 : 0 ≤ q_dk s (s (134 + (k : Int))) (s (142 + (k : Int))) ∧ q_dk s (s (134 + (k : Int))) (s (142 + (k : Int))) ≤ 30 := hu8
        refine v_aload_n hG dX12_looked_37 rfl 0 rfl ?_
        refine mg_s hG dX12_looked_38 ?_
        refine v_sipush hG dX12_looked_41 (by decide) ?_
        refine v_iload_n hG dX12_looked_44 rfl 1 rfl ?_
        refine v_iadd hG dX12_looked_45 ?_
        refine ma_s (z := s (150 + (k : Int))) hG dX12_looked_46 (by omega) rfl ?_
        refine v_icmp_eq (tgt := 52) hG dX12_looked_47 (by decide) (by omega) (by omega) (fun c9 => ?_) (fun c9 => ?_)
        · skip
          refine v_iinc (lo' := [(1, vI ((k : Int) + 1)), (0, .ref (a 0))]) hG dX12_looked_52 1 rfl (by decide) rfl ?_
          refine v_goto (tgt := 2) hG dX12_looked_55 (by decide) ?_
          refine v_lo [1, 0] (lo' := [(0, .ref (a 0)), (1, vI ((k : Int) + 1))]) rfl ?_
          exact ihL2 _ (by omega) (k + 1) (by omega) (by exact leastM_stay (by assumption) (looF_f (by assumption))) rfl _ (by first | omega | rfl | (simp [c6, c9]; done))
        · skip
          refine v_iload_n hG dX12_looked_50 rfl 1 rfl ?_
          have e10 : @Eq Int (a_looked s) ((k : Int)) := by exact pos_5 (by assumption) (looF_t (by assumption)) (by omega)
          exact v_ireturn hG hR dX12_looked_51 () (congrArg (fun z => some (vI z)) e10) (by trivial) (fun _ hM => hM)
  exact L2 _ 0 (by omega) (by rfl) rfl _ (by first | omega | rfl | (simp []; done))
