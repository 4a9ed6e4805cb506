/-! THE CLASS: what is told by hand -/
theorem dn_cnt {f : Nat → Bool} : ∀ k : Nat, k ≤ 1000 → (dnF f k).1 = cntB f 1000 - cntB f (1000 - k)
  | 0, _ => by rw [Nat.sub_zero, Int.sub_self]; rfl
  | k + 1, hk => by
    have ih := dn_cnt (f := f) k (by omega)
    have e : cntB f (1000 - k) = cntB f (1000 - (k + 1)) + (if f (999 - k) then 1 else 0) := by
      rw [show 1000 - k = (999 - k) + 1 by omega, show 1000 - (k + 1) = 999 - k by omega]
      rfl
    show (if f (999 - k) then ((dnF f k).1 + 1, ((999 - k : Nat) : Int)) else dnF f k).1 = _
    by_cases h : f (999 - k) = true
    · rw [if_pos h] at e ⊢
      show (dnF f k).1 + 1 = _
      omega
    · rw [if_neg h] at e ⊢
      omega
theorem dn_least {f : Nat → Bool} : ∀ k : Nat, k ≤ 1000 → ((dnF f k).2 = -5 ∧ ∀ n, 1000 - k ≤ n → n < 1000 → f n = false) ∨ (∃ n, 1000 - k ≤ n ∧ n < 1000 ∧ f n = true ∧ (dnF f k).2 = (n : Int) ∧ ∀ j, 1000 - k ≤ j → j < n → f j = false)
  | 0, _ => Or.inl ⟨rfl, fun n h1 h2 => by omega⟩
  | k + 1, hk => by
    have ih := dn_least (f := f) k (by omega)
    have e2 : dnF f (k + 1) = if f (999 - k) then ((dnF f k).1 + 1, ((999 - k : Nat) : Int)) else dnF f k := rfl
    by_cases h : f (999 - k) = true
    · refine Or.inr ⟨999 - k, by omega, by omega, h, ?_, fun j h1 h2 => by omega⟩
      rw [e2, if_pos h]
    · rw [e2, if_neg h]
      have hf : f (999 - k) = false := by cases hq : f (999 - k); rfl; exact absurd hq h
      rcases ih with ⟨i1, i2⟩ | ⟨n, i1, i2, i3, i4, i5⟩
      · refine Or.inl ⟨i1, fun n h1 h2 => ?_⟩
        by_cases e : n = 999 - k
        · rw [e]; exact hf
        · exact i2 n (by omega) h2
      · refine Or.inr ⟨n, by omega, i2, i3, i4, fun j h1 h2 => ?_⟩
        by_cases e : j = 999 - k
        · rw [e]; exact hf
        · exact i5 j (by omega) h2
theorem pair_eq {p : Int × Int} {a b : Int} (h1 : p.1 = a) (h2 : p.2 = b) : p = (a, b) := by
  subst h1; subst h2; rfl
theorem leastM_hit2 {f : Nat → Bool} {k n : Nat} {x : Int} (h : leastM f k = -1) (h2 : f k = true) (hn : k < n) (hx : x = k) : x = if leastM f n = -1 then -5 else leastM f n := by
  rw [leastM_hit h h2 hn, if_neg (by omega), hx]
theorem dn_all {f : Nat → Bool} : dnF f 1000 = (cntB f 1000, if leastM f 1000 = -1 then -5 else leastM f 1000) := by
  have h1 := dn_cnt (f := f) 1000 (Nat.le_refl _)
  have h2 := dn_least (f := f) 1000 (Nat.le_refl _)
  have e1 : (dnF f 1000).1 = cntB f 1000 := by
    have e0 : cntB f 0 = 0 := rfl
    rw [h1, Nat.sub_self, e0, Int.sub_zero]
  have e2 : (dnF f 1000).2 = if leastM f 1000 = -1 then -5 else leastM f 1000 := by
    rcases h2 with ⟨i1, i2⟩ | ⟨n, i1, i2, i3, i4, i5⟩
    · rw [i1, if_pos (leastM_none.mpr (fun k hk => i2 k (by omega) hk))]
    · have hn : leastM f n = -1 := leastM_none.mpr (fun j hj => i5 j (by omega) hj)
      exact leastM_hit2 hn i3 i2 i4
  exact pair_eq e1 e2
/-- going up: how many, the first (-5: none) -/
def upL (f : Nat → Bool) (k : Nat) : Int := if leastM f k = -1 then -5 else leastM f k
theorem up_0 {f : Nat → Bool} {k : Nat} (h : cntB f k = 0) : leastM f k = -1 := by
  refine leastM_none.mpr (fun j hj => ?_)
  have key : ∀ n : Nat, cntB f n = 0 → ∀ j, j < n → f j = false := by
    intro n
    induction n with
    | zero => intro _ j hj; omega
    | succ n ih =>
      intro hc j hj
      have hr := cntB_rng f n
      have e : cntB f (n + 1) = cntB f n + (if f n then 1 else 0) := rfl
      cases hfn : f n
      · rw [hfn] at e
        simp at e
        by_cases ej : j = n
        · rw [ej]; exact hfn
        · exact ih (by omega) j (by omega)
      · rw [hfn] at e
        simp at e
        omega
  exact key k h j hj
theorem up_n {f : Nat → Bool} {k : Nat} (h : ¬ cntB f k = 0) : ¬ leastM f k = -1 := by
  intro q
  apply h
  have hz := leastM_none.mp q
  have key : ∀ n : Nat, n ≤ k → cntB f n = 0 := by
    intro n
    induction n with
    | zero => intro _; rfl
    | succ n ih =>
      intro hn
      show cntB f n + (if f n then 1 else 0) = 0
      rw [ih (by omega), hz n (by omega)]
      rfl
  exact key k (Nat.le_refl _)
theorem upL_hit {f : Nat → Bool} {k : Nat} (h : cntB f k = 0) (h2 : f k = true) : (k : Int) = upL f (k + 1) := by
  unfold upL
  rw [leastM_hit (up_0 h) h2 (Nat.lt_succ_self k), if_neg (by omega)]
theorem upL_keep {f : Nat → Bool} {k : Nat} (h : ¬ cntB f k = 0) : upL f k = upL f (k + 1) := by
  have h1 := up_n h
  have h2 := leastM_rng f k
  unfold upL
  rw [leastM_up (f := f) (k := k) (n := k + 1) (by omega) (Nat.le_succ k)]
theorem upL_no {f : Nat → Bool} {k : Nat} (h2 : f k = false) : upL f k = upL f (k + 1) := by
  by_cases h : cntB f k = 0
  · unfold upL
    rw [leastM_stay (up_0 h) h2, up_0 h]
  · exact upL_keep h
set_option maxHeartbeats 4000000 in
set_option maxRecDepth 100000 in
theorem kc11_feed (l : Launch) (D : Dx) (A : Nat → Prop) (ad : Nat → Nat) (K : Int → Int) (S Q qa : Nat → Int → Int) (tp : Nat → Nat) (s bo e uc lr nx : Int → Int) (x : Int) (hrx : -2147483648 ≤ x ∧ x < 2147483648) (hTB : TB s) : CT l D A yX11_feed cX11_feed 2 (some .int) { frames := 2, cells := 0, slots := 0, locals := 45 } [.ref (ad 0), vI x] (CW D A ad K (uS S 0 s) Q qa tp bo e uc lr nx) (fun _ : Unit => some (vI (a_feed s x))) (fun _ => True) (fun _ => CW D A ad K (uS S 0 (f_feed s x)) Q qa tp bo e uc lr nx) := by
  refine ct_of (lo0 := [(0, .ref (ad 0)), (1, vI x)]) (by decide) (Nat.le_of_ble_eq_true rfl) rfl ?_
  intro G hG hR
  obtain ⟨htb1, htb2, htb3, htb4⟩ := id hTB
  refine v_iload_n hG dX11_feed_0 rfl 1 rfl ?_
  refine v_iconst hG dX11_feed_1 ?_
  refine v_bipush hG dX11_feed_2 (by decide) ?_
  refine v_callS (k1' := 0) (k2' := 0) hG dX11_feed_4 zc_X11_within ⟨zl_X11_50, zt_X11_within⟩ (fun l => kc11_within l D A (CW D A ad K (uS S 0 s) Q qa tp bo e uc lr nx) x 0 127 (by omega) (by omega) (by omega)) rfl (fun _ h => h) ⟨by decide, by decide⟩ rfl rfl ⟨by decide, by decide⟩ (rest := []) rfl (Nat.le_of_ble_eq_true rfl) (fun u1 => [vI (bi (0 ≤ x ∧ x ≤ 127))]) (fun _ => rfl) (fun u1 hu1 => ?_)
  refine v_ifb_ne (p := 0 ≤ x ∧ x ≤ 127) (tgt := 13) hG dX11_feed_7 (by decide) (fun c2 => ?_) (fun c2 => ?_)
  · skip
    refine v_aload_n hG dX11_feed_13 rfl 0 rfl ?_
    refine cg11 hG dX11_feed_14 zf_X11_17 (k := 0) (by decide) (v := .ref (kB ad 0)) rfl ?_
    refine cg0 (by decide) hG dX11_feed_17 zf_X11_54 (k := 7) (by decide) (v := .ref (kT ad 0 0)) rfl ?_
    refine v_callV (k1' := 0) (k2' := 0) hG dX11_feed_20 zc_X7_isFull ⟨zl_X11_58, zi_X7_isFull, zs_X7_isFull⟩ (fun l => kt0_isFull l D A ad K S Q qa tp s bo e uc lr nx 0 (by decide) (by assumption)) rfl (cR7 (by decide) (t := 0) (by decide)) (fun _ h => h) ⟨by decide, by decide⟩ rfl rfl ⟨by decide, by decide⟩ (rest := []) rfl (Nat.le_of_ble_eq_true rfl) (fun u3 => [vI (bi (100 < (s 48 + 1) * 1))]) (fun _ => rfl) (fun u3 hu3 => ?_)
    refine v_ifb_eq (p := 100 < (s 48 + 1) * 1) (tgt := 31) hG dX11_feed_23 (by decide) (fun c4 => ?_) (fun c4 => ?_)
    · skip
      refine v_aload_n hG dX11_feed_31 rfl 0 rfl ?_
      refine cg11 hG dX11_feed_32 zf_X11_17 (k := 0) (by decide) (v := .ref (kB ad 0)) rfl ?_
      refine cg0 (by decide) hG dX11_feed_35 zf_X11_54 (k := 7) (by decide) (v := .ref (kT ad 0 0)) rfl ?_
      refine v_iload_n hG dX11_feed_38 rfl 1 rfl ?_
      refine v_iconst hG dX11_feed_39 ?_
      refine v_iconst hG dX11_feed_40 ?_
      refine v_callV (k1' := 0) (k2' := 0) hG dX11_feed_41 zc_X7_add ⟨zl_X11_64, zi_X7_add, zs_X7_add⟩ (fun l => kt0_add l D A ad K S Q qa tp s bo e uc lr nx 0 (by decide) x 0 0 (by assumption) (by omega)) rfl (cR7 (by decide) (t := 0) (by decide)) (fun _ h => h) ⟨by decide, by decide⟩ rfl rfl ⟨by decide, by decide⟩ (rest := []) rfl (Nat.le_of_ble_eq_true rfl) (fun u5 => [vI (s 48 + 1)]) (fun _ => rfl) (fun u5 hu5 => ?_)
      have e6 : sU (sU s (158 + s 48) x) 48 (s 48 + 1) = f_feed s x := by first | rfl | (unfold f_feed; (repeat' split) <;> first | rfl | omega | (exfalso; omega) | (congr 1; omega))
      have e7 : @Eq Int (a_feed s x) (s 48 + 1) := by first | rfl | (unfold a_feed; (repeat' split) <;> first | rfl | omega | (exfalso; omega) | (congr 1; omega))
      exact v_ireturn hG hR dX11_feed_44 () (congrArg (fun z => some (vI z)) e7) (by trivial) (fun _ hM => by rw [← e6]; exact hM)
    · skip
      refine v_bipush hG dX11_feed_26 (by decide) ?_
      refine v_goto (tgt := 44) hG dX11_feed_28 (by decide) ?_
      have e8 : s = f_feed s x := by first | rfl | (unfold f_feed; (repeat' split) <;> first | rfl | omega | (exfalso; omega) | (congr 1; omega))
      have e9 : @Eq Int (a_feed s x) (-4) := by first | rfl | (unfold a_feed; (repeat' split) <;> first | rfl | omega | (exfalso; omega) | (congr 1; omega))
      exact v_ireturn hG hR dX11_feed_44 () (congrArg (fun z => some (vI z)) e9) (by trivial) (fun _ hM => by rw [← e8]; exact hM)
  · skip
    refine v_bipush hG dX11_feed_10 (by decide) ?_
    have e10 : s = f_feed s x := by first | rfl | (unfold f_feed; (repeat' split) <;> first | rfl | omega | (exfalso; omega) | (congr 1; omega))
    have e11 : @Eq Int (a_feed s x) (-2) := by first | rfl | (unfold a_feed; (repeat' split) <;> first | rfl | omega | (exfalso; omega) | (congr 1; omega))
    exact v_ireturn hG hR dX11_feed_12 () (congrArg (fun z => some (vI z)) e11) (by trivial) (fun _ hM => by rw [← e10]; exact hM)
set_option maxHeartbeats 4000000 in
set_option maxRecDepth 100000 in
theorem kc11_see (l : Launch) (D : Dx) (A : Nat → Prop) (ad : Nat → Nat) (K : Int → Int) (S Q qa : Nat → Int → Int) (tp : Nat → Nat) (s bo e uc lr nx : Int → Int) (m : Int) (d : Int) (hrm : -2147483648 ≤ m ∧ m < 2147483648) (hrd : -2147483648 ≤ d ∧ d < 2147483648) (hTB : TB s) (hN : NM s) : CT l D A yX11_see cX11_see 3 (some .int) { frames := 2, cells := 0, slots := 0, locals := 45 } [.ref (ad 0), vI m, vI d] (CW D A ad K (uS S 0 s) Q qa tp bo e uc lr nx) (fun _ : Unit => some (vI (a_see s m d))) (fun _ => True) (fun _ => CW D A ad K (uS S 0 (f_see s m d)) Q qa tp bo e uc lr nx) := by
  refine ct_of (lo0 := [(0, .ref (ad 0)), (1, vI m), (2, vI d)]) (by decide) (Nat.le_of_ble_eq_true rfl) rfl ?_
  intro G hG hR
  have hN9 : 0 ≤ s 43 ∧ s 43 ≤ 8 := hN
  obtain ⟨htb1, htb2, htb3, htb4⟩ := id hTB
  refine v_iload_n hG dX11_see_0 rfl 1 rfl ?_
  refine v_iconst hG dX11_see_1 ?_
  refine v_icmp_ne (tgt := 16) hG dX11_see_2 (by decide) (by omega) (by omega) (fun c1 => ?_) (fun c1 => ?_)
  · skip
    refine v_aload_n hG dX11_see_16 rfl 0 rfl ?_
    refine cg11 hG dX11_see_17 zf_X11_17 (k := 0) (by decide) (v := .ref (kB ad 0)) rfl ?_
    refine v_iload_n hG dX11_see_20 rfl 1 rfl ?_
    by_cases c2 : 0 ≤ m ∧ m ≤ s 43 - 1
    · skip
      refine v_callV (k1' := 0) (k2' := 0) hG dX11_see_21 zc_X0_markAt ⟨zl_X11_99, zi_X0_markAt, zs_X0_markAt⟩ (fun l => kc0_markAt_in l D A ad K S Q qa tp s bo e uc lr nx 0 (by decide) m (by assumption) (by first | exact c2 | (simp only [sU_at]; omega) | omega)) rfl (cR0 (by decide)) (fun _ h => h) ⟨by decide, by decide⟩ rfl rfl ⟨by decide, by decide⟩ (rest := []) rfl (Nat.le_of_ble_eq_true rfl) (fun u3 => [.ref (kM ad 0 m)]) (fun _ => rfl) (fun u3 hu3 => ?_)
      refine v_ifnonnull (tgt := 29) hG dX11_see_24 (by decide) ?_
      refine v_iload_n hG dX11_see_29 rfl 2 rfl ?_
      refine v_iconst hG dX11_see_30 ?_
      refine v_bipush hG dX11_see_31 (by decide) ?_
      refine v_callS (k1' := 0) (k2' := 0) hG dX11_see_33 zc_X11_within ⟨zl_X11_50, zt_X11_within⟩ (fun l => kc11_within l D A (CW D A ad K (uS S 0 s) Q qa tp bo e uc lr nx) d 0 30 (by omega) (by omega) (by omega)) rfl (fun _ h => h) ⟨by decide, by decide⟩ rfl rfl ⟨by decide, by decide⟩ (rest := []) rfl (Nat.le_of_ble_eq_true rfl) (fun u4 => [vI (bi (0 ≤ d ∧ d ≤ 30))]) (fun _ => rfl) (fun u4 hu4 => ?_)
      refine v_ifb_ne (p := 0 ≤ d ∧ d ≤ 30) (tgt := 42) hG dX11_see_36 (by decide) (fun c5 => ?_) (fun c5 => ?_)
      · skip
        refine v_aload_n hG dX11_see_42 rfl 0 rfl ?_
        refine cg11 hG dX11_see_43 zf_X11_17 (k := 0) (by decide) (v := .ref (kB ad 0)) rfl ?_
        refine cg0 (by decide) hG dX11_see_46 zf_X11_242 (k := 8) (by decide) (v := .ref (kT ad 0 1)) rfl ?_
        refine v_callV (k1' := 0) (k2' := 0) hG dX11_see_49 zc_X7_isFull ⟨zl_X11_58, zi_X7_isFull, zs_X7_isFull⟩ (fun l => kt1_isFull l D A ad K S Q qa tp s bo e uc lr nx 0 (by decide) (by assumption)) rfl (cR7 (by decide) (t := 1) (by decide)) (fun _ h => h) ⟨by decide, by decide⟩ rfl rfl ⟨by decide, by decide⟩ (rest := []) rfl (Nat.le_of_ble_eq_true rfl) (fun u6 => [vI (bi (12 < (s 45 + 1) * 2))]) (fun _ => rfl) (fun u6 hu6 => ?_)
        refine v_ifb_eq (p := 12 < (s 45 + 1) * 2) (tgt := 60) hG dX11_see_52 (by decide) (fun c7 => ?_) (fun c7 => ?_)
        · skip
          refine v_aload_n hG dX11_see_60 rfl 0 rfl ?_
          refine cg11 hG dX11_see_61 zf_X11_17 (k := 0) (by decide) (v := .ref (kB ad 0)) rfl ?_
          refine cg0 (by decide) hG dX11_see_64 zf_X11_242 (k := 8) (by decide) (v := .ref (kT ad 0 1)) rfl ?_
          refine v_iload_n hG dX11_see_67 rfl 1 rfl ?_
          refine v_iload_n hG dX11_see_68 rfl 2 rfl ?_
          refine v_iconst hG dX11_see_69 ?_
          refine v_callV (k1' := 0) (k2' := 0) hG dX11_see_70 zc_X7_add ⟨zl_X11_64, zi_X7_add, zs_X7_add⟩ (fun l => kt1_add l D A ad K S Q qa tp s bo e uc lr nx 0 (by decide) m d 0 (by assumption) (by omega)) rfl (cR7 (by decide) (t := 1) (by decide)) (fun _ h => h) ⟨by decide, by decide⟩ rfl rfl ⟨by decide, by decide⟩ (rest := []) rfl (Nat.le_of_ble_eq_true rfl) (fun u8 => [vI (s 45 + 1)]) (fun _ => rfl) (fun u8 hu8 => ?_)
          have e9 : sU (sU (sU s (106 + s 45) m) (112 + s 45) d) 45 (s 45 + 1) = f_see s m d := by first | rfl | (unfold f_see; (repeat' split) <;> first | rfl | omega | (exfalso; omega) | (congr 1; omega))
          have e10 : @Eq Int (a_see s m d) (s 45 + 1) := by first | rfl | (unfold a_see; (repeat' split) <;> first | rfl | omega | (exfalso; omega) | (congr 1; omega))
          exact v_ireturn hG hR dX11_see_73 () (congrArg (fun z => some (vI z)) e10) (by trivial) (fun _ hM => by rw [← e9]; exact hM)
        · skip
          refine v_bipush hG dX11_see_55 (by decide) ?_
          refine v_goto (tgt := 73) hG dX11_see_57 (by decide) ?_
          have e11 : s = f_see s m d := by first | rfl | (unfold f_see; (repeat' split) <;> first | rfl | omega | (exfalso; omega) | (congr 1; omega))
          have e12 : @Eq Int (a_see s m d) (-4) := by first | rfl | (unfold a_see; (repeat' split) <;> first | rfl | omega | (exfalso; omega) | (congr 1; omega))
          exact v_ireturn hG hR dX11_see_73 () (congrArg (fun z => some (vI z)) e12) (by trivial) (fun _ hM => by rw [← e11]; exact hM)
      · skip
        refine v_bipush hG dX11_see_39 (by decide) ?_
        have e13 : s = f_see s m d := by first | rfl | (unfold f_see; (repeat' split) <;> first | rfl | omega | (exfalso; omega) | (congr 1; omega))
        have e14 : @Eq Int (a_see s m d) (-2) := by first | rfl | (unfold a_see; (repeat' split) <;> first | rfl | omega | (exfalso; omega) | (congr 1; omega))
        exact v_ireturn hG hR dX11_see_41 () (congrArg (fun z => some (vI z)) e14) (by trivial) (fun _ hM => by rw [← e13]; exact hM)
    · skip
      refine v_callV (k1' := 0) (k2' := 0) hG dX11_see_21 zc_X0_markAt ⟨zl_X11_99, zi_X0_markAt, zs_X0_markAt⟩ (fun l => kc0_markAt_out l D A ad K S Q qa tp s bo e uc lr nx 0 (by decide) m (by assumption) (by omega) (by first | exact c2 | (simp only [sU_at]; omega) | omega)) rfl (cR0 (by decide)) (fun _ h => h) ⟨by decide, by decide⟩ rfl rfl ⟨by decide, by decide⟩ (rest := []) rfl (Nat.le_of_ble_eq_true rfl) (fun u15 => [.null]) (fun _ => rfl) (fun u15 hu15 => ?_)
      refine v_ifnonnullN hG dX11_see_24 ?_
      refine v_iconst hG dX11_see_27 ?_
      have e16 : s = f_see s m d := by first | rfl | (unfold f_see; (repeat' split) <;> first | rfl | omega | (exfalso; omega) | (congr 1; omega))
      have e17 : @Eq Int (a_see s m d) (-1) := by first | rfl | (unfold a_see; (repeat' split) <;> first | rfl | omega | (exfalso; omega) | (congr 1; omega))
      exact v_ireturn hG hR dX11_see_28 () (congrArg (fun z => some (vI z)) e17) (by trivial) (fun _ hM => by rw [← e16]; exact hM)
  · skip
    refine v_aload_n hG dX11_see_5 rfl 0 rfl ?_
    refine cg11 hG dX11_see_6 zf_X11_17 (k := 0) (by decide) (v := .ref (kB ad 0)) rfl ?_
    refine cg0 (by decide) hG dX11_see_9 zf_X11_242 (k := 8) (by decide) (v := .ref (kT ad 0 1)) rfl ?_
    refine v_callV (k1' := 0) (k2' := 0) hG dX11_see_12 zc_X7_empty ⟨zl_X11_82, zi_X7_empty, zs_X7_empty⟩ (fun l => kt1_empty l D A ad K S Q qa tp s bo e uc lr nx 0 (by decide) (by assumption)) rfl (cR7 (by decide) (t := 1) (by decide)) (fun _ h => h) ⟨by decide, by decide⟩ rfl rfl ⟨by decide, by decide⟩ (rest := []) rfl (Nat.le_of_ble_eq_true rfl) (fun u18 => [vI 0]) (fun _ => rfl) (fun u18 hu18 => ?_)
    have e19 : sU s 45 0 = f_see s m d := by first | rfl | (unfold f_see; (repeat' split) <;> first | rfl | omega | (exfalso; omega) | (congr 1; omega))
    have e20 : @Eq Int (a_see s m d) (0) := by first | rfl | (unfold a_see; (repeat' split) <;> first | rfl | omega | (exfalso; omega) | (congr 1; omega))
    exact v_ireturn hG hR dX11_see_15 () (congrArg (fun z => some (vI z)) e20) (by trivial) (fun _ hM => by rw [← e19]; exact hM)
set_option maxHeartbeats 4000000 in
set_option maxRecDepth 100000 in
theorem kc11_plan (l : Launch) (D : Dx) (A : Nat → Prop) (ad : Nat → Nat) (K : Int → Int) (S Q qa : Nat → Int → Int) (tp : Nat → Nat) (s bo e uc lr nx : Int → Int) (w : Int) (m : Int) (hrw : -2147483648 ≤ w ∧ w < 2147483648) (hrm : -2147483648 ≤ m ∧ m < 2147483648) (hTB : TB s) (hN : NM s) : CT l D A yX11_plan cX11_plan 3 (some .int) { frames := 2, cells := 0, slots := 0, locals := 45 } [.ref (ad 0), vI w, vI m] (CW D A ad K (uS S 0 s) Q qa tp bo e uc lr nx) (fun _ : Unit => some (vI (a_plan s w m))) (fun _ => True) (fun _ => CW D A ad K (uS S 0 (f_plan s w m)) Q qa tp bo e uc lr nx) := by
  refine ct_of (lo0 := [(0, .ref (ad 0)), (1, vI w), (2, vI m)]) (by decide) (Nat.le_of_ble_eq_true rfl) rfl ?_
  intro G hG hR
  have hN9 : 0 ≤ s 43 ∧ s 43 ≤ 8 := hN
  obtain ⟨htb1, htb2, htb3, htb4⟩ := id hTB
  refine v_iload_n hG dX11_plan_0 rfl 1 rfl ?_
  refine v_iconst hG dX11_plan_1 ?_
  refine v_icmp_ne (tgt := 16) hG dX11_plan_2 (by decide) (by omega) (by omega) (fun c1 => ?_) (fun c1 => ?_)
  · skip
    refine v_iload_n hG dX11_plan_16 rfl 1 rfl ?_
    refine v_iconst hG dX11_plan_17 ?_
    refine v_iconst hG dX11_plan_18 ?_
    refine v_callS (k1' := 0) (k2' := 0) hG dX11_plan_19 zc_X11_within ⟨zl_X11_50, zt_X11_within⟩ (fun l => kc11_within l D A (CW D A ad K (uS S 0 s) Q qa tp bo e uc lr nx) w 0 4 (by omega) (by omega) (by omega)) rfl (fun _ h => h) ⟨by decide, by decide⟩ rfl rfl ⟨by decide, by decide⟩ (rest := []) rfl (Nat.le_of_ble_eq_true rfl) (fun u2 => [vI (bi (0 ≤ w ∧ w ≤ 4))]) (fun _ => rfl) (fun u2 hu2 => ?_)
    refine v_ifb_eq (p := 0 ≤ w ∧ w ≤ 4) (tgt := 41) hG dX11_plan_22 (by decide) (fun c3 => ?_) (fun c3 => ?_)
    · skip
      refine v_iconst hG dX11_plan_41 ?_
      have e4 : s = f_plan s w m := by first | rfl | (unfold f_plan; (repeat' split) <;> first | rfl | omega | (exfalso; omega) | (congr 1; omega))
      have e5 : @Eq Int (a_plan s w m) (-1) := by first | rfl | (unfold a_plan; (repeat' split) <;> first | rfl | omega | (exfalso; omega) | (congr 1; omega))
      exact v_ireturn hG hR dX11_plan_42 () (congrArg (fun z => some (vI z)) e5) (by trivial) (fun _ hM => by rw [← e4]; exact hM)
    · skip
      refine v_iload_n hG dX11_plan_25 rfl 1 rfl ?_
      refine v_iconst hG dX11_plan_26 ?_
      refine v_icmp_gt (tgt := 43) hG dX11_plan_27 (by decide) (by omega) (by omega) (fun c6 => ?_) (fun c6 => ?_)
      · skip
        refine v_aload_n hG dX11_plan_43 rfl 0 rfl ?_
        refine cg11 hG dX11_plan_44 zf_X11_17 (k := 0) (by decide) (v := .ref (kB ad 0)) rfl ?_
        refine cg0 (by decide) hG dX11_plan_47 zf_X11_254 (k := 9) (by decide) (v := .ref (kT ad 0 2)) rfl ?_
        refine v_callV (k1' := 0) (k2' := 0) hG dX11_plan_50 zc_X7_isFull ⟨zl_X11_58, zi_X7_isFull, zs_X7_isFull⟩ (fun l => kt2_isFull l D A ad K S Q qa tp s bo e uc lr nx 0 (by decide) (by assumption)) rfl (cR7 (by decide) (t := 2) (by decide)) (fun _ h => h) ⟨by decide, by decide⟩ rfl rfl ⟨by decide, by decide⟩ (rest := []) rfl (Nat.le_of_ble_eq_true rfl) (fun u7 => [vI (bi (16 < (s 46 + 1) * 2))]) (fun _ => rfl) (fun u7 hu7 => ?_)
        refine v_ifb_eq (p := 16 < (s 46 + 1) * 2) (tgt := 61) hG dX11_plan_53 (by decide) (fun c8 => ?_) (fun c8 => ?_)
        · skip
          refine v_aload_n hG dX11_plan_61 rfl 0 rfl ?_
          refine cg11 hG dX11_plan_62 zf_X11_17 (k := 0) (by decide) (v := .ref (kB ad 0)) rfl ?_
          refine cg0 (by decide) hG dX11_plan_65 zf_X11_254 (k := 9) (by decide) (v := .ref (kT ad 0 2)) rfl ?_
          refine v_iload_n hG dX11_plan_68 rfl 1 rfl ?_
          refine v_iload_n hG dX11_plan_69 rfl 2 rfl ?_
          refine v_iconst hG dX11_plan_70 ?_
          refine v_callV (k1' := 0) (k2' := 0) hG dX11_plan_71 zc_X7_add ⟨zl_X11_64, zi_X7_add, zs_X7_add⟩ (fun l => kt2_add l D A ad K S Q qa tp s bo e uc lr nx 0 (by decide) w m 0 (by assumption) (by omega)) rfl (cR7 (by decide) (t := 2) (by decide)) (fun _ h => h) ⟨by decide, by decide⟩ rfl rfl ⟨by decide, by decide⟩ (rest := []) rfl (Nat.le_of_ble_eq_true rfl) (fun u9 => [vI (s 46 + 1)]) (fun _ => rfl) (fun u9 hu9 => ?_)
          have e10 : sU (sU (sU s (118 + s 46) w) (126 + s 46) m) 46 (s 46 + 1) = f_plan s w m := by first | rfl | (unfold f_plan; (repeat' split) <;> first | rfl | omega | (exfalso; omega) | (congr 1; omega))
          have e11 : @Eq Int (a_plan s w m) (s 46 + 1) := by first | rfl | (unfold a_plan; (repeat' split) <;> first | rfl | omega | (exfalso; omega) | (congr 1; omega))
          exact v_ireturn hG hR dX11_plan_74 () (congrArg (fun z => some (vI z)) e11) (by trivial) (fun _ hM => by rw [← e10]; exact hM)
        · skip
          refine v_bipush hG dX11_plan_56 (by decide) ?_
          refine v_goto (tgt := 74) hG dX11_plan_58 (by decide) ?_
          have e12 : s = f_plan s w m := by first | rfl | (unfold f_plan; (repeat' split) <;> first | rfl | omega | (exfalso; omega) | (congr 1; omega))
          have e13 : @Eq Int (a_plan s w m) (-4) := by first | rfl | (unfold a_plan; (repeat' split) <;> first | rfl | omega | (exfalso; omega) | (congr 1; omega))
          exact v_ireturn hG hR dX11_plan_74 () (congrArg (fun z => some (vI z)) e13) (by trivial) (fun _ hM => by rw [← e12]; exact hM)
      · skip
        refine v_aload_n hG dX11_plan_30 rfl 0 rfl ?_
        refine cg11 hG dX11_plan_31 zf_X11_17 (k := 0) (by decide) (v := .ref (kB ad 0)) rfl ?_
        refine v_iload_n hG dX11_plan_34 rfl 2 rfl ?_
        by_cases c14 : 0 ≤ m ∧ m ≤ s 43 - 1
        · skip
          refine v_callV (k1' := 0) (k2' := 0) hG dX11_plan_35 zc_X0_markAt ⟨zl_X11_99, zi_X0_markAt, zs_X0_markAt⟩ (fun l => kc0_markAt_in l D A ad K S Q qa tp s bo e uc lr nx 0 (by decide) m (by assumption) (by first | exact c14 | (simp only [sU_at]; omega) | omega)) rfl (cR0 (by decide)) (fun _ h => h) ⟨by decide, by decide⟩ rfl rfl ⟨by decide, by decide⟩ (rest := []) rfl (Nat.le_of_ble_eq_true rfl) (fun u15 => [.ref (kM ad 0 m)]) (fun _ => rfl) (fun u15 hu15 => ?_)
          refine v_ifnonnull (tgt := 43) hG dX11_plan_38 (by decide) ?_
          refine v_aload_n hG dX11_plan_43 rfl 0 rfl ?_
          refine cg11 hG dX11_plan_44 zf_X11_17 (k := 0) (by decide) (v := .ref (kB ad 0)) rfl ?_
          refine cg0 (by decide) hG dX11_plan_47 zf_X11_254 (k := 9) (by decide) (v := .ref (kT ad 0 2)) rfl ?_
          refine v_callV (k1' := 0) (k2' := 0) hG dX11_plan_50 zc_X7_isFull ⟨zl_X11_58, zi_X7_isFull, zs_X7_isFull⟩ (fun l => kt2_isFull l D A ad K S Q qa tp s bo e uc lr nx 0 (by decide) (by assumption)) rfl (cR7 (by decide) (t := 2) (by decide)) (fun _ h => h) ⟨by decide, by decide⟩ rfl rfl ⟨by decide, by decide⟩ (rest := []) rfl (Nat.le_of_ble_eq_true rfl) (fun u16 => [vI (bi (16 < (s 46 + 1) * 2))]) (fun _ => rfl) (fun u16 hu16 => ?_)
          refine v_ifb_eq (p := 16 < (s 46 + 1) * 2) (tgt := 61) hG dX11_plan_53 (by decide) (fun c17 => ?_) (fun c17 => ?_)
          · skip
            refine v_aload_n hG dX11_plan_61 rfl 0 rfl ?_
            refine cg11 hG dX11_plan_62 zf_X11_17 (k := 0) (by decide) (v := .ref (kB ad 0)) rfl ?_
            refine cg0 (by decide) hG dX11_plan_65 zf_X11_254 (k := 9) (by decide) (v := .ref (kT ad 0 2)) rfl ?_
            refine v_iload_n hG dX11_plan_68 rfl 1 rfl ?_
            refine v_iload_n hG dX11_plan_69 rfl 2 rfl ?_
            refine v_iconst hG dX11_plan_70 ?_
            refine v_callV (k1' := 0) (k2' := 0) hG dX11_plan_71 zc_X7_add ⟨zl_X11_64, zi_X7_add, zs_X7_add⟩ (fun l => kt2_add l D A ad K S Q qa tp s bo e uc lr nx 0 (by decide) w m 0 (by assumption) (by omega)) rfl (cR7 (by decide) (t := 2) (by decide)) (fun _ h => h) ⟨by decide, by decide⟩ rfl rfl ⟨by decide, by decide⟩ (rest := []) rfl (Nat.le_of_ble_eq_true rfl) (fun u18 => [vI (s 46 + 1)]) (fun _ => rfl) (fun u18 hu18 => ?_)
            have e19 : sU (sU (sU s (118 + s 46) w) (126 + s 46) m) 46 (s 46 + 1) = f_plan s w m := by first | rfl | (unfold f_plan; (repeat' split) <;> first | rfl | omega | (exfalso; omega) | (congr 1; omega))
            have e20 : @Eq Int (a_plan s w m) (s 46 + 1) := by first | rfl | (unfold a_plan; (repeat' split) <;> first | rfl | omega | (exfalso; omega) | (congr 1; omega))
            exact v_ireturn hG hR dX11_plan_74 () (congrArg (fun z => some (vI z)) e20) (by trivial) (fun _ hM => by rw [← e19]; exact hM)
          · skip
            refine v_bipush hG dX11_plan_56 (by decide) ?_
            refine v_goto (tgt := 74) hG dX11_plan_58 (by decide) ?_
            have e21 : s = f_plan s w m := by first | rfl | (unfold f_plan; (repeat' split) <;> first | rfl | omega | (exfalso; omega) | (congr 1; omega))
            have e22 : @Eq Int (a_plan s w m) (-4) := by first | rfl | (unfold a_plan; (repeat' split) <;> first | rfl | omega | (exfalso; omega) | (congr 1; omega))
            exact v_ireturn hG hR dX11_plan_74 () (congrArg (fun z => some (vI z)) e22) (by trivial) (fun _ hM => by rw [← e21]; exact hM)
        · skip
          refine v_callV (k1' := 0) (k2' := 0) hG dX11_plan_35 zc_X0_markAt ⟨zl_X11_99, zi_X0_markAt, zs_X0_markAt⟩ (fun l => kc0_markAt_out l D A ad K S Q qa tp s bo e uc lr nx 0 (by decide) m (by assumption) (by omega) (by first | exact c14 | (simp only [sU_at]; omega) | omega)) rfl (cR0 (by decide)) (fun _ h => h) ⟨by decide, by decide⟩ rfl rfl ⟨by decide, by decide⟩ (rest := []) rfl (Nat.le_of_ble_eq_true rfl) (fun u23 => [.null]) (fun _ => rfl) (fun u23 hu23 => ?_)
          refine v_ifnonnullN hG dX11_plan_38 ?_
          refine v_iconst hG dX11_plan_41 ?_
          have e24 : s = f_plan s w m := by first | rfl | (unfold f_plan; (repeat' split) <;> first | rfl | omega | (exfalso; omega) | (congr 1; omega))
          have e25 : @Eq Int (a_plan s w m) (-1) := by first | rfl | (unfold a_plan; (repeat' split) <;> first | rfl | omega | (exfalso; omega) | (congr 1; omega))
          exact v_ireturn hG hR dX11_plan_42 () (congrArg (fun z => some (vI z)) e25) (by trivial) (fun _ hM => by rw [← e24]; exact hM)
  · skip
    refine v_aload_n hG dX11_plan_5 rfl 0 rfl ?_
    refine cg11 hG dX11_plan_6 zf_X11_17 (k := 0) (by decide) (v := .ref (kB ad 0)) rfl ?_
    refine cg0 (by decide) hG dX11_plan_9 zf_X11_254 (k := 9) (by decide) (v := .ref (kT ad 0 2)) rfl ?_
    refine v_callV (k1' := 0) (k2' := 0) hG dX11_plan_12 zc_X7_empty ⟨zl_X11_82, zi_X7_empty, zs_X7_empty⟩ (fun l => kt2_empty l D A ad K S Q qa tp s bo e uc lr nx 0 (by decide) (by assumption)) rfl (cR7 (by decide) (t := 2) (by decide)) (fun _ h => h) ⟨by decide, by decide⟩ rfl rfl ⟨by decide, by decide⟩ (rest := []) rfl (Nat.le_of_ble_eq_true rfl) (fun u26 => [vI 0]) (fun _ => rfl) (fun u26 hu26 => ?_)
    have e27 : sU s 46 0 = f_plan s w m := by first | rfl | (unfold f_plan; (repeat' split) <;> first | rfl | omega | (exfalso; omega) | (congr 1; omega))
    have e28 : @Eq Int (a_plan s w m) (0) := by first | rfl | (unfold a_plan; (repeat' split) <;> first | rfl | omega | (exfalso; omega) | (congr 1; omega))
    exact v_ireturn hG hR dX11_plan_15 () (congrArg (fun z => some (vI z)) e28) (by trivial) (fun _ hM => by rw [← e27]; exact hM)
set_option maxHeartbeats 4000000 in
set_option maxRecDepth 100000 in
theorem kc11_book (l : Launch) (D : Dx) (A : Nat → Prop) (ad : Nat → Nat) (K : Int → Int) (S Q qa : Nat → Int → Int) (tp : Nat → Nat) (s bo e uc lr nx : Int → Int) (m : Int) (n : Int) (d : Int) (hrm : -2147483648 ≤ m ∧ m < 2147483648) (hrn : -2147483648 ≤ n ∧ n < 2147483648) (hrd : -2147483648 ≤ d ∧ d < 2147483648) (hTB : TB s) (hN : NM s) : CT l D A yX11_book cX11_book 4 (some .int) { frames := 2, cells := 0, slots := 0, locals := 45 } [.ref (ad 0), vI m, vI n, vI d] (CW D A ad K (uS S 0 s) Q qa tp bo e uc lr nx) (fun _ : Unit => some (vI (a_book s m n d))) (fun _ => True) (fun _ => CW D A ad K (uS S 0 (f_book s m n d)) Q qa tp bo e uc lr nx) := by
  refine ct_of (lo0 := [(0, .ref (ad 0)), (1, vI m), (2, vI n), (3, vI d)]) (by decide) (Nat.le_of_ble_eq_true rfl) rfl ?_
  intro G hG hR
  have hN9 : 0 ≤ s 43 ∧ s 43 ≤ 8 := hN
  obtain ⟨htb1, htb2, htb3, htb4⟩ := id hTB
  refine v_iload_n hG dX11_book_0 rfl 1 rfl ?_
  refine v_iconst hG dX11_book_1 ?_
  refine v_icmp_ne (tgt := 16) hG dX11_book_2 (by decide) (by omega) (by omega) (fun c1 => ?_) (fun c1 => ?_)
  · skip
    refine v_aload_n hG dX11_book_16 rfl 0 rfl ?_
    refine cg11 hG dX11_book_17 zf_X11_17 (k := 0) (by decide) (v := .ref (kB ad 0)) rfl ?_
    refine v_iload_n hG dX11_book_20 rfl 1 rfl ?_
    by_cases c2 : 0 ≤ m ∧ m ≤ s 43 - 1
    · skip
      refine v_callV (k1' := 0) (k2' := 0) hG dX11_book_21 zc_X0_markAt ⟨zl_X11_99, zi_X0_markAt, zs_X0_markAt⟩ (fun l => kc0_markAt_in l D A ad K S Q qa tp s bo e uc lr nx 0 (by decide) m (by assumption) (by first | exact c2 | (simp only [sU_at]; omega) | omega)) rfl (cR0 (by decide)) (fun _ h => h) ⟨by decide, by decide⟩ rfl rfl ⟨by decide, by decide⟩ (rest := []) rfl (Nat.le_of_ble_eq_true rfl) (fun u3 => [.ref (kM ad 0 m)]) (fun _ => rfl) (fun u3 hu3 => ?_)
      refine v_ifnonnull (tgt := 29) hG dX11_book_24 (by decide) ?_
      refine v_iload_n hG dX11_book_29 rfl 2 rfl ?_
      refine v_iconst hG dX11_book_30 ?_
      refine v_sipush hG dX11_book_31 (by decide) ?_
      refine v_callS (k1' := 0) (k2' := 0) hG dX11_book_34 zc_X11_within ⟨zl_X11_50, zt_X11_within⟩ (fun l => kc11_within l D A (CW D A ad K (uS S 0 s) Q qa tp bo e uc lr nx) n 0 999 (by omega) (by omega) (by omega)) rfl (fun _ h => h) ⟨by decide, by decide⟩ rfl rfl ⟨by decide, by decide⟩ (rest := []) rfl (Nat.le_of_ble_eq_true rfl) (fun u4 => [vI (bi (0 ≤ n ∧ n ≤ 999))]) (fun _ => rfl) (fun u4 hu4 => ?_)
      refine v_ifb_eq (p := 0 ≤ n ∧ n ≤ 999) (tgt := 50) hG dX11_book_37 (by decide) (fun c5 => ?_) (fun c5 => ?_)
      · skip
        refine v_bipush hG dX11_book_50 (by decide) ?_
        have e6 : s = f_book s m n d := by first | rfl | (unfold f_book; (repeat' split) <;> first | rfl | omega | (exfalso; omega) | (congr 1; omega))
        have e7 : @Eq Int (a_book s m n d) (-2) := by first | rfl | (unfold a_book; (repeat' split) <;> first | rfl | omega | (exfalso; omega) | (congr 1; omega))
        exact v_ireturn hG hR dX11_book_52 () (congrArg (fun z => some (vI z)) e7) (by trivial) (fun _ hM => by rw [← e6]; exact hM)
      · skip
        refine v_iload_n hG dX11_book_40 rfl 3 rfl ?_
        refine v_iconst hG dX11_book_41 ?_
        refine v_bipush hG dX11_book_42 (by decide) ?_
        refine v_callS (k1' := 0) (k2' := 0) hG dX11_book_44 zc_X11_within ⟨zl_X11_50, zt_X11_within⟩ (fun l => kc11_within l D A (CW D A ad K (uS S 0 s) Q qa tp bo e uc lr nx) d 0 30 (by omega) (by omega) (by omega)) rfl (fun _ h => h) ⟨by decide, by decide⟩ rfl rfl ⟨by decide, by decide⟩ (rest := []) rfl (Nat.le_of_ble_eq_true rfl) (fun u8 => [vI (bi (0 ≤ d ∧ d ≤ 30))]) (fun _ => rfl) (fun u8 hu8 => ?_)
        refine v_ifb_ne (p := 0 ≤ d ∧ d ≤ 30) (tgt := 53) hG dX11_book_47 (by decide) (fun c9 => ?_) (fun c9 => ?_)
        · skip
          refine v_aload_n hG dX11_book_53 rfl 0 rfl ?_
          refine cg11 hG dX11_book_54 zf_X11_17 (k := 0) (by decide) (v := .ref (kB ad 0)) rfl ?_
          refine cg0 (by decide) hG dX11_book_57 zf_X11_263 (k := 10) (by decide) (v := .ref (kT ad 0 3)) rfl ?_
          refine v_callV (k1' := 0) (k2' := 0) hG dX11_book_60 zc_X7_isFull ⟨zl_X11_58, zi_X7_isFull, zs_X7_isFull⟩ (fun l => kt3_isFull l D A ad K S Q qa tp s bo e uc lr nx 0 (by decide) (by assumption)) rfl (cR7 (by decide) (t := 3) (by decide)) (fun _ h => h) ⟨by decide, by decide⟩ rfl rfl ⟨by decide, by decide⟩ (rest := []) rfl (Nat.le_of_ble_eq_true rfl) (fun u10 => [vI (bi (24 < (s 47 + 1) * 3))]) (fun _ => rfl) (fun u10 hu10 => ?_)
          refine v_ifb_eq (p := 24 < (s 47 + 1) * 3) (tgt := 71) hG dX11_book_63 (by decide) (fun c11 => ?_) (fun c11 => ?_)
          · skip
            refine v_aload_n hG dX11_book_71 rfl 0 rfl ?_
            refine cg11 hG dX11_book_72 zf_X11_17 (k := 0) (by decide) (v := .ref (kB ad 0)) rfl ?_
            refine cg0 (by decide) hG dX11_book_75 zf_X11_263 (k := 10) (by decide) (v := .ref (kT ad 0 3)) rfl ?_
            refine v_iload_n hG dX11_book_78 rfl 1 rfl ?_
            refine v_iload_n hG dX11_book_79 rfl 2 rfl ?_
            refine v_iload_n hG dX11_book_80 rfl 3 rfl ?_
            refine v_callV (k1' := 0) (k2' := 0) hG dX11_book_81 zc_X7_add ⟨zl_X11_64, zi_X7_add, zs_X7_add⟩ (fun l => kt3_add l D A ad K S Q qa tp s bo e uc lr nx 0 (by decide) m n d (by assumption) (by omega)) rfl (cR7 (by decide) (t := 3) (by decide)) (fun _ h => h) ⟨by decide, by decide⟩ rfl rfl ⟨by decide, by decide⟩ (rest := []) rfl (Nat.le_of_ble_eq_true rfl) (fun u12 => [vI (s 47 + 1)]) (fun _ => rfl) (fun u12 hu12 => ?_)
            have e13 : sU (sU (sU (sU s (134 + s 47) m) (142 + s 47) n) (150 + s 47) d) 47 (s 47 + 1) = f_book s m n d := by first | rfl | (unfold f_book; (repeat' split) <;> first | rfl | omega | (exfalso; omega) | (congr 1; omega))
            have e14 : @Eq Int (a_book s m n d) (s 47 + 1) := by first | rfl | (unfold a_book; (repeat' split) <;> first | rfl | omega | (exfalso; omega) | (congr 1; omega))
            exact v_ireturn hG hR dX11_book_84 () (congrArg (fun z => some (vI z)) e14) (by trivial) (fun _ hM => by rw [← e13]; exact hM)
          · skip
            refine v_bipush hG dX11_book_66 (by decide) ?_
            refine v_goto (tgt := 84) hG dX11_book_68 (by decide) ?_
            have e15 : s = f_book s m n d := by first | rfl | (unfold f_book; (repeat' split) <;> first | rfl | omega | (exfalso; omega) | (congr 1; omega))
            have e16 : @Eq Int (a_book s m n d) (-4) := by first | rfl | (unfold a_book; (repeat' split) <;> first | rfl | omega | (exfalso; omega) | (congr 1; omega))
            exact v_ireturn hG hR dX11_book_84 () (congrArg (fun z => some (vI z)) e16) (by trivial) (fun _ hM => by rw [← e15]; exact hM)
        · skip
          refine v_bipush hG dX11_book_50 (by decide) ?_
          have e17 : s = f_book s m n d := by first | rfl | (unfold f_book; (repeat' split) <;> first | rfl | omega | (exfalso; omega) | (congr 1; omega))
          have e18 : @Eq Int (a_book s m n d) (-2) := by first | rfl | (unfold a_book; (repeat' split) <;> first | rfl | omega | (exfalso; omega) | (congr 1; omega))
          exact v_ireturn hG hR dX11_book_52 () (congrArg (fun z => some (vI z)) e18) (by trivial) (fun _ hM => by rw [← e17]; exact hM)
    · skip
      refine v_callV (k1' := 0) (k2' := 0) hG dX11_book_21 zc_X0_markAt ⟨zl_X11_99, zi_X0_markAt, zs_X0_markAt⟩ (fun l => kc0_markAt_out l D A ad K S Q qa tp s bo e uc lr nx 0 (by decide) m (by assumption) (by omega) (by first | exact c2 | (simp only [sU_at]; omega) | omega)) rfl (cR0 (by decide)) (fun _ h => h) ⟨by decide, by decide⟩ rfl rfl ⟨by decide, by decide⟩ (rest := []) rfl (Nat.le_of_ble_eq_true rfl) (fun u19 => [.null]) (fun _ => rfl) (fun u19 hu19 => ?_)
      refine v_ifnonnullN hG dX11_book_24 ?_
      refine v_iconst hG dX11_book_27 ?_
      have e20 : s = f_book s m n d := by first | rfl | (unfold f_book; (repeat' split) <;> first | rfl | omega | (exfalso; omega) | (congr 1; omega))
      have e21 : @Eq Int (a_book s m n d) (-1) := by first | rfl | (unfold a_book; (repeat' split) <;> first | rfl | omega | (exfalso; omega) | (congr 1; omega))
      exact v_ireturn hG hR dX11_book_28 () (congrArg (fun z => some (vI z)) e21) (by trivial) (fun _ hM => by rw [← e20]; exact hM)
  · skip
    refine v_aload_n hG dX11_book_5 rfl 0 rfl ?_
    refine cg11 hG dX11_book_6 zf_X11_17 (k := 0) (by decide) (v := .ref (kB ad 0)) rfl ?_
    refine cg0 (by decide) hG dX11_book_9 zf_X11_263 (k := 10) (by decide) (v := .ref (kT ad 0 3)) rfl ?_
    refine v_callV (k1' := 0) (k2' := 0) hG dX11_book_12 zc_X7_empty ⟨zl_X11_82, zi_X7_empty, zs_X7_empty⟩ (fun l => kt3_empty l D A ad K S Q qa tp s bo e uc lr nx 0 (by decide) (by assumption)) rfl (cR7 (by decide) (t := 3) (by decide)) (fun _ h => h) ⟨by decide, by decide⟩ rfl rfl ⟨by decide, by decide⟩ (rest := []) rfl (Nat.le_of_ble_eq_true rfl) (fun u22 => [vI 0]) (fun _ => rfl) (fun u22 hu22 => ?_)
    have e23 : sU s 47 0 = f_book s m n d := by first | rfl | (unfold f_book; (repeat' split) <;> first | rfl | omega | (exfalso; omega) | (congr 1; omega))
    have e24 : @Eq Int (a_book s m n d) (0) := by first | rfl | (unfold a_book; (repeat' split) <;> first | rfl | omega | (exfalso; omega) | (congr 1; omega))
    exact v_ireturn hG hR dX11_book_15 () (congrArg (fun z => some (vI z)) e24) (by trivial) (fun _ hM => by rw [← e23]; exact hM)
set_option maxHeartbeats 4000000 in
set_option maxRecDepth 100000 in
theorem kc0_isAsSeen (l : Launch) (D : Dx) (A : Nat → Prop) (ad : Nat → Nat) (K : Int → Int) (S Q qa : Nat → Int → Int) (tp : Nat → Nat) (s bo e uc lr nx : Int → Int) (b : Nat) (hb : b < 3) (n : Int) (SL : List Int) (hTB : TB s) (hN : NM s) (hM : GM s) (hP : PL s) (hCH : CHP Q qa s SL) (hSE : SE s) (hn : 0 ≤ n ∧ n ≤ 999) : CT l D A yX0_isAsSeen cX0_isAsSeen 4 (some .boolean) { frames := 5, cells := 0, slots := 0, locals := 112 } [.ref (kB ad b), vI n] (CW D A ad K (uS S b s) Q qa tp bo e uc lr nx) (fun _ : Unit => some (vI (bi (allM (seeF s n) (s 45).toNat = true)))) (fun _ => True) (fun _ => CW D A ad K (uS S b s) Q qa tp bo e uc lr nx) := by
  refine ct_of (lo0 := [(0, .ref (kB ad b)), (1, vI n)]) (by decide) (Nat.le_of_ble_eq_true rfl) rfl ?_
  intro G hG hR
  have hN9 : 0 ≤ s 43 ∧ s 43 ≤ 8 := hN
  have hS9 := hSE.1
  refine v_iconst hG dX0_isAsSeen_0 ?_
  refine v_istore_n (lo' := [(2, vI 0), (0, .ref (kB ad b)), (1, vI n)]) hG dX0_isAsSeen_1 rfl (by decide) rfl ?_
  refine v_lo [1, 2, 0] (lo' := [(0, .ref (kB ad b)), (1, vI n), (2, vI 0)]) rfl ?_
  have L2 : ∀ mz : Nat, ∀ (k : Nat), ((k : Int) ≤ s 45) → (allM (seeF s n) k = true) → (s 45 - (k : Int)).toNat = mz → ∀ x1 : Int, x1 = ((k : Int)) → V G 0 0 (CW D A ad K (uS S b s) Q qa tp bo e uc lr nx) 2 [(0, .ref (kB ad b)), (1, vI n), (2, vI x1)] [] := by
    intro dL2
    induction dL2 using Nat.strongRecOn with
    | ind dL2 ihL2 =>
      intro k hq3 hq4 hq5
      intro x1 hx1
      subst hx1
      refine v_iload_n hG dX0_isAsSeen_2 rfl 2 rfl ?_
      refine v_aload_n hG dX0_isAsSeen_3 rfl 0 rfl ?_
      refine cg0 hb hG dX0_isAsSeen_4 zf_X0_33 (k := 8) (by decide) (v := .ref (kT ad b 1)) rfl ?_
      refine cg7 hb (t := 1) (by decide) hG dX0_isAsSeen_7 zf_X0_143 (k := 2) (by decide) (v := vI (s 45)) rfl ?_
      refine v_icmp_ge (tgt := 57) hG dX0_isAsSeen_10 (by decide) (by omega) (by omega) (fun c6 => ?_) (fun c6 => ?_)
      · skip
        refine v_iconst hG dX0_isAsSeen_57 ?_
        have e7 : @Eq Int (bi (allM (seeF s n) (s 45).toNat = true)) (1) := by rw [show (s 45).toNat = k by omega]; exact bi_pos (show allM (seeF s n) k = true from (by assumption))
        exact v_zreturn hG hR dX0_isAsSeen_58 (Or.inr rfl) () (congrArg (fun z => some (vI z)) e7) (by trivial) (fun _ hM => hM)
      · skip
        have hk2 := hSE.2 (k : Int) (by omega) (by omega)
        refine v_aload_n hG dX0_isAsSeen_13 rfl 0 rfl ?_
        refine v_aload_n hG dX0_isAsSeen_14 rfl 0 rfl ?_
        refine cg0 hb hG dX0_isAsSeen_15 zf_X0_33 (k := 8) (by decide) (v := .ref (kT ad b 1)) rfl ?_
        refine v_iload_n hG dX0_isAsSeen_18 rfl 2 rfl ?_
        refine v_iconst hG dX0_isAsSeen_19 ?_
        refine v_callV (k1' := 0) (k2' := 0) hG dX0_isAsSeen_20 zc_X7_at ⟨zl_X0_144, zi_X7_at, zs_X7_at⟩ (fun l => kt1_at0 l D A ad K S Q qa tp s bo e uc lr nx b hb (k : Int) (by assumption) (by omega)) rfl (cR7 hb (t := 1) (by decide)) (fun _ h => h) ⟨by decide, by decide⟩ rfl rfl ⟨by decide, by decide⟩ (rest := [.ref (kB ad b)]) rfl (Nat.le_of_ble_eq_true rfl) (fun u8 => [vI (s (106 + (k : Int))), .ref (kB ad b)]) (fun _ => rfl) (fun u8 hu8 => ?_)
        refine v_callV (k1' := 0) (k2' := 0) hG dX0_isAsSeen_23 zc_X0_markAt ⟨zl_X0_133, zi_X0_markAt, zs_X0_markAt⟩ (fun l => kc0_markAt_in l D A ad K S Q qa tp s bo e uc lr nx b hb (s (106 + (k : Int))) (by assumption) (by omega)) rfl (cR0 hb) (fun _ h => h) ⟨by decide, by decide⟩ rfl rfl ⟨by decide, by decide⟩ (rest := []) rfl (Nat.le_of_ble_eq_true rfl) (fun u9 => [.ref (kM ad b (s (106 + (k : Int))))]) (fun _ => rfl) (fun u9 hu9 => ?_)
        refine v_astore_n (lo' := [(3, .ref (kM ad b (s (106 + (k : Int))))), (0, .ref (kB ad b)), (1, vI n), (2, vI (k : Int))]) hG dX0_isAsSeen_26 rfl (by decide) rfl ?_
        refine v_aload_n hG dX0_isAsSeen_27 rfl 0 rfl ?_
        refine v_ifnull hG dX0_isAsSeen_28 ?_
        refine v_aload_n hG dX0_isAsSeen_31 rfl 1 rfl ?_
        refine v_aload_n hG dX0_isAsSeen_32 rfl 0 rfl ?_
        refine v_iload_n hG dX0_isAsSeen_33 rfl 2 rfl ?_
        refine v_callV (k1' := 0) (k2' := 0) hG dX0_isAsSeen_34 zc_X0_darkBehind ⟨zl_X0_127, zi_X0_darkBehind, zs_X0_darkBehind⟩ (fun l => kc0_darkBehind l D A ad K S Q qa tp s bo e uc lr nx b hb (s (106 + (k : Int))) n SL (by omega) (by first | assumption | omega) (by first | assumption | exact hM _ (by omega) (by omega)) (by assumption) (by assumption) (by omega)) rfl (cR0 hb) (fun _ h => h) ⟨by decide, by decide⟩ rfl rfl ⟨by decide, by decide⟩ (rest := []) rfl (Nat.le_of_ble_eq_true rfl) (fun u10 => [vI (q_dk s (s (106 + (k : Int))) n)]) (fun _ => rfl) (fun u10 hu10 => ?_)
        have fu10 : 0 ≤ q_dk s (s (106 + (k : Int))) n ∧ q_dk s (s (106 + (k : Int))) n ≤ 30 := hu10
        refine v_aload_n hG dX0_isAsSeen_37 rfl 1 rfl ?_
        refine cg0 hb hG dX0_isAsSeen_38 zf_X0_33 (k := 8) (by decide) (v := .ref (kT ad b 1)) rfl ?_
        refine v_iload_n hG dX0_isAsSeen_41 rfl 3 rfl ?_
        refine v_iconst hG dX0_isAsSeen_42 ?_
        refine v_callV (k1' := 0) (k2' := 0) hG dX0_isAsSeen_43 zc_X7_at ⟨zl_X0_144, zi_X7_at, zs_X7_at⟩ (fun l => kt1_at1 l D A ad K S Q qa tp s bo e uc lr nx b hb (k : Int) (by assumption) (by omega)) rfl (cR7 hb (t := 1) (by decide)) (fun _ h => h) ⟨by decide, by decide⟩ rfl rfl ⟨by decide, by decide⟩ (rest := [vI (q_dk s (s (106 + (k : Int))) n)]) rfl (Nat.le_of_ble_eq_true rfl) (fun u11 => [vI (s (112 + (k : Int))), vI (q_dk s (s (106 + (k : Int))) n)]) (fun _ => rfl) (fun u11 hu11 => ?_)
        refine v_icmp_eq (tgt := 51) hG dX0_isAsSeen_46 (by decide) (by omega) (by omega) (fun c12 => ?_) (fun c12 => ?_)
        · skip
          refine v_iinc (lo' := [(2, vI ((k : Int) + 1)), (3, .ref (kM ad b (s (106 + (k : Int))))), (0, .ref (kB ad b)), (1, vI n)]) hG dX0_isAsSeen_51 3 rfl (by decide) rfl ?_
          refine v_goto (tgt := 2) hG dX0_isAsSeen_54 (by decide) ?_
          refine v_lo [2, 3, 0] (lo' := [(0, .ref (kB ad b)), (1, vI n), (2, vI ((k : Int) + 1))]) rfl ?_
          exact ihL2 _ (by omega) (k + 1) (by omega) (by show (allM (seeF s n) k && seeF s n k) = true; rw [show allM (seeF s n) k = true from (by assumption), seeF_t (by assumption)]; rfl) rfl _ (by first | omega | rfl | (simp [c6, c12]; done))
        · skip
          refine v_iconst hG dX0_isAsSeen_49 ?_
          have e13 : @Eq Int (bi (allM (seeF s n) (s 45).toNat = true)) (0) := by rw [bi_neg (fun q => ?_)]; have hq := (allM_iff.mp q) k (by omega); rw [seeF_f (by assumption)] at hq; exact Bool.noConfusion hq
          exact v_zreturn hG hR dX0_isAsSeen_50 (Or.inl rfl) () (congrArg (fun z => some (vI z)) e13) (by trivial) (fun _ hM => hM)
  exact L2 _ 0 (by omega) (by rfl) rfl _ (by first | omega | rfl | (simp []; done))
set_option maxHeartbeats 4000000 in
set_option maxRecDepth 100000 in
theorem kc11_ran (l : Launch) (D : Dx) (A : Nat → Prop) (ad : Nat → Nat) (K : Int → Int) (S Q qa : Nat → Int → Int) (tp : Nat → Nat) (s bo e uc lr nx : Int → Int) (w : Int) (hrw : -2147483648 ≤ w ∧ w < 2147483648) (SL : List Int) (hTB : TB s) (hN : NM s) (hM : GM s) (hP : PL s) (hCH : CHP Q qa s SL) (hSE : SE s) : CT l D A yX11_ran cX11_ran 5 (some .int) { frames := 6, cells := 0, slots := 0, locals := 135 } [.ref (ad 0), vI w] (CW D A ad K (uS S 0 s) Q qa tp bo e uc lr nx) (fun _ : Unit => some (vI (a_ran s w))) (fun _ => True) (fun _ => CW D A ad K (uS S 0 s) Q qa tp bo e uc lr nx) := by
  refine ct_of (lo0 := [(0, .ref (ad 0)), (1, vI w)]) (by decide) (Nat.le_of_ble_eq_true rfl) rfl ?_
  intro G hG hR
  have hN9 : 0 ≤ s 43 ∧ s 43 ≤ 8 := hN
  refine v_iload_n hG dX11_ran_0 rfl 1 rfl ?_
  refine v_iconst hG dX11_ran_1 ?_
  refine v_iconst hG dX11_ran_2 ?_
  refine v_callS (k1' := 0) (k2' := 0) hG dX11_ran_3 zc_X11_within ⟨zl_X11_50, zt_X11_within⟩ (fun l => kc11_within l D A (CW D A ad K (uS S 0 s) Q qa tp bo e uc lr nx) w 0 1 (by omega) (by omega) (by omega)) rfl (fun _ h => h) ⟨by decide, by decide⟩ rfl rfl ⟨by decide, by decide⟩ (rest := []) rfl (Nat.le_of_ble_eq_true rfl) (fun u1 => [vI (bi (0 ≤ w ∧ w ≤ 1))]) (fun _ => rfl) (fun u1 hu1 => ?_)
  refine v_ifb_ne (p := 0 ≤ w ∧ w ≤ 1) (tgt := 11) hG dX11_ran_6 (by decide) (fun c2 => ?_) (fun c2 => ?_)
  · skip
    refine v_iconst hG dX11_ran_11 ?_
    refine v_istore_n (lo' := [(2, vI 0), (0, .ref (ad 0)), (1, vI w)]) hG dX11_ran_12 rfl (by decide) rfl ?_
    refine v_bipush hG dX11_ran_13 (by decide) ?_
    refine v_istore_n (lo' := [(3, vI (-5)), (2, vI 0), (0, .ref (ad 0)), (1, vI w)]) hG dX11_ran_15 rfl (by decide) rfl ?_
    refine v_iconst hG dX11_ran_16 ?_
    refine v_istore (lo' := [(4, vI 0), (3, vI (-5)), (2, vI 0), (0, .ref (ad 0)), (1, vI w)]) hG dX11_ran_17 (by decide) rfl ?_
    refine v_lo [3, 4, 2, 1, 0] (lo' := [(0, .ref (ad 0)), (1, vI w), (2, vI 0), (3, vI (-5)), (4, vI 0)]) rfl ?_
    have L6 : ∀ mz : Nat, ∀ (k : Nat), (k ≤ 1000) → 1000 - k = mz → ∀ x3 : Int, x3 = ((k : Int)) → ∀ x4 : Int, x4 = (cntB (asSeen s) k) → ∀ x5 : Int, x5 = (upL (asSeen s) k) → V G 0 0 (CW D A ad K (uS S 0 s) Q qa tp bo e uc lr nx) 19 [(0, .ref (ad 0)), (1, vI w), (2, vI x4), (3, vI x5), (4, vI x3)] [] := by
      intro dL6
      induction dL6 using Nat.strongRecOn with
      | ind dL6 ihL6 =>
        intro k hq7 hq8
        intro x3 hx3
        subst hx3
        intro x4 hx4
        subst hx4
        intro x5 hx5
        subst hx5
        have hcr := cntB_rng (asSeen s) k
        refine v_iload hG dX11_ran_19 4 rfl ?_
        refine v_sipush hG dX11_ran_21 (by decide) ?_
        refine v_icmp_gt (tgt := 55) hG dX11_ran_24 (by decide) (by omega) (by omega) (fun c9 => ?_) (fun c9 => ?_)
        · skip
          refine v_iload_n hG dX11_ran_55 rfl 1 rfl ?_
          refine v_if_ne (tgt := 63) hG dX11_ran_56 (by decide) (by omega) (fun c10 => ?_) (fun c10 => ?_)
          · skip
            refine v_iload_n hG dX11_ran_63 rfl 3 rfl ?_
            have e11 : @Eq Int (a_ran s w) (upL (asSeen s) k) := by unfold a_ran; rw [if_pos (by assumption), dn_all, show 1000 = k by omega]; first | (rw [if_pos (by assumption)]; done) | (rw [if_neg (by assumption)]; rfl)
            exact v_ireturn hG hR dX11_ran_64 () (congrArg (fun z => some (vI z)) e11) (by trivial) (fun _ hM => hM)
          · skip
            refine v_iload_n hG dX11_ran_59 rfl 2 rfl ?_
            refine v_goto (tgt := 64) hG dX11_ran_60 (by decide) ?_
            have e12 : @Eq Int (a_ran s w) (cntB (asSeen s) k) := by unfold a_ran; rw [if_pos (by assumption), dn_all, show 1000 = k by omega]; first | (rw [if_pos (by assumption)]; done) | (rw [if_neg (by assumption)]; rfl)
            exact v_ireturn hG hR dX11_ran_64 () (congrArg (fun z => some (vI z)) e12) (by trivial) (fun _ hM => hM)
        · skip
          refine v_aload_n hG dX11_ran_27 rfl 0 rfl ?_
          refine cg11 hG dX11_ran_28 zf_X11_17 (k := 0) (by decide) (v := .ref (kB ad 0)) rfl ?_
          refine v_iload hG dX11_ran_31 4 rfl ?_
          refine v_callV (k1' := 0) (k2' := 0) hG dX11_ran_33 zc_X0_isAsSeen ⟨zl_X11_245, zi_X0_isAsSeen, zs_X0_isAsSeen⟩ (fun l => kc0_isAsSeen l D A ad K S Q qa tp s bo e uc lr nx 0 (by decide) (k : Int) SL (by assumption) (by assumption) (by assumption) (by assumption) (by assumption) (by assumption) (by omega)) rfl (cR0 (by decide)) (fun _ h => h) ⟨by decide, by decide⟩ rfl rfl ⟨by decide, by decide⟩ (rest := []) rfl (Nat.le_of_ble_eq_true rfl) (fun u13 => [vI (bi (allM (seeF s (k : Int)) (s 45).toNat = true))]) (fun _ => rfl) (fun u13 hu13 => ?_)
          refine v_ifb_eq (p := allM (seeF s (k : Int)) (s 45).toNat = true) (tgt := 49) hG dX11_ran_36 (by decide) (fun c14 => ?_) (fun c14 => ?_)
          · skip
            refine v_iinc (lo' := [(4, vI ((k : Int) + 1)), (0, .ref (ad 0)), (1, vI w), (2, vI (cntB (asSeen s) k)), (3, vI (upL (asSeen s) k))]) hG dX11_ran_49 4 rfl (by decide) rfl ?_
            refine v_goto (tgt := 19) hG dX11_ran_52 (by decide) ?_
            refine v_lo [1, 2, 3, 4, 0] (lo' := [(0, .ref (ad 0)), (1, vI w), (2, vI (cntB (asSeen s) k)), (3, vI (upL (asSeen s) k)), (4, vI ((k : Int) + 1))]) rfl ?_
            exact ihL6 _ (by omega) (k + 1) (by omega) rfl _ (by omega) _ (by first | exact cnt_t (show asSeen s k = true from (by assumption)) | (have hq := cnt_f (show asSeen s k = false from Bool.not_eq_true _ |>.mp (by assumption)); omega)) _ (by first | exact upL_hit (by assumption) (show asSeen s k = true from (by assumption)) | exact upL_keep (by assumption) | exact upL_no (show asSeen s k = false from Bool.not_eq_true _ |>.mp (by assumption)))
          · skip
            refine v_iload_n hG dX11_ran_39 rfl 2 rfl ?_
            refine v_if_ne (tgt := 46) hG dX11_ran_40 (by decide) (by omega) (fun c15 => ?_) (fun c15 => ?_)
            · skip
              refine v_iinc (lo' := [(2, vI ((cntB (asSeen s) k) + 1)), (0, .ref (ad 0)), (1, vI w), (3, vI (upL (asSeen s) k)), (4, vI (k : Int))]) hG dX11_ran_46 2 rfl (by decide) rfl ?_
              refine v_iinc (lo' := [(4, vI ((k : Int) + 1)), (2, vI ((cntB (asSeen s) k) + 1)), (0, .ref (ad 0)), (1, vI w), (3, vI (upL (asSeen s) k))]) hG dX11_ran_49 4 rfl (by decide) rfl ?_
              refine v_goto (tgt := 19) hG dX11_ran_52 (by decide) ?_
              refine v_lo [2, 3, 1, 4, 0] (lo' := [(0, .ref (ad 0)), (1, vI w), (2, vI ((cntB (asSeen s) k) + 1)), (3, vI (upL (asSeen s) k)), (4, vI ((k : Int) + 1))]) rfl ?_
              exact ihL6 _ (by omega) (k + 1) (by omega) rfl _ (by omega) _ (by first | exact cnt_t (show asSeen s k = true from (by assumption)) | (have hq := cnt_f (show asSeen s k = false from Bool.not_eq_true _ |>.mp (by assumption)); omega)) _ (by first | exact upL_hit (by assumption) (show asSeen s k = true from (by assumption)) | exact upL_keep (by assumption) | exact upL_no (show asSeen s k = false from Bool.not_eq_true _ |>.mp (by assumption)))
            · skip
              refine v_iload hG dX11_ran_43 4 rfl ?_
              refine v_istore_n (lo' := [(3, vI (k : Int)), (0, .ref (ad 0)), (1, vI w), (2, vI (cntB (asSeen s) k)), (4, vI (k : Int))]) hG dX11_ran_45 rfl (by decide) rfl ?_
              refine v_iinc (lo' := [(2, vI ((cntB (asSeen s) k) + 1)), (3, vI (k : Int)), (0, .ref (ad 0)), (1, vI w), (4, vI (k : Int))]) hG dX11_ran_46 3 rfl (by decide) rfl ?_
              refine v_iinc (lo' := [(4, vI ((k : Int) + 1)), (2, vI ((cntB (asSeen s) k) + 1)), (3, vI (k : Int)), (0, .ref (ad 0)), (1, vI w)]) hG dX11_ran_49 4 rfl (by decide) rfl ?_
              refine v_goto (tgt := 19) hG dX11_ran_52 (by decide) ?_
              refine v_lo [3, 4, 1, 2, 0] (lo' := [(0, .ref (ad 0)), (1, vI w), (2, vI ((cntB (asSeen s) k) + 1)), (3, vI (k : Int)), (4, vI ((k : Int) + 1))]) rfl ?_
              exact ihL6 _ (by omega) (k + 1) (by omega) rfl _ (by omega) _ (by first | exact cnt_t (show asSeen s k = true from (by assumption)) | (have hq := cnt_f (show asSeen s k = false from Bool.not_eq_true _ |>.mp (by assumption)); omega)) _ (by first | exact upL_hit (by assumption) (show asSeen s k = true from (by assumption)) | exact upL_keep (by assumption) | exact upL_no (show asSeen s k = false from Bool.not_eq_true _ |>.mp (by assumption)))
    exact L6 _ 0 (by omega) rfl _ (by first | omega | rfl | (simp [c2]; done)) _ (by rfl) _ (by rfl)
  · skip
    refine v_iconst hG dX11_ran_9 ?_
    have e16 : @Eq Int (a_ran s w) (-1) := by first | rfl | (unfold a_ran; (repeat' split) <;> first | rfl | omega | (exfalso; omega) | (congr 1; omega))
    exact v_ireturn hG hR dX11_ran_10 () (congrArg (fun z => some (vI z)) e16) (by trivial) (fun _ hM => hM)
set_option maxHeartbeats 4000000 in
set_option maxRecDepth 100000 in
theorem kc11_looked (l : Launch) (D : Dx) (A : Nat → Prop) (ad : Nat → Nat) (K : Int → Int) (S Q qa : Nat → Int → Int) (tp : Nat → Nat) (s bo e uc lr nx : Int → Int) (SL : List Int) (hTB : TB s) (hN : NM s) (hM : GM s) (hP : PL s) (hCH : CHP Q qa s SL) (hBK : BK s) : CT l D A yX11_looked cX11_looked 3 (some .int) { frames := 5, cells := 0, slots := 0, locals := 112 } [.ref (ad 0)] (CW D A ad K (uS S 0 s) Q qa tp bo e uc lr nx) (fun _ : Unit => some (vI (a_looked s))) (fun _ => True) (fun _ => CW D A ad K (uS S 0 s) Q qa tp bo e uc lr nx) := by
  refine ct_of (lo0 := [(0, .ref (ad 0))]) (by decide) (Nat.le_of_ble_eq_true rfl) rfl ?_
  intro G hG hR
  have hN9 : 0 ≤ s 43 ∧ s 43 ≤ 8 := hN
  have hB9 := hBK.1
  refine v_iconst hG dX11_looked_0 ?_
  refine v_istore_n (lo' := [(1, vI 0), (0, .ref (ad 0))]) hG dX11_looked_1 rfl (by decide) rfl ?_
  refine v_lo [1, 0] (lo' := [(0, .ref (ad 0)), (1, vI 0)]) rfl ?_
  have L2 : ∀ mz : Nat, ∀ (k : Nat), ((k : Int) ≤ s 47) → (leastM (looF s) k = -1) → (s 47 - (k : Int)).toNat = mz → ∀ x1 : Int, x1 = ((k : Int)) → V G 0 0 (CW D A ad K (uS S 0 s) Q qa tp bo e uc lr nx) 2 [(0, .ref (ad 0)), (1, vI x1)] [] := by
    intro dL2
    induction dL2 using Nat.strongRecOn with
    | ind dL2 ihL2 =>
      intro k hq3 hq4 hq5
      intro x1 hx1
      subst hx1
      refine v_iload_n hG dX11_looked_2 rfl 1 rfl ?_
      refine v_aload_n hG dX11_looked_3 rfl 0 rfl ?_
      refine cg11 hG dX11_looked_4 zf_X11_17 (k := 0) (by decide) (v := .ref (kB ad 0)) rfl ?_
      refine cg0 (by decide) hG dX11_looked_7 zf_X11_263 (k := 10) (by decide) (v := .ref (kT ad 0 3)) rfl ?_
      refine cg7 (by decide) (t := 3) (by decide) hG dX11_looked_10 zf_X11_75 (k := 2) (by decide) (v := vI (s 47)) rfl ?_
      refine v_icmp_ge (tgt := 83) hG dX11_looked_13 (by decide) (by omega) (by omega) (fun c6 => ?_) (fun c6 => ?_)
      · skip
        refine v_bipush hG dX11_looked_83 (by decide) ?_
        have e7 : @Eq Int (a_looked s) (-5) := by exact pos_n (by assumption) (by omega)
        exact v_ireturn hG hR dX11_looked_85 () (congrArg (fun z => some (vI z)) e7) (by trivial) (fun _ hM => hM)
      · skip
        have hk2 := hBK.2 (k : Int) (by omega) (by omega)
        refine v_aload_n hG dX11_looked_16 rfl 0 rfl ?_
        refine cg11 hG dX11_looked_17 zf_X11_17 (k := 0) (by decide) (v := .ref (kB ad 0)) rfl ?_
        refine v_aload_n hG dX11_looked_20 rfl 0 rfl ?_
        refine cg11 hG dX11_looked_21 zf_X11_17 (k := 0) (by decide) (v := .ref (kB ad 0)) rfl ?_
        refine cg0 (by decide) hG dX11_looked_24 zf_X11_263 (k := 10) (by decide) (v := .ref (kT ad 0 3)) rfl ?_
        refine v_iload_n hG dX11_looked_27 rfl 1 rfl ?_
        refine v_iconst hG dX11_looked_28 ?_
        refine v_callV (k1' := 0) (k2' := 0) hG dX11_looked_29 zc_X7_at ⟨zl_X11_257, zi_X7_at, zs_X7_at⟩ (fun l => kt3_at0 l D A ad K S Q qa tp s bo e uc lr nx 0 (by decide) (k : Int) (by assumption) (by omega)) rfl (cR7 (by decide) (t := 3) (by decide)) (fun _ h => h) ⟨by decide, by decide⟩ rfl rfl ⟨by decide, by decide⟩ (rest := [.ref (kB ad 0)]) rfl (Nat.le_of_ble_eq_true rfl) (fun u8 => [vI (s (134 + (k : Int))), .ref (kB ad 0)]) (fun _ => rfl) (fun u8 hu8 => ?_)
        refine v_callV (k1' := 0) (k2' := 0) hG dX11_looked_32 zc_X0_markAt ⟨zl_X11_99, zi_X0_markAt, zs_X0_markAt⟩ (fun l => kc0_markAt_in l D A ad K S Q qa tp s bo e uc lr nx 0 (by decide) (s (134 + (k : Int))) (by assumption) (by omega)) rfl (cR0 (by decide)) (fun _ h => h) ⟨by decide, by decide⟩ rfl rfl ⟨by decide, by decide⟩ (rest := []) rfl (Nat.le_of_ble_eq_true rfl) (fun u9 => [.ref (kM ad 0 (s (134 + (k : Int))))]) (fun _ => rfl) (fun u9 hu9 => ?_)
        refine v_astore_n (lo' := [(2, .ref (kM ad 0 (s (134 + (k : Int))))), (0, .ref (ad 0)), (1, vI (k : Int))]) hG dX11_looked_35 rfl (by decide) rfl ?_
        refine v_aload_n hG dX11_looked_36 rfl 0 rfl ?_
        refine v_ifnull hG dX11_looked_37 ?_
        refine v_aload_n hG dX11_looked_40 rfl 1 rfl ?_
        refine cg11 hG dX11_looked_41 zf_X11_17 (k := 0) (by decide) (v := .ref (kB ad 0)) rfl ?_
        refine v_aload_n hG dX11_looked_44 rfl 0 rfl ?_
        refine v_aload_n hG dX11_looked_45 rfl 1 rfl ?_
        refine cg11 hG dX11_looked_46 zf_X11_17 (k := 0) (by decide) (v := .ref (kB ad 0)) rfl ?_
        refine cg0 (by decide) hG dX11_looked_49 zf_X11_263 (k := 10) (by decide) (v := .ref (kT ad 0 3)) rfl ?_
        refine v_iload_n hG dX11_looked_52 rfl 2 rfl ?_
        refine v_iconst hG dX11_looked_53 ?_
        refine v_callV (k1' := 0) (k2' := 0) hG dX11_looked_54 zc_X7_at ⟨zl_X11_257, zi_X7_at, zs_X7_at⟩ (fun l => kt3_at1 l D A ad K S Q qa tp s bo e uc lr nx 0 (by decide) (k : Int) (by assumption) (by omega)) rfl (cR7 (by decide) (t := 3) (by decide)) (fun _ h => h) ⟨by decide, by decide⟩ rfl rfl ⟨by decide, by decide⟩ (rest := [.ref (kM ad 0 (s (134 + (k : Int)))), .ref (kB ad 0)]) rfl (Nat.le_of_ble_eq_true rfl) (fun u10 => [vI (s (142 + (k : Int))), .ref (kM ad 0 (s (134 + (k : Int)))), .ref (kB ad 0)]) (fun _ => rfl) (fun u10 hu10 => ?_)
        refine v_callV (k1' := 0) (k2' := 0) hG dX11_looked_57 zc_X0_darkBehind ⟨zl_X11_140, zi_X0_darkBehind, zs_X0_darkBehind⟩ (fun l => kc0_darkBehind l D A ad K S Q qa tp s bo e uc lr nx 0 (by decide) (s (134 + (k : Int))) (s (142 + (k : Int))) SL (by omega) (by first | assumption | omega) (by first | assumption | exact hM _ (by omega) (by omega)) (by assumption) (by assumption) (by omega)) rfl (cR0 (by decide)) (fun _ h => h) ⟨by decide, by decide⟩ rfl rfl ⟨by decide, by decide⟩ (rest := []) rfl (Nat.le_of_ble_eq_true rfl) (fun u11 => [vI (q_dk s (s (134 + (k : Int))) (s (142 + (k : Int))))]) (fun _ => rfl) (fun u11 hu11 => ?_)
        have fu11 : 0 ≤ q_dk s (s (134 + (k : Int))) (s (142 + (k : Int))) ∧ q_dk s (s (134 + (k : Int))) (s (142 + (k : Int))) ≤ 30 := hu11
        refine v_aload_n hG dX11_looked_60 rfl 1 rfl ?_
        refine cg11 hG dX11_looked_61 zf_X11_17 (k := 0) (by decide) (v := .ref (kB ad 0)) rfl ?_
        refine cg0 (by decide) hG dX11_looked_64 zf_X11_263 (k := 10) (by decide) (v := .ref (kT ad 0 3)) rfl ?_
        refine v_iload_n hG dX11_looked_67 rfl 2 rfl ?_
        refine v_iconst hG dX11_looked_68 ?_
        refine v_callV (k1' := 0) (k2' := 0) hG dX11_looked_69 zc_X7_at ⟨zl_X11_257, zi_X7_at, zs_X7_at⟩ (fun l => kt3_at2 l D A ad K S Q qa tp s bo e uc lr nx 0 (by decide) (k : Int) (by assumption) (by omega)) rfl (cR7 (by decide) (t := 3) (by decide)) (fun _ h => h) ⟨by decide, by decide⟩ rfl rfl ⟨by decide, by decide⟩ (rest := [vI (q_dk s (s (134 + (k : Int))) (s (142 + (k : Int))))]) rfl (Nat.le_of_ble_eq_true rfl) (fun u12 => [vI (s (150 + (k : Int))), vI (q_dk s (s (134 + (k : Int))) (s (142 + (k : Int))))]) (fun _ => rfl) (fun u12 hu12 => ?_)
        refine v_icmp_eq (tgt := 77) hG dX11_looked_72 (by decide) (by omega) (by omega) (fun c13 => ?_) (fun c13 => ?_)
        · skip
          refine v_iinc (lo' := [(1, vI ((k : Int) + 1)), (2, .ref (kM ad 0 (s (134 + (k : Int))))), (0, .ref (ad 0))]) hG dX11_looked_77 2 rfl (by decide) rfl ?_
          refine v_goto (tgt := 2) hG dX11_looked_80 (by decide) ?_
          refine v_lo [2, 0] (lo' := [(0, .ref (ad 0)), (1, vI ((k : Int) + 1))]) rfl ?_
          exact ihL2 _ (by omega) (k + 1) (by omega) (by exact leastM_stay (by assumption) (looF_f (by assumption))) rfl _ (by first | omega | rfl | (simp [c6, c13]; done))
        · skip
          refine v_iload_n hG dX11_looked_75 rfl 2 rfl ?_
          have e14 : @Eq Int (a_looked s) ((k : Int)) := by exact pos_5 (by assumption) (looF_t (by assumption)) (by omega)
          exact v_ireturn hG hR dX11_looked_76 () (congrArg (fun z => some (vI z)) e14) (by trivial) (fun _ hM => hM)
  exact L2 _ 0 (by omega) (by rfl) rfl _ (by first | omega | rfl | (simp []; done))
