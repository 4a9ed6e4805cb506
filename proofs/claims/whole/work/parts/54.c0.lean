/-! THE CLASS: what stands alone -/
theorem hc_eq {s t : Int → Int} (h : s 49 = t 49) : hc s = hc t := by unfold hc; rw [h]
theorem TB_of {s s' : Int → Int} (h : TB s) (hq : ∀ q : Int, 45 ≤ q ∧ q ≤ 48 → s' q = s q) : TB s' := by
  unfold TB at *
  rw [hq 45 (by omega), hq 46 (by omega), hq 47 (by omega), hq 48 (by omega)]
  exact h
theorem cRMx {D : Dx} {A : Nat → Prop} {ad : Nat → Nat} {K s : Int → Int} {S Q qa : Nat → Int → Int} {tp : Nat → Nat} {bo e uc lr nx : Int → Int} {b : Nat} {x : Int} (hb : b < 3) (hx : 0 ≤ x ∧ x < 8) (hm : x < s 43) (hk : 0 ≤ s (50 + x) ∧ s (50 + x) ≤ 6) : ∃ (ci : Nat) (q : vw_C) (C : String), vwCl[ci]? = some q ∧ q.1 = C ∧ zRv D (CW D A ad K (uS S b s) Q qa tp bo e uc lr nx) (kM ad b x) C := by
  rcases (show s (50 + x) = 0 ∨ s (50 + x) = 1 ∨ s (50 + x) = 2 ∨ s (50 + x) = 3 ∨ s (50 + x) = 4 ∨ s (50 + x) = 5 ∨ s (50 + x) = 6 by omega) with h | h | h | h | h | h | h
  · exact ⟨4, _, _, rfl, rfl, cRM0 hb hx hm h⟩
  · exact ⟨3, _, _, rfl, rfl, cRM1 hb hx hm h⟩
  · exact ⟨2, _, _, rfl, rfl, cRM2 hb hx hm h⟩
  · exact ⟨5, _, _, rfl, rfl, cRM3 hb hx hm h⟩
  · exact ⟨1, _, _, rfl, rfl, cRM4 hb hx hm h⟩
  · exact ⟨10, _, _, rfl, rfl, cRM5 hb hx hm h⟩
  · exact ⟨8, _, _, rfl, rfl, cRM6 hb hx hm h⟩
def strF (k d fl lost row : Int) : Int := if k = 1 then d - lost + 1 else if k = 2 then 2 * d - lost else if k = 4 then (d - lost + 1).tdiv 2 - 1 else if k = 5 then 2 * d - lost + (if fl = 1 then 2 else 0) else if k = 6 then d - lost + row else d - lost
theorem dark_str {k d fl lost row : Int} (hk : 0 ≤ k ∧ k ≤ 6) : (if 0 < strF k d fl lost row - (if fl = 3 then 2 else 0) then strF k d fl lost row - (if fl = 3 then 2 else 0) else 0) = darkF k d fl lost row := by
  have key : ∀ x : Int, (if 0 < x then x else 0) = (if x < 0 then 0 else x) := by
    intro x
    (repeat' split) <;> omega
  rw [key]
  unfold strF darkF
  rcases (show k = 0 ∨ k = 1 ∨ k = 2 ∨ k = 3 ∨ k = 4 ∨ k = 5 ∨ k = 6 by omega) with rfl | rfl | rfl | rfl | rfl | rfl | rfl <;> simp
def eL (e : Int → Int) (L : List Int) : Int → Int := sU e 0 (e 0 + (L.length : Int))
theorem eL_0 (e : Int → Int) (L : List Int) : eL e L 0 = e 0 + (L.length : Int) := sU_eq
theorem eL_1 (e : Int → Int) (L : List Int) : eL e L 1 = e 1 := sU_ne (by omega)
theorem eL_app (e : Int → Int) (L1 L2 : List Int) : eL (eL e L1) L2 = eL e (L1 ++ L2) := by
  funext q
  unfold eL sU
  by_cases h : q = 0
  · simp [h]; omega
  · simp [h]
def lowTd (t n : Int) : Int := if 0 < t - 2 * n then t - 2 * n else 0
theorem lcmp_g (y : Int) : (0 < lcmp y 0 ↔ 0 < y) ∧ (lcmp y 0 = 0 ↔ y = 0) ∧ -1 ≤ lcmp y 0 ∧ lcmp y 0 ≤ 1 := by
  unfold lcmp
  (repeat' split) <;> omega
theorem mod_half {x y : Int} (hx : 0 < x) (hxy : x < y) : 2 * (y % x) ≤ y := by
  have h1 := Int.emod_lt_of_pos y hx
  have h2 := Int.emod_add_mul_ediv y x
  have h3 : 1 ≤ y / x := Int.le_ediv_of_mul_le hx (by omega)
  have h4 : x * 1 ≤ x * (y / x) := Int.mul_le_mul_of_nonneg_left h3 (by omega)
  omega
def frI (x y : Int) (i : Nat) : Prop := i = 0 ∨ (x < y ∧ x * y * 2 ^ (i - 1) ≤ 1000000000000000000)
theorem frac_x0 {x y : Int} {i : Nat} (h0 : 0 ≤ x) (h : frI x y i) (hi : 100 ≤ i) : x = 0 := by
  rcases h with h | ⟨h1, h2⟩
  · omega
  · by_cases e : x = 0
    · exact e
    · exfalso
      have h3 : 1 * 1 ≤ x * y := Int.mul_le_mul (by omega) (by omega) (by omega) (by omega)
      have h4 : (2 : Int) ^ 99 ≤ 2 ^ (i - 1) := by
        have : 2 ^ 99 ≤ 2 ^ (i - 1) := Nat.pow_le_pow_right (by omega) (by omega)
        exact_mod_cast this
      have h5 : 1 * 2 ^ 99 ≤ x * y * 2 ^ (i - 1) := Int.mul_le_mul (by omega) h4 (Int.pow_nonneg (by omega)) (by omega)
      have h6 : ¬ ((1 : Int) * 2 ^ 99 ≤ 1000000000000000000) := by decide
      omega
theorem frI_step {x y : Int} {i : Nat} (hx : 0 < x) (hx2 : x ≤ 1000000000) (hy : 0 ≤ y ∧ y ≤ 1000000000) (h : frI x y i) : frI (y % x) x (i + 1) := by
  have h1 := Int.emod_lt_of_pos y hx
  have h0 := Int.emod_nonneg y (show x ≠ 0 by omega)
  refine Or.inr ⟨h1, ?_⟩
  rw [Nat.add_sub_cancel]
  rcases h with h | ⟨h2, h3⟩
  · subst h
    have : (y % x) * x ≤ 1000000000 * 1000000000 := Int.mul_le_mul (by omega) hx2 (by omega) (by omega)
    rw [Int.pow_zero]
    omega
  · have hm := mod_half hx h2
    by_cases hi : i = 0
    · subst hi
      have : (y % x) * x ≤ 1000000000 * 1000000000 := Int.mul_le_mul (by omega) hx2 (by omega) (by omega)
      rw [Int.pow_zero]
      omega
    · obtain ⟨j, rfl⟩ := Nat.exists_eq_succ_of_ne_zero hi
      rw [Nat.succ_sub_one] at h3
      have e : y % x * x * 2 ^ (j + 1) = 2 * (y % x) * x * 2 ^ j := by
        rw [Int.pow_succ]
        simp only [Int.mul_assoc, Int.mul_comm, Int.mul_left_comm]
      have h4 : 2 * (y % x) * x ≤ y * x := Int.mul_le_mul_of_nonneg_right hm (by omega)
      have h5 : 2 * (y % x) * x * 2 ^ j ≤ y * x * 2 ^ j := Int.mul_le_mul_of_nonneg_right h4 (Int.pow_nonneg (by omega))
      rw [Int.mul_comm x y] at h3
      show y % x * x * 2 ^ (j + 1) ≤ _
      rw [e]
      omega
theorem frac_val {x y u w t : Int} (h : Int.gcd y x = Int.gcd u w) (hx : x = 0) (hy : 0 ≤ y) : q_low u w t = (if t = 0 then u else w) / y := by
  unfold q_low
  rw [low_x h hx hy]
set_option maxHeartbeats 4000000 in
set_option maxRecDepth 100000 in
theorem k_floorMod (l : Launch) (D : Dx) (A : Nat → Prop) (P : Heap → Prop) (x : Int) (y : Int) (hx : 0 ≤ x ∧ x ≤ 1000000) (hy : 0 < y ∧ y ≤ 1000) : CT l D A yJ9_floorMod_7cf53 cJ9_floorMod_7cf53 3 (some .int) { frames := 0, cells := 0, slots := 0, locals := 0 } [vI x, vI y] P (fun _ : Unit => some (vI (x % y))) (fun _ => 0 ≤ x % y ∧ x % y < y) (fun _ => P) := by
  refine ct_ofF (lo0 := [(0, vI x), (1, vI y)]) (by decide +kernel) (Nat.le_of_ble_eq_true rfl) rfl ?_
  intro G hG hR
  have hxy := ixor_pos (x := x) (y := y) (by omega) (by omega)
  have hr := Int.emod_nonneg x (show y ≠ 0 by omega)
  have hr2 := Int.emod_lt_of_pos x hy.1
  refine v_iload_n hG dJ9_floorMod_7cf53_0 rfl 0 rfl ?_
  refine v_iload_n hG dJ9_floorMod_7cf53_1 rfl 1 rfl ?_
  refine v_irem hG dJ9_floorMod_7cf53_2 (by omega) (by omega) ?_
  refine v_istore_n (lo' := [(2, vI (x % y)), (0, vI x), (1, vI y)]) hG dJ9_floorMod_7cf53_3 rfl (by decide) rfl ?_
  refine v_iload_n hG dJ9_floorMod_7cf53_4 rfl 1 rfl ?_
  refine v_iload_n hG dJ9_floorMod_7cf53_5 rfl 2 rfl ?_
  refine v_ixor hG dJ9_floorMod_7cf53_6 ?_
  refine v_if_ge (tgt := 18) hG dJ9_floorMod_7cf53_7 (by decide) (by omega) (fun c1 => ?_) (fun c1 => ?_)
  · skip
    refine v_iload_n hG dJ9_floorMod_7cf53_18 rfl 0 rfl ?_
    exact v_ireturn hG hR dJ9_floorMod_7cf53_19 () rfl (by exact ⟨hr, hr2⟩) (fun _ hM => hM)
  · skip
    refine v_iload_n hG dJ9_floorMod_7cf53_10 rfl 0 rfl ?_
    refine v_if_eq (tgt := 18) hG dJ9_floorMod_7cf53_11 (by decide) (by omega) (fun c2 => ?_) (fun c2 => ?_)
    · skip
      refine v_iload_n hG dJ9_floorMod_7cf53_18 rfl 0 rfl ?_
      exact v_ireturn hG hR dJ9_floorMod_7cf53_19 () rfl (by exact ⟨hr, hr2⟩) (fun _ hM => hM)
    · skip
      refine v_iload_n hG dJ9_floorMod_7cf53_14 rfl 0 rfl ?_
      refine v_iload_n hG dJ9_floorMod_7cf53_15 rfl 2 rfl ?_
      refine v_iadd hG dJ9_floorMod_7cf53_16 ?_
      have e3 : @Eq Int (x % y) ((x % y) + y) := by first | rfl | omega | (exact bi_congr (by omega)) | (simp [c1, c2]; done)
      exact v_ireturn hG hR dJ9_floorMod_7cf53_17 () (congrArg (fun z => some (vI z)) e3) (by exact ⟨hr, hr2⟩) (fun _ hM => hM)
set_option maxHeartbeats 4000000 in
set_option maxRecDepth 100000 in
theorem kc11_within (l : Launch) (D : Dx) (A : Nat → Prop) (P : Heap → Prop) (v : Int) (low : Int) (high : Int) (h1 : -2147483648 ≤ v ∧ v < 2147483648) (h2 : -2147483648 ≤ low ∧ low < 2147483648) (h3 : -2147483648 ≤ high ∧ high < 2147483648) : CT l D A yX11_within cX11_within 3 (some .boolean) { frames := 0, cells := 0, slots := 0, locals := 0 } [vI v, vI low, vI high] P (fun _ : Unit => some (vI (bi (low ≤ v ∧ v ≤ high)))) (fun _ => True) (fun _ => P) := by
  refine ct_of (lo0 := [(0, vI v), (1, vI low), (2, vI high)]) (by decide) (Nat.le_of_ble_eq_true rfl) rfl ?_
  intro G hG hR
  refine v_iload_n hG dX11_within_0 rfl 0 rfl ?_
  refine v_iload_n hG dX11_within_1 rfl 1 rfl ?_
  have J2 : ∀ z1 : Int, z1 = (bi ((¬ (v < low)) ∧ (¬ (high < v)))) → V G 0 0 (P) 15 [(0, vI v), (1, vI low), (2, vI high)] [vI z1] := by
    intro z1 hz1
    subst hz1
    have e3 : @Eq Int (bi (low ≤ v ∧ v ≤ high)) (bi ((¬ (v < low)) ∧ (¬ (high < v)))) := by first | rfl | omega | (exact bi_congr (by omega)) | (simp []; done)
    exact v_zreturn hG hR dX11_within_15 (bi_01 _) () (congrArg (fun z => some (vI z)) e3) (by trivial) (fun _ hM => hM)
  refine v_icmp_lt (tgt := 14) hG dX11_within_2 (by decide) (by omega) (by omega) (fun c4 => ?_) (fun c4 => ?_)
  · skip
    refine v_iconst hG dX11_within_14 ?_
    exact J2 _ (by first | rfl | (simp only [if_pos c4]; done) | (simp [bi, c4]; done))
  · skip
    refine v_iload_n hG dX11_within_5 rfl 0 rfl ?_
    refine v_iload_n hG dX11_within_6 rfl 2 rfl ?_
    refine v_icmp_gt (tgt := 14) hG dX11_within_7 (by decide) (by omega) (by omega) (fun c5 => ?_) (fun c5 => ?_)
    · skip
      refine v_iconst hG dX11_within_14 ?_
      exact J2 _ (by first | rfl | (simp only [if_neg c4, if_pos c5]; done) | (simp [bi, c4, c5]; done))
    · skip
      refine v_iconst hG dX11_within_10 ?_
      refine v_goto (tgt := 15) hG dX11_within_11 (by decide) ?_
      exact J2 _ (by first | rfl | (simp only [if_neg c4, if_neg c5]; done) | (simp [bi, c4, c5]; done))
set_option maxHeartbeats 4000000 in
set_option maxRecDepth 100000 in
theorem kc11_moreTired (l : Launch) (D : Dx) (A : Nat → Prop) (P : Heap → Prop) (t : Int) (n : Int) (ht : 0 ≤ t ∧ t ≤ 99) (hn : 0 ≤ n ∧ n ≤ 1000) : CT l D A yX11_moreTired cX11_moreTired 2 (some .int) { frames := 1, cells := 0, slots := 0, locals := 21 } [vI t, vI n] P (fun _ : Unit => some (vI (clamp (t + n) 0 99))) (fun _ => 0 ≤ clamp (t + n) 0 99 ∧ clamp (t + n) 0 99 ≤ 99) (fun _ => P) := by
  refine ct_of (lo0 := [(0, vI t), (1, vI n)]) (by decide) (Nat.le_of_ble_eq_true rfl) rfl ?_
  intro G hG hR
  refine v_bipush hG dX11_moreTired_0 (by decide) ?_
  refine v_iload_n hG dX11_moreTired_2 rfl 0 rfl ?_
  refine v_iload_n hG dX11_moreTired_3 rfl 1 rfl ?_
  refine v_iadd hG dX11_moreTired_4 ?_
  refine v_mmin hG dX11_moreTired_5 zl_X11_205 (by decide) ⟨Nat.le_refl _, Nat.le_refl _⟩ (Nat.le_of_ble_eq_true rfl) (by omega) (by omega) ?_
  generalize hv1 : (if (t + n) < 99 then (t + n) else 99) = v1
  have bv1 : (v1 = 99 ∨ v1 = t + n) ∧ v1 ≤ 99 ∧ v1 ≤ t + n := by rw [← hv1]; (repeat' split) <;> omega
  have e2 : @Eq Int (clamp (t + n) 0 99) (v1) := by unfold clamp; (repeat' split) <;> omega
  exact v_ireturn hG hR dX11_moreTired_8 () (congrArg (fun z => some (vI z)) e2) (by exact clamp_rng _ (by omega)) (fun _ hM => hM)
set_option maxHeartbeats 4000000 in
set_option maxRecDepth 100000 in
theorem kc11_lessTired (l : Launch) (D : Dx) (A : Nat → Prop) (P : Heap → Prop) (t : Int) (n : Int) (ht : 0 ≤ t ∧ t ≤ 99) (hn : 0 ≤ n ∧ n ≤ 1000) : CT l D A yX11_lessTired cX11_lessTired 2 (some .int) { frames := 1, cells := 0, slots := 0, locals := 21 } [vI t, vI n] P (fun _ : Unit => some (vI (clamp (t + -2 * n) 0 99))) (fun _ => 0 ≤ clamp (t + -2 * n) 0 99 ∧ clamp (t + -2 * n) 0 99 ≤ 99) (fun _ => P) := by
  refine ct_of (lo0 := [(0, vI t), (1, vI n)]) (by decide) (Nat.le_of_ble_eq_true rfl) rfl ?_
  intro G hG hR
  refine v_iconst hG dX11_lessTired_0 ?_
  refine v_iload_n hG dX11_lessTired_1 rfl 0 rfl ?_
  refine v_iconst hG dX11_lessTired_2 ?_
  refine v_iload_n hG dX11_lessTired_3 rfl 1 rfl ?_
  refine v_imul hG dX11_lessTired_4 ?_
  refine v_isub hG dX11_lessTired_5 ?_
  refine v_mmax hG dX11_lessTired_6 zl_X11_292 (by decide) ⟨Nat.le_refl _, Nat.le_refl _⟩ (Nat.le_of_ble_eq_true rfl) (by omega) (by omega) ?_
  generalize hv1 : (if 0 < (t - (2 * n)) then (t - (2 * n)) else 0) = v1
  have bv1 : (v1 = 0 ∨ v1 = t - (2 * n)) ∧ 0 ≤ v1 ∧ t - (2 * n) ≤ v1 := by rw [← hv1]; (repeat' split) <;> omega
  have e2 : @Eq Int (clamp (t + -2 * n) 0 99) (v1) := by unfold clamp; (repeat' split) <;> omega
  exact v_ireturn hG hR dX11_lessTired_9 () (congrArg (fun z => some (vI z)) e2) (by exact clamp_rng _ (by omega)) (fun _ hM => hM)
set_option maxHeartbeats 4000000 in
set_option maxRecDepth 100000 in
theorem kc11_fraction (l : Launch) (D : Dx) (A : Nat → Prop) (P : Heap → Prop) (u : Int) (w : Int) (t : Int) (hu : 0 ≤ u ∧ u ≤ 1000000000) (hw : 0 ≤ w ∧ w ≤ 1000000000) (ht : -2147483648 ≤ t ∧ t < 2147483648) : CT l D A yX11_fraction cX11_fraction 12 (some .long) { frames := 1, cells := 0, slots := 0, locals := 22 } [vL u, vL w, vI t] P (fun _ : Unit => some (vL (if 0 ≤ t ∧ t ≤ 1 then (if w = 0 then -9223372036854775808 else q_low u w t) else -9223372036854775808))) (fun _ => True) (fun _ => P) := by
  refine ct_of (lo0 := [(0, vL u), (2, vL w), (4, vI t)]) (by decide) (Nat.le_of_ble_eq_true rfl) rfl ?_
  intro G hG hR
  refine v_iload hG dX11_fraction_0 2 rfl ?_
  refine v_iconst hG dX11_fraction_2 ?_
  refine v_iconst hG dX11_fraction_3 ?_
  refine v_callS (k1' := 0) (k2' := 0) hG dX11_fraction_4 zc_X11_within ⟨zl_X11_50, zt_X11_within⟩ (fun l => kc11_within l D A (P) t 0 1 (by omega) (by omega) (by omega)) rfl (fun _ h => h) ⟨by decide, by decide⟩ rfl rfl ⟨by decide, by decide⟩ (rest := []) rfl (Nat.le_of_ble_eq_true rfl) (fun u1 => [vI (bi (0 ≤ t ∧ t ≤ 1))]) (fun _ => rfl) (fun u1 hu1 => ?_)
  refine v_ifb_eq (p := 0 ≤ t ∧ t ≤ 1) (tgt := 16) hG dX11_fraction_7 (by decide) (fun c2 => ?_) (fun c2 => ?_)
  · skip
    refine v_ldc2 (n := -9223372036854775808) hG dX11_fraction_16 (ztb 797 (by decide +kernel) (by decide +kernel)) rfl ?_
    have e3 : @Eq Int (if 0 ≤ t ∧ t ≤ 1 then (if w = 0 then -9223372036854775808 else q_low u w t) else -9223372036854775808) (-9223372036854775808) := by first | (rw [if_neg (by assumption)]; done) | rw [if_pos (by assumption), if_pos (by omega)]
    exact v_lreturn hG hR dX11_fraction_19 () (congrArg (fun z => some (vL z)) e3) (by trivial) (fun _ hM => hM)
  · skip
    refine v_lload_n hG dX11_fraction_10 rfl 1 rfl ?_
    refine v_lconst0 hG dX11_fraction_11 ?_
    refine v_lcmp hG dX11_fraction_12 (by omega) (by omega) ?_
    have hlw := lcmp_g w
    refine v_if_gt (tgt := 20) hG dX11_fraction_13 (by decide) (by omega) (fun c4 => ?_) (fun c4 => ?_)
    · skip
      refine v_lload_n hG dX11_fraction_20 rfl 0 rfl ?_
      refine v_lstore (lo' := [(5, vL u), (0, vL u), (2, vL w), (4, vI t)]) hG dX11_fraction_21 (by decide) rfl ?_
      refine v_lload_n hG dX11_fraction_23 rfl 2 rfl ?_
      refine v_lstore (lo' := [(7, vL w), (5, vL u), (0, vL u), (2, vL w), (4, vI t)]) hG dX11_fraction_24 (by decide) rfl ?_
      refine v_iconst hG dX11_fraction_26 ?_
      refine v_istore (lo' := [(9, vI 0), (7, vL w), (5, vL u), (0, vL u), (2, vL w), (4, vI t)]) hG dX11_fraction_27 (by decide) rfl ?_
      refine v_lo [3, 4, 5, 2, 1, 0] (lo' := [(0, vL u), (2, vL w), (4, vI t), (5, vL u), (7, vL w), (9, vI 0)]) rfl ?_
      have L8 : ∀ mz : Nat, ∀ (x y : Int) (i : Nat), (0 ≤ x ∧ x ≤ 1000000000) → (0 ≤ y ∧ y ≤ 1000000000) → (0 < x ∨ 0 < y) → (Int.gcd y x = Int.gcd u w) → ((i : Int) ≤ 100) → (frI x y i) → (100 - (i : Int)).toNat = mz → ∀ x5 : Int, x5 = (x) → ∀ x6 : Int, x6 = (y) → ∀ x7 : Int, x7 = ((i : Int)) → V G 0 0 (P) 29 [(0, vL u), (2, vL w), (4, vI t), (5, vL x5), (7, vL x6), (9, vI x7)] [] := by
        intro dL8
        induction dL8 using Nat.strongRecOn with
        | ind dL8 ihL8 =>
          intro x y i hq9 hq10 hq11 hq12 hq13 hq14 hq15
          intro x5 hx5
          replace hx5 := hx5.symm
          subst hx5
          intro x6 hx6
          replace hx6 := hx6.symm
          subst hx6
          intro x7 hx7
          subst hx7
          refine v_iload hG dX11_fraction_29 5 rfl ?_
          refine v_bipush hG dX11_fraction_31 (by decide) ?_
          refine v_icmp_ge (tgt := 64) hG dX11_fraction_33 (by decide) (by omega) (by omega) (fun c16 => ?_) (fun c16 => ?_)
          · skip
            have hx0 : x = 0 := by first | omega | exact frac_x0 (by omega) (by assumption) (by omega)
            refine v_lload hG dX11_fraction_64 4 rfl ?_
            refine v_lconst0 hG dX11_fraction_66 ?_
            refine v_lcmp hG dX11_fraction_67 (by omega) (by omega) ?_
            have hly := lcmp_g y
            refine v_if_gt (tgt := 75) hG dX11_fraction_68 (by decide) (by omega) (fun c17 => ?_) (fun c17 => ?_)
            · skip
              refine v_iload hG dX11_fraction_75 2 rfl ?_
              refine v_if_ne (tgt := 87) hG dX11_fraction_77 (by decide) (by omega) (fun c18 => ?_) (fun c18 => ?_)
              · skip
                refine v_lload_n hG dX11_fraction_87 rfl 1 rfl ?_
                refine v_lload hG dX11_fraction_88 4 rfl ?_
                refine v_ldiv hG dX11_fraction_90 (by omega) (by omega) ?_
                have e19 : @Eq Int (if 0 ≤ t ∧ t ≤ 1 then (if w = 0 then -9223372036854775808 else q_low u w t) else -9223372036854775808) (w / y) := by rw [if_pos (by assumption), if_neg (by omega), frac_val (by assumption) hx0 (by omega)]; simp only [if_pos c2, if_pos c4, if_pos c16, if_pos c17, if_neg c18]
                exact v_lreturn hG hR dX11_fraction_91 () (congrArg (fun z => some (vL z)) e19) (by trivial) (fun _ hM => hM)
              · skip
                refine v_lload_n hG dX11_fraction_80 rfl 0 rfl ?_
                refine v_lload hG dX11_fraction_81 4 rfl ?_
                refine v_ldiv hG dX11_fraction_83 (by omega) (by omega) ?_
                refine v_goto (tgt := 91) hG dX11_fraction_84 (by decide) ?_
                have e20 : @Eq Int (if 0 ≤ t ∧ t ≤ 1 then (if w = 0 then -9223372036854775808 else q_low u w t) else -9223372036854775808) (u / y) := by rw [if_pos (by assumption), if_neg (by omega), frac_val (by assumption) hx0 (by omega)]; simp only [if_pos c2, if_pos c4, if_pos c16, if_pos c17, if_pos c18]
                exact v_lreturn hG hR dX11_fraction_91 () (congrArg (fun z => some (vL z)) e20) (by trivial) (fun _ hM => hM)
            · skip
              refine v_ldc2 (n := -9223372036854775808) hG dX11_fraction_71 (ztb 797 (by decide +kernel) (by decide +kernel)) rfl ?_
              have e21 : @Eq Int (if 0 ≤ t ∧ t ≤ 1 then (if w = 0 then -9223372036854775808 else q_low u w t) else -9223372036854775808) (-9223372036854775808) := by exfalso; omega
              exact v_lreturn hG hR dX11_fraction_74 () (congrArg (fun z => some (vL z)) e21) (by trivial) (fun _ hM => hM)
          · skip
            refine v_lload hG dX11_fraction_36 3 rfl ?_
            refine v_lconst0 hG dX11_fraction_38 ?_
            refine v_lcmp hG dX11_fraction_39 (by omega) (by omega) ?_
            have hlc := lcmp_g x
            refine v_if_eq (tgt := 64) hG dX11_fraction_40 (by decide) (by omega) (fun c22 => ?_) (fun c22 => ?_)
            · skip
              have hx0 : x = 0 := by first | omega | exact frac_x0 (by omega) (by assumption) (by omega)
              refine v_lload hG dX11_fraction_64 4 rfl ?_
              refine v_lconst0 hG dX11_fraction_66 ?_
              refine v_lcmp hG dX11_fraction_67 (by omega) (by omega) ?_
              have hly := lcmp_g y
              refine v_if_gt (tgt := 75) hG dX11_fraction_68 (by decide) (by omega) (fun c23 => ?_) (fun c23 => ?_)
              · skip
                refine v_iload hG dX11_fraction_75 2 rfl ?_
                refine v_if_ne (tgt := 87) hG dX11_fraction_77 (by decide) (by omega) (fun c24 => ?_) (fun c24 => ?_)
                · skip
                  refine v_lload_n hG dX11_fraction_87 rfl 1 rfl ?_
                  refine v_lload hG dX11_fraction_88 4 rfl ?_
                  refine v_ldiv hG dX11_fraction_90 (by omega) (by omega) ?_
                  have e25 : @Eq Int (if 0 ≤ t ∧ t ≤ 1 then (if w = 0 then -9223372036854775808 else q_low u w t) else -9223372036854775808) (w / y) := by rw [if_pos (by assumption), if_neg (by omega), frac_val (by assumption) hx0 (by omega)]; simp only [if_pos c2, if_pos c4, if_neg c16, if_pos c22, if_pos c23, if_neg c24]
                  exact v_lreturn hG hR dX11_fraction_91 () (congrArg (fun z => some (vL z)) e25) (by trivial) (fun _ hM => hM)
                · skip
                  refine v_lload_n hG dX11_fraction_80 rfl 0 rfl ?_
                  refine v_lload hG dX11_fraction_81 4 rfl ?_
                  refine v_ldiv hG dX11_fraction_83 (by omega) (by omega) ?_
                  refine v_goto (tgt := 91) hG dX11_fraction_84 (by decide) ?_
                  have e26 : @Eq Int (if 0 ≤ t ∧ t ≤ 1 then (if w = 0 then -9223372036854775808 else q_low u w t) else -9223372036854775808) (u / y) := by rw [if_pos (by assumption), if_neg (by omega), frac_val (by assumption) hx0 (by omega)]; simp only [if_pos c2, if_pos c4, if_neg c16, if_pos c22, if_pos c23, if_pos c24]
                  exact v_lreturn hG hR dX11_fraction_91 () (congrArg (fun z => some (vL z)) e26) (by trivial) (fun _ hM => hM)
              · skip
                refine v_ldc2 (n := -9223372036854775808) hG dX11_fraction_71 (ztb 797 (by decide +kernel) (by decide +kernel)) rfl ?_
                have e27 : @Eq Int (if 0 ≤ t ∧ t ≤ 1 then (if w = 0 then -9223372036854775808 else q_low u w t) else -9223372036854775808) (-9223372036854775808) := by exfalso; omega
                exact v_lreturn hG hR dX11_fraction_74 () (congrArg (fun z => some (vL z)) e27) (by trivial) (fun _ hM => hM)
            · skip
              refine v_lload hG dX11_fraction_43 4 rfl ?_
              refine v_lload hG dX11_fraction_45 3 rfl ?_
              refine v_lrem hG dX11_fraction_47 (by omega) (by omega) ?_
              refine v_lstore (lo' := [(10, vL (y % x)), (0, vL u), (2, vL w), (4, vI t), (5, vL x), (7, vL y), (9, vI (i : Int))]) hG dX11_fraction_48 (by decide) rfl ?_
              refine v_lload hG dX11_fraction_50 4 rfl ?_
              refine v_lstore (lo' := [(7, vL x), (10, vL (y % x)), (0, vL u), (2, vL w), (4, vI t), (5, vL x), (9, vI (i : Int))]) hG dX11_fraction_52 (by decide) rfl ?_
              refine v_lload hG dX11_fraction_54 1 rfl ?_
              refine v_lstore (lo' := [(5, vL (y % x)), (7, vL x), (10, vL (y % x)), (0, vL u), (2, vL w), (4, vI t), (9, vI (i : Int))]) hG dX11_fraction_56 (by decide) rfl ?_
              refine v_iinc (lo' := [(9, vI ((i : Int) + 1)), (5, vL (y % x)), (7, vL x), (10, vL (y % x)), (0, vL u), (2, vL w), (4, vI t)]) hG dX11_fraction_58 6 rfl (by decide) rfl ?_
              refine v_goto (tgt := 29) hG dX11_fraction_61 (by decide) ?_
              refine v_lo [4, 5, 6, 1, 2, 0] (lo' := [(0, vL u), (2, vL w), (4, vI t), (5, vL (y % x)), (7, vL x), (9, vI ((i : Int) + 1))]) rfl ?_
              exact ihL8 _ (by omega) (y % x) x (i + 1) (by have := Int.emod_lt_of_pos y (show 0 < x by omega); have := Int.emod_nonneg y (show x ≠ 0 by omega); omega) (by omega) (by omega) (by rw [gcd_step (by omega) (by omega)]; assumption) (by omega) (by exact frI_step (by omega) (by omega) (by omega) (by assumption)) rfl _ (by rfl) _ (by rfl) _ (by first | omega | rfl | (simp [c2, c4, c16, c22]; done))
      exact L8 _ u w 0 (by omega) (by omega) (by omega) (by exact Int.gcd_comm _ _) (by omega) (by exact Or.inl rfl) rfl _ (by rfl) _ (by rfl) _ (by first | omega | rfl | (simp [c2, c4]; done))
    · skip
      refine v_ldc2 (n := -9223372036854775808) hG dX11_fraction_16 (ztb 797 (by decide +kernel) (by decide +kernel)) rfl ?_
      have e28 : @Eq Int (if 0 ≤ t ∧ t ≤ 1 then (if w = 0 then -9223372036854775808 else q_low u w t) else -9223372036854775808) (-9223372036854775808) := by first | (rw [if_neg (by assumption)]; done) | rw [if_pos (by assumption), if_pos (by omega)]
      exact v_lreturn hG hR dX11_fraction_19 () (congrArg (fun z => some (vL z)) e28) (by trivial) (fun _ hM => hM)
