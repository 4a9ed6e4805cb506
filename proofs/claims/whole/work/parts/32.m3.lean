/-! THE MODEL: third walks -/
theorem pw_rng {m : Int} (h : 0 ≤ m ∧ m < 8) : (1 : Int) * 2 ^ m.toNat ≤ 128 ∧ 0 ≤ (1 : Int) * 2 ^ m.toNat := by
  have e : ∀ n : Nat, n < 8 → (1 : Int) * 2 ^ n ≤ 128 ∧ 0 ≤ (1 : Int) * 2 ^ n := by decide
  exact e m.toNat (by omega)
def a_good (s : Int → Int) (m : Int) : Int := if m = -1 then q_goodOf s (q_now s) else if 0 ≤ m ∧ m ≤ s 43 - 1 then q_goodOf s (if 0 < q_dk s m 0 then 1 * 2 ^ m.toNat else 0) else -1
def a_faded (s : Int → Int) (n : Int) : Int := if 0 ≤ n ∧ n ≤ 999 then bset (fadF s n) (s 43).toNat else -2
theorem rsd_n {s : Int → Int} {SL : List Int} {k : Nat} (h : (rsd s SL k).1 ≤ (if s (11 + k) = 1 then 1000000 else q_roa s SL k)) : rsd s SL (k + 1) = rsd s SL k := if_neg (Int.not_lt.mpr h)
theorem rsd_y {s : Int → Int} {SL : List Int} {k : Nat} (h : ¬ (rsd s SL k).1 ≤ (if s (11 + k) = 1 then 1000000 else q_roa s SL k)) : rsd s SL (k + 1) = ((if s (11 + k) = 1 then 1000000 else q_roa s SL k), (k : Int)) := if_pos (Int.not_le.mp h)
theorem lg3 (f : Int → Int) (a b c a' b' c' : Int) : sU (sU (sU (sU (sU (sU f 0 a) 1 b) 2 c) 0 a') 1 b') 2 c' = sU (sU (sU f 0 a') 1 b') 2 c' := by
  funext q
  simp only [sU]
  (repeat' split) <;> rfl
theorem lcmp_0 (y : Int) : (lcmp y 0 = 0 ↔ y = 0) ∧ -1 ≤ lcmp y 0 ∧ lcmp y 0 ≤ 1 := by
  unfold lcmp
  (repeat' split) <;> omega
theorem low_x {x y u w : Int} (h : Int.gcd x y = Int.gcd u w) (hy : y = 0) (hx : 0 ≤ x) : ((Int.gcd u w : Nat) : Int) = x := by
  subst hy
  obtain ⟨a, rfl⟩ := Int.eq_ofNat_of_zero_le hx
  rw [← h, show (0 : Int) = ((0 : Nat) : Int) from rfl, Int.gcd_natCast_natCast, Nat.gcd_zero_right]
set_option maxHeartbeats 4000000 in
set_option maxRecDepth 100000 in
theorem k_good (l : Launch) (D : Dx) (A : Nat → Prop) (a : Nat → Nat) (s im fr bY tr ln bl bo g lg : Int → Int) (m : Int) (hr : -2147483648 ≤ m ∧ m < 2147483648) (hN : NM s) (hM : GM s) (hP : PL s) : CT l D A yX12_good cX12_good 2 (some .int) { frames := 6, cells := 0, slots := 0, locals := 137 } [.ref (a 0), vI m] (MW D A a s im fr bY tr ln bl bo g lg) (fun _ : Unit => some (vI (a_good s m))) (fun _ => True) (fun _ => MW D A a s im fr bY tr ln bl bo g lg) := by
  refine ct_of (lo0 := [(0, .ref (a 0)), (1, vI m)]) (by decide) (Nat.le_of_ble_eq_true rfl) rfl ?_
  intro G hG hR
  have hN9 : 0 ≤ s 43 ∧ s 43 ≤ 8 := hN
  have hq := q_now_rng hN
  refine v_iload_n hG dX12_good_0 rfl 1 rfl ?_
  refine v_iconst hG dX12_good_1 ?_
  refine v_icmp_eq (tgt := 15) hG dX12_good_2 (by decide) (by omega) (by omega) (fun c1 => ?_) (fun c1 => ?_)
  · skip
    refine v_aload_n hG dX12_good_15 rfl 0 rfl ?_
    refine v_iload_n hG dX12_good_16 rfl 1 rfl ?_
    refine v_iconst hG dX12_good_17 ?_
    refine v_icmp_ne (tgt := 28) hG dX12_good_18 (by decide) (by omega) (by omega) (fun c2 => ?_) (fun c2 => ?_)
    · skip
      refine v_aload_n hG dX12_good_28 rfl 0 rfl ?_
      refine v_iload_n hG dX12_good_29 rfl 1 rfl ?_
      refine v_iconst hG dX12_good_30 ?_
      refine v_callV (k1' := 0) (k2' := 0) hG dX12_good_31 zc_X12_doesPrint ⟨zl_X12_187, zi_X12_doesPrint, zs_X12_doesPrint⟩ (fun l => k_doesPrint l D A a s im fr bY tr ln bl bo g lg m 0 (by omega) (by first | assumption | (exact hM _ (by omega) (by omega))) (by assumption) (by omega)) rfl mw_recv (fun _ h => h) ⟨by decide, by decide⟩ rfl rfl ⟨by decide, by decide⟩ (rest := [.ref (a 0)]) rfl (Nat.le_of_ble_eq_true rfl) (fun u3 => [vI (bi (0 < q_dk s m 0)), .ref (a 0)]) (fun _ => rfl) (fun u3 hu3 => ?_)
      refine v_ifb_eq (p := 0 < q_dk s m 0) (tgt := 43) hG dX12_good_34 (by decide) (fun c4 => ?_) (fun c4 => ?_)
      · skip
        refine v_iconst hG dX12_good_43 ?_
        refine v_callV (k1' := 0) (k2' := 0) hG dX12_good_44 zc_X12_goodOf ⟨zl_X12_200, zi_X12_goodOf, zs_X12_goodOf⟩ (fun l => k_goodOf l D A a s im fr bY tr ln bl bo g lg 0 (by assumption) (by assumption) (by assumption) (by omega)) rfl mw_recv (fun _ h => h) ⟨by decide, by decide⟩ rfl rfl ⟨by decide, by decide⟩ (rest := []) rfl (Nat.le_of_ble_eq_true rfl) (fun u5 => [vI (q_goodOf s 0)]) (fun _ => rfl) (fun u5 hu5 => ?_)
        have fu5 : -5 ≤ q_goodOf s 0 ∧ q_goodOf s 0 ≤ 999 := hu5
        have e6 : @Eq Int (a_good s m) (q_goodOf s 0) := by first | rfl | (simp only [a_good, if_pos c1, if_neg c2, if_neg c4]; done) | (simp only [a_good, if_pos c1, if_neg c2, if_neg c4]; done) | (simp only [a_good, if_pos c1, if_neg c2, if_neg c4]; rfl) | (simp only [a_good, if_pos c1, if_neg c2, if_neg c4]; omega)
        exact v_ireturn hG hR dX12_good_47 () (congrArg (fun z => some (vI z)) e6) (by trivial) (fun _ hM => hM)
      · skip
        refine v_iconst hG dX12_good_37 ?_
        refine v_iload_n hG dX12_good_38 rfl 1 rfl ?_
        have hpw : (1 : Int) * 2 ^ m.toNat ≤ 128 ∧ 0 ≤ (1 : Int) * 2 ^ m.toNat := pw_rng (by omega)
        refine v_ishl hG dX12_good_39 (by omega) ?_
        refine v_goto (tgt := 44) hG dX12_good_40 (by decide) ?_
        refine v_callV (k1' := 0) (k2' := 0) hG dX12_good_44 zc_X12_goodOf ⟨zl_X12_200, zi_X12_goodOf, zs_X12_goodOf⟩ (fun l => k_goodOf l D A a s im fr bY tr ln bl bo g lg (1 * 2 ^ m.toNat) (by assumption) (by assumption) (by assumption) (by omega)) rfl mw_recv (fun _ h => h) ⟨by decide, by decide⟩ rfl rfl ⟨by decide, by decide⟩ (rest := []) rfl (Nat.le_of_ble_eq_true rfl) (fun u7 => [vI (q_goodOf s (1 * 2 ^ m.toNat))]) (fun _ => rfl) (fun u7 hu7 => ?_)
        have fu7 : -5 ≤ q_goodOf s (1 * 2 ^ m.toNat) ∧ q_goodOf s (1 * 2 ^ m.toNat) ≤ 999 := hu7
        have e8 : @Eq Int (a_good s m) (q_goodOf s (1 * 2 ^ m.toNat)) := by first | rfl | (simp only [a_good, if_pos c1, if_neg c2, if_pos c4]; done) | (simp only [a_good, if_pos c1, if_neg c2, if_pos c4]; done) | (simp only [a_good, if_pos c1, if_neg c2, if_pos c4]; rfl) | (simp only [a_good, if_pos c1, if_neg c2, if_pos c4]; omega)
        exact v_ireturn hG hR dX12_good_47 () (congrArg (fun z => some (vI z)) e8) (by trivial) (fun _ hM => hM)
    · skip
      refine v_aload_n hG dX12_good_21 rfl 0 rfl ?_
      refine v_callV (k1' := 0) (k2' := 0) hG dX12_good_22 zc_X12_printsNow ⟨zl_X12_197, zi_X12_printsNow, zs_X12_printsNow⟩ (fun l => k_printsNow l D A a s im fr bY tr ln bl bo g lg (by assumption) (by assumption) (by assumption)) rfl mw_recv (fun _ h => h) ⟨by decide, by decide⟩ rfl rfl ⟨by decide, by decide⟩ (rest := [.ref (a 0)]) rfl (Nat.le_of_ble_eq_true rfl) (fun u9 => [vI (q_now s), .ref (a 0)]) (fun _ => rfl) (fun u9 hu9 => ?_)
      have fu9 : 0 ≤ q_now s ∧ q_now s < 256 := hu9
      refine v_goto (tgt := 44) hG dX12_good_25 (by decide) ?_
      refine v_callV (k1' := 0) (k2' := 0) hG dX12_good_44 zc_X12_goodOf ⟨zl_X12_200, zi_X12_goodOf, zs_X12_goodOf⟩ (fun l => k_goodOf l D A a s im fr bY tr ln bl bo g lg (q_now s) (by assumption) (by assumption) (by assumption) (by omega)) rfl mw_recv (fun _ h => h) ⟨by decide, by decide⟩ rfl rfl ⟨by decide, by decide⟩ (rest := []) rfl (Nat.le_of_ble_eq_true rfl) (fun u10 => [vI (q_goodOf s (q_now s))]) (fun _ => rfl) (fun u10 hu10 => ?_)
      have fu10 : -5 ≤ q_goodOf s (q_now s) ∧ q_goodOf s (q_now s) ≤ 999 := hu10
      have e11 : @Eq Int (a_good s m) (q_goodOf s (q_now s)) := by first | rfl | (simp only [a_good, if_pos c1, if_pos c2]; done) | (simp only [a_good, if_pos c1, if_pos c2]; done) | (simp only [a_good, if_pos c1, if_pos c2]; rfl) | (simp only [a_good, if_pos c1, if_pos c2]; omega)
      exact v_ireturn hG hR dX12_good_47 () (congrArg (fun z => some (vI z)) e11) (by trivial) (fun _ hM => hM)
  · skip
    refine v_aload_n hG dX12_good_5 rfl 0 rfl ?_
    refine v_iload_n hG dX12_good_6 rfl 1 rfl ?_
    refine v_callV (k1' := 0) (k2' := 0) hG dX12_good_7 zc_X12_isMark ⟨zl_X12_150, zi_X12_isMark, zs_X12_isMark⟩ (fun l => k_isMark l D A a s im fr bY tr ln bl bo g lg m (by omega) (by assumption)) rfl mw_recv (fun _ h => h) ⟨by decide, by decide⟩ rfl rfl ⟨by decide, by decide⟩ (rest := []) rfl (Nat.le_of_ble_eq_true rfl) (fun u12 => [vI (bi (0 ≤ m ∧ m ≤ s 43 - 1))]) (fun _ => rfl) (fun u12 hu12 => ?_)
    refine v_ifb_ne (p := 0 ≤ m ∧ m ≤ s 43 - 1) (tgt := 15) hG dX12_good_10 (by decide) (fun c13 => ?_) (fun c13 => ?_)
    · skip
      refine v_aload_n hG dX12_good_15 rfl 0 rfl ?_
      refine v_iload_n hG dX12_good_16 rfl 1 rfl ?_
      refine v_iconst hG dX12_good_17 ?_
      refine v_icmp_ne (tgt := 28) hG dX12_good_18 (by decide) (by omega) (by omega) (fun c14 => ?_) (fun c14 => ?_)
      · skip
        refine v_aload_n hG dX12_good_28 rfl 0 rfl ?_
        refine v_iload_n hG dX12_good_29 rfl 1 rfl ?_
        refine v_iconst hG dX12_good_30 ?_
        refine v_callV (k1' := 0) (k2' := 0) hG dX12_good_31 zc_X12_doesPrint ⟨zl_X12_187, zi_X12_doesPrint, zs_X12_doesPrint⟩ (fun l => k_doesPrint l D A a s im fr bY tr ln bl bo g lg m 0 (by omega) (by first | assumption | (exact hM _ (by omega) (by omega))) (by assumption) (by omega)) rfl mw_recv (fun _ h => h) ⟨by decide, by decide⟩ rfl rfl ⟨by decide, by decide⟩ (rest := [.ref (a 0)]) rfl (Nat.le_of_ble_eq_true rfl) (fun u15 => [vI (bi (0 < q_dk s m 0)), .ref (a 0)]) (fun _ => rfl) (fun u15 hu15 => ?_)
        refine v_ifb_eq (p := 0 < q_dk s m 0) (tgt := 43) hG dX12_good_34 (by decide) (fun c16 => ?_) (fun c16 => ?_)
        · skip
          refine v_iconst hG dX12_good_43 ?_
          refine v_callV (k1' := 0) (k2' := 0) hG dX12_good_44 zc_X12_goodOf ⟨zl_X12_200, zi_X12_goodOf, zs_X12_goodOf⟩ (fun l => k_goodOf l D A a s im fr bY tr ln bl bo g lg 0 (by assumption) (by assumption) (by assumption) (by omega)) rfl mw_recv (fun _ h => h) ⟨by decide, by decide⟩ rfl rfl ⟨by decide, by decide⟩ (rest := []) rfl (Nat.le_of_ble_eq_true rfl) (fun u17 => [vI (q_goodOf s 0)]) (fun _ => rfl) (fun u17 hu17 => ?_)
          have fu17 : -5 ≤ q_goodOf s 0 ∧ q_goodOf s 0 ≤ 999 := hu17
          have e18 : @Eq Int (a_good s m) (q_goodOf s 0) := by first | rfl | (simp only [a_good, if_neg c1, if_pos c13, if_neg c14, if_neg c16]; done) | (simp only [a_good, if_neg c1, if_pos c13, if_neg c14, if_neg c16]; done) | (simp only [a_good, if_neg c1, if_pos c13, if_neg c14, if_neg c16]; rfl) | (simp only [a_good, if_neg c1, if_pos c13, if_neg c14, if_neg c16]; omega)
          exact v_ireturn hG hR dX12_good_47 () (congrArg (fun z => some (vI z)) e18) (by trivial) (fun _ hM => hM)
        · skip
          refine v_iconst hG dX12_good_37 ?_
          refine v_iload_n hG dX12_good_38 rfl 1 rfl ?_
          have hpw : (1 : Int) * 2 ^ m.toNat ≤ 128 ∧ 0 ≤ (1 : Int) * 2 ^ m.toNat := pw_rng (by omega)
          refine v_ishl hG dX12_good_39 (by omega) ?_
          refine v_goto (tgt := 44) hG dX12_good_40 (by decide) ?_
          refine v_callV (k1' := 0) (k2' := 0) hG dX12_good_44 zc_X12_goodOf ⟨zl_X12_200, zi_X12_goodOf, zs_X12_goodOf⟩ (fun l => k_goodOf l D A a s im fr bY tr ln bl bo g lg (1 * 2 ^ m.toNat) (by assumption) (by assumption) (by assumption) (by omega)) rfl mw_recv (fun _ h => h) ⟨by decide, by decide⟩ rfl rfl ⟨by decide, by decide⟩ (rest := []) rfl (Nat.le_of_ble_eq_true rfl) (fun u19 => [vI (q_goodOf s (1 * 2 ^ m.toNat))]) (fun _ => rfl) (fun u19 hu19 => ?_)
          have fu19 : -5 ≤ q_goodOf s (1 * 2 ^ m.toNat) ∧ q_goodOf s (1 * 2 ^ m.toNat) ≤ 999 := hu19
          have e20 : @Eq Int (a_good s m) (q_goodOf s (1 * 2 ^ m.toNat)) := by first | rfl | (simp only [a_good, if_neg c1, if_pos c13, if_neg c14, if_pos c16]; done) | (simp only [a_good, if_neg c1, if_pos c13, if_neg c14, if_pos c16]; done) | (simp only [a_good, if_neg c1, if_pos c13, if_neg c14, if_pos c16]; rfl) | (simp only [a_good, if_neg c1, if_pos c13, if_neg c14, if_pos c16]; omega)
          exact v_ireturn hG hR dX12_good_47 () (congrArg (fun z => some (vI z)) e20) (by trivial) (fun _ hM => hM)
      · skip
        refine v_aload_n hG dX12_good_21 rfl 0 rfl ?_
        refine v_callV (k1' := 0) (k2' := 0) hG dX12_good_22 zc_X12_printsNow ⟨zl_X12_197, zi_X12_printsNow, zs_X12_printsNow⟩ (fun l => k_printsNow l D A a s im fr bY tr ln bl bo g lg (by assumption) (by assumption) (by assumption)) rfl mw_recv (fun _ h => h) ⟨by decide, by decide⟩ rfl rfl ⟨by decide, by decide⟩ (rest := [.ref (a 0)]) rfl (Nat.le_of_ble_eq_true rfl) (fun u21 => [vI (q_now s), .ref (a 0)]) (fun _ => rfl) (fun u21 hu21 => ?_)
        have fu21 : 0 ≤ q_now s ∧ q_now s < 256 := hu21
        refine v_goto (tgt := 44) hG dX12_good_25 (by decide) ?_
        refine v_callV (k1' := 0) (k2' := 0) hG dX12_good_44 zc_X12_goodOf ⟨zl_X12_200, zi_X12_goodOf, zs_X12_goodOf⟩ (fun l => k_goodOf l D A a s im fr bY tr ln bl bo g lg (q_now s) (by assumption) (by assumption) (by assumption) (by omega)) rfl mw_recv (fun _ h => h) ⟨by decide, by decide⟩ rfl rfl ⟨by decide, by decide⟩ (rest := []) rfl (Nat.le_of_ble_eq_true rfl) (fun u22 => [vI (q_goodOf s (q_now s))]) (fun _ => rfl) (fun u22 hu22 => ?_)
        have fu22 : -5 ≤ q_goodOf s (q_now s) ∧ q_goodOf s (q_now s) ≤ 999 := hu22
        have e23 : @Eq Int (a_good s m) (q_goodOf s (q_now s)) := by first | rfl | (simp only [a_good, if_neg c1, if_pos c13, if_pos c14]; done) | (simp only [a_good, if_neg c1, if_pos c13, if_pos c14]; done) | (simp only [a_good, if_neg c1, if_pos c13, if_pos c14]; rfl) | (simp only [a_good, if_neg c1, if_pos c13, if_pos c14]; omega)
        exact v_ireturn hG hR dX12_good_47 () (congrArg (fun z => some (vI z)) e23) (by trivial) (fun _ hM => hM)
    · skip
      refine v_iconst hG dX12_good_13 ?_
      have e24 : @Eq Int (a_good s m) (-1) := by first | rfl | (simp only [a_good, if_neg c1, if_neg c13]; done) | (simp only [a_good, if_neg c1, if_neg c13]; done) | (simp only [a_good, if_neg c1, if_neg c13]; rfl) | (simp only [a_good, if_neg c1, if_neg c13]; omega)
      exact v_ireturn hG hR dX12_good_14 () (congrArg (fun z => some (vI z)) e24) (by trivial) (fun _ hM => hM)
set_option maxHeartbeats 4000000 in
set_option maxRecDepth 100000 in
theorem k_first (l : Launch) (D : Dx) (A : Nat → Prop) (a : Nat → Nat) (s im fr bY tr ln bl bo g lg : Int → Int) (hN : NM s) (hM : GM s) (hP : PL s) : CT l D A yX12_first cX12_first 4 (some .int) { frames := 6, cells := 0, slots := 0, locals := 135 } [.ref (a 0)] (MW D A a s im fr bY tr ln bl bo g lg) (fun _ : Unit => some (vI (fstN (gF s) 999))) (fun _ => True) (fun _ => MW D A a s im fr bY tr ln bl bo g lg) := by
  refine ct_of (lo0 := [(0, .ref (a 0))]) (by decide) (Nat.le_of_ble_eq_true rfl) rfl ?_
  intro G hG hR
  have hN9 : 0 ≤ s 43 ∧ s 43 ≤ 8 := hN
  have hq := q_now_rng hN
  refine v_aload_n hG dX12_first_0 rfl 0 rfl ?_
  refine v_callV (k1' := 0) (k2' := 0) hG dX12_first_1 zc_X12_printsNow ⟨zl_X12_197, zi_X12_printsNow, zs_X12_printsNow⟩ (fun l => k_printsNow l D A a s im fr bY tr ln bl bo g lg (by assumption) (by assumption) (by assumption)) rfl mw_recv (fun _ h => h) ⟨by decide, by decide⟩ rfl rfl ⟨by decide, by decide⟩ (rest := []) rfl (Nat.le_of_ble_eq_true rfl) (fun u1 => [vI (q_now s)]) (fun _ => rfl) (fun u1 hu1 => ?_)
  have fu1 : 0 ≤ q_now s ∧ q_now s < 256 := hu1
  refine v_istore_n (lo' := [(1, vI (q_now s)), (0, .ref (a 0))]) hG dX12_first_4 rfl (by decide) rfl ?_
  refine v_iconst hG dX12_first_5 ?_
  refine v_istore_n (lo' := [(2, vI 1), (1, vI (q_now s)), (0, .ref (a 0))]) hG dX12_first_6 rfl (by decide) rfl ?_
  refine v_lo [2, 1, 0] (lo' := [(0, .ref (a 0)), (1, vI (q_now s)), (2, vI 1)]) rfl ?_
  have L3 : ∀ mz : Nat, ∀ (j : Nat), ((j : Int) ≤ 999) → (fstN (gF s) j = -5) → 999 - j = mz → ∀ x2 : Int, x2 = ((j : Int) + 1) → V G 0 0 (MW D A a s im fr bY tr ln bl bo g lg) 7 [(0, .ref (a 0)), (1, vI (q_now s)), (2, vI x2)] [] := by
    intro dL3
    induction dL3 using Nat.strongRecOn with
    | ind dL3 ihL3 =>
      intro j h4 h5 h6
      intro x2 hx2
      subst hx2
      refine v_iload_n hG dX12_first_7 rfl 2 rfl ?_
      refine v_sipush hG dX12_first_8 (by decide) ?_
      refine v_icmp_ge (tgt := 59) hG dX12_first_11 (by decide) (by omega) (by omega) (fun c7 => ?_) (fun c7 => ?_)
      · skip
        refine v_bipush hG dX12_first_59 (by decide) ?_
        have e8 : @Eq Int (fstN (gF s) 999) (-5) := by have hj9 : j = 999 := (by omega); subst hj9; assumption
        exact v_ireturn hG hR dX12_first_61 () (congrArg (fun z => some (vI z)) e8) (by trivial) (fun _ hM => hM)
      · skip
        refine v_iconst hG dX12_first_14 ?_
        refine v_istore_n (lo' := [(3, vI 0), (0, .ref (a 0)), (1, vI (q_now s)), (2, vI ((j : Int) + 1))]) hG dX12_first_15 rfl (by decide) rfl ?_
        refine v_lo [1, 2, 3, 0] (lo' := [(0, .ref (a 0)), (1, vI (q_now s)), (2, vI ((j : Int) + 1)), (3, vI 0)]) rfl ?_
        have L10 : ∀ mz : Nat, ∀ (k : Nat), ((k : Int) ≤ s 43) → (leastM (badF s (q_now s) ((j : Int) + 1)) k = -1) → (s 43 - (k : Int)).toNat = mz → ∀ x9 : Int, x9 = ((k : Int)) → V G 0 0 (MW D A a s im fr bY tr ln bl bo g lg) 16 [(0, .ref (a 0)), (1, vI (q_now s)), (2, vI ((j : Int) + 1)), (3, vI x9)] [] := by
          intro dL10
          induction dL10 using Nat.strongRecOn with
          | ind dL10 ihL10 =>
            intro k h11 h12 h13
            intro x9 hx9
            subst hx9
            refine v_iload_n hG dX12_first_16 rfl 3 rfl ?_
            refine v_aload_n hG dX12_first_17 rfl 0 rfl ?_
            refine mg_s hG dX12_first_18 ?_
            refine v_bipush hG dX12_first_21 (by decide) ?_
            refine ma_s (z := s 43) hG dX12_first_23 (by omega) rfl ?_
            refine v_icmp_ge (tgt := 53) hG dX12_first_24 (by decide) (by omega) (by omega) (fun c14 => ?_) (fun c14 => ?_)
            · skip
              refine v_iinc (lo' := [(2, vI (((j : Int) + 1) + 1)), (0, .ref (a 0)), (1, vI (q_now s)), (3, vI (k : Int))]) hG dX12_first_53 2 rfl (by decide) rfl ?_
              refine v_goto (tgt := 7) hG dX12_first_56 (by decide) ?_
              refine v_lo [1, 2, 0] (lo' := [(0, .ref (a 0)), (1, vI (q_now s)), (2, vI (((j : Int) + 1) + 1))]) rfl ?_
              exact ihL3 _ (by omega) (j + 1) (by omega) (by exact first_stay (by assumption) (by assumption) (by omega)) rfl _ (by omega)
            · skip
              refine v_iload_n hG dX12_first_27 rfl 1 rfl ?_
              have hsh := sh_rng (x := q_now s) (k := k) (by omega)
              have hi1 := iand1_rng hsh
              refine v_iload_n hG dX12_first_28 rfl 3 rfl ?_
              refine v_ishr hG dX12_first_29 (by omega) (by omega) ?_
              refine v_iconst hG dX12_first_30 ?_
              refine v_iand hG dX12_first_31 ?_
              refine v_iconst hG dX12_first_32 ?_
              refine v_icmp_ne (tgt := 47) hG dX12_first_33 (by decide) (by omega) (by omega) (fun c15 => ?_) (fun c15 => ?_)
              · skip
                refine v_iinc (lo' := [(3, vI ((k : Int) + 1)), (0, .ref (a 0)), (1, vI (q_now s)), (2, vI ((j : Int) + 1))]) hG dX12_first_47 3 rfl (by decide) rfl ?_
                refine v_goto (tgt := 16) hG dX12_first_50 (by decide) ?_
                refine v_lo [1, 2, 3, 0] (lo' := [(0, .ref (a 0)), (1, vI (q_now s)), (2, vI ((j : Int) + 1)), (3, vI ((k : Int) + 1))]) rfl ?_
                exact ihL10 _ (by omega) (k + 1) (by omega) (by first | exact leastM_stay (by assumption) (badF_f1 (by assumption)) | exact leastM_stay (by assumption) (badF_f2 (by assumption))) rfl _ (by first | omega | rfl | (simp [c7, c14, c15]; done))
              · skip
                refine v_aload_n hG dX12_first_36 rfl 0 rfl ?_
                refine v_iload_n hG dX12_first_37 rfl 3 rfl ?_
                refine v_iload_n hG dX12_first_38 rfl 2 rfl ?_
                refine v_callV (k1' := 0) (k2' := 0) hG dX12_first_39 zc_X12_doesPrint ⟨zl_X12_187, zi_X12_doesPrint, zs_X12_doesPrint⟩ (fun l => k_doesPrint l D A a s im fr bY tr ln bl bo g lg (k : Int) ((j : Int) + 1) (by omega) (by first | assumption | (exact hM _ (by omega) (by omega))) (by assumption) (by omega)) rfl mw_recv (fun _ h => h) ⟨by decide, by decide⟩ rfl rfl ⟨by decide, by decide⟩ (rest := []) rfl (Nat.le_of_ble_eq_true rfl) (fun u16 => [vI (bi (0 < q_dk s (k : Int) ((j : Int) + 1)))]) (fun _ => rfl) (fun u16 hu16 => ?_)
                refine v_ifb_ne (p := 0 < q_dk s (k : Int) ((j : Int) + 1)) (tgt := 47) hG dX12_first_42 (by decide) (fun c17 => ?_) (fun c17 => ?_)
                · skip
                  refine v_iinc (lo' := [(3, vI ((k : Int) + 1)), (0, .ref (a 0)), (1, vI (q_now s)), (2, vI ((j : Int) + 1))]) hG dX12_first_47 3 rfl (by decide) rfl ?_
                  refine v_goto (tgt := 16) hG dX12_first_50 (by decide) ?_
                  refine v_lo [1, 2, 3, 0] (lo' := [(0, .ref (a 0)), (1, vI (q_now s)), (2, vI ((j : Int) + 1)), (3, vI ((k : Int) + 1))]) rfl ?_
                  exact ihL10 _ (by omega) (k + 1) (by omega) (by first | exact leastM_stay (by assumption) (badF_f1 (by assumption)) | exact leastM_stay (by assumption) (badF_f2 (by assumption))) rfl _ (by first | omega | rfl | (simp [c7, c14, c15, c17]; done))
                · skip
                  refine v_iload_n hG dX12_first_45 rfl 3 rfl ?_
                  have e18 : @Eq Int (fstN (gF s) 999) ((k : Int)) := by exact first_hit (by assumption) (by assumption) (badF_t (by assumption) (by assumption)) (by omega) (by omega)
                  exact v_ireturn hG hR dX12_first_46 () (congrArg (fun z => some (vI z)) e18) (by trivial) (fun _ hM => hM)
        exact L10 _ 0 (by omega) (by rfl) rfl _ (by first | omega | rfl | (simp [c7]; done))
  exact L3 _ 0 (by omega) (by rfl) rfl _ (by rfl)
set_option maxHeartbeats 4000000 in
set_option maxRecDepth 100000 in
theorem k_faded (l : Launch) (D : Dx) (A : Nat → Prop) (a : Nat → Nat) (s im fr bY tr ln bl bo g lg : Int → Int) (n : Int) (hr : -2147483648 ≤ n ∧ n < 2147483648) (hN : NM s) (hM : GM s) (hP : PL s) : CT l D A yX12_faded cX12_faded 4 (some .int) { frames := 5, cells := 0, slots := 0, locals := 113 } [.ref (a 0), vI n] (MW D A a s im fr bY tr ln bl bo g lg) (fun _ : Unit => some (vI (a_faded s n))) (fun _ => True) (fun _ => MW D A a s im fr bY tr ln bl bo g lg) := by
  refine ct_of (lo0 := [(0, .ref (a 0)), (1, vI n)]) (by decide) (Nat.le_of_ble_eq_true rfl) rfl ?_
  intro G hG hR
  have hN9 : 0 ≤ s 43 ∧ s 43 ≤ 8 := hN
  refine v_iload_n hG dX12_faded_0 rfl 1 rfl ?_
  refine v_iconst hG dX12_faded_1 ?_
  refine v_sipush hG dX12_faded_2 (by decide) ?_
  refine v_callS (k1' := 0) (k2' := 0) hG dX12_faded_5 zc_X12_in ⟨zl_X12_41, zt_X12_in⟩ (fun l => k_in l D A (MW D A a s im fr bY tr ln bl bo g lg) n 0 999 (by omega) (by omega) (by omega)) rfl (fun _ h => h) ⟨by decide, by decide⟩ rfl rfl ⟨by decide, by decide⟩ (rest := []) rfl (Nat.le_of_ble_eq_true rfl) (fun u1 => [vI (bi (0 ≤ n ∧ n ≤ 999))]) (fun _ => rfl) (fun u1 hu1 => ?_)
  refine v_ifb_ne (p := 0 ≤ n ∧ n ≤ 999) (tgt := 14) hG dX12_faded_8 (by decide) (fun c2 => ?_) (fun c2 => ?_)
  · skip
    refine v_iconst hG dX12_faded_14 ?_
    refine v_istore_n (lo' := [(2, vI 0), (0, .ref (a 0)), (1, vI n)]) hG dX12_faded_15 rfl (by decide) rfl ?_
    refine v_iconst hG dX12_faded_16 ?_
    refine v_istore_n (lo' := [(3, vI 0), (2, vI 0), (0, .ref (a 0)), (1, vI n)]) hG dX12_faded_17 rfl (by decide) rfl ?_
    refine v_lo [2, 3, 1, 0] (lo' := [(0, .ref (a 0)), (1, vI n), (2, vI 0), (3, vI 0)]) rfl ?_
    have L5 : ∀ mz : Nat, ∀ (k : Nat), ((k : Int) ≤ s 43) → (s 43 - (k : Int)).toNat = mz → ∀ x3 : Int, x3 = ((k : Int)) → ∀ x4 : Int, x4 = (bset (fadF s n) k) → V G 0 0 (MW D A a s im fr bY tr ln bl bo g lg) 18 [(0, .ref (a 0)), (1, vI n), (2, vI x4), (3, vI x3)] [] := by
      intro dL5
      induction dL5 using Nat.strongRecOn with
      | ind dL5 ihL5 =>
        intro k h6 h7
        intro x3 hx3
        subst hx3
        intro x4 hx4
        subst hx4
        refine v_iload_n hG dX12_faded_18 rfl 3 rfl ?_
        refine v_aload_n hG dX12_faded_19 rfl 0 rfl ?_
        refine mg_s hG dX12_faded_20 ?_
        refine v_bipush hG dX12_faded_23 (by decide) ?_
        refine ma_s (z := s 43) hG dX12_faded_25 (by omega) rfl ?_
        refine v_icmp_ge (tgt := 63) hG dX12_faded_26 (by decide) (by omega) (by omega) (fun c8 => ?_) (fun c8 => ?_)
        · skip
          refine v_iload_n hG dX12_faded_63 rfl 2 rfl ?_
          have e9 : @Eq Int (a_faded s n) (bset (fadF s n) k) := by rw [show k = (s 43).toNat by omega]; simp only [a_faded, if_pos c2, if_pos c8]
          exact v_ireturn hG hR dX12_faded_64 () (congrArg (fun z => some (vI z)) e9) (by trivial) (fun _ hM => hM)
        · skip
          refine v_iload_n hG dX12_faded_29 rfl 2 rfl ?_
          refine v_aload_n hG dX12_faded_30 rfl 0 rfl ?_
          refine v_iload_n hG dX12_faded_31 rfl 3 rfl ?_
          refine v_iconst hG dX12_faded_32 ?_
          refine v_callV (k1' := 0) (k2' := 0) hG dX12_faded_33 zc_X12_doesPrint ⟨zl_X12_187, zi_X12_doesPrint, zs_X12_doesPrint⟩ (fun l => k_doesPrint l D A a s im fr bY tr ln bl bo g lg (k : Int) 0 (by omega) (by first | assumption | (exact hM _ (by omega) (by omega))) (by assumption) (by omega)) rfl mw_recv (fun _ h => h) ⟨by decide, by decide⟩ rfl rfl ⟨by decide, by decide⟩ (rest := [vI (bset (fadF s n) k)]) rfl (Nat.le_of_ble_eq_true rfl) (fun u10 => [vI (bi (0 < q_dk s (k : Int) 0)), vI (bset (fadF s n) k)]) (fun _ => rfl) (fun u10 hu10 => ?_)
          refine v_ifb_eq (p := 0 < q_dk s (k : Int) 0) (tgt := 54) hG dX12_faded_36 (by decide) (fun c11 => ?_) (fun c11 => ?_)
          · skip
            refine v_iconst hG dX12_faded_54 ?_
            refine v_ior hG dX12_faded_55 ?_
            refine v_istore_n (lo' := [(2, vI (ior (bset (fadF s n) k) 0)), (0, .ref (a 0)), (1, vI n), (3, vI (k : Int))]) hG dX12_faded_56 rfl (by decide) rfl ?_
            refine v_iinc (lo' := [(3, vI ((k : Int) + 1)), (2, vI (ior (bset (fadF s n) k) 0)), (0, .ref (a 0)), (1, vI n)]) hG dX12_faded_57 3 rfl (by decide) rfl ?_
            refine v_goto (tgt := 18) hG dX12_faded_60 (by decide) ?_
            refine v_lo [2, 3, 1, 0] (lo' := [(0, .ref (a 0)), (1, vI n), (2, vI (ior (bset (fadF s n) k) 0)), (3, vI ((k : Int) + 1))]) rfl ?_
            exact ihL5 _ (by omega) (k + 1) (by omega) rfl _ (by first | omega | rfl | (simp [c2, c8, c11]; done)) _ (by first | exact bset_step (by simp only [fadF, prt, decide_eq_true c2, decide_eq_false c8, decide_eq_false c11, Bool.not_true, Bool.not_false, Bool.and_true, Bool.true_and, Bool.and_self]) (by omega) | exact bset_stay (by simp only [fadF, prt, decide_eq_true c2, decide_eq_false c8, decide_eq_false c11, Bool.not_true, Bool.not_false, Bool.and_false, Bool.false_and, Bool.and_self]) (by omega))
          · skip
            refine v_aload_n hG dX12_faded_39 rfl 0 rfl ?_
            refine v_iload_n hG dX12_faded_40 rfl 3 rfl ?_
            refine v_iload_n hG dX12_faded_41 rfl 1 rfl ?_
            refine v_callV (k1' := 0) (k2' := 0) hG dX12_faded_42 zc_X12_doesPrint ⟨zl_X12_187, zi_X12_doesPrint, zs_X12_doesPrint⟩ (fun l => k_doesPrint l D A a s im fr bY tr ln bl bo g lg (k : Int) n (by omega) (by first | assumption | (exact hM _ (by omega) (by omega))) (by assumption) (by omega)) rfl mw_recv (fun _ h => h) ⟨by decide, by decide⟩ rfl rfl ⟨by decide, by decide⟩ (rest := [vI (bset (fadF s n) k)]) rfl (Nat.le_of_ble_eq_true rfl) (fun u12 => [vI (bi (0 < q_dk s (k : Int) n)), vI (bset (fadF s n) k)]) (fun _ => rfl) (fun u12 hu12 => ?_)
            refine v_ifb_ne (p := 0 < q_dk s (k : Int) n) (tgt := 54) hG dX12_faded_45 (by decide) (fun c13 => ?_) (fun c13 => ?_)
            · skip
              refine v_iconst hG dX12_faded_54 ?_
              refine v_ior hG dX12_faded_55 ?_
              refine v_istore_n (lo' := [(2, vI (ior (bset (fadF s n) k) 0)), (0, .ref (a 0)), (1, vI n), (3, vI (k : Int))]) hG dX12_faded_56 rfl (by decide) rfl ?_
              refine v_iinc (lo' := [(3, vI ((k : Int) + 1)), (2, vI (ior (bset (fadF s n) k) 0)), (0, .ref (a 0)), (1, vI n)]) hG dX12_faded_57 3 rfl (by decide) rfl ?_
              refine v_goto (tgt := 18) hG dX12_faded_60 (by decide) ?_
              refine v_lo [2, 3, 1, 0] (lo' := [(0, .ref (a 0)), (1, vI n), (2, vI (ior (bset (fadF s n) k) 0)), (3, vI ((k : Int) + 1))]) rfl ?_
              exact ihL5 _ (by omega) (k + 1) (by omega) rfl _ (by first | omega | rfl | (simp [c2, c8, c11, c13]; done)) _ (by first | exact bset_step (by simp only [fadF, prt, decide_eq_true c2, decide_eq_false c8, decide_eq_true c11, decide_eq_true c13, Bool.not_true, Bool.not_false, Bool.and_true, Bool.true_and, Bool.and_self]) (by omega) | exact bset_stay (by simp only [fadF, prt, decide_eq_true c2, decide_eq_false c8, decide_eq_true c11, decide_eq_true c13, Bool.not_true, Bool.not_false, Bool.and_false, Bool.false_and, Bool.and_self]) (by omega))
            · skip
              refine v_iconst hG dX12_faded_48 ?_
              refine v_iload_n hG dX12_faded_49 rfl 3 rfl ?_
              refine v_ishl hG dX12_faded_50 (by omega) ?_
              refine v_goto (tgt := 55) hG dX12_faded_51 (by decide) ?_
              refine v_ior hG dX12_faded_55 ?_
              refine v_istore_n (lo' := [(2, vI (ior (bset (fadF s n) k) (1 * 2 ^ (k : Int).toNat))), (0, .ref (a 0)), (1, vI n), (3, vI (k : Int))]) hG dX12_faded_56 rfl (by decide) rfl ?_
              refine v_iinc (lo' := [(3, vI ((k : Int) + 1)), (2, vI (ior (bset (fadF s n) k) (1 * 2 ^ (k : Int).toNat))), (0, .ref (a 0)), (1, vI n)]) hG dX12_faded_57 3 rfl (by decide) rfl ?_
              refine v_goto (tgt := 18) hG dX12_faded_60 (by decide) ?_
              refine v_lo [2, 3, 1, 0] (lo' := [(0, .ref (a 0)), (1, vI n), (2, vI (ior (bset (fadF s n) k) (1 * 2 ^ (k : Int).toNat))), (3, vI ((k : Int) + 1))]) rfl ?_
              exact ihL5 _ (by omega) (k + 1) (by omega) rfl _ (by first | omega | rfl | (simp [c2, c8, c11, c13]; done)) _ (by first | exact bset_step (by simp only [fadF, prt, decide_eq_true c2, decide_eq_false c8, decide_eq_true c11, decide_eq_false c13, Bool.not_true, Bool.not_false, Bool.and_true, Bool.true_and, Bool.and_self]) (by omega) | exact bset_stay (by simp only [fadF, prt, decide_eq_true c2, decide_eq_false c8, decide_eq_true c11, decide_eq_false c13, Bool.not_true, Bool.not_false, Bool.and_false, Bool.false_and, Bool.and_self]) (by omega))
    exact L5 _ 0 (by omega) rfl _ (by first | omega | rfl | (simp [c2]; done)) _ (by first | omega | rfl | (simp [c2]; done))
  · skip
    refine v_bipush hG dX12_faded_11 (by decide) ?_
    have e14 : @Eq Int (a_faded s n) (-2) := by first | rfl | (simp only [a_faded, if_neg c2]; done) | (simp only [a_faded, if_neg c2]; done) | (simp only [a_faded, if_neg c2]; rfl) | (simp only [a_faded, if_neg c2]; omega)
    exact v_ireturn hG hR dX12_faded_13 () (congrArg (fun z => some (vI z)) e14) (by trivial) (fun _ hM => hM)
set_option maxHeartbeats 4000000 in
set_option maxRecDepth 100000 in
theorem k_uncut (l : Launch) (D : Dx) (A : Nat → Prop) (a : Nat → Nat) (s im fr bY tr ln bl bo g lg : Int → Int) (hN : NM s) (hM : GM s) : CT l D A yX12_uncut cX12_uncut 3 (some .int) { frames := 1, cells := 0, slots := 0, locals := 21 } [.ref (a 0)] (MW D A a s im fr bY tr ln bl bo g lg) (fun _ : Unit => some (vI (q_uncut s))) (fun _ => 0 ≤ q_uncut s ∧ q_uncut s ≤ s 43) (fun _ => MW D A a s im fr bY tr ln bl bo g lg) := by
  refine ct_of (lo0 := [(0, .ref (a 0))]) (by decide) (Nat.le_of_ble_eq_true rfl) rfl ?_
  intro G hG hR
  have hN9 : 0 ≤ s 43 ∧ s 43 ≤ 8 := hN
  refine v_iconst hG dX12_uncut_0 ?_
  refine v_istore_n (lo' := [(1, vI 0), (0, .ref (a 0))]) hG dX12_uncut_1 rfl (by decide) rfl ?_
  refine v_iconst hG dX12_uncut_2 ?_
  refine v_istore_n (lo' := [(2, vI 0), (1, vI 0), (0, .ref (a 0))]) hG dX12_uncut_3 rfl (by decide) rfl ?_
  refine v_lo [2, 1, 0] (lo' := [(0, .ref (a 0)), (1, vI 0), (2, vI 0)]) rfl ?_
  have L3 : ∀ mz : Nat, ∀ (k : Nat), ((k : Int) ≤ s 43) → (s 43 - (k : Int)).toNat = mz → ∀ x1 : Int, x1 = ((k : Int)) → ∀ x2 : Int, x2 = (cntB (fun m => decide (¬ s (11 + m) = 1)) k) → V G 0 0 (MW D A a s im fr bY tr ln bl bo g lg) 4 [(0, .ref (a 0)), (1, vI x2), (2, vI x1)] [] := by
    intro dL3
    induction dL3 using Nat.strongRecOn with
    | ind dL3 ihL3 =>
      intro k h4 h5
      intro x1 hx1
      subst hx1
      intro x2 hx2
      subst hx2
      refine v_iload_n hG dX12_uncut_4 rfl 2 rfl ?_
      refine v_aload_n hG dX12_uncut_5 rfl 0 rfl ?_
      refine mg_s hG dX12_uncut_6 ?_
      refine v_bipush hG dX12_uncut_9 (by decide) ?_
      refine ma_s (z := s 43) hG dX12_uncut_11 (by omega) rfl ?_
      refine v_icmp_ge (tgt := 37) hG dX12_uncut_12 (by decide) (by omega) (by omega) (fun c6 => ?_) (fun c6 => ?_)
      · skip
        refine v_iload_n hG dX12_uncut_37 rfl 1 rfl ?_
        have e7 : @Eq Int (q_uncut s) (cntB (fun m => decide (¬ s (11 + m) = 1)) k) := by rw [show k = (s 43).toNat by omega]; rfl
        exact v_ireturn hG hR dX12_uncut_38 () (congrArg (fun z => some (vI z)) e7) (by have := cntB_rng (fun m => decide (¬ s (11 + m) = 1)) (s 43).toNat; unfold q_uncut; omega) (fun _ hM => hM)
      · skip
        refine v_iload_n hG dX12_uncut_15 rfl 1 rfl ?_
        refine v_aload_n hG dX12_uncut_16 rfl 0 rfl ?_
        refine v_iload_n hG dX12_uncut_17 rfl 2 rfl ?_
        refine v_callV (k1' := 0) (k2' := 0) hG dX12_uncut_18 zc_X12_isCut ⟨zl_X12_137, zi_X12_isCut, zs_X12_isCut⟩ (fun l => k_isCut l D A a s im fr bY tr ln bl bo g lg (k : Int) (by omega) (by first | exact hm.2.2.2.2.1 | exact (hM _ (by omega) (by omega)).2.2.2.2.1 | omega)) rfl mw_recv (fun _ h => h) ⟨by decide, by decide⟩ rfl rfl ⟨by decide, by decide⟩ (rest := [vI (cntB (fun m => decide (¬ s (11 + m) = 1)) k)]) rfl (Nat.le_of_ble_eq_true rfl) (fun u8 => [vI (bi (s (11 + (k : Int)) = 1)), vI (cntB (fun m => decide (¬ s (11 + m) = 1)) k)]) (fun _ => rfl) (fun u8 hu8 => ?_)
        refine v_ifb_eq (p := s (11 + (k : Int)) = 1) (tgt := 28) hG dX12_uncut_21 (by decide) (fun c9 => ?_) (fun c9 => ?_)
        · skip
          refine v_iconst hG dX12_uncut_28 ?_
          refine v_iadd hG dX12_uncut_29 ?_
          refine v_istore_n (lo' := [(1, vI ((cntB (fun m => decide (¬ s (11 + m) = 1)) k) + 1)), (0, .ref (a 0)), (2, vI (k : Int))]) hG dX12_uncut_30 rfl (by decide) rfl ?_
          refine v_iinc (lo' := [(2, vI ((k : Int) + 1)), (1, vI ((cntB (fun m => decide (¬ s (11 + m) = 1)) k) + 1)), (0, .ref (a 0))]) hG dX12_uncut_31 2 rfl (by decide) rfl ?_
          refine v_goto (tgt := 4) hG dX12_uncut_34 (by decide) ?_
          refine v_lo [2, 1, 0] (lo' := [(0, .ref (a 0)), (1, vI ((cntB (fun m => decide (¬ s (11 + m) = 1)) k) + 1)), (2, vI ((k : Int) + 1))]) rfl ?_
          exact ihL3 _ (by omega) (k + 1) (by omega) rfl _ (by first | omega | rfl | (simp [c6, c9]; done)) _ (by simp [cntB, c6, c9])
        · skip
          refine v_iconst hG dX12_uncut_24 ?_
          refine v_goto (tgt := 29) hG dX12_uncut_25 (by decide) ?_
          refine v_iadd hG dX12_uncut_29 ?_
          refine v_istore_n (lo' := [(1, vI ((cntB (fun m => decide (¬ s (11 + m) = 1)) k) + 0)), (0, .ref (a 0)), (2, vI (k : Int))]) hG dX12_uncut_30 rfl (by decide) rfl ?_
          refine v_iinc (lo' := [(2, vI ((k : Int) + 1)), (1, vI ((cntB (fun m => decide (¬ s (11 + m) = 1)) k) + 0)), (0, .ref (a 0))]) hG dX12_uncut_31 2 rfl (by decide) rfl ?_
          refine v_goto (tgt := 4) hG dX12_uncut_34 (by decide) ?_
          refine v_lo [2, 1, 0] (lo' := [(0, .ref (a 0)), (1, vI ((cntB (fun m => decide (¬ s (11 + m) = 1)) k) + 0)), (2, vI ((k : Int) + 1))]) rfl ?_
          exact ihL3 _ (by omega) (k + 1) (by omega) rfl _ (by first | omega | rfl | (simp [c6, c9]; done)) _ (by simp [cntB, c6, c9])
  exact L3 _ 0 (by omega) rfl _ (by first | omega | rfl | (simp []; done)) _ (by first | omega | rfl | (simp []; done))
set_option maxHeartbeats 4000000 in
set_option maxRecDepth 100000 in
theorem k_riskOfAll (l : Launch) (D : Dx) (A : Nat → Prop) (a : Nat → Nat) (s im fr bY tr ln bl bo g lg : Int → Int) (r : Int) (SL : List Int) (hr : -1 ≤ r ∧ r ≤ 100) (hN : NM s) (hM : GM s) (hE : HE s SL) (hT : TI s) : CT l D A yX12_riskOfAll cX12_riskOfAll 5 (some .int) { frames := 3, cells := 0, slots := 0, locals := 75 } [.ref (a 0), vI r] (MW D A a s im fr bY tr ln bl bo g lg) (fun u : (Int → Int) × (Int → Int) => some (vI (q_roa s SL r))) (fun u => 0 ≤ q_roa s SL r ∧ q_roa s SL r ≤ 1000) (fun u => MW D A a s im fr u.1 u.2 ln bl bo g lg) := by
  refine ct_of (lo0 := [(0, .ref (a 0)), (1, vI r)]) (by decide) (Nat.le_of_ble_eq_true rfl) rfl ?_
  intro G hG hR
  have hN9 : 0 ≤ s 43 ∧ s 43 ≤ 8 := hN
  have hT2 : 0 ≤ s 2 ∧ s 2 ≤ 99 := hT
  refine v_aload_n hG dX12_riskOfAll_0 rfl 0 rfl ?_
  refine mg_s hG dX12_riskOfAll_1 ?_
  refine v_iconst hG dX12_riskOfAll_4 ?_
  refine ma_s (z := s 2) hG dX12_riskOfAll_5 (by omega) rfl ?_
  refine v_istore_n (lo' := [(2, vI (s 2)), (0, .ref (a 0)), (1, vI r)]) hG dX12_riskOfAll_6 rfl (by decide) rfl ?_
  refine v_iconst hG dX12_riskOfAll_7 ?_
  refine v_istore_n (lo' := [(3, vI 0), (2, vI (s 2)), (0, .ref (a 0)), (1, vI r)]) hG dX12_riskOfAll_8 rfl (by decide) rfl ?_
  refine v_iconst hG dX12_riskOfAll_9 ?_
  refine v_istore (lo' := [(4, vI 0), (3, vI 0), (2, vI (s 2)), (0, .ref (a 0)), (1, vI r)]) hG dX12_riskOfAll_10 (by decide) rfl ?_
  refine v_lo [3, 4, 2, 1, 0] (lo' := [(0, .ref (a 0)), (1, vI r), (2, vI (s 2)), (3, vI 0), (4, vI 0)]) rfl ?_
  have L6 : ∀ mz : Nat, ∀ (k : Nat), ((k : Int) ≤ s 43) → (s 43 - (k : Int)).toNat = mz → ∀ x1 : Int, x1 = ((k : Int)) → ∀ x2 : Int, x2 = ((roa s SL r k).1) → ∀ x3 : Int, x3 = ((roa s SL r k).2) → ∀ x4 : Int → Int, ∀ x5 : Int → Int, V G 0 0 (MW D A a s im fr x4 x5 ln bl bo g lg) 12 [(0, .ref (a 0)), (1, vI r), (2, vI x2), (3, vI x3), (4, vI x1)] [] := by
    intro dL6
    induction dL6 using Nat.strongRecOn with
    | ind dL6 ihL6 =>
      intro k h7 h8
      intro x1 hx1
      subst hx1
      intro x2 hx2
      subst hx2
      intro x3 hx3
      subst hx3
      intro x4
      intro x5
      have hro := roa_rng (SL := SL) (r := r) hT k
      refine v_iload hG dX12_riskOfAll_12 4 rfl ?_
      refine v_aload_n hG dX12_riskOfAll_14 rfl 0 rfl ?_
      refine mg_s hG dX12_riskOfAll_15 ?_
      refine v_bipush hG dX12_riskOfAll_18 (by decide) ?_
      refine ma_s (z := s 43) hG dX12_riskOfAll_20 (by omega) rfl ?_
      refine v_icmp_ge (tgt := 87) hG dX12_riskOfAll_21 (by decide) (by omega) (by omega) (fun c9 => ?_) (fun c9 => ?_)
      · skip
        refine v_iload_n hG dX12_riskOfAll_87 rfl 3 rfl ?_
        have e10 : @Eq Int (q_roa s SL r) ((roa s SL r k).2) := by rw [show k = (s 43).toNat by omega]; rfl
        exact v_ireturn hG hR dX12_riskOfAll_88 (x4, x5) (congrArg (fun z => some (vI z)) e10) (by exact q_roa_rng hT hN) (fun _ hM => hM)
      · skip
        refine v_aload_n hG dX12_riskOfAll_24 rfl 0 rfl ?_
        refine v_iload hG dX12_riskOfAll_25 4 rfl ?_
        refine v_callV (k1' := 0) (k2' := 0) hG dX12_riskOfAll_27 zc_X12_isCut ⟨zl_X12_137, zi_X12_isCut, zs_X12_isCut⟩ (fun l => k_isCut l D A a s im fr x4 x5 ln bl bo g lg (k : Int) (by omega) (by first | exact hm.2.2.2.2.1 | exact (hM _ (by omega) (by omega)).2.2.2.2.1 | omega)) rfl mw_recv (fun _ h => h) ⟨by decide, by decide⟩ rfl rfl ⟨by decide, by decide⟩ (rest := []) rfl (Nat.le_of_ble_eq_true rfl) (fun u11 => [vI (bi (s (11 + (k : Int)) = 1))]) (fun _ => rfl) (fun u11 hu11 => ?_)
        refine v_ifb_ne (p := s (11 + (k : Int)) = 1) (tgt := 81) hG dX12_riskOfAll_30 (by decide) (fun c12 => ?_) (fun c12 => ?_)
        · skip
          refine v_iinc (lo' := [(4, vI ((k : Int) + 1)), (0, .ref (a 0)), (1, vI r), (2, vI ((roa s SL r k).1)), (3, vI ((roa s SL r k).2))]) hG dX12_riskOfAll_81 4 rfl (by decide) rfl ?_
          refine v_goto (tgt := 12) hG dX12_riskOfAll_84 (by decide) ?_
          refine v_lo [1, 2, 3, 4, 0] (lo' := [(0, .ref (a 0)), (1, vI r), (2, vI ((roa s SL r k).1)), (3, vI ((roa s SL r k).2)), (4, vI ((k : Int) + 1))]) rfl ?_
          exact ihL6 _ (by omega) (k + 1) (by omega) rfl _ (by first | omega | rfl | (simp [c9, c12]; done)) _ (by simp only [roa, if_neg c9, if_pos c12]) _ (by simp only [roa, if_neg c9, if_pos c12]) _ _
        · skip
          refine v_iload hG dX12_riskOfAll_33 4 rfl ?_
          refine v_iload_n hG dX12_riskOfAll_35 rfl 1 rfl ?_
          have J14 : ∀ z13 : Int, z13 = (if (k : Int) = r then clamp (((roa s SL r k).1) - 20) 0 99 else (roa s SL r k).1) → V G 0 0 (MW D A a s im fr x4 x5 ln bl bo g lg) 53 [(0, .ref (a 0)), (1, vI r), (2, vI ((roa s SL r k).1)), (3, vI ((roa s SL r k).2)), (4, vI (k : Int))] [vI z13] := by
            intro z13 hz13
            have bz13 : 0 ≤ z13 ∧ z13 ≤ 99 := by have := clamp_rng ((roa s SL r k).1 - 20) (low := 0) (high := 99) (by omega); rw [hz13]; split <;> omega
            refine v_istore_n (lo' := [(2, vI z13), (0, .ref (a 0)), (1, vI r), (3, vI ((roa s SL r k).2)), (4, vI (k : Int))]) hG dX12_riskOfAll_53 rfl (by decide) rfl ?_
            refine v_iload_n hG dX12_riskOfAll_54 rfl 3 rfl ?_
            refine v_aload_n hG dX12_riskOfAll_55 rfl 1 rfl ?_
            refine v_iload hG dX12_riskOfAll_56 4 rfl ?_
            refine v_iload_n hG dX12_riskOfAll_58 rfl 0 rfl ?_
            refine v_callV (k1' := 0) (k2' := 0) hG dX12_riskOfAll_59 zc_X12_riskBy ⟨zl_X12_134, zi_X12_riskBy, zs_X12_riskBy⟩ (fun l => k_riskBy l D A a s im fr x4 x5 ln bl bo g lg (k : Int) z13 SL (by omega) (by first | assumption | (exact hM _ (by omega) (by omega))) (by assumption) (by omega)) rfl mw_recv (fun _ h => h) ⟨by decide, by decide⟩ rfl rfl ⟨by decide, by decide⟩ (rest := [vI ((roa s SL r k).2)]) rfl (Nat.le_of_ble_eq_true rfl) (fun u15 => [vI (q_risk s SL (k : Int) z13), vI ((roa s SL r k).2)]) (fun _ => rfl) (fun u15 hu15 => ?_)
            have fu15 : 0 ≤ q_risk s SL (k : Int) z13 ∧ q_risk s SL (k : Int) z13 ≤ 99 := hu15
            refine v_iadd hG dX12_riskOfAll_62 ?_
            refine v_istore_n (lo' := [(3, vI (((roa s SL r k).2) + (q_risk s SL (k : Int) z13))), (2, vI z13), (0, .ref (a 0)), (1, vI r), (4, vI (k : Int))]) hG dX12_riskOfAll_63 rfl (by decide) rfl ?_
            refine v_iload_n hG dX12_riskOfAll_64 rfl 1 rfl ?_
            refine v_aload_n hG dX12_riskOfAll_65 rfl 2 rfl ?_
            refine v_iload hG dX12_riskOfAll_66 4 rfl ?_
            refine v_callV (k1' := 0) (k2' := 0) hG dX12_riskOfAll_68 zc_X12_needsOf ⟨zl_X12_157, zi_X12_needsOf, zs_X12_needsOf⟩ (fun l => k_needsOf l D A a s im fr u15.1 u15.2 ln bl bo g lg (k : Int) (by omega) (by first | assumption | (exact hM _ (by omega) (by omega)))) rfl mw_recv (fun _ h => h) ⟨by decide, by decide⟩ rfl rfl ⟨by decide, by decide⟩ (rest := [vI z13]) rfl (Nat.le_of_ble_eq_true rfl) (fun u16 => [vI (q_needs s (k : Int)), vI z13]) (fun _ => rfl) (fun u16 hu16 => ?_)
            have fu16 : 0 ≤ q_needs s (k : Int) ∧ q_needs s (k : Int) ≤ 180 := hu16
            refine v_iconst hG dX12_riskOfAll_71 ?_
            refine v_idiv hG dX12_riskOfAll_72 (by omega) (by omega) ?_
            refine v_iadd hG dX12_riskOfAll_73 ?_
            refine v_iconst hG dX12_riskOfAll_74 ?_
            refine v_bipush hG dX12_riskOfAll_75 (by decide) ?_
            refine v_callS (k1' := 0) (k2' := 0) hG dX12_riskOfAll_77 zc_X12_within ⟨zl_X12_130, zt_X12_within⟩ (fun l => k_within l D A (MW D A a s im fr u15.1 u15.2 ln bl bo g lg) (z13 + ((q_needs s (k : Int)) / 2)) 0 99 (by omega) (by omega) (by omega)) rfl (fun _ h => h) ⟨by decide, by decide⟩ rfl rfl ⟨by decide, by decide⟩ (rest := []) rfl (Nat.le_of_ble_eq_true rfl) (fun u17 => [vI (clamp (z13 + ((q_needs s (k : Int)) / 2)) 0 99)]) (fun _ => rfl) (fun u17 hu17 => ?_)
            refine v_istore_n (lo' := [(2, vI (clamp (z13 + ((q_needs s (k : Int)) / 2)) 0 99)), (3, vI (((roa s SL r k).2) + (q_risk s SL (k : Int) z13))), (0, .ref (a 0)), (1, vI r), (4, vI (k : Int))]) hG dX12_riskOfAll_80 rfl (by decide) rfl ?_
            refine v_iinc (lo' := [(4, vI ((k : Int) + 1)), (2, vI (clamp (z13 + ((q_needs s (k : Int)) / 2)) 0 99)), (3, vI (((roa s SL r k).2) + (q_risk s SL (k : Int) z13))), (0, .ref (a 0)), (1, vI r)]) hG dX12_riskOfAll_81 4 rfl (by decide) rfl ?_
            refine v_goto (tgt := 12) hG dX12_riskOfAll_84 (by decide) ?_
            refine v_lo [3, 4, 1, 2, 0] (lo' := [(0, .ref (a 0)), (1, vI r), (2, vI (clamp (z13 + ((q_needs s (k : Int)) / 2)) 0 99)), (3, vI (((roa s SL r k).2) + (q_risk s SL (k : Int) z13))), (4, vI ((k : Int) + 1))]) rfl ?_
            exact ihL6 _ (by omega) (k + 1) (by omega) rfl _ (by first | omega | rfl | (simp [c9, c12, hz13]; done)) _ (by subst hz13; simp only [roa, if_neg c9, if_neg c12]) _ (by subst hz13; simp only [roa, if_neg c9, if_neg c12]) _ _
          refine v_icmp_ne (tgt := 52) hG dX12_riskOfAll_36 (by decide) (by omega) (by omega) (fun c18 => ?_) (fun c18 => ?_)
          · skip
            refine v_iload_n hG dX12_riskOfAll_52 rfl 2 rfl ?_
            exact J14 _ (by first | rfl | (simp only [if_neg c9, if_neg c12, if_neg c18]; done) | (simp [bi, c9, c12, c18]; done))
          · skip
            refine v_iload_n hG dX12_riskOfAll_39 rfl 2 rfl ?_
            refine v_bipush hG dX12_riskOfAll_40 (by decide) ?_
            refine v_isub hG dX12_riskOfAll_42 ?_
            refine v_iconst hG dX12_riskOfAll_43 ?_
            refine v_bipush hG dX12_riskOfAll_44 (by decide) ?_
            refine v_callS (k1' := 0) (k2' := 0) hG dX12_riskOfAll_46 zc_X12_within ⟨zl_X12_130, zt_X12_within⟩ (fun l => k_within l D A (MW D A a s im fr x4 x5 ln bl bo g lg) (((roa s SL r k).1) - 20) 0 99 (by omega) (by omega) (by omega)) rfl (fun _ h => h) ⟨by decide, by decide⟩ rfl rfl ⟨by decide, by decide⟩ (rest := []) rfl (Nat.le_of_ble_eq_true rfl) (fun u19 => [vI (clamp (((roa s SL r k).1) - 20) 0 99)]) (fun _ => rfl) (fun u19 hu19 => ?_)
            refine v_goto (tgt := 53) hG dX12_riskOfAll_49 (by decide) ?_
            exact J14 _ (by first | rfl | (simp only [if_neg c9, if_neg c12, if_pos c18]; done) | (simp [bi, c9, c12, c18]; done))
  exact L6 _ 0 (by omega) rfl _ (by first | omega | rfl | (simp []; done)) _ (by first | omega | rfl | (simp []; done)) _ (by first | omega | rfl | (simp []; done)) _ _
set_option maxHeartbeats 4000000 in
set_option maxRecDepth 100000 in
theorem k_rested (l : Launch) (D : Dx) (A : Nat → Prop) (a : Nat → Nat) (s im fr bY tr ln bl bo g lg : Int → Int) (SL : List Int) (hN : NM s) (hM : GM s) (hE : HE s SL) (hT : TI s) : CT l D A yX12_rested cX12_rested 5 (some .int) { frames := 4, cells := 0, slots := 0, locals := 99 } [.ref (a 0)] (MW D A a s im fr bY tr ln bl bo g lg) (fun u : (Int → Int) × (Int → Int) => some (vI ((rsd s SL (s 43).toNat).2))) (fun _ => True) (fun u => MW D A a s im fr u.1 u.2 ln bl bo g lg) := by
  refine ct_of (lo0 := [(0, .ref (a 0))]) (by decide) (Nat.le_of_ble_eq_true rfl) rfl ?_
  intro G hG hR
  have hN9 : 0 ≤ s 43 ∧ s 43 ≤ 8 := hN
  refine v_aload_n hG dX12_rested_0 rfl 0 rfl ?_
  refine v_iconst hG dX12_rested_1 ?_
  refine v_callV (k1' := 0) (k2' := 0) hG dX12_rested_2 zc_X12_riskOfAll ⟨zl_X12_214, zi_X12_riskOfAll, zs_X12_riskOfAll⟩ (fun l => k_riskOfAll l D A a s im fr bY tr ln bl bo g lg (-1) SL (by omega) (by assumption) (by assumption) (by assumption) (by assumption)) rfl mw_recv (fun _ h => h) ⟨by decide, by decide⟩ rfl rfl ⟨by decide, by decide⟩ (rest := []) rfl (Nat.le_of_ble_eq_true rfl) (fun u1 => [vI (q_roa s SL (-1))]) (fun _ => rfl) (fun u1 hu1 => ?_)
  have fu1 : 0 ≤ q_roa s SL (-1) ∧ q_roa s SL (-1) ≤ 1000 := hu1
  refine v_istore_n (lo' := [(1, vI (q_roa s SL (-1))), (0, .ref (a 0))]) hG dX12_rested_5 rfl (by decide) rfl ?_
  refine v_bipush hG dX12_rested_6 (by decide) ?_
  refine v_istore_n (lo' := [(2, vI (-5)), (1, vI (q_roa s SL (-1))), (0, .ref (a 0))]) hG dX12_rested_8 rfl (by decide) rfl ?_
  refine v_iconst hG dX12_rested_9 ?_
  refine v_istore_n (lo' := [(3, vI 0), (2, vI (-5)), (1, vI (q_roa s SL (-1))), (0, .ref (a 0))]) hG dX12_rested_10 rfl (by decide) rfl ?_
  refine v_lo [3, 2, 1, 0] (lo' := [(0, .ref (a 0)), (1, vI (q_roa s SL (-1))), (2, vI (-5)), (3, vI 0)]) rfl ?_
  have L7 : ∀ mz : Nat, ∀ (k : Nat), ((k : Int) ≤ s 43) → (s 43 - (k : Int)).toNat = mz → ∀ x2 : Int, x2 = ((k : Int)) → ∀ x3 : Int, x3 = ((rsd s SL k).1) → ∀ x4 : Int, x4 = ((rsd s SL k).2) → ∀ x5 : Int → Int, ∀ x6 : Int → Int, V G 0 0 (MW D A a s im fr x5 x6 ln bl bo g lg) 11 [(0, .ref (a 0)), (1, vI x3), (2, vI x4), (3, vI x2)] [] := by
    intro dL7
    induction dL7 using Nat.strongRecOn with
    | ind dL7 ihL7 =>
      intro k h8 h9
      intro x2 hx2
      subst hx2
      intro x3 hx3
      subst hx3
      intro x4 hx4
      subst hx4
      intro x5
      intro x6
      have hro := rsd_rng (SL := SL) hT hN k
      refine v_iload_n hG dX12_rested_11 rfl 3 rfl ?_
      refine v_aload_n hG dX12_rested_12 rfl 0 rfl ?_
      refine mg_s hG dX12_rested_13 ?_
      refine v_bipush hG dX12_rested_16 (by decide) ?_
      refine ma_s (z := s 43) hG dX12_rested_18 (by omega) rfl ?_
      refine v_icmp_ge (tgt := 73) hG dX12_rested_19 (by decide) (by omega) (by omega) (fun c10 => ?_) (fun c10 => ?_)
      · skip
        refine v_iload_n hG dX12_rested_73 rfl 2 rfl ?_
        have e11 : @Eq Int ((rsd s SL (s 43).toNat).2) ((rsd s SL k).2) := by rw [show k = (s 43).toNat by omega]
        exact v_ireturn hG hR dX12_rested_74 (x5, x6) (congrArg (fun z => some (vI z)) e11) (by trivial) (fun _ hM => hM)
      · skip
        refine v_aload_n hG dX12_rested_22 rfl 0 rfl ?_
        refine v_iload_n hG dX12_rested_23 rfl 3 rfl ?_
        refine v_callV (k1' := 0) (k2' := 0) hG dX12_rested_24 zc_X12_isCut ⟨zl_X12_137, zi_X12_isCut, zs_X12_isCut⟩ (fun l => k_isCut l D A a s im fr x5 x6 ln bl bo g lg (k : Int) (by omega) (by first | exact hm.2.2.2.2.1 | exact (hM _ (by omega) (by omega)).2.2.2.2.1 | omega)) rfl mw_recv (fun _ h => h) ⟨by decide, by decide⟩ rfl rfl ⟨by decide, by decide⟩ (rest := []) rfl (Nat.le_of_ble_eq_true rfl) (fun u12 => [vI (bi (s (11 + (k : Int)) = 1))]) (fun _ => rfl) (fun u12 hu12 => ?_)
        have J16 : ∀ z13 : Int, z13 = (if s (11 + (k : Int)) = 1 then 1000000 else q_roa s SL (k : Int)) → ∀ z14 : Int → Int, ∀ z15 : Int → Int, V G 0 0 (MW D A a s im fr z14 z15 ln bl bo g lg) 40 [(0, .ref (a 0)), (1, vI ((rsd s SL k).1)), (2, vI ((rsd s SL k).2)), (3, vI (k : Int))] [vI z13] := by
          intro z13 hz13
          intro z14
          intro z15
          have bz13 : 0 ≤ z13 ∧ z13 ≤ 1000000 := by have := q_roa_rng (SL := SL) (r := (k : Int)) hT hN; rw [hz13]; split <;> omega
          refine v_istore (lo' := [(4, vI z13), (0, .ref (a 0)), (1, vI ((rsd s SL k).1)), (2, vI ((rsd s SL k).2)), (3, vI (k : Int))]) hG dX12_rested_40 (by decide) rfl ?_
          refine v_iload hG dX12_rested_42 0 rfl ?_
          refine v_iload_n hG dX12_rested_44 rfl 2 rfl ?_
          refine v_icmp_ge (tgt := 52) hG dX12_rested_45 (by decide) (by omega) (by omega) (fun c17 => ?_) (fun c17 => ?_)
          · skip
            refine v_iload_n hG dX12_rested_52 rfl 3 rfl ?_
            refine v_istore_n (lo' := [(2, vI ((rsd s SL k).2)), (4, vI z13), (0, .ref (a 0)), (1, vI ((rsd s SL k).1)), (3, vI (k : Int))]) hG dX12_rested_53 rfl (by decide) rfl ?_
            refine v_iload hG dX12_rested_54 1 rfl ?_
            refine v_iload_n hG dX12_rested_56 rfl 3 rfl ?_
            refine v_icmp_ge (tgt := 65) hG dX12_rested_57 (by decide) (by omega) (by omega) (fun c18 => ?_) (fun c18 => ?_)
            · skip
              refine v_iload_n hG dX12_rested_65 rfl 3 rfl ?_
              refine v_istore_n (lo' := [(1, vI ((rsd s SL k).1)), (2, vI ((rsd s SL k).2)), (4, vI z13), (0, .ref (a 0)), (3, vI (k : Int))]) hG dX12_rested_66 rfl (by decide) rfl ?_
              refine v_iinc (lo' := [(3, vI ((k : Int) + 1)), (1, vI ((rsd s SL k).1)), (2, vI ((rsd s SL k).2)), (4, vI z13), (0, .ref (a 0))]) hG dX12_rested_67 4 rfl (by decide) rfl ?_
              refine v_goto (tgt := 11) hG dX12_rested_70 (by decide) ?_
              refine v_lo [4, 1, 2, 0] (lo' := [(0, .ref (a 0)), (1, vI ((rsd s SL k).1)), (2, vI ((rsd s SL k).2)), (3, vI ((k : Int) + 1))]) rfl ?_
              exact ihL7 _ (by omega) (k + 1) (by omega) rfl _ (by first | omega | rfl | (simp [c10, hz13, c17, c18]; done)) _ (by subst hz13; first | (exfalso; omega) | (rw [rsd_n (by assumption)]) | (rw [rsd_y (by assumption)])) _ (by subst hz13; first | (exfalso; omega) | (rw [rsd_n (by assumption)]) | (rw [rsd_y (by assumption)])) _ _
            · skip
              refine v_iload hG dX12_rested_60 1 rfl ?_
              refine v_goto (tgt := 66) hG dX12_rested_62 (by decide) ?_
              refine v_istore_n (lo' := [(1, vI z13), (2, vI ((rsd s SL k).2)), (4, vI z13), (0, .ref (a 0)), (3, vI (k : Int))]) hG dX12_rested_66 rfl (by decide) rfl ?_
              refine v_iinc (lo' := [(3, vI ((k : Int) + 1)), (1, vI z13), (2, vI ((rsd s SL k).2)), (4, vI z13), (0, .ref (a 0))]) hG dX12_rested_67 4 rfl (by decide) rfl ?_
              refine v_goto (tgt := 11) hG dX12_rested_70 (by decide) ?_
              refine v_lo [4, 1, 2, 0] (lo' := [(0, .ref (a 0)), (1, vI z13), (2, vI ((rsd s SL k).2)), (3, vI ((k : Int) + 1))]) rfl ?_
              exact ihL7 _ (by omega) (k + 1) (by omega) rfl _ (by first | omega | rfl | (simp [c10, hz13, c17, c18]; done)) _ (by subst hz13; first | (exfalso; omega) | (rw [rsd_n (by assumption)]) | (rw [rsd_y (by assumption)])) _ (by subst hz13; first | (exfalso; omega) | (rw [rsd_n (by assumption)]) | (rw [rsd_y (by assumption)])) _ _
          · skip
            refine v_iload_n hG dX12_rested_48 rfl 4 rfl ?_
            refine v_goto (tgt := 53) hG dX12_rested_49 (by decide) ?_
            refine v_istore_n (lo' := [(2, vI (k : Int)), (4, vI z13), (0, .ref (a 0)), (1, vI ((rsd s SL k).1)), (3, vI (k : Int))]) hG dX12_rested_53 rfl (by decide) rfl ?_
            refine v_iload hG dX12_rested_54 1 rfl ?_
            refine v_iload_n hG dX12_rested_56 rfl 3 rfl ?_
            refine v_icmp_ge (tgt := 65) hG dX12_rested_57 (by decide) (by omega) (by omega) (fun c19 => ?_) (fun c19 => ?_)
            · skip
              refine v_iload_n hG dX12_rested_65 rfl 3 rfl ?_
              refine v_istore_n (lo' := [(1, vI ((rsd s SL k).1)), (2, vI (k : Int)), (4, vI z13), (0, .ref (a 0)), (3, vI (k : Int))]) hG dX12_rested_66 rfl (by decide) rfl ?_
              refine v_iinc (lo' := [(3, vI ((k : Int) + 1)), (1, vI ((rsd s SL k).1)), (2, vI (k : Int)), (4, vI z13), (0, .ref (a 0))]) hG dX12_rested_67 4 rfl (by decide) rfl ?_
              refine v_goto (tgt := 11) hG dX12_rested_70 (by decide) ?_
              refine v_lo [4, 1, 2, 0] (lo' := [(0, .ref (a 0)), (1, vI ((rsd s SL k).1)), (2, vI (k : Int)), (3, vI ((k : Int) + 1))]) rfl ?_
              exact ihL7 _ (by omega) (k + 1) (by omega) rfl _ (by first | omega | rfl | (simp [c10, hz13, c17, c19]; done)) _ (by subst hz13; first | (exfalso; omega) | (rw [rsd_n (by assumption)]) | (rw [rsd_y (by assumption)])) _ (by subst hz13; first | (exfalso; omega) | (rw [rsd_n (by assumption)]) | (rw [rsd_y (by assumption)])) _ _
            · skip
              refine v_iload hG dX12_rested_60 1 rfl ?_
              refine v_goto (tgt := 66) hG dX12_rested_62 (by decide) ?_
              refine v_istore_n (lo' := [(1, vI z13), (2, vI (k : Int)), (4, vI z13), (0, .ref (a 0)), (3, vI (k : Int))]) hG dX12_rested_66 rfl (by decide) rfl ?_
              refine v_iinc (lo' := [(3, vI ((k : Int) + 1)), (1, vI z13), (2, vI (k : Int)), (4, vI z13), (0, .ref (a 0))]) hG dX12_rested_67 4 rfl (by decide) rfl ?_
              refine v_goto (tgt := 11) hG dX12_rested_70 (by decide) ?_
              refine v_lo [4, 1, 2, 0] (lo' := [(0, .ref (a 0)), (1, vI z13), (2, vI (k : Int)), (3, vI ((k : Int) + 1))]) rfl ?_
              exact ihL7 _ (by omega) (k + 1) (by omega) rfl _ (by first | omega | rfl | (simp [c10, hz13, c17, c19]; done)) _ (by subst hz13; first | (exfalso; omega) | (rw [rsd_n (by assumption)]) | (rw [rsd_y (by assumption)])) _ (by subst hz13; first | (exfalso; omega) | (rw [rsd_n (by assumption)]) | (rw [rsd_y (by assumption)])) _ _
        refine v_ifb_eq (p := s (11 + (k : Int)) = 1) (tgt := 35) hG dX12_rested_27 (by decide) (fun c20 => ?_) (fun c20 => ?_)
        · skip
          refine v_aload_n hG dX12_rested_35 rfl 0 rfl ?_
          refine v_iload_n hG dX12_rested_36 rfl 3 rfl ?_
          refine v_callV (k1' := 0) (k2' := 0) hG dX12_rested_37 zc_X12_riskOfAll ⟨zl_X12_214, zi_X12_riskOfAll, zs_X12_riskOfAll⟩ (fun l => k_riskOfAll l D A a s im fr x5 x6 ln bl bo g lg (k : Int) SL (by omega) (by assumption) (by assumption) (by assumption) (by assumption)) rfl mw_recv (fun _ h => h) ⟨by decide, by decide⟩ rfl rfl ⟨by decide, by decide⟩ (rest := []) rfl (Nat.le_of_ble_eq_true rfl) (fun u21 => [vI (q_roa s SL (k : Int))]) (fun _ => rfl) (fun u21 hu21 => ?_)
          have fu21 : 0 ≤ q_roa s SL (k : Int) ∧ q_roa s SL (k : Int) ≤ 1000 := hu21
          exact J16 _ (by first | rfl | (simp only [if_neg c10, if_neg c20]; done) | (simp [bi, c10, c20]; done)) _ _
        · skip
          refine v_ldc (n := 1000000) hG dX12_rested_30 (ztb 1353 (by decide +kernel) (by decide +kernel)) rfl ?_
          refine v_goto (tgt := 40) hG dX12_rested_32 (by decide) ?_
          exact J16 _ (by first | rfl | (simp only [if_neg c10, if_pos c20]; done) | (simp [bi, c10, c20]; done)) _ _
  exact L7 _ 0 (by omega) rfl _ (by first | omega | rfl | (simp []; done)) _ (by rfl) _ (by rfl) _ _
set_option maxHeartbeats 4000000 in
set_option maxRecDepth 100000 in
theorem k_looksForFlaws (l : Launch) (D : Dx) (A : Nat → Prop) (a : Nat → Nat) (s im fr bY tr ln bl bo g lg : Int → Int) (SL : List Int) (hN : NM s) (hM : GM s) (hE : HE s SL) (hT : TI s) : CT l D A yX12_looksForFlaws cX12_looksForFlaws 5 none { frames := 3, cells := 0, slots := 0, locals := 75 } [.ref (a 0)] (MW D A a s im fr bY tr ln bl bo g lg) (fun u : (Int → Int) × (Int → Int) => none) (fun _ => True) (fun u => MW D A a s im fr u.1 u.2 ln bl bo g (sU (sU (sU lg 0 (lff s SL (s 43).toNat).2.1) 1 (lff s SL (s 43).toNat).2.2.1) 2 (lff s SL (s 43).toNat).2.2.2.1)) := by
  refine ct_of (lo0 := [(0, .ref (a 0))]) (by decide) (Nat.le_of_ble_eq_true rfl) rfl ?_
  intro G hG hR
  have hN9 : 0 ≤ s 43 ∧ s 43 ≤ 8 := hN
  refine v_aload_n hG dX12_looksForFlaws_0 rfl 0 rfl ?_
  refine mg_s hG dX12_looksForFlaws_1 ?_
  refine v_iconst hG dX12_looksForFlaws_4 ?_
  refine ma_s (z := s 2) hG dX12_looksForFlaws_5 (by omega) rfl ?_
  refine v_istore_n (lo' := [(1, vI (s 2)), (0, .ref (a 0))]) hG dX12_looksForFlaws_6 rfl (by decide) rfl ?_
  refine v_aload_n hG dX12_looksForFlaws_7 rfl 1 rfl ?_
  refine v_lconst0 hG dX12_looksForFlaws_8 ?_
  refine mp_risks hG dX12_looksForFlaws_9 ?_
  refine v_aload_n hG dX12_looksForFlaws_12 rfl 1 rfl ?_
  refine v_lconst1 hG dX12_looksForFlaws_13 ?_
  refine mp_cleanWays hG dX12_looksForFlaws_14 ?_
  refine v_aload_n hG dX12_looksForFlaws_17 rfl 1 rfl ?_
  refine v_lconst1 hG dX12_looksForFlaws_18 ?_
  refine mp_allWays hG dX12_looksForFlaws_19 ?_
  refine v_iconst hG dX12_looksForFlaws_22 ?_
  refine v_istore_n (lo' := [(2, vI 0), (1, vI (s 2)), (0, .ref (a 0))]) hG dX12_looksForFlaws_23 rfl (by decide) rfl ?_
  refine v_iconst hG dX12_looksForFlaws_24 ?_
  refine v_istore_n (lo' := [(3, vI 0), (2, vI 0), (1, vI (s 2)), (0, .ref (a 0))]) hG dX12_looksForFlaws_25 rfl (by decide) rfl ?_
  refine v_lo [3, 2, 1, 0] (lo' := [(0, .ref (a 0)), (1, vI (s 2)), (2, vI 0), (3, vI 0)]) rfl ?_
  have L7 : ∀ mz : Nat, ∀ (k : Nat), ((k : Int) ≤ s 43) → (s 43 - (k : Int)).toNat = mz → ∀ x1 : Int, x1 = ((k : Int)) → ∀ x2 : Int, x2 = ((lff s SL k).1) → ∀ x3 : Int, x3 = ((lff s SL k).2.2.2.2) → ∀ x4 : Int → Int, x4 = (sU (sU (sU lg 0 (lff s SL k).2.1) 1 (lff s SL k).2.2.1) 2 (lff s SL k).2.2.2.1) → ∀ x5 : Int → Int, ∀ x6 : Int → Int, V G 0 0 (MW D A a s im fr x5 x6 ln bl bo g x4) 26 [(0, .ref (a 0)), (1, vI x2), (2, vI x3), (3, vI x1)] [] := by
    intro dL7
    induction dL7 using Nat.strongRecOn with
    | ind dL7 ihL7 =>
      intro k h8 h9
      intro x1 hx1
      subst hx1
      intro x2 hx2
      subst hx2
      intro x3 hx3
      subst hx3
      intro x4 hx4
      subst hx4
      intro x5
      intro x6
      have hro := lff_rng (SL := SL) hT k
      obtain ⟨hr1, hr2, hr3, hr4, hr5, -⟩ := id hro
      refine v_iload_n hG dX12_looksForFlaws_26 rfl 3 rfl ?_
      refine v_aload_n hG dX12_looksForFlaws_27 rfl 0 rfl ?_
      refine mg_s hG dX12_looksForFlaws_28 ?_
      refine v_bipush hG dX12_looksForFlaws_31 (by decide) ?_
      refine ma_s (z := s 43) hG dX12_looksForFlaws_33 (by omega) rfl ?_
      refine v_icmp_ge (tgt := 122) hG dX12_looksForFlaws_34 (by decide) (by omega) (by omega) (fun c10 => ?_) (fun c10 => ?_)
      · skip
        have e11 : sU (sU (sU lg 0 (lff s SL k).2.1) 1 (lff s SL k).2.2.1) 2 (lff s SL k).2.2.2.1 = sU (sU (sU lg 0 (lff s SL (s 43).toNat).2.1) 1 (lff s SL (s 43).toNat).2.2.1) 2 (lff s SL (s 43).toNat).2.2.2.1 := by first | (rw [show k = (s 43).toNat by omega]) | (rw [lff_4 (by omega) (show k ≤ (s 43).toNat by omega)])
        exact v_return hG hR dX12_looksForFlaws_122 (x5, x6) rfl (by trivial) (fun _ hM => by rw [← e11]; exact hM)
      · skip
        refine v_iload_n hG dX12_looksForFlaws_37 rfl 2 rfl ?_
        refine v_iconst hG dX12_looksForFlaws_38 ?_
        refine v_icmp_ge (tgt := 122) hG dX12_looksForFlaws_39 (by decide) (by omega) (by omega) (fun c12 => ?_) (fun c12 => ?_)
        · skip
          have e13 : sU (sU (sU lg 0 (lff s SL k).2.1) 1 (lff s SL k).2.2.1) 2 (lff s SL k).2.2.2.1 = sU (sU (sU lg 0 (lff s SL (s 43).toNat).2.1) 1 (lff s SL (s 43).toNat).2.2.1) 2 (lff s SL (s 43).toNat).2.2.2.1 := by first | (rw [show k = (s 43).toNat by omega]) | (rw [lff_4 (by omega) (show k ≤ (s 43).toNat by omega)])
          exact v_return hG hR dX12_looksForFlaws_122 (x5, x6) rfl (by trivial) (fun _ hM => by rw [← e13]; exact hM)
        · skip
          refine v_aload_n hG dX12_looksForFlaws_42 rfl 0 rfl ?_
          refine v_iload_n hG dX12_looksForFlaws_43 rfl 3 rfl ?_
          refine v_callV (k1' := 0) (k2' := 0) hG dX12_looksForFlaws_44 zc_X12_isCut ⟨zl_X12_137, zi_X12_isCut, zs_X12_isCut⟩ (fun l => k_isCut l D A a s im fr x5 x6 ln bl bo g (sU (sU (sU lg 0 (lff s SL k).2.1) 1 (lff s SL k).2.2.1) 2 (lff s SL k).2.2.2.1) (k : Int) (by omega) (by first | exact hm.2.2.2.2.1 | exact (hM _ (by omega) (by omega)).2.2.2.2.1 | omega)) rfl mw_recv (fun _ h => h) ⟨by decide, by decide⟩ rfl rfl ⟨by decide, by decide⟩ (rest := []) rfl (Nat.le_of_ble_eq_true rfl) (fun u14 => [vI (bi (s (11 + (k : Int)) = 1))]) (fun _ => rfl) (fun u14 hu14 => ?_)
          refine v_ifb_ne (p := s (11 + (k : Int)) = 1) (tgt := 116) hG dX12_looksForFlaws_47 (by decide) (fun c15 => ?_) (fun c15 => ?_)
          · skip
            refine v_iinc (lo' := [(3, vI ((k : Int) + 1)), (0, .ref (a 0)), (1, vI ((lff s SL k).1)), (2, vI ((lff s SL k).2.2.2.2))]) hG dX12_looksForFlaws_116 3 rfl (by decide) rfl ?_
            refine v_goto (tgt := 26) hG dX12_looksForFlaws_119 (by decide) ?_
            refine v_lo [1, 2, 3, 0] (lo' := [(0, .ref (a 0)), (1, vI ((lff s SL k).1)), (2, vI ((lff s SL k).2.2.2.2)), (3, vI ((k : Int) + 1))]) rfl ?_
            exact ihL7 _ (by omega) (k + 1) (by omega) rfl _ (by first | omega | rfl | (simp [c10, c12, c15]; done)) _ (by simp only [lff, if_neg c10, if_neg c12, if_pos c15]) _ (by simp only [lff, if_neg c10, if_neg c12, if_pos c15]) _ (by first | (simp only [lff, if_neg c10, if_neg c12, if_pos c15]; done) | (simp only [lff, if_neg c10, if_neg c12, if_pos c15]; exact lg3 _ _ _ _ _ _ _)) _ _
          · skip
            refine v_aload_n hG dX12_looksForFlaws_50 rfl 0 rfl ?_
            refine v_iload_n hG dX12_looksForFlaws_51 rfl 3 rfl ?_
            refine v_iload_n hG dX12_looksForFlaws_52 rfl 1 rfl ?_
            refine v_callV (k1' := 0) (k2' := 0) hG dX12_looksForFlaws_53 zc_X12_riskBy ⟨zl_X12_134, zi_X12_riskBy, zs_X12_riskBy⟩ (fun l => k_riskBy l D A a s im fr x5 x6 ln bl bo g (sU (sU (sU lg 0 (lff s SL k).2.1) 1 (lff s SL k).2.2.1) 2 (lff s SL k).2.2.2.1) (k : Int) ((lff s SL k).1) SL (by omega) (by first | assumption | (exact hM _ (by omega) (by omega))) (by assumption) (by omega)) rfl mw_recv (fun _ h => h) ⟨by decide, by decide⟩ rfl rfl ⟨by decide, by decide⟩ (rest := []) rfl (Nat.le_of_ble_eq_true rfl) (fun u16 => [vI (q_risk s SL (k : Int) ((lff s SL k).1))]) (fun _ => rfl) (fun u16 hu16 => ?_)
            have fu16 : 0 ≤ q_risk s SL (k : Int) ((lff s SL k).1) ∧ q_risk s SL (k : Int) ((lff s SL k).1) ≤ 99 := hu16
            refine v_istore (lo' := [(4, vI (q_risk s SL (k : Int) ((lff s SL k).1))), (0, .ref (a 0)), (1, vI ((lff s SL k).1)), (2, vI ((lff s SL k).2.2.2.2)), (3, vI (k : Int))]) hG dX12_looksForFlaws_56 (by decide) rfl ?_
            refine v_aload_n hG dX12_looksForFlaws_58 rfl 1 rfl ?_
            refine v_dup hG dX12_looksForFlaws_59 rfl ?_
            refine mg_risks (z := (lff s SL k).2.1) hG dX12_looksForFlaws_60 rfl ?_
            refine v_iload hG dX12_looksForFlaws_63 0 rfl ?_
            refine v_i2l hG dX12_looksForFlaws_65 (by omega) ?_
            refine v_ladd hG dX12_looksForFlaws_66 ?_
            refine mp_risks hG dX12_looksForFlaws_67 ?_
            refine v_aload_n hG dX12_looksForFlaws_70 rfl 1 rfl ?_
            refine v_dup hG dX12_looksForFlaws_71 rfl ?_
            refine mg_cleanWays (z := (lff s SL k).2.2.1) hG dX12_looksForFlaws_72 rfl ?_
            refine v_bipush hG dX12_looksForFlaws_75 (by decide) ?_
            refine v_iload hG dX12_looksForFlaws_77 0 rfl ?_
            refine v_isub hG dX12_looksForFlaws_79 ?_
            refine v_i2l hG dX12_looksForFlaws_80 (by omega) ?_
            refine v_lmul hG dX12_looksForFlaws_81 ?_
            refine mp_cleanWays hG dX12_looksForFlaws_82 ?_
            refine v_aload_n hG dX12_looksForFlaws_85 rfl 1 rfl ?_
            refine v_dup hG dX12_looksForFlaws_86 rfl ?_
            refine mg_allWays (z := (lff s SL k).2.2.2.1) hG dX12_looksForFlaws_87 rfl ?_
            refine v_ldc2 (n := 100) hG dX12_looksForFlaws_90 (ztb 1375 (by decide +kernel) (by decide +kernel)) rfl ?_
            refine v_lmul hG dX12_looksForFlaws_93 ?_
            refine mp_allWays hG dX12_looksForFlaws_94 ?_
            refine v_iload_n hG dX12_looksForFlaws_97 rfl 2 rfl ?_
            refine v_aload_n hG dX12_looksForFlaws_98 rfl 1 rfl ?_
            refine v_iload_n hG dX12_looksForFlaws_99 rfl 4 rfl ?_
            refine v_callV (k1' := 0) (k2' := 0) hG dX12_looksForFlaws_100 zc_X12_needsOf ⟨zl_X12_157, zi_X12_needsOf, zs_X12_needsOf⟩ (fun l => k_needsOf l D A a s im fr u16.1 u16.2 ln bl bo g (sU (sU (sU (sU (sU (sU lg 0 (lff s SL k).2.1) 1 (lff s SL k).2.2.1) 2 (lff s SL k).2.2.2.1) 0 (((lff s SL k).2.1) + (q_risk s SL (k : Int) ((lff s SL k).1)))) 1 (((lff s SL k).2.2.1) * (100 - (q_risk s SL (k : Int) ((lff s SL k).1))))) 2 (((lff s SL k).2.2.2.1) * 100)) (k : Int) (by omega) (by first | assumption | (exact hM _ (by omega) (by omega)))) rfl mw_recv (fun _ h => h) ⟨by decide, by decide⟩ rfl rfl ⟨by decide, by decide⟩ (rest := [vI ((lff s SL k).1)]) rfl (Nat.le_of_ble_eq_true rfl) (fun u17 => [vI (q_needs s (k : Int)), vI ((lff s SL k).1)]) (fun _ => rfl) (fun u17 hu17 => ?_)
            have fu17 : 0 ≤ q_needs s (k : Int) ∧ q_needs s (k : Int) ≤ 180 := hu17
            refine v_iconst hG dX12_looksForFlaws_103 ?_
            refine v_idiv hG dX12_looksForFlaws_104 (by omega) (by omega) ?_
            refine v_iadd hG dX12_looksForFlaws_105 ?_
            refine v_iconst hG dX12_looksForFlaws_106 ?_
            refine v_bipush hG dX12_looksForFlaws_107 (by decide) ?_
            refine v_callS (k1' := 0) (k2' := 0) hG dX12_looksForFlaws_109 zc_X12_within ⟨zl_X12_130, zt_X12_within⟩ (fun l => k_within l D A (MW D A a s im fr u16.1 u16.2 ln bl bo g (sU (sU (sU (sU (sU (sU lg 0 (lff s SL k).2.1) 1 (lff s SL k).2.2.1) 2 (lff s SL k).2.2.2.1) 0 (((lff s SL k).2.1) + (q_risk s SL (k : Int) ((lff s SL k).1)))) 1 (((lff s SL k).2.2.1) * (100 - (q_risk s SL (k : Int) ((lff s SL k).1))))) 2 (((lff s SL k).2.2.2.1) * 100))) (((lff s SL k).1) + ((q_needs s (k : Int)) / 2)) 0 99 (by omega) (by omega) (by omega)) rfl (fun _ h => h) ⟨by decide, by decide⟩ rfl rfl ⟨by decide, by decide⟩ (rest := []) rfl (Nat.le_of_ble_eq_true rfl) (fun u18 => [vI (clamp (((lff s SL k).1) + ((q_needs s (k : Int)) / 2)) 0 99)]) (fun _ => rfl) (fun u18 hu18 => ?_)
            refine v_istore_n (lo' := [(1, vI (clamp (((lff s SL k).1) + ((q_needs s (k : Int)) / 2)) 0 99)), (4, vI (q_risk s SL (k : Int) ((lff s SL k).1))), (0, .ref (a 0)), (2, vI ((lff s SL k).2.2.2.2)), (3, vI (k : Int))]) hG dX12_looksForFlaws_112 rfl (by decide) rfl ?_
            refine v_iinc (lo' := [(2, vI (((lff s SL k).2.2.2.2) + 1)), (1, vI (clamp (((lff s SL k).1) + ((q_needs s (k : Int)) / 2)) 0 99)), (4, vI (q_risk s SL (k : Int) ((lff s SL k).1))), (0, .ref (a 0)), (3, vI (k : Int))]) hG dX12_looksForFlaws_113 3 rfl (by decide) rfl ?_
            refine v_iinc (lo' := [(3, vI ((k : Int) + 1)), (2, vI (((lff s SL k).2.2.2.2) + 1)), (1, vI (clamp (((lff s SL k).1) + ((q_needs s (k : Int)) / 2)) 0 99)), (4, vI (q_risk s SL (k : Int) ((lff s SL k).1))), (0, .ref (a 0))]) hG dX12_looksForFlaws_116 4 rfl (by decide) rfl ?_
            refine v_goto (tgt := 26) hG dX12_looksForFlaws_119 (by decide) ?_
            refine v_lo [4, 2, 1, 0] (lo' := [(0, .ref (a 0)), (1, vI (clamp (((lff s SL k).1) + ((q_needs s (k : Int)) / 2)) 0 99)), (2, vI (((lff s SL k).2.2.2.2) + 1)), (3, vI ((k : Int) + 1))]) rfl ?_
            exact ihL7 _ (by omega) (k + 1) (by omega) rfl _ (by first | omega | rfl | (simp [c10, c12, c15]; done)) _ (by simp only [lff, if_neg c10, if_neg c12, if_neg c15]) _ (by simp only [lff, if_neg c10, if_neg c12, if_neg c15]) _ (by first | (simp only [lff, if_neg c10, if_neg c12, if_neg c15]; done) | (simp only [lff, if_neg c10, if_neg c12, if_neg c15]; exact lg3 _ _ _ _ _ _ _)) _ _
  exact L7 _ 0 (by omega) rfl _ (by first | omega | rfl | (simp []; done)) _ (by rfl) _ (by rfl) _ (by rfl) _ _
set_option maxHeartbeats 4000000 in
set_option maxRecDepth 100000 in
theorem k_lowest (l : Launch) (D : Dx) (A : Nat → Prop) (P : Heap → Prop) (u : Int) (w : Int) (t : Int) (hu : 0 ≤ u ∧ u ≤ 1000000000) (hw : 0 < w ∧ w ≤ 1000000000) (ht : 0 ≤ t ∧ t ≤ 1) : CT l D A yX12_lowest cX12_lowest 11 (some .long) { frames := 0, cells := 0, slots := 0, locals := 0 } [vL u, vL w, vI t] P (fun _ : Unit => some (vL (q_low u w t))) (fun _ => True) (fun _ => P) := by
  refine ct_of (lo0 := [(0, vL u), (2, vL w), (4, vI t)]) (by decide) (Nat.le_of_ble_eq_true rfl) rfl ?_
  intro G hG hR
  refine v_lload_n hG dX12_lowest_0 rfl 0 rfl ?_
  refine v_lstore (lo' := [(5, vL u), (0, vL u), (2, vL w), (4, vI t)]) hG dX12_lowest_1 (by decide) rfl ?_
  refine v_lload_n hG dX12_lowest_3 rfl 2 rfl ?_
  refine v_lstore (lo' := [(7, vL w), (5, vL u), (0, vL u), (2, vL w), (4, vI t)]) hG dX12_lowest_4 (by decide) rfl ?_
  refine v_lo [2, 3, 4, 1, 0] (lo' := [(0, vL u), (2, vL w), (4, vI t), (5, vL u), (7, vL w)]) rfl ?_
  have L3 : ∀ mz : Nat, ∀ (x y : Int), (0 ≤ x ∧ x ≤ 1000000000) → (0 ≤ y ∧ y ≤ 1000000000) → (0 < x ∨ 0 < y) → (Int.gcd x y = Int.gcd u w) → y.toNat = mz → ∀ x1 : Int, x1 = (x) → ∀ x2 : Int, x2 = (y) → V G 0 0 (P) 6 [(0, vL u), (2, vL w), (4, vI t), (5, vL x1), (7, vL x2)] [] := by
    intro dL3
    induction dL3 using Nat.strongRecOn with
    | ind dL3 ihL3 =>
      intro x y h4 h5 h6 h7 h8
      intro x1 hx1
      replace hx1 := hx1.symm
      subst hx1
      intro x2 hx2
      replace hx2 := hx2.symm
      subst hx2
      refine v_lload hG dX12_lowest_6 4 rfl ?_
      refine v_lconst0 hG dX12_lowest_8 ?_
      refine v_lcmp hG dX12_lowest_9 (by omega) (by omega) ?_
      have hlc := lcmp_0 y
      refine v_if_eq (tgt := 31) hG dX12_lowest_10 (by decide) (by omega) (fun c9 => ?_) (fun c9 => ?_)
      · skip
        refine v_iload hG dX12_lowest_31 2 rfl ?_
        refine v_if_ne (tgt := 40) hG dX12_lowest_33 (by decide) (by omega) (fun c10 => ?_) (fun c10 => ?_)
        · skip
          refine v_lload_n hG dX12_lowest_40 rfl 1 rfl ?_
          refine v_lload hG dX12_lowest_41 3 rfl ?_
          refine v_ldiv hG dX12_lowest_43 (by omega) (by omega) ?_
          have e11 : @Eq Int (q_low u w t) (w / x) := by unfold q_low; rw [low_x (by assumption) (by omega) (by omega)]; simp only [if_pos c9, if_neg c10]
          exact v_lreturn hG hR dX12_lowest_44 () (congrArg (fun z => some (vL z)) e11) (by trivial) (fun _ hM => hM)
        · skip
          refine v_lload_n hG dX12_lowest_36 rfl 0 rfl ?_
          refine v_goto (tgt := 41) hG dX12_lowest_37 (by decide) ?_
          refine v_lload hG dX12_lowest_41 3 rfl ?_
          refine v_ldiv hG dX12_lowest_43 (by omega) (by omega) ?_
          have e12 : @Eq Int (q_low u w t) (u / x) := by unfold q_low; rw [low_x (by assumption) (by omega) (by omega)]; simp only [if_pos c9, if_pos c10]
          exact v_lreturn hG hR dX12_lowest_44 () (congrArg (fun z => some (vL z)) e12) (by trivial) (fun _ hM => hM)
      · skip
        refine v_lload hG dX12_lowest_13 3 rfl ?_
        refine v_lload hG dX12_lowest_15 4 rfl ?_
        refine v_lrem hG dX12_lowest_17 (by omega) (by omega) ?_
        refine v_lstore (lo' := [(9, vL (x % y)), (0, vL u), (2, vL w), (4, vI t), (5, vL x), (7, vL y)]) hG dX12_lowest_18 (by decide) rfl ?_
        refine v_lload hG dX12_lowest_20 5 rfl ?_
        refine v_lstore (lo' := [(5, vL y), (9, vL (x % y)), (0, vL u), (2, vL w), (4, vI t), (7, vL y)]) hG dX12_lowest_22 (by decide) rfl ?_
        refine v_lload hG dX12_lowest_24 1 rfl ?_
        refine v_lstore (lo' := [(7, vL (x % y)), (5, vL y), (9, vL (x % y)), (0, vL u), (2, vL w), (4, vI t)]) hG dX12_lowest_26 (by decide) rfl ?_
        refine v_goto (tgt := 6) hG dX12_lowest_28 (by decide) ?_
        refine v_lo [3, 4, 5, 1, 0] (lo' := [(0, vL u), (2, vL w), (4, vI t), (5, vL y), (7, vL (x % y))]) rfl ?_
        exact ihL3 _ (by have := Int.emod_lt_of_pos x (show 0 < y by omega); have := Int.emod_nonneg x (show y ≠ 0 by omega); omega) y (x % y) (by omega) (by have := Int.emod_lt_of_pos x (show 0 < y by omega); have := Int.emod_nonneg x (show y ≠ 0 by omega); omega) (by omega) (by rw [gcd_step (by omega) (by omega)]; assumption) rfl _ (by rfl) _ (by rfl)
  exact L3 _ u w (by omega) (by omega) (by omega) (by rfl) rfl _ (by rfl) _ (by rfl)
