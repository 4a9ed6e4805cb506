/-! THE CLASS: its own methods, second -/
theorem bset_tb (f : Nat → Bool) {n : Nat} (hn : n ≤ 8) (i : Nat) : (bset f n).toNat.testBit i = (decide (i < n) && f i) := by
  have hd := bset_digit f i n hn
  have hb := bset_8 f hn
  have hr := sh_rng (x := bset f n) (k := i) (by omega)
  rw [iand_1 hr, Int.toNat_natCast] at hd
  obtain ⟨x, hx⟩ := Int.eq_ofNat_of_zero_le hb.1
  rw [hx] at hd ⊢
  rw [Int.toNat_natCast, Nat.testBit_eq_decide_div_mod_eq]
  have hd2 : (x / 2 ^ i % 2 : Nat) = if i < n ∧ f i = true then 1 else 0 := by
    by_cases h : i < n ∧ f i = true
    · rw [if_pos h] at hd ⊢
      have : (((x / 2 ^ i % 2 : Nat)) : Int) = 1 := by push_cast; exact hd
      exact_mod_cast this
    · rw [if_neg h] at hd ⊢
      have : (((x / 2 ^ i % 2 : Nat)) : Int) = 0 := by push_cast; exact hd
      exact_mod_cast this
  rw [hd2]
  by_cases h : i < n <;> cases hf : f i <;> simp [h]
theorem bset_nat (f : Nat → Bool) {n : Nat} (hn : n ≤ 8) : bset f n = ((bset f n).toNat : Int) := (Int.toNat_of_nonneg (bset_8 f hn).1).symm
theorem faded_and {f g : Nat → Bool} {n : Nat} (hn : n ≤ 8) : iand (bset f n) (ixor (bset g n) (-1)) = bset (fun m => f m && !g m) n := by
  have h1 := bset_8 f hn
  have h2 := bset_8 g hn
  have h3 := bset_8 (fun m => f m && !g m) hn
  have e1 : ii (ixor (bset g n) (-1)) = nI ((bset g n).toNat ^^^ 4294967295) := by
    unfold ixor
    rw [ii_of, bset_nat g hn, ii_natE, show ii (-1) = nI 4294967295 from by decide +kernel, nI_xor]
    rfl
  have e2 : (bset f n).toNat &&& ((bset g n).toNat ^^^ 4294967295) = (bset (fun m => f m && !g m) n).toNat := by
    apply Nat.eq_of_testBit_eq
    intro i
    rw [Nat.testBit_and, Nat.testBit_xor, bset_tb f hn, bset_tb g hn, bset_tb _ hn, show 4294967295 = 2 ^ 32 - 1 from rfl, Nat.testBit_two_pow_sub_one]
    by_cases hi : i < n
    · have : i < 32 := by omega
      simp [hi, this]
    · simp [hi]
  unfold iand
  rw [e1, bset_nat f hn, ii_natE, nI_and, e2, nI_toInt (by omega), Int.toNat_of_nonneg h3.1]
theorem and_bit {f : Nat → Bool} {n : Nat} {m : Int} (hn : n ≤ 8) (hm : 0 ≤ m ∧ m < n) : iand (bset f n) (1 * 2 ^ m.toNat) = (if f m.toNat = true then 1 * 2 ^ m.toNat else 0) := by
  have h1 := bset_8 f hn
  have e1 : (1 : Int) * 2 ^ m.toNat = ((2 ^ m.toNat : Nat) : Int) := by
    rw [Int.one_mul]; norm_cast
  have hp : 2 ^ m.toNat ≤ 2 ^ 8 := Nat.pow_le_pow_right (by omega) (by omega)
  have e2 : (bset f n).toNat &&& 2 ^ m.toNat = if f m.toNat = true then 2 ^ m.toNat else 0 := by
    apply Nat.eq_of_testBit_eq
    intro i
    rw [Nat.testBit_and, bset_tb f hn, Nat.testBit_two_pow]
    by_cases e : m.toNat = i
    · subst e
      rw [decide_eq_true (show m.toNat < n by omega)]
      cases hf : f m.toNat <;> simp
    · rw [decide_eq_false e, Bool.and_false]
      split
      · rw [Nat.testBit_two_pow, decide_eq_false e]
      · simp
  rw [e1, bset_nat f hn, iand_nat (by rw [e2]; split <;> omega), e2]
  split <;> simp
theorem bit_ok {s : Int → Int} {m : Int} (hN : NM s) (hm : 0 ≤ m ∧ m < s 43) : (0 ≤ (if 0 < q_dk s m 0 then 1 * 2 ^ m.toNat else 0 : Int) ∧ (if 0 < q_dk s m 0 then 1 * 2 ^ m.toNat else 0 : Int) < 256) ∧ okF s (if 0 < q_dk s m 0 then 1 * 2 ^ m.toNat else 0) 0 = true := by
  have hN9 : 0 ≤ s 43 ∧ s 43 ≤ 8 := hN
  have hp : 2 ^ m.toNat ≤ 2 ^ 7 := Nat.pow_le_pow_right (by omega) (by omega)
  have hp1 : 0 < 2 ^ m.toNat := Nat.two_pow_pos _
  have e1 : (1 : Int) * 2 ^ m.toNat = ((2 ^ m.toNat : Nat) : Int) := by
    rw [Int.one_mul]; norm_cast
  rw [e1]
  refine ⟨by split <;> omega, ?_⟩
  rw [ok_bad (by split <;> omega), leastM_none]
  intro k hk
  by_cases h : 0 < q_dk s m 0
  · rw [if_pos h]
    by_cases e : k = m.toNat
    · subst e
      refine badF_f2 ?_
      rw [Int.toNat_of_nonneg hm.1]
      exact h
    · refine badF_f1 ?_
      have hr := sh_rng (x := ((2 ^ m.toNat : Nat) : Int)) (k := k) (by omega)
      rw [iand_1 hr, Int.toNat_natCast]
      have : (2 ^ m.toNat).testBit k = false := by rw [Nat.testBit_two_pow]; exact decide_eq_false (by omega)
      rw [Nat.testBit_eq_decide_div_mod_eq] at this
      have h2 := of_decide_eq_false this
      intro q
      apply h2
      have : (((2 ^ m.toNat / 2 ^ k % 2 : Nat)) : Int) = 1 := by push_cast; push_cast at q; exact q
      exact_mod_cast this
  · rw [if_neg h]
    refine badF_f1 ?_
    rw [Int.zero_ediv]
    decide +kernel
theorem now_bit {s : Int → Int} {m : Int} (hN : NM s) (hm : 0 ≤ m ∧ m < s 43) : iand (bset (prt s 0) (s 43).toNat) (1 * 2 ^ m.toNat) = (if 0 < q_dk s m 0 then 1 * 2 ^ m.toNat else 0) := by
  have hN9 : 0 ≤ s 43 ∧ s 43 ≤ 8 := hN
  rw [and_bit (by omega) (by omega)]
  have e : prt s 0 m.toNat = decide (0 < q_dk s m 0) := by
    unfold prt
    rw [Int.toNat_of_nonneg hm.1]
  rw [e]
  by_cases h : 0 < q_dk s m 0
  · rw [if_pos h, if_pos (decide_eq_true h)]
  · rw [if_neg h, if_neg (by rw [decide_eq_false h]; decide)]
def cutF (s : Int → Int) : Nat → Bool := fun m => decide (s (11 + m) = 1)
theorem cut_unc {s : Int → Int} : ∀ n : Nat, cntB (cutF s) n = (n : Int) - cntB (fun m => decide (¬ s (11 + m) = 1)) n
  | 0 => by simp [cntB]
  | n + 1 => by
    have ih := cut_unc (s := s) n
    show cntB (cutF s) n + (if cutF s n then 1 else 0) = _ - (cntB (fun m : Nat => decide (¬ s (11 + m) = 1)) n + (if decide (¬ s (11 + n) = 1) then 1 else 0))
    by_cases h : s (11 + (n : Int)) = 1
    · rw [show (if cutF s n then (1 : Int) else 0) = 1 from if_pos (decide_eq_true h), show (if decide (¬ s (11 + (n : Int)) = 1) then (1 : Int) else 0) = 0 from if_neg (by rw [decide_eq_false (fun q => q h)]; decide)]
      omega
    · rw [show (if cutF s n then (1 : Int) else 0) = 0 from if_neg (by show ¬ decide (s (11 + (n : Int)) = 1) = true; rw [decide_eq_false h]; decide), show (if decide (¬ s (11 + (n : Int)) = 1) then (1 : Int) else 0) = 1 from if_pos (decide_eq_true h)]
      omega
theorem cut_all {s : Int → Int} (hN : NM s) : s 43 - q_uncut s = cntB (cutF s) (s 43).toNat := by
  have hN9 : 0 ≤ s 43 ∧ s 43 ≤ 8 := hN
  rw [cut_unc]
  unfold q_uncut
  omega
theorem dk_unc {s : Int → Int} {n : Int} {k : Nat} (h : ¬ s (11 + (k : Int)) = 1) : q_dk s k n = 0 := by
  unfold q_dk q_dark
  rw [if_neg h]
set_option maxHeartbeats 4000000 in
set_option maxRecDepth 100000 in
theorem kc11_good (l : Launch) (D : Dx) (A : Nat → Prop) (ad : Nat → Nat) (K : Int → Int) (S Q qa : Nat → Int → Int) (tp : Nat → Nat) (s bo e uc lr nx : Int → Int) (m : Int) (hrm : -2147483648 ≤ m ∧ m < 2147483648) (SL : List Int) (hN : NM s) (hM : GM s) (hP : PL s) (hCH : CHP Q qa s SL) : CT l D A yX11_good cX11_good 2 (some .int) { frames := 6, cells := 0, slots := 0, locals := 136 } [.ref (ad 0), vI m] (CW D A ad K (uS S 0 s) Q qa tp bo e uc lr nx) (fun _ : Unit => some (vI (a_good s m))) (fun _ => True) (fun _ => CW D A ad K (uS S 0 s) Q qa tp bo e uc lr nx) := by
  refine ct_of (lo0 := [(0, .ref (ad 0)), (1, vI m)]) (by decide) (Nat.le_of_ble_eq_true rfl) rfl ?_
  intro G hG hR
  have hN9 : 0 ≤ s 43 ∧ s 43 ≤ 8 := hN
  obtain ⟨hhc, hpls, hwe, hmd⟩ := id hCH
  have hwr := q_wear_rng hP
  have hqn := q_now_rng hN
  refine v_iload_n hG dX11_good_0 rfl 1 rfl ?_
  refine v_iconst hG dX11_good_1 ?_
  refine v_icmp_ne (tgt := 21) hG dX11_good_2 (by decide) (by omega) (by omega) (fun c1 => ?_) (fun c1 => ?_)
  · skip
    refine v_aload_n hG dX11_good_21 rfl 0 rfl ?_
    refine cg11 hG dX11_good_22 zf_X11_17 (k := 0) (by decide) (v := .ref (kB ad 0)) rfl ?_
    refine v_iload_n hG dX11_good_25 rfl 1 rfl ?_
    by_cases c2 : 0 ≤ m ∧ m ≤ s 43 - 1
    · skip
      refine v_callV (k1' := 0) (k2' := 0) hG dX11_good_26 zc_X0_markAt ⟨zl_X11_99, zi_X0_markAt, zs_X0_markAt⟩ (fun l => kc0_markAt_in l D A ad K S Q qa tp s bo e uc lr nx 0 (by decide) m (by assumption) (by first | exact c2 | (simp only [sU_at]; omega) | omega)) rfl (cR0 (by decide)) (fun _ h => h) ⟨by decide, by decide⟩ rfl rfl ⟨by decide, by decide⟩ (rest := []) rfl (Nat.le_of_ble_eq_true rfl) (fun u3 => [.ref (kM ad 0 m)]) (fun _ => rfl) (fun u3 hu3 => ?_)
      refine v_ifnonnull (tgt := 34) hG dX11_good_29 (by decide) ?_
      refine v_aload_n hG dX11_good_34 rfl 0 rfl ?_
      refine cg11 hG dX11_good_35 zf_X11_17 (k := 0) (by decide) (v := .ref (kB ad 0)) rfl ?_
      refine v_aload_n hG dX11_good_38 rfl 0 rfl ?_
      refine cg11 hG dX11_good_39 zf_X11_17 (k := 0) (by decide) (v := .ref (kB ad 0)) rfl ?_
      refine v_iconst hG dX11_good_42 ?_
      refine v_callV (k1' := 0) (k2' := 0) hG dX11_good_43 zc_X0_printing ⟨zl_X11_181, zi_X0_printing, zs_X0_printing⟩ (fun l => kc0_printing l D A ad K S Q qa tp s bo e uc lr nx 0 (by decide) 0 SL (by assumption) (by assumption) (by assumption) (by assumption) (by omega)) rfl (cR0 (by decide)) (fun _ h => h) ⟨by decide, by decide⟩ rfl rfl ⟨by decide, by decide⟩ (rest := [.ref (kB ad 0)]) rfl (Nat.le_of_ble_eq_true rfl) (fun u4 => [vI (bset (prt s 0) (s 43).toNat), .ref (kB ad 0)]) (fun _ => rfl) (fun u4 hu4 => ?_)
      have fu4 : 0 ≤ bset (prt s 0) (s 43).toNat ∧ bset (prt s 0) (s 43).toNat < 256 := hu4
      refine v_iconst hG dX11_good_46 ?_
      refine v_iload_n hG dX11_good_47 rfl 1 rfl ?_
      refine v_ishl hG dX11_good_48 (by omega) ?_
      refine v_iand hG dX11_good_49 ?_
      rw [now_bit hN (by omega)]
      obtain ⟨hb1, hb2⟩ := bit_ok hN (show 0 ≤ m ∧ m < s 43 by omega)
      refine v_callV (k1' := 0) (k2' := 0) hG dX11_good_50 zc_X0_goodFor ⟨zl_X11_190, zi_X0_goodFor, zs_X0_goodFor⟩ (fun l => kc0_goodFor l D A ad K S Q qa tp s bo e uc lr nx 0 (by decide) (if 0 < q_dk s m 0 then 1 * 2 ^ m.toNat else 0) SL (by assumption) (by assumption) (by assumption) (by assumption) (by omega) (by exact hb2)) rfl (cR0 (by decide)) (fun _ h => h) ⟨by decide, by decide⟩ rfl rfl ⟨by decide, by decide⟩ (rest := []) rfl (Nat.le_of_ble_eq_true rfl) (fun u5 => [vI (q_goodOf s (if 0 < q_dk s m 0 then 1 * 2 ^ m.toNat else 0))]) (fun _ => rfl) (fun u5 hu5 => ?_)
      have fu5 : -5 ≤ q_goodOf s (if 0 < q_dk s m 0 then 1 * 2 ^ m.toNat else 0) ∧ q_goodOf s (if 0 < q_dk s m 0 then 1 * 2 ^ m.toNat else 0) ≤ 999 := hu5
      have e6 : @Eq Int (a_good s m) (q_goodOf s (if 0 < q_dk s m 0 then 1 * 2 ^ m.toNat else 0)) := by first | rfl | (unfold a_good; (repeat' split) <;> first | rfl | omega | (exfalso; omega) | (congr 1; omega))
      exact v_ireturn hG hR dX11_good_53 () (congrArg (fun z => some (vI z)) e6) (by trivial) (fun _ hM => hM)
    · skip
      refine v_callV (k1' := 0) (k2' := 0) hG dX11_good_26 zc_X0_markAt ⟨zl_X11_99, zi_X0_markAt, zs_X0_markAt⟩ (fun l => kc0_markAt_out l D A ad K S Q qa tp s bo e uc lr nx 0 (by decide) m (by assumption) (by omega) (by first | exact c2 | (simp only [sU_at]; omega) | omega)) rfl (cR0 (by decide)) (fun _ h => h) ⟨by decide, by decide⟩ rfl rfl ⟨by decide, by decide⟩ (rest := []) rfl (Nat.le_of_ble_eq_true rfl) (fun u7 => [.null]) (fun _ => rfl) (fun u7 hu7 => ?_)
      refine v_ifnonnullN hG dX11_good_29 ?_
      refine v_iconst hG dX11_good_32 ?_
      have e8 : @Eq Int (a_good s m) (-1) := by first | rfl | (unfold a_good; (repeat' split) <;> first | rfl | omega | (exfalso; omega) | (congr 1; omega))
      exact v_ireturn hG hR dX11_good_33 () (congrArg (fun z => some (vI z)) e8) (by trivial) (fun _ hM => hM)
  · skip
    refine v_aload_n hG dX11_good_5 rfl 0 rfl ?_
    refine cg11 hG dX11_good_6 zf_X11_17 (k := 0) (by decide) (v := .ref (kB ad 0)) rfl ?_
    refine v_aload_n hG dX11_good_9 rfl 0 rfl ?_
    refine cg11 hG dX11_good_10 zf_X11_17 (k := 0) (by decide) (v := .ref (kB ad 0)) rfl ?_
    refine v_iconst hG dX11_good_13 ?_
    refine v_callV (k1' := 0) (k2' := 0) hG dX11_good_14 zc_X0_printing ⟨zl_X11_181, zi_X0_printing, zs_X0_printing⟩ (fun l => kc0_printing l D A ad K S Q qa tp s bo e uc lr nx 0 (by decide) 0 SL (by assumption) (by assumption) (by assumption) (by assumption) (by omega)) rfl (cR0 (by decide)) (fun _ h => h) ⟨by decide, by decide⟩ rfl rfl ⟨by decide, by decide⟩ (rest := [.ref (kB ad 0)]) rfl (Nat.le_of_ble_eq_true rfl) (fun u9 => [vI (bset (prt s 0) (s 43).toNat), .ref (kB ad 0)]) (fun _ => rfl) (fun u9 hu9 => ?_)
    have fu9 : 0 ≤ bset (prt s 0) (s 43).toNat ∧ bset (prt s 0) (s 43).toNat < 256 := hu9
    rw [show bset (prt s 0) (s 43).toNat = q_now s from rfl]
    refine v_callV (k1' := 0) (k2' := 0) hG dX11_good_17 zc_X0_goodFor ⟨zl_X11_190, zi_X0_goodFor, zs_X0_goodFor⟩ (fun l => kc0_goodFor l D A ad K S Q qa tp s bo e uc lr nx 0 (by decide) (q_now s) SL (by assumption) (by assumption) (by assumption) (by assumption) (by omega) (by exact now_ok hN)) rfl (cR0 (by decide)) (fun _ h => h) ⟨by decide, by decide⟩ rfl rfl ⟨by decide, by decide⟩ (rest := []) rfl (Nat.le_of_ble_eq_true rfl) (fun u10 => [vI (q_goodOf s (q_now s))]) (fun _ => rfl) (fun u10 hu10 => ?_)
    have fu10 : -5 ≤ q_goodOf s (q_now s) ∧ q_goodOf s (q_now s) ≤ 999 := hu10
    have e11 : @Eq Int (a_good s m) (q_goodOf s (q_now s)) := by first | rfl | (unfold a_good; (repeat' split) <;> first | rfl | omega | (exfalso; omega) | (congr 1; omega))
    exact v_ireturn hG hR dX11_good_20 () (congrArg (fun z => some (vI z)) e11) (by trivial) (fun _ hM => hM)
set_option maxHeartbeats 4000000 in
set_option maxRecDepth 100000 in
theorem kc11_first (l : Launch) (D : Dx) (A : Nat → Prop) (ad : Nat → Nat) (K : Int → Int) (S Q qa : Nat → Int → Int) (tp : Nat → Nat) (s bo e uc lr nx : Int → Int) (SL : List Int) (hN : NM s) (hM : GM s) (hP : PL s) (hCH : CHP Q qa s SL) : CT l D A yX11_first cX11_first 4 (some .int) { frames := 6, cells := 0, slots := 0, locals := 135 } [.ref (ad 0)] (CW D A ad K (uS S 0 s) Q qa tp bo e uc lr nx) (fun _ : Unit => some (vI (fstN (gF s) 999))) (fun _ => True) (fun _ => CW D A ad K (uS S 0 s) Q qa tp bo e uc lr nx) := by
  refine ct_of (lo0 := [(0, .ref (ad 0))]) (by decide) (Nat.le_of_ble_eq_true rfl) rfl ?_
  intro G hG hR
  have hN9 : 0 ≤ s 43 ∧ s 43 ≤ 8 := hN
  obtain ⟨hhc, hpls, hwe, hmd⟩ := id hCH
  have hwr := q_wear_rng hP
  have hqn := q_now_rng hN
  refine v_aload_n hG dX11_first_0 rfl 0 rfl ?_
  refine cg11 hG dX11_first_1 zf_X11_17 (k := 0) (by decide) (v := .ref (kB ad 0)) rfl ?_
  refine v_iconst hG dX11_first_4 ?_
  refine v_callV (k1' := 0) (k2' := 0) hG dX11_first_5 zc_X0_printing ⟨zl_X11_181, zi_X0_printing, zs_X0_printing⟩ (fun l => kc0_printing l D A ad K S Q qa tp s bo e uc lr nx 0 (by decide) 0 SL (by assumption) (by assumption) (by assumption) (by assumption) (by omega)) rfl (cR0 (by decide)) (fun _ h => h) ⟨by decide, by decide⟩ rfl rfl ⟨by decide, by decide⟩ (rest := []) rfl (Nat.le_of_ble_eq_true rfl) (fun u1 => [vI (bset (prt s 0) (s 43).toNat)]) (fun _ => rfl) (fun u1 hu1 => ?_)
  have fu1 : 0 ≤ bset (prt s 0) (s 43).toNat ∧ bset (prt s 0) (s 43).toNat < 256 := hu1
  rw [show bset (prt s 0) (s 43).toNat = q_now s from rfl]
  refine v_istore_n (lo' := [(1, vI (q_now s)), (0, .ref (ad 0))]) hG dX11_first_8 rfl (by decide) rfl ?_
  refine v_iconst hG dX11_first_9 ?_
  refine v_istore_n (lo' := [(2, vI 1), (1, vI (q_now s)), (0, .ref (ad 0))]) hG dX11_first_10 rfl (by decide) rfl ?_
  refine v_lo [2, 1, 0] (lo' := [(0, .ref (ad 0)), (1, vI (q_now s)), (2, vI 1)]) rfl ?_
  have L3 : ∀ mz : Nat, ∀ (j : Nat), (j ≤ 999) → (fstN (gF s) j = -5) → 999 - j = mz → ∀ x2 : Int, x2 = (((j + 1 : Nat) : Int)) → V G 0 0 (CW D A ad K (uS S 0 s) Q qa tp bo e uc lr nx) 11 [(0, .ref (ad 0)), (1, vI (q_now s)), (2, vI x2)] [] := by
    intro dL3
    induction dL3 using Nat.strongRecOn with
    | ind dL3 ihL3 =>
      intro j hq4 hq5 hq6
      intro x2 hx2
      subst hx2
      refine v_iload_n hG dX11_first_11 rfl 2 rfl ?_
      refine v_sipush hG dX11_first_12 (by decide) ?_
      refine v_icmp_gt (tgt := 40) hG dX11_first_15 (by decide) (by omega) (by omega) (fun c7 => ?_) (fun c7 => ?_)
      · skip
        refine v_bipush hG dX11_first_40 (by decide) ?_
        have e8 : @Eq Int (fstN (gF s) 999) (-5) := by rw [show 999 = j by omega]; assumption
        exact v_ireturn hG hR dX11_first_42 () (congrArg (fun z => some (vI z)) e8) (by trivial) (fun _ hM => hM)
      · skip
        refine v_aload_n hG dX11_first_18 rfl 0 rfl ?_
        refine cg11 hG dX11_first_19 zf_X11_17 (k := 0) (by decide) (v := .ref (kB ad 0)) rfl ?_
        refine v_iload_n hG dX11_first_22 rfl 1 rfl ?_
        refine v_iload_n hG dX11_first_23 rfl 2 rfl ?_
        refine v_callV (k1' := 0) (k2' := 0) hG dX11_first_24 zc_X0_firstFaded ⟨zl_X11_193, zi_X0_firstFaded, zs_X0_firstFaded⟩ (fun l => kc0_firstFaded l D A ad K S Q qa tp s bo e uc lr nx 0 (by decide) (q_now s) ((j + 1 : Nat) : Int) SL (by assumption) (by assumption) (by assumption) (by assumption) (by omega) (by omega)) rfl (cR0 (by decide)) (fun _ h => h) ⟨by decide, by decide⟩ rfl rfl ⟨by decide, by decide⟩ (rest := []) rfl (Nat.le_of_ble_eq_true rfl) (fun u9 => [vI (leastM (badF s (q_now s) ((j + 1 : Nat) : Int)) (s 43).toNat)]) (fun _ => rfl) (fun u9 hu9 => ?_)
        have fu9 : -1 ≤ leastM (badF s (q_now s) ((j + 1 : Nat) : Int)) (s 43).toNat ∧ leastM (badF s (q_now s) ((j + 1 : Nat) : Int)) (s 43).toNat < 8 := hu9
        refine v_istore_n (lo' := [(3, vI (leastM (badF s (q_now s) ((j + 1 : Nat) : Int)) (s 43).toNat)), (0, .ref (ad 0)), (1, vI (q_now s)), (2, vI ((j + 1 : Nat) : Int))]) hG dX11_first_27 rfl (by decide) rfl ?_
        refine v_iload_n hG dX11_first_28 rfl 0 rfl ?_
        refine v_if_lt (tgt := 34) hG dX11_first_29 (by decide) (by omega) (fun c10 => ?_) (fun c10 => ?_)
        · skip
          refine v_iinc (lo' := [(2, vI (((j + 1 : Nat) : Int) + 1)), (3, vI (leastM (badF s (q_now s) ((j + 1 : Nat) : Int)) (s 43).toNat)), (0, .ref (ad 0)), (1, vI (q_now s))]) hG dX11_first_34 3 rfl (by decide) rfl ?_
          refine v_goto (tgt := 11) hG dX11_first_37 (by decide) ?_
          refine v_lo [2, 3, 0] (lo' := [(0, .ref (ad 0)), (1, vI (q_now s)), (2, vI (((j + 1 : Nat) : Int) + 1))]) rfl ?_
          exact ihL3 _ (by omega) (j + 1) (by omega) (by exact fstN_stay (by assumption) (show leastM (badF s (q_now s) ((j + 1 : Nat) : Int)) (s 43).toNat < 0 from (by assumption))) rfl _ (by omega)
        · skip
          refine v_iload_n hG dX11_first_32 rfl 0 rfl ?_
          have e11 : @Eq Int (fstN (gF s) 999) (leastM (badF s (q_now s) ((j + 1 : Nat) : Int)) (s 43).toNat) := by exact fstN_hit (by assumption) (show 0 ≤ leastM (badF s (q_now s) ((j + 1 : Nat) : Int)) (s 43).toNat by omega) (by omega)
          exact v_ireturn hG hR dX11_first_33 () (congrArg (fun z => some (vI z)) e11) (by trivial) (fun _ hM => hM)
  exact L3 _ 0 (by omega) (by rfl) rfl _ (by rfl)
set_option maxHeartbeats 4000000 in
set_option maxRecDepth 100000 in
theorem kc11_faded (l : Launch) (D : Dx) (A : Nat → Prop) (ad : Nat → Nat) (K : Int → Int) (S Q qa : Nat → Int → Int) (tp : Nat → Nat) (s bo e uc lr nx : Int → Int) (n : Int) (hrn : -2147483648 ≤ n ∧ n < 2147483648) (SL : List Int) (hN : NM s) (hM : GM s) (hP : PL s) (hCH : CHP Q qa s SL) : CT l D A yX11_faded cX11_faded 2 (some .int) { frames := 6, cells := 0, slots := 0, locals := 135 } [.ref (ad 0), vI n] (CW D A ad K (uS S 0 s) Q qa tp bo e uc lr nx) (fun _ : Unit => some (vI (a_faded s n))) (fun _ => True) (fun _ => CW D A ad K (uS S 0 s) Q qa tp bo e uc lr nx) := by
  refine ct_of (lo0 := [(0, .ref (ad 0)), (1, vI n)]) (by decide) (Nat.le_of_ble_eq_true rfl) rfl ?_
  intro G hG hR
  have hN9 : 0 ≤ s 43 ∧ s 43 ≤ 8 := hN
  obtain ⟨hhc, hpls, hwe, hmd⟩ := id hCH
  have hwr := q_wear_rng hP
  refine v_iload_n hG dX11_faded_0 rfl 1 rfl ?_
  refine v_iconst hG dX11_faded_1 ?_
  refine v_sipush hG dX11_faded_2 (by decide) ?_
  refine v_callS (k1' := 0) (k2' := 0) hG dX11_faded_5 zc_X11_within ⟨zl_X11_50, zt_X11_within⟩ (fun l => kc11_within l D A (CW D A ad K (uS S 0 s) Q qa tp bo e uc lr nx) n 0 999 (by omega) (by omega) (by omega)) rfl (fun _ h => h) ⟨by decide, by decide⟩ rfl rfl ⟨by decide, by decide⟩ (rest := []) rfl (Nat.le_of_ble_eq_true rfl) (fun u1 => [vI (bi (0 ≤ n ∧ n ≤ 999))]) (fun _ => rfl) (fun u1 hu1 => ?_)
  refine v_ifb_eq (p := 0 ≤ n ∧ n ≤ 999) (tgt := 33) hG dX11_faded_8 (by decide) (fun c2 => ?_) (fun c2 => ?_)
  · skip
    refine v_bipush hG dX11_faded_33 (by decide) ?_
    have e3 : @Eq Int (a_faded s n) (-2) := by first | rfl | (unfold a_faded; (repeat' split) <;> first | rfl | omega | (exfalso; omega) | (congr 1; omega))
    exact v_ireturn hG hR dX11_faded_35 () (congrArg (fun z => some (vI z)) e3) (by trivial) (fun _ hM => hM)
  · skip
    refine v_aload_n hG dX11_faded_11 rfl 0 rfl ?_
    refine cg11 hG dX11_faded_12 zf_X11_17 (k := 0) (by decide) (v := .ref (kB ad 0)) rfl ?_
    refine v_iconst hG dX11_faded_15 ?_
    refine v_callV (k1' := 0) (k2' := 0) hG dX11_faded_16 zc_X0_printing ⟨zl_X11_181, zi_X0_printing, zs_X0_printing⟩ (fun l => kc0_printing l D A ad K S Q qa tp s bo e uc lr nx 0 (by decide) 0 SL (by assumption) (by assumption) (by assumption) (by assumption) (by omega)) rfl (cR0 (by decide)) (fun _ h => h) ⟨by decide, by decide⟩ rfl rfl ⟨by decide, by decide⟩ (rest := []) rfl (Nat.le_of_ble_eq_true rfl) (fun u4 => [vI (bset (prt s 0) (s 43).toNat)]) (fun _ => rfl) (fun u4 hu4 => ?_)
    have fu4 : 0 ≤ bset (prt s 0) (s 43).toNat ∧ bset (prt s 0) (s 43).toNat < 256 := hu4
    refine v_aload_n hG dX11_faded_19 rfl 0 rfl ?_
    refine cg11 hG dX11_faded_20 zf_X11_17 (k := 0) (by decide) (v := .ref (kB ad 0)) rfl ?_
    refine v_iload_n hG dX11_faded_23 rfl 1 rfl ?_
    refine v_callV (k1' := 0) (k2' := 0) hG dX11_faded_24 zc_X0_printing ⟨zl_X11_181, zi_X0_printing, zs_X0_printing⟩ (fun l => kc0_printing l D A ad K S Q qa tp s bo e uc lr nx 0 (by decide) n SL (by assumption) (by assumption) (by assumption) (by assumption) (by omega)) rfl (cR0 (by decide)) (fun _ h => h) ⟨by decide, by decide⟩ rfl rfl ⟨by decide, by decide⟩ (rest := [vI (bset (prt s 0) (s 43).toNat)]) rfl (Nat.le_of_ble_eq_true rfl) (fun u5 => [vI (bset (prt s n) (s 43).toNat), vI (bset (prt s 0) (s 43).toNat)]) (fun _ => rfl) (fun u5 hu5 => ?_)
    have fu5 : 0 ≤ bset (prt s n) (s 43).toNat ∧ bset (prt s n) (s 43).toNat < 256 := hu5
    refine v_iconst hG dX11_faded_27 ?_
    refine v_ixor hG dX11_faded_28 ?_
    refine v_iand hG dX11_faded_29 ?_
    rw [faded_and (by omega)]
    refine v_goto (tgt := 35) hG dX11_faded_30 (by decide) ?_
    have e6 : @Eq Int (a_faded s n) (bset (fun m => prt s 0 m && !prt s n m) (s 43).toNat) := by first | rfl | (unfold a_faded; (repeat' split) <;> first | rfl | omega | (exfalso; omega) | (congr 1; omega))
    exact v_ireturn hG hR dX11_faded_35 () (congrArg (fun z => some (vI z)) e6) (by trivial) (fun _ hM => hM)
set_option maxHeartbeats 4000000 in
set_option maxRecDepth 100000 in
theorem kc11_mirror (l : Launch) (D : Dx) (A : Nat → Prop) (ad : Nat → Nat) (K : Int → Int) (S Q qa : Nat → Int → Int) (tp : Nat → Nat) (s bo e uc lr nx : Int → Int) (m : Int) (hrm : -2147483648 ≤ m ∧ m < 2147483648) (hN : NM s) (hM : GM s) : CT l D A yX11_mirror cX11_mirror 3 (some .int) { frames := 2, cells := 0, slots := 0, locals := 43 } [.ref (ad 0), vI m] (CW D A ad K (uS S 0 s) Q qa tp bo e uc lr nx) (fun _ : Unit => some (vI (a_mirror s m))) (fun _ => True) (fun _ => CW D A ad K (uS S 0 s) Q qa tp bo e uc lr nx) := by
  refine ct_of (lo0 := [(0, .ref (ad 0)), (1, vI m)]) (by decide) (Nat.le_of_ble_eq_true rfl) rfl ?_
  intro G hG hR
  have hN9 : 0 ≤ s 43 ∧ s 43 ≤ 8 := hN
  refine v_aload_n hG dX11_mirror_0 rfl 0 rfl ?_
  refine cg11 hG dX11_mirror_1 zf_X11_17 (k := 0) (by decide) (v := .ref (kB ad 0)) rfl ?_
  refine v_iload_n hG dX11_mirror_4 rfl 1 rfl ?_
  by_cases c1 : 0 ≤ m ∧ m ≤ s 43 - 1
  · skip
    refine v_callV (k1' := 0) (k2' := 0) hG dX11_mirror_5 zc_X0_markAt ⟨zl_X11_99, zi_X0_markAt, zs_X0_markAt⟩ (fun l => kc0_markAt_in l D A ad K S Q qa tp s bo e uc lr nx 0 (by decide) m (by assumption) (by first | exact c1 | (simp only [sU_at]; omega) | omega)) rfl (cR0 (by decide)) (fun _ h => h) ⟨by decide, by decide⟩ rfl rfl ⟨by decide, by decide⟩ (rest := []) rfl (Nat.le_of_ble_eq_true rfl) (fun u2 => [.ref (kM ad 0 m)]) (fun _ => rfl) (fun u2 hu2 => ?_)
    refine v_astore_n (lo' := [(2, .ref (kM ad 0 m)), (0, .ref (ad 0)), (1, vI m)]) hG dX11_mirror_8 rfl (by decide) rfl ?_
    refine v_aload_n hG dX11_mirror_9 rfl 0 rfl ?_
    refine v_ifnonnull (tgt := 17) hG dX11_mirror_10 (by decide) ?_
    have hm3 := (hM m (by omega) (by omega)).2.2.1
    refine v_bipush hG dX11_mirror_17 (by decide) ?_
    refine v_aload_n hG dX11_mirror_19 rfl 0 rfl ?_
    refine cgM (by decide) (by omega) (by omega) hG dX11_mirror_20 zf_X11_111 (k := 3) (by decide) (v := vI (s (66 + m))) rfl ?_
    refine v_isub hG dX11_mirror_23 ?_
    have e3 : @Eq Int (a_mirror s m) (99 - (s (66 + m))) := by first | rfl | (unfold a_mirror; (repeat' split) <;> first | rfl | omega | (exfalso; omega) | (congr 1; omega))
    exact v_ireturn hG hR dX11_mirror_24 () (congrArg (fun z => some (vI z)) e3) (by trivial) (fun _ hM => hM)
  · skip
    refine v_callV (k1' := 0) (k2' := 0) hG dX11_mirror_5 zc_X0_markAt ⟨zl_X11_99, zi_X0_markAt, zs_X0_markAt⟩ (fun l => kc0_markAt_out l D A ad K S Q qa tp s bo e uc lr nx 0 (by decide) m (by assumption) (by omega) (by first | exact c1 | (simp only [sU_at]; omega) | omega)) rfl (cR0 (by decide)) (fun _ h => h) ⟨by decide, by decide⟩ rfl rfl ⟨by decide, by decide⟩ (rest := []) rfl (Nat.le_of_ble_eq_true rfl) (fun u4 => [.null]) (fun _ => rfl) (fun u4 hu4 => ?_)
    refine v_astoreN_n (lo' := [(2, .null), (0, .ref (ad 0)), (1, vI m)]) hG dX11_mirror_8 rfl (by decide) rfl ?_
    refine v_aloadN_n hG dX11_mirror_9 rfl 0 rfl ?_
    refine v_ifnonnullN hG dX11_mirror_10 ?_
    refine v_iconst hG dX11_mirror_13 ?_
    refine v_goto (tgt := 24) hG dX11_mirror_14 (by decide) ?_
    have e5 : @Eq Int (a_mirror s m) (-1) := by first | rfl | (unfold a_mirror; (repeat' split) <;> first | rfl | omega | (exfalso; omega) | (congr 1; omega))
    exact v_ireturn hG hR dX11_mirror_24 () (congrArg (fun z => some (vI z)) e5) (by trivial) (fun _ hM => hM)
set_option maxHeartbeats 4000000 in
set_option maxRecDepth 100000 in
theorem kc11_beside (l : Launch) (D : Dx) (A : Nat → Prop) (ad : Nat → Nat) (K : Int → Int) (S Q qa : Nat → Int → Int) (tp : Nat → Nat) (s bo e uc lr nx : Int → Int) (m : Int) (hrm : -2147483648 ≤ m ∧ m < 2147483648) (hN : NM s) (hM : GM s) : CT l D A yX11_beside cX11_beside 2 (some .int) { frames := 3, cells := 0, slots := 0, locals := 67 } [.ref (ad 0), vI m] (CW D A ad K (uS S 0 s) Q qa tp bo e uc lr nx) (fun _ : Unit => some (vI (a_beside s m))) (fun _ => True) (fun _ => CW D A ad K (uS S 0 s) Q qa tp bo e uc lr nx) := by
  refine ct_of (lo0 := [(0, .ref (ad 0)), (1, vI m)]) (by decide) (Nat.le_of_ble_eq_true rfl) rfl ?_
  intro G hG hR
  have hN9 : 0 ≤ s 43 ∧ s 43 ≤ 8 := hN
  refine v_aload_n hG dX11_beside_0 rfl 0 rfl ?_
  refine cg11 hG dX11_beside_1 zf_X11_17 (k := 0) (by decide) (v := .ref (kB ad 0)) rfl ?_
  refine v_iload_n hG dX11_beside_4 rfl 1 rfl ?_
  by_cases c1 : 0 ≤ m ∧ m ≤ s 43 - 1
  · skip
    refine v_callV (k1' := 0) (k2' := 0) hG dX11_beside_5 zc_X0_markAt ⟨zl_X11_99, zi_X0_markAt, zs_X0_markAt⟩ (fun l => kc0_markAt_in l D A ad K S Q qa tp s bo e uc lr nx 0 (by decide) m (by assumption) (by first | exact c1 | (simp only [sU_at]; omega) | omega)) rfl (cR0 (by decide)) (fun _ h => h) ⟨by decide, by decide⟩ rfl rfl ⟨by decide, by decide⟩ (rest := []) rfl (Nat.le_of_ble_eq_true rfl) (fun u2 => [.ref (kM ad 0 m)]) (fun _ => rfl) (fun u2 hu2 => ?_)
    refine v_ifnonnull (tgt := 15) hG dX11_beside_8 (by decide) ?_
    refine v_aload_n hG dX11_beside_15 rfl 0 rfl ?_
    refine cg11 hG dX11_beside_16 zf_X11_17 (k := 0) (by decide) (v := .ref (kB ad 0)) rfl ?_
    refine v_iload_n hG dX11_beside_19 rfl 1 rfl ?_
    refine v_callV (k1' := 0) (k2' := 0) hG dX11_beside_20 zc_X0_besideOf ⟨zl_X11_219, zi_X0_besideOf, zs_X0_besideOf⟩ (fun l => kc0_besideOf l D A ad K S Q qa tp s bo e uc lr nx 0 (by decide) m (by omega) (by assumption) (by assumption)) rfl (cR0 (by decide)) (fun _ h => h) ⟨by decide, by decide⟩ rfl rfl ⟨by decide, by decide⟩ (rest := []) rfl (Nat.le_of_ble_eq_true rfl) (fun u3 => [vI (q_bes s m)]) (fun _ => rfl) (fun u3 hu3 => ?_)
    have fu3 : 0 ≤ q_bes s m ∧ q_bes s m < 256 := hu3
    have e4 : @Eq Int (a_beside s m) (q_bes s m) := by first | rfl | (unfold a_beside; (repeat' split) <;> first | rfl | omega | (exfalso; omega) | (congr 1; omega))
    exact v_ireturn hG hR dX11_beside_23 () (congrArg (fun z => some (vI z)) e4) (by trivial) (fun _ hM => hM)
  · skip
    refine v_callV (k1' := 0) (k2' := 0) hG dX11_beside_5 zc_X0_markAt ⟨zl_X11_99, zi_X0_markAt, zs_X0_markAt⟩ (fun l => kc0_markAt_out l D A ad K S Q qa tp s bo e uc lr nx 0 (by decide) m (by assumption) (by omega) (by first | exact c1 | (simp only [sU_at]; omega) | omega)) rfl (cR0 (by decide)) (fun _ h => h) ⟨by decide, by decide⟩ rfl rfl ⟨by decide, by decide⟩ (rest := []) rfl (Nat.le_of_ble_eq_true rfl) (fun u5 => [.null]) (fun _ => rfl) (fun u5 hu5 => ?_)
    refine v_ifnonnullN hG dX11_beside_8 ?_
    refine v_iconst hG dX11_beside_11 ?_
    refine v_goto (tgt := 23) hG dX11_beside_12 (by decide) ?_
    have e6 : @Eq Int (a_beside s m) (-1) := by first | rfl | (unfold a_beside; (repeat' split) <;> first | rfl | omega | (exfalso; omega) | (congr 1; omega))
    exact v_ireturn hG hR dX11_beside_23 () (congrArg (fun z => some (vI z)) e6) (by trivial) (fun _ hM => hM)
set_option maxHeartbeats 4000000 in
set_option maxRecDepth 100000 in
theorem kc11_crowd (l : Launch) (D : Dx) (A : Nat → Prop) (ad : Nat → Nat) (K : Int → Int) (S Q qa : Nat → Int → Int) (tp : Nat → Nat) (s bo e uc lr nx : Int → Int) (hN : NM s) (hM : GM s) : CT l D A yX11_crowd cX11_crowd 5 (some .int) { frames := 3, cells := 0, slots := 0, locals := 67 } [.ref (ad 0)] (CW D A ad K (uS S 0 s) Q qa tp bo e uc lr nx) (fun _ : Unit => some (vI ((bestF (-1) (croF s) (s 43).toNat).2))) (fun _ => True) (fun _ => CW D A ad K (uS S 0 s) Q qa tp bo e uc lr nx) := by
  refine ct_of (lo0 := [(0, .ref (ad 0))]) (by decide) (Nat.le_of_ble_eq_true rfl) rfl ?_
  intro G hG hR
  have hN9 : 0 ≤ s 43 ∧ s 43 ≤ 8 := hN
  refine v_iconst hG dX11_crowd_0 ?_
  refine v_istore_n (lo' := [(1, vI (-1)), (0, .ref (ad 0))]) hG dX11_crowd_1 rfl (by decide) rfl ?_
  refine v_bipush hG dX11_crowd_2 (by decide) ?_
  refine v_istore_n (lo' := [(2, vI (-5)), (1, vI (-1)), (0, .ref (ad 0))]) hG dX11_crowd_4 rfl (by decide) rfl ?_
  refine v_iconst hG dX11_crowd_5 ?_
  refine v_istore_n (lo' := [(3, vI 0), (2, vI (-5)), (1, vI (-1)), (0, .ref (ad 0))]) hG dX11_crowd_6 rfl (by decide) rfl ?_
  refine v_lo [3, 2, 1, 0] (lo' := [(0, .ref (ad 0)), (1, vI (-1)), (2, vI (-5)), (3, vI 0)]) rfl ?_
  have L4 : ∀ mz : Nat, ∀ (k : Nat), ((k : Int) ≤ s 43) → (s 43 - (k : Int)).toNat = mz → ∀ x1 : Int, x1 = ((k : Int)) → ∀ x2 : Int, x2 = ((bestF (-1) (croF s) k).1) → ∀ x3 : Int, x3 = ((bestF (-1) (croF s) k).2) → V G 0 0 (CW D A ad K (uS S 0 s) Q qa tp bo e uc lr nx) 7 [(0, .ref (ad 0)), (1, vI x2), (2, vI x3), (3, vI x1)] [] := by
    intro dL4
    induction dL4 using Nat.strongRecOn with
    | ind dL4 ihL4 =>
      intro k hq5 hq6
      intro x1 hx1
      subst hx1
      intro x2 hx2
      subst hx2
      intro x3 hx3
      subst hx3
      have hbr := bestF_rng (i0 := -1) (f := croF s) (b := 999) (by omega) (fun k => croF_rng hN k) k
      refine v_iload_n hG dX11_crowd_7 rfl 3 rfl ?_
      refine v_aload_n hG dX11_crowd_8 rfl 0 rfl ?_
      refine cg11 hG dX11_crowd_9 zf_X11_17 (k := 0) (by decide) (v := .ref (kB ad 0)) rfl ?_
      refine cg0 (by decide) hG dX11_crowd_12 zf_X11_90 (k := 3) (by decide) (v := vI (s 43)) rfl ?_
      refine v_icmp_ge (tgt := 48) hG dX11_crowd_15 (by decide) (by omega) (by omega) (fun c7 => ?_) (fun c7 => ?_)
      · skip
        refine v_iload_n hG dX11_crowd_48 rfl 2 rfl ?_
        have e8 : @Eq Int ((bestF (-1) (croF s) (s 43).toNat).2) ((bestF (-1) (croF s) k).2) := by rw [show k = (s 43).toNat by omega]
        exact v_ireturn hG hR dX11_crowd_49 () (congrArg (fun z => some (vI z)) e8) (by trivial) (fun _ hM => hM)
      · skip
        refine v_aload_n hG dX11_crowd_18 rfl 0 rfl ?_
        refine cg11 hG dX11_crowd_19 zf_X11_17 (k := 0) (by decide) (v := .ref (kB ad 0)) rfl ?_
        refine v_iload_n hG dX11_crowd_22 rfl 3 rfl ?_
        refine v_callV (k1' := 0) (k2' := 0) hG dX11_crowd_23 zc_X0_besideOf ⟨zl_X11_219, zi_X0_besideOf, zs_X0_besideOf⟩ (fun l => kc0_besideOf l D A ad K S Q qa tp s bo e uc lr nx 0 (by decide) (k : Int) (by omega) (by assumption) (by assumption)) rfl (cR0 (by decide)) (fun _ h => h) ⟨by decide, by decide⟩ rfl rfl ⟨by decide, by decide⟩ (rest := []) rfl (Nat.le_of_ble_eq_true rfl) (fun u9 => [vI (q_bes s (k : Int))]) (fun _ => rfl) (fun u9 hu9 => ?_)
        have fu9 : 0 ≤ q_bes s (k : Int) ∧ q_bes s (k : Int) < 256 := hu9
        refine v_callS (k1' := 0) (k2' := 0) hG dX11_crowd_26 zc_J6_bitCount_0f7a4 ⟨zl_X11_185, zt_J6_bitCount_0f7a4⟩ (fun l => k_bitCount_0f7a4 l D A (CW D A ad K (uS S 0 s) Q qa tp bo e uc lr nx) (q_bes s (k : Int)) (by omega)) rfl (fun _ h => h) ⟨by decide, by decide⟩ rfl rfl ⟨by decide, by decide⟩ (rest := []) rfl (Nat.le_of_ble_eq_true rfl) (fun u10 => [vI (szF (q_bes s (k : Int)) 8)]) (fun _ => rfl) (fun u10 hu10 => ?_)
        have fu10 : 0 ≤ szF (q_bes s (k : Int)) 8 ∧ szF (q_bes s (k : Int)) 8 ≤ 8 := hu10
        refine v_istore (lo' := [(4, vI (szF (q_bes s (k : Int)) 8)), (0, .ref (ad 0)), (1, vI ((bestF (-1) (croF s) k).1)), (2, vI ((bestF (-1) (croF s) k).2)), (3, vI (k : Int))]) hG dX11_crowd_29 (by decide) rfl ?_
        refine v_iload hG dX11_crowd_31 0 rfl ?_
        refine v_iload_n hG dX11_crowd_33 rfl 2 rfl ?_
        refine v_icmp_le (tgt := 42) hG dX11_crowd_34 (by decide) (by omega) (by omega) (fun c11 => ?_) (fun c11 => ?_)
        · skip
          refine v_iinc (lo' := [(3, vI ((k : Int) + 1)), (4, vI (szF (q_bes s (k : Int)) 8)), (0, .ref (ad 0)), (1, vI ((bestF (-1) (croF s) k).1)), (2, vI ((bestF (-1) (croF s) k).2))]) hG dX11_crowd_42 4 rfl (by decide) rfl ?_
          refine v_goto (tgt := 7) hG dX11_crowd_45 (by decide) ?_
          refine v_lo [2, 3, 4, 0] (lo' := [(0, .ref (ad 0)), (1, vI ((bestF (-1) (croF s) k).1)), (2, vI ((bestF (-1) (croF s) k).2)), (3, vI ((k : Int) + 1))]) rfl ?_
          exact ihL4 _ (by omega) (k + 1) (by omega) rfl _ (by first | omega | rfl | (simp [c7, c11]; done)) _ (by first | (rw [best_n (f := croF s) (by assumption)]; done) | (rw [best_y (f := croF s) (by assumption)]; rfl)) _ (by first | (rw [best_n (f := croF s) (by assumption)]; done) | (rw [best_y (f := croF s) (by assumption)]; done))
        · skip
          refine v_iload hG dX11_crowd_37 0 rfl ?_
          refine v_istore_n (lo' := [(1, vI (szF (q_bes s (k : Int)) 8)), (4, vI (szF (q_bes s (k : Int)) 8)), (0, .ref (ad 0)), (2, vI ((bestF (-1) (croF s) k).2)), (3, vI (k : Int))]) hG dX11_crowd_39 rfl (by decide) rfl ?_
          refine v_iload_n hG dX11_crowd_40 rfl 4 rfl ?_
          refine v_istore_n (lo' := [(2, vI (k : Int)), (1, vI (szF (q_bes s (k : Int)) 8)), (4, vI (szF (q_bes s (k : Int)) 8)), (0, .ref (ad 0)), (3, vI (k : Int))]) hG dX11_crowd_41 rfl (by decide) rfl ?_
          refine v_iinc (lo' := [(3, vI ((k : Int) + 1)), (2, vI (k : Int)), (1, vI (szF (q_bes s (k : Int)) 8)), (4, vI (szF (q_bes s (k : Int)) 8)), (0, .ref (ad 0))]) hG dX11_crowd_42 4 rfl (by decide) rfl ?_
          refine v_goto (tgt := 7) hG dX11_crowd_45 (by decide) ?_
          refine v_lo [4, 2, 1, 0] (lo' := [(0, .ref (ad 0)), (1, vI (szF (q_bes s (k : Int)) 8)), (2, vI (k : Int)), (3, vI ((k : Int) + 1))]) rfl ?_
          exact ihL4 _ (by omega) (k + 1) (by omega) rfl _ (by first | omega | rfl | (simp [c7, c11]; done)) _ (by first | (rw [best_n (f := croF s) (by assumption)]; done) | (rw [best_y (f := croF s) (by assumption)]; rfl)) _ (by first | (rw [best_n (f := croF s) (by assumption)]; done) | (rw [best_y (f := croF s) (by assumption)]; done))
  exact L4 _ 0 (by omega) rfl _ (by first | omega | rfl | (simp []; done)) _ (by rfl) _ (by rfl)
set_option maxHeartbeats 4000000 in
set_option maxRecDepth 100000 in
theorem kc11_room (l : Launch) (D : Dx) (A : Nat → Prop) (ad : Nat → Nat) (K : Int → Int) (S Q qa : Nat → Int → Int) (tp : Nat → Nat) (s bo e uc lr nx : Int → Int) (d : Int) (hrd : -2147483648 ≤ d ∧ d < 2147483648) (hN : NM s) (hM : GM s) : CT l D A yX11_room cX11_room 3 (some .int) { frames := 2, cells := 0, slots := 0, locals := 44 } [.ref (ad 0), vI d] (CW D A ad K (uS S 0 s) Q qa tp bo e uc lr nx) (fun _ : Unit => some (vI (a_room s d))) (fun _ => True) (fun _ => CW D A ad K (uS S 0 s) Q qa tp bo e uc lr nx) := by
  refine ct_of (lo0 := [(0, .ref (ad 0)), (1, vI d)]) (by decide) (Nat.le_of_ble_eq_true rfl) rfl ?_
  intro G hG hR
  have hN9 : 0 ≤ s 43 ∧ s 43 ≤ 8 := hN
  refine v_iload_n hG dX11_room_0 rfl 1 rfl ?_
  refine v_iconst hG dX11_room_1 ?_
  refine v_bipush hG dX11_room_2 (by decide) ?_
  refine v_callS (k1' := 0) (k2' := 0) hG dX11_room_4 zc_X11_within ⟨zl_X11_50, zt_X11_within⟩ (fun l => kc11_within l D A (CW D A ad K (uS S 0 s) Q qa tp bo e uc lr nx) d 1 9 (by omega) (by omega) (by omega)) rfl (fun _ h => h) ⟨by decide, by decide⟩ rfl rfl ⟨by decide, by decide⟩ (rest := []) rfl (Nat.le_of_ble_eq_true rfl) (fun u1 => [vI (bi (1 ≤ d ∧ d ≤ 9))]) (fun _ => rfl) (fun u1 hu1 => ?_)
  refine v_ifb_ne (p := 1 ≤ d ∧ d ≤ 9) (tgt := 13) hG dX11_room_7 (by decide) (fun c2 => ?_) (fun c2 => ?_)
  · skip
    refine v_iconst hG dX11_room_13 ?_
    refine v_istore_n (lo' := [(2, vI 0), (0, .ref (ad 0)), (1, vI d)]) hG dX11_room_14 rfl (by decide) rfl ?_
    refine v_lo [1, 2, 0] (lo' := [(0, .ref (ad 0)), (1, vI d), (2, vI 0)]) rfl ?_
    have L4 : ∀ mz : Nat, ∀ (j : Nat), (j ≤ 100) → (leastM (roomF s d) j = -1) → 100 - j = mz → ∀ x3 : Int, x3 = ((j : Int)) → V G 0 0 (CW D A ad K (uS S 0 s) Q qa tp bo e uc lr nx) 15 [(0, .ref (ad 0)), (1, vI d), (2, vI x3)] [] := by
      intro dL4
      induction dL4 using Nat.strongRecOn with
      | ind dL4 ihL4 =>
        intro j hq5 hq6 hq7
        intro x3 hx3
        subst hx3
        refine v_iload_n hG dX11_room_15 rfl 2 rfl ?_
        refine v_bipush hG dX11_room_16 (by decide) ?_
        refine v_icmp_gt (tgt := 41) hG dX11_room_18 (by decide) (by omega) (by omega) (fun c8 => ?_) (fun c8 => ?_)
        · skip
          refine v_bipush hG dX11_room_41 (by decide) ?_
          have e9 : @Eq Int (a_room s d) (-5) := by exact room_none (j := j) (by assumption) (by assumption) (by omega)
          exact v_ireturn hG hR dX11_room_43 () (congrArg (fun z => some (vI z)) e9) (by trivial) (fun _ hM => hM)
        · skip
          refine v_aload_n hG dX11_room_21 rfl 0 rfl ?_
          refine cg11 hG dX11_room_22 zf_X11_17 (k := 0) (by decide) (v := .ref (kB ad 0)) rfl ?_
          refine v_iload_n hG dX11_room_25 rfl 2 rfl ?_
          refine v_iload_n hG dX11_room_26 rfl 1 rfl ?_
          refine v_callV (k1' := 0) (k2' := 0) hG dX11_room_27 zc_X0_isFree ⟨zl_X11_222, zi_X0_isFree, zs_X0_isFree⟩ (fun l => kc0_isFree l D A ad K S Q qa tp s bo e uc lr nx 0 (by decide) (j : Int) d (by assumption) (by assumption) (by omega) (by omega)) rfl (cR0 (by decide)) (fun _ h => h) ⟨by decide, by decide⟩ rfl rfl ⟨by decide, by decide⟩ (rest := []) rfl (Nat.le_of_ble_eq_true rfl) (fun u10 => [vI (bi (allM (freeF s (j : Int) d) (s 43).toNat = true))]) (fun _ => rfl) (fun u10 hu10 => ?_)
          refine v_ifb_eq (p := allM (freeF s (j : Int) d) (s 43).toNat = true) (tgt := 35) hG dX11_room_30 (by decide) (fun c11 => ?_) (fun c11 => ?_)
          · skip
            refine v_iinc (lo' := [(2, vI ((j : Int) + 1)), (0, .ref (ad 0)), (1, vI d)]) hG dX11_room_35 2 rfl (by decide) rfl ?_
            refine v_goto (tgt := 15) hG dX11_room_38 (by decide) ?_
            refine v_lo [1, 2, 0] (lo' := [(0, .ref (ad 0)), (1, vI d), (2, vI ((j : Int) + 1))]) rfl ?_
            exact ihL4 _ (by omega) (j + 1) (by omega) (by exact room_stay (by assumption) (by assumption) (Nat.le_refl _)) rfl _ (by omega)
          · skip
            refine v_iload_n hG dX11_room_33 rfl 2 rfl ?_
            have e12 : @Eq Int (a_room s d) ((j : Int)) := by exact room_hit (by assumption) (by assumption) (by assumption) rfl (by omega)
            exact v_ireturn hG hR dX11_room_34 () (congrArg (fun z => some (vI z)) e12) (by trivial) (fun _ hM => hM)
    exact L4 _ 0 (by omega) (by rfl) rfl _ (by first | omega | rfl | (simp [c2]; done))
  · skip
    refine v_bipush hG dX11_room_10 (by decide) ?_
    have e13 : @Eq Int (a_room s d) (-2) := by unfold a_room; rw [if_neg (by assumption)]
    exact v_ireturn hG hR dX11_room_12 () (congrArg (fun z => some (vI z)) e13) (by trivial) (fun _ hM => hM)
set_option maxHeartbeats 4000000 in
set_option maxRecDepth 100000 in
theorem kc11_proof (l : Launch) (D : Dx) (A : Nat → Prop) (ad : Nat → Nat) (K : Int → Int) (S Q qa : Nat → Int → Int) (tp : Nat → Nat) (s bo e uc lr nx : Int → Int) (e0 : Int) (hre0 : -2147483648 ≤ e0 ∧ e0 < 2147483648) (SL : List Int) (hN : NM s) (hM : GM s) (hP : PL s) (hCH : CHP Q qa s SL) (hZ : ZU s) : CT l D A yX11_proof cX11_proof 2 (some .int) { frames := 6, cells := 0, slots := 0, locals := 136 } [.ref (ad 0), vI e0] (CW D A ad K (uS S 0 s) Q qa tp bo e uc lr nx) (fun _ : Unit => some (vI (a_proof s e0))) (fun _ => True) (fun _ => CW D A ad K (uS S 0 s) Q qa tp bo e uc lr nx) := by
  refine ct_of (lo0 := [(0, .ref (ad 0)), (1, vI e0)]) (by decide) (Nat.le_of_ble_eq_true rfl) rfl ?_
  intro G hG hR
  have hN9 : 0 ≤ s 43 ∧ s 43 ≤ 8 := hN
  obtain ⟨hhc, hpls, hwe, hmd⟩ := id hCH
  have hwr := q_wear_rng hP
  refine v_iload_n hG dX11_proof_0 rfl 1 rfl ?_
  refine v_iconst hG dX11_proof_1 ?_
  refine v_bipush hG dX11_proof_2 (by decide) ?_
  refine v_callS (k1' := 0) (k2' := 0) hG dX11_proof_4 zc_X11_within ⟨zl_X11_50, zt_X11_within⟩ (fun l => kc11_within l D A (CW D A ad K (uS S 0 s) Q qa tp bo e uc lr nx) e0 0 9 (by omega) (by omega) (by omega)) rfl (fun _ h => h) ⟨by decide, by decide⟩ rfl rfl ⟨by decide, by decide⟩ (rest := []) rfl (Nat.le_of_ble_eq_true rfl) (fun u1 => [vI (bi (0 ≤ e0 ∧ e0 ≤ 9))]) (fun _ => rfl) (fun u1 hu1 => ?_)
  refine v_ifb_eq (p := 0 ≤ e0 ∧ e0 ≤ 9) (tgt := 21) hG dX11_proof_7 (by decide) (fun c2 => ?_) (fun c2 => ?_)
  · skip
    refine v_bipush hG dX11_proof_21 (by decide) ?_
    have e3 : @Eq Int (a_proof s e0) (-2) := by first | rfl | (unfold a_proof; (repeat' split) <;> first | rfl | omega | (exfalso; omega) | (congr 1; omega))
    exact v_ireturn hG hR dX11_proof_23 () (congrArg (fun z => some (vI z)) e3) (by trivial) (fun _ hM => hM)
  · skip
    refine v_aload_n hG dX11_proof_10 rfl 0 rfl ?_
    refine cg11 hG dX11_proof_11 zf_X11_17 (k := 0) (by decide) (v := .ref (kB ad 0)) rfl ?_
    refine v_iload_n hG dX11_proof_14 rfl 1 rfl ?_
    refine v_callV (k1' := 0) (k2' := 0) hG dX11_proof_15 zc_X0_provedBy ⟨zl_X11_226, zi_X0_provedBy, zs_X0_provedBy⟩ (fun l => kc0_provedBy l D A ad K S Q qa tp s bo e uc lr nx 0 (by decide) e0 SL (by assumption) (by assumption) (by assumption) (by assumption) (by assumption) (by omega)) rfl (cR0 (by decide)) (fun _ h => h) ⟨by decide, by decide⟩ rfl rfl ⟨by decide, by decide⟩ (rest := []) rfl (Nat.le_of_ble_eq_true rfl) (fun u4 => [vI (q_proof s e0)]) (fun _ => rfl) (fun u4 hu4 => ?_)
    have fu4 : 0 ≤ q_proof s e0 ∧ q_proof s e0 < 256 := hu4
    refine v_goto (tgt := 23) hG dX11_proof_18 (by decide) ?_
    have e5 : @Eq Int (a_proof s e0) (q_proof s e0) := by first | rfl | (unfold a_proof; (repeat' split) <;> first | rfl | omega | (exfalso; omega) | (congr 1; omega))
    exact v_ireturn hG hR dX11_proof_23 () (congrArg (fun z => some (vI z)) e5) (by trivial) (fun _ hM => hM)
set_option maxHeartbeats 4000000 in
set_option maxRecDepth 100000 in
theorem kc11_proofs (l : Launch) (D : Dx) (A : Nat → Prop) (ad : Nat → Nat) (K : Int → Int) (S Q qa : Nat → Int → Int) (tp : Nat → Nat) (s bo e uc lr nx : Int → Int) (SL : List Int) (hN : NM s) (hM : GM s) (hP : PL s) (hCH : CHP Q qa s SL) (hZ : ZU s) : CT l D A yX11_proofs cX11_proofs 3 (some .int) { frames := 6, cells := 0, slots := 0, locals := 136 } [.ref (ad 0)] (CW D A ad K (uS S 0 s) Q qa tp bo e uc lr nx) (fun _ : Unit => some (vI (q_proofs s))) (fun _ => True) (fun _ => CW D A ad K (uS S 0 s) Q qa tp bo e uc lr nx) := by
  refine ct_of (lo0 := [(0, .ref (ad 0))]) (by decide) (Nat.le_of_ble_eq_true rfl) rfl ?_
  intro G hG hR
  have hN9 : 0 ≤ s 43 ∧ s 43 ≤ 8 := hN
  obtain ⟨hhc, hpls, hwe, hmd⟩ := id hCH
  have hwr := q_wear_rng hP
  refine v_aload_n hG dX11_proofs_0 rfl 0 rfl ?_
  refine cg11 hG dX11_proofs_1 zf_X11_17 (k := 0) (by decide) (v := .ref (kB ad 0)) rfl ?_
  refine v_callV (k1' := 0) (k2' := 0) hG dX11_proofs_4 zc_X0_flawed ⟨zl_X11_229, zi_X0_flawed, zs_X0_flawed⟩ (fun l => kc0_flawed l D A ad K S Q qa tp s bo e uc lr nx 0 (by decide) (by assumption) (by assumption) (by assumption)) rfl (cR0 (by decide)) (fun _ h => h) ⟨by decide, by decide⟩ rfl rfl ⟨by decide, by decide⟩ (rest := []) rfl (Nat.le_of_ble_eq_true rfl) (fun u1 => [vI (q_flawed s)]) (fun _ => rfl) (fun u1 hu1 => ?_)
  have fu1 : 0 ≤ q_flawed s ∧ q_flawed s < 256 := hu1
  refine v_istore_n (lo' := [(1, vI (q_flawed s)), (0, .ref (ad 0))]) hG dX11_proofs_7 rfl (by decide) rfl ?_
  refine v_iconst hG dX11_proofs_8 ?_
  refine v_istore_n (lo' := [(2, vI 0), (1, vI (q_flawed s)), (0, .ref (ad 0))]) hG dX11_proofs_9 rfl (by decide) rfl ?_
  refine v_lo [2, 1, 0] (lo' := [(0, .ref (ad 0)), (1, vI (q_flawed s)), (2, vI 0)]) rfl ?_
  have L3 : ∀ mz : Nat, ∀ (j : Nat), (j ≤ 10) → (leastM (fun e : Nat => decide (q_proof s e = q_flawed s)) j = -1) → 10 - j = mz → ∀ x2 : Int, x2 = ((j : Int)) → V G 0 0 (CW D A ad K (uS S 0 s) Q qa tp bo e uc lr nx) 10 [(0, .ref (ad 0)), (1, vI (q_flawed s)), (2, vI x2)] [] := by
    intro dL3
    induction dL3 using Nat.strongRecOn with
    | ind dL3 ihL3 =>
      intro j hq4 hq5 hq6
      intro x2 hx2
      subst hx2
      refine v_iload_n hG dX11_proofs_10 rfl 2 rfl ?_
      refine v_bipush hG dX11_proofs_11 (by decide) ?_
      refine v_icmp_gt (tgt := 36) hG dX11_proofs_13 (by decide) (by omega) (by omega) (fun c7 => ?_) (fun c7 => ?_)
      · skip
        refine v_bipush hG dX11_proofs_36 (by decide) ?_
        have e8 : @Eq Int (q_proofs s) (-5) := by exact pos_n (by assumption) (by omega)
        exact v_ireturn hG hR dX11_proofs_38 () (congrArg (fun z => some (vI z)) e8) (by trivial) (fun _ hM => hM)
      · skip
        refine v_aload_n hG dX11_proofs_16 rfl 0 rfl ?_
        refine cg11 hG dX11_proofs_17 zf_X11_17 (k := 0) (by decide) (v := .ref (kB ad 0)) rfl ?_
        refine v_iload_n hG dX11_proofs_20 rfl 2 rfl ?_
        refine v_callV (k1' := 0) (k2' := 0) hG dX11_proofs_21 zc_X0_provedBy ⟨zl_X11_226, zi_X0_provedBy, zs_X0_provedBy⟩ (fun l => kc0_provedBy l D A ad K S Q qa tp s bo e uc lr nx 0 (by decide) (j : Int) SL (by assumption) (by assumption) (by assumption) (by assumption) (by assumption) (by omega)) rfl (cR0 (by decide)) (fun _ h => h) ⟨by decide, by decide⟩ rfl rfl ⟨by decide, by decide⟩ (rest := []) rfl (Nat.le_of_ble_eq_true rfl) (fun u9 => [vI (q_proof s (j : Int))]) (fun _ => rfl) (fun u9 hu9 => ?_)
        have fu9 : 0 ≤ q_proof s (j : Int) ∧ q_proof s (j : Int) < 256 := hu9
        refine v_iload_n hG dX11_proofs_24 rfl 1 rfl ?_
        refine v_icmp_ne (tgt := 30) hG dX11_proofs_25 (by decide) (by omega) (by omega) (fun c10 => ?_) (fun c10 => ?_)
        · skip
          refine v_iinc (lo' := [(2, vI ((j : Int) + 1)), (0, .ref (ad 0)), (1, vI (q_flawed s))]) hG dX11_proofs_30 2 rfl (by decide) rfl ?_
          refine v_goto (tgt := 10) hG dX11_proofs_33 (by decide) ?_
          refine v_lo [1, 2, 0] (lo' := [(0, .ref (ad 0)), (1, vI (q_flawed s)), (2, vI ((j : Int) + 1))]) rfl ?_
          exact ihL3 _ (by omega) (j + 1) (by omega) (by exact proofs_stay (by assumption) (show ¬ q_proof s (j : Int) = q_flawed s from (by assumption)) rfl) rfl _ (by omega)
        · skip
          refine v_iload_n hG dX11_proofs_28 rfl 2 rfl ?_
          have e11 : @Eq Int (q_proofs s) ((j : Int)) := by exact proofs_hit (by assumption) (show q_proof s (j : Int) = q_flawed s from (by assumption)) rfl (by omega)
          exact v_ireturn hG hR dX11_proofs_29 () (congrArg (fun z => some (vI z)) e11) (by trivial) (fun _ hM => hM)
  exact L3 _ 0 (by omega) (by rfl) rfl _ (by first | omega | rfl | (simp []; done))
set_option maxHeartbeats 4000000 in
set_option maxRecDepth 100000 in
theorem kc11_rested (l : Launch) (D : Dx) (A : Nat → Prop) (ad : Nat → Nat) (K : Int → Int) (S Q qa : Nat → Int → Int) (tp : Nat → Nat) (s bo e uc lr nx : Int → Int) (SL : List Int) (hN : NM s) (hM : GM s) (hP : PL s) (hCH : CHP Q qa s SL) (hT : TI s) : CT l D A yX11_rested cX11_rested 5 (some .int) { frames := 5, cells := 0, slots := 0, locals := 124 } [.ref (ad 0)] (CW D A ad K (uS S 0 s) Q qa tp bo e uc lr nx) (fun _ : Unit => some (vI ((rsd s SL (s 43).toNat).2))) (fun _ => True) (fun _ => CW D A ad K (uS S 0 s) Q qa tp bo e uc lr nx) := by
  refine ct_of (lo0 := [(0, .ref (ad 0))]) (by decide) (Nat.le_of_ble_eq_true rfl) rfl ?_
  intro G hG hR
  have hN9 : 0 ≤ s 43 ∧ s 43 ≤ 8 := hN
  obtain ⟨hhc, hpls, hwe, hmd⟩ := id hCH
  have hwr := q_wear_rng hP
  have hT2 : 0 ≤ s 2 ∧ s 2 ≤ 99 := hT
  refine v_aload_n hG dX11_rested_0 rfl 0 rfl ?_
  refine cg11 hG dX11_rested_1 zf_X11_17 (k := 0) (by decide) (v := .ref (kB ad 0)) rfl ?_
  refine v_iconst hG dX11_rested_4 ?_
  refine v_callV (k1' := 0) (k2' := 0) hG dX11_rested_5 zc_X0_riskWithRest ⟨zl_X11_202, zi_X0_riskWithRest, zs_X0_riskWithRest⟩ (fun l => kc0_riskWithRest l D A ad K S Q qa tp s bo e uc lr nx 0 (by decide) (-1) SL (by omega) (by assumption) (by assumption) (by assumption) (by assumption) (by assumption)) rfl (cR0 (by decide)) (fun _ h => h) ⟨by decide, by decide⟩ rfl rfl ⟨by decide, by decide⟩ (rest := []) rfl (Nat.le_of_ble_eq_true rfl) (fun u1 => [vI (q_roa s SL (-1))]) (fun _ => rfl) (fun u1 hu1 => ?_)
  have fu1 : 0 ≤ q_roa s SL (-1) ∧ q_roa s SL (-1) ≤ 1000 := hu1
  refine v_istore_n (lo' := [(1, vI (q_roa s SL (-1))), (0, .ref (ad 0))]) hG dX11_rested_8 rfl (by decide) rfl ?_
  refine v_bipush hG dX11_rested_9 (by decide) ?_
  refine v_istore_n (lo' := [(2, vI (-5)), (1, vI (q_roa s SL (-1))), (0, .ref (ad 0))]) hG dX11_rested_11 rfl (by decide) rfl ?_
  refine v_iconst hG dX11_rested_12 ?_
  refine v_istore_n (lo' := [(3, vI 0), (2, vI (-5)), (1, vI (q_roa s SL (-1))), (0, .ref (ad 0))]) hG dX11_rested_13 rfl (by decide) rfl ?_
  refine v_lo [3, 2, 1, 0] (lo' := [(0, .ref (ad 0)), (1, vI (q_roa s SL (-1))), (2, vI (-5)), (3, vI 0)]) rfl ?_
  have L5 : ∀ mz : Nat, ∀ (k : Nat), ((k : Int) ≤ s 43) → (s 43 - (k : Int)).toNat = mz → ∀ x2 : Int, x2 = ((k : Int)) → ∀ x3 : Int, x3 = ((rsd s SL k).1) → ∀ x4 : Int, x4 = ((rsd s SL k).2) → V G 0 0 (CW D A ad K (uS S 0 s) Q qa tp bo e uc lr nx) 14 [(0, .ref (ad 0)), (1, vI x3), (2, vI x4), (3, vI x2)] [] := by
    intro dL5
    induction dL5 using Nat.strongRecOn with
    | ind dL5 ihL5 =>
      intro k hq6 hq7
      intro x2 hx2
      subst hx2
      intro x3 hx3
      subst hx3
      intro x4 hx4
      subst hx4
      have hrr := rsd_rng (SL := SL) hT hN k
      refine v_iload_n hG dX11_rested_14 rfl 3 rfl ?_
      refine v_aload_n hG dX11_rested_15 rfl 0 rfl ?_
      refine cg11 hG dX11_rested_16 zf_X11_17 (k := 0) (by decide) (v := .ref (kB ad 0)) rfl ?_
      refine cg0 (by decide) hG dX11_rested_19 zf_X11_90 (k := 3) (by decide) (v := vI (s 43)) rfl ?_
      refine v_icmp_ge (tgt := 67) hG dX11_rested_22 (by decide) (by omega) (by omega) (fun c8 => ?_) (fun c8 => ?_)
      · skip
        refine v_iload_n hG dX11_rested_67 rfl 2 rfl ?_
        have e9 : @Eq Int ((rsd s SL (s 43).toNat).2) ((rsd s SL k).2) := by rw [show k = (s 43).toNat by omega]
        exact v_ireturn hG hR dX11_rested_68 () (congrArg (fun z => some (vI z)) e9) (by trivial) (fun _ hM => hM)
      · skip
        refine v_aload_n hG dX11_rested_25 rfl 0 rfl ?_
        refine cg11 hG dX11_rested_26 zf_X11_17 (k := 0) (by decide) (v := .ref (kB ad 0)) rfl ?_
        refine cg0 (by decide) hG dX11_rested_29 zf_X11_91 (k := 6) (by decide) (v := .ref (kA ad 0)) rfl ?_
        refine v_iload_n hG dX11_rested_32 rfl 3 rfl ?_
        refine ca_M (x := (k : Int)) (by decide) (by omega) hG dX11_rested_33 ?_
        refine cgM (by decide) (by omega) (by omega) hG dX11_rested_34 zf_X11_117 (k := 5) (by decide) (v := vI (bi (s (11 + (k : Int)) = 1))) (congrArg (fun z => some (vI z)) ((bi01 (by first | assumption | exact (hM _ (by omega) (by omega)).2.2.2.2.1)))) ?_
        refine v_ifb_ne (p := s (11 + (k : Int)) = 1) (tgt := 61) hG dX11_rested_37 (by decide) (fun c10 => ?_) (fun c10 => ?_)
        · skip
          refine v_iinc (lo' := [(3, vI ((k : Int) + 1)), (0, .ref (ad 0)), (1, vI ((rsd s SL k).1)), (2, vI ((rsd s SL k).2))]) hG dX11_rested_61 3 rfl (by decide) rfl ?_
          refine v_goto (tgt := 14) hG dX11_rested_64 (by decide) ?_
          refine v_lo [1, 2, 3, 0] (lo' := [(0, .ref (ad 0)), (1, vI ((rsd s SL k).1)), (2, vI ((rsd s SL k).2)), (3, vI ((k : Int) + 1))]) rfl ?_
          exact ihL5 _ (by omega) (k + 1) (by omega) rfl _ (by first | omega | rfl | (simp [c8, c10]; done)) _ (by first | (rw [rsd_n (by rw [if_pos (by assumption)]; omega)]; done) | (rw [rsd_n (by rw [if_neg (by assumption)]; omega)]; done) | (rw [rsd_y (by rw [if_neg (by assumption)]; omega), if_neg (by assumption)]; done) | (rw [rsd_y (by rw [if_neg (by assumption)]; omega)]; done)) _ (by first | (rw [rsd_n (by rw [if_pos (by assumption)]; omega)]; done) | (rw [rsd_n (by rw [if_neg (by assumption)]; omega)]; done) | (rw [rsd_y (by rw [if_neg (by assumption)]; omega), if_neg (by assumption)]; done) | (rw [rsd_y (by rw [if_neg (by assumption)]; omega)]; done))
        · skip
          refine v_aload_n hG dX11_rested_40 rfl 0 rfl ?_
          refine cg11 hG dX11_rested_41 zf_X11_17 (k := 0) (by decide) (v := .ref (kB ad 0)) rfl ?_
          refine v_iload_n hG dX11_rested_44 rfl 3 rfl ?_
          refine v_callV (k1' := 0) (k2' := 0) hG dX11_rested_45 zc_X0_riskWithRest ⟨zl_X11_202, zi_X0_riskWithRest, zs_X0_riskWithRest⟩ (fun l => kc0_riskWithRest l D A ad K S Q qa tp s bo e uc lr nx 0 (by decide) (k : Int) SL (by omega) (by assumption) (by assumption) (by assumption) (by assumption) (by assumption)) rfl (cR0 (by decide)) (fun _ h => h) ⟨by decide, by decide⟩ rfl rfl ⟨by decide, by decide⟩ (rest := []) rfl (Nat.le_of_ble_eq_true rfl) (fun u11 => [vI (q_roa s SL (k : Int))]) (fun _ => rfl) (fun u11 hu11 => ?_)
          have fu11 : 0 ≤ q_roa s SL (k : Int) ∧ q_roa s SL (k : Int) ≤ 1000 := hu11
          refine v_istore (lo' := [(4, vI (q_roa s SL (k : Int))), (0, .ref (ad 0)), (1, vI ((rsd s SL k).1)), (2, vI ((rsd s SL k).2)), (3, vI (k : Int))]) hG dX11_rested_48 (by decide) rfl ?_
          refine v_iload hG dX11_rested_50 0 rfl ?_
          refine v_iload_n hG dX11_rested_52 rfl 2 rfl ?_
          refine v_icmp_ge (tgt := 61) hG dX11_rested_53 (by decide) (by omega) (by omega) (fun c12 => ?_) (fun c12 => ?_)
          · skip
            refine v_iinc (lo' := [(3, vI ((k : Int) + 1)), (4, vI (q_roa s SL (k : Int))), (0, .ref (ad 0)), (1, vI ((rsd s SL k).1)), (2, vI ((rsd s SL k).2))]) hG dX11_rested_61 4 rfl (by decide) rfl ?_
            refine v_goto (tgt := 14) hG dX11_rested_64 (by decide) ?_
            refine v_lo [2, 3, 4, 0] (lo' := [(0, .ref (ad 0)), (1, vI ((rsd s SL k).1)), (2, vI ((rsd s SL k).2)), (3, vI ((k : Int) + 1))]) rfl ?_
            exact ihL5 _ (by omega) (k + 1) (by omega) rfl _ (by first | omega | rfl | (simp [c8, c10, c12]; done)) _ (by first | (rw [rsd_n (by rw [if_pos (by assumption)]; omega)]; done) | (rw [rsd_n (by rw [if_neg (by assumption)]; omega)]; done) | (rw [rsd_y (by rw [if_neg (by assumption)]; omega), if_neg (by assumption)]; done) | (rw [rsd_y (by rw [if_neg (by assumption)]; omega)]; done)) _ (by first | (rw [rsd_n (by rw [if_pos (by assumption)]; omega)]; done) | (rw [rsd_n (by rw [if_neg (by assumption)]; omega)]; done) | (rw [rsd_y (by rw [if_neg (by assumption)]; omega), if_neg (by assumption)]; done) | (rw [rsd_y (by rw [if_neg (by assumption)]; omega)]; done))
          · skip
            refine v_iload hG dX11_rested_56 0 rfl ?_
            refine v_istore_n (lo' := [(1, vI (q_roa s SL (k : Int))), (4, vI (q_roa s SL (k : Int))), (0, .ref (ad 0)), (2, vI ((rsd s SL k).2)), (3, vI (k : Int))]) hG dX11_rested_58 rfl (by decide) rfl ?_
            refine v_iload_n hG dX11_rested_59 rfl 4 rfl ?_
            refine v_istore_n (lo' := [(2, vI (k : Int)), (1, vI (q_roa s SL (k : Int))), (4, vI (q_roa s SL (k : Int))), (0, .ref (ad 0)), (3, vI (k : Int))]) hG dX11_rested_60 rfl (by decide) rfl ?_
            refine v_iinc (lo' := [(3, vI ((k : Int) + 1)), (2, vI (k : Int)), (1, vI (q_roa s SL (k : Int))), (4, vI (q_roa s SL (k : Int))), (0, .ref (ad 0))]) hG dX11_rested_61 4 rfl (by decide) rfl ?_
            refine v_goto (tgt := 14) hG dX11_rested_64 (by decide) ?_
            refine v_lo [4, 2, 1, 0] (lo' := [(0, .ref (ad 0)), (1, vI (q_roa s SL (k : Int))), (2, vI (k : Int)), (3, vI ((k : Int) + 1))]) rfl ?_
            exact ihL5 _ (by omega) (k + 1) (by omega) rfl _ (by first | omega | rfl | (simp [c8, c10, c12]; done)) _ (by first | (rw [rsd_n (by rw [if_pos (by assumption)]; omega)]; done) | (rw [rsd_n (by rw [if_neg (by assumption)]; omega)]; done) | (rw [rsd_y (by rw [if_neg (by assumption)]; omega), if_neg (by assumption)]; done) | (rw [rsd_y (by rw [if_neg (by assumption)]; omega)]; done)) _ (by first | (rw [rsd_n (by rw [if_pos (by assumption)]; omega)]; done) | (rw [rsd_n (by rw [if_neg (by assumption)]; omega)]; done) | (rw [rsd_y (by rw [if_neg (by assumption)]; omega), if_neg (by assumption)]; done) | (rw [rsd_y (by rw [if_neg (by assumption)]; omega)]; done))
  exact L5 _ 0 (by omega) rfl _ (by first | omega | rfl | (simp []; done)) _ (by rfl) _ (by rfl)
set_option maxHeartbeats 4000000 in
set_option maxRecDepth 100000 in
theorem kc11_hand (l : Launch) (D : Dx) (A : Nat → Prop) (ad : Nat → Nat) (K : Int → Int) (S Q qa : Nat → Int → Int) (tp : Nat → Nat) (s bo e uc lr nx : Int → Int) (d : Int) (hrd : -2147483648 ≤ d ∧ d < 2147483648) (SL : List Int) (hN : NM s) (hM : GM s) (hP : PL s) (hCH : CHP Q qa s SL) (hT : TI s) : CT l D A yX11_hand cX11_hand 5 (some .int) { frames := 4, cells := 0, slots := 0, locals := 99 } [.ref (ad 0), vI d] (CW D A ad K (uS S 0 s) Q qa tp bo e uc lr nx) (fun _ : Unit => some (vI (a_hand s SL d))) (fun _ => True) (fun _ => CW D A ad K (uS S 0 s) Q qa tp bo e uc lr nx) := by
  refine ct_of (lo0 := [(0, .ref (ad 0)), (1, vI d)]) (by decide) (Nat.le_of_ble_eq_true rfl) rfl ?_
  intro G hG hR
  have hN9 : 0 ≤ s 43 ∧ s 43 ≤ 8 := hN
  obtain ⟨hhc, hpls, hwe, hmd⟩ := id hCH
  have hwr := q_wear_rng hP
  have hT2 : 0 ≤ s 2 ∧ s 2 ≤ 99 := hT
  refine v_iload_n hG dX11_hand_0 rfl 1 rfl ?_
  refine v_iconst hG dX11_hand_1 ?_
  refine v_bipush hG dX11_hand_2 (by decide) ?_
  refine v_callS (k1' := 0) (k2' := 0) hG dX11_hand_4 zc_X11_within ⟨zl_X11_50, zt_X11_within⟩ (fun l => kc11_within l D A (CW D A ad K (uS S 0 s) Q qa tp bo e uc lr nx) d 0 99 (by omega) (by omega) (by omega)) rfl (fun _ h => h) ⟨by decide, by decide⟩ rfl rfl ⟨by decide, by decide⟩ (rest := []) rfl (Nat.le_of_ble_eq_true rfl) (fun u1 => [vI (bi (0 ≤ d ∧ d ≤ 99))]) (fun _ => rfl) (fun u1 hu1 => ?_)
  refine v_ifb_ne (p := 0 ≤ d ∧ d ≤ 99) (tgt := 13) hG dX11_hand_7 (by decide) (fun c2 => ?_) (fun c2 => ?_)
  · skip
    refine v_iconst hG dX11_hand_13 ?_
    refine v_istore_n (lo' := [(2, vI 0), (0, .ref (ad 0)), (1, vI d)]) hG dX11_hand_14 rfl (by decide) rfl ?_
    refine v_iconst hG dX11_hand_15 ?_
    refine v_istore_n (lo' := [(3, vI 0), (2, vI 0), (0, .ref (ad 0)), (1, vI d)]) hG dX11_hand_16 rfl (by decide) rfl ?_
    refine v_lo [2, 3, 1, 0] (lo' := [(0, .ref (ad 0)), (1, vI d), (2, vI 0), (3, vI 0)]) rfl ?_
    have L5 : ∀ mz : Nat, ∀ (k : Nat), ((k : Int) ≤ s 43) → (s 43 - (k : Int)).toNat = mz → ∀ x3 : Int, x3 = ((k : Int)) → ∀ x4 : Int, x4 = (bset (hanF s SL d) k) → V G 0 0 (CW D A ad K (uS S 0 s) Q qa tp bo e uc lr nx) 17 [(0, .ref (ad 0)), (1, vI d), (2, vI x4), (3, vI x3)] [] := by
      intro dL5
      induction dL5 using Nat.strongRecOn with
      | ind dL5 ihL5 =>
        intro k hq6 hq7
        intro x3 hx3
        subst hx3
        intro x4 hx4
        subst hx4
        refine v_iload_n hG dX11_hand_17 rfl 3 rfl ?_
        refine v_aload_n hG dX11_hand_18 rfl 0 rfl ?_
        refine cg11 hG dX11_hand_19 zf_X11_17 (k := 0) (by decide) (v := .ref (kB ad 0)) rfl ?_
        refine cg0 (by decide) hG dX11_hand_22 zf_X11_90 (k := 3) (by decide) (v := vI (s 43)) rfl ?_
        refine v_icmp_ge (tgt := 82) hG dX11_hand_25 (by decide) (by omega) (by omega) (fun c8 => ?_) (fun c8 => ?_)
        · skip
          refine v_iload_n hG dX11_hand_82 rfl 2 rfl ?_
          have e9 : @Eq Int (a_hand s SL d) (bset (hanF s SL d) k) := by unfold a_hand; rw [if_pos (by assumption), show k = (s 43).toNat by omega]
          exact v_ireturn hG hR dX11_hand_83 () (congrArg (fun z => some (vI z)) e9) (by trivial) (fun _ hM => hM)
        · skip
          refine v_aload_n hG dX11_hand_28 rfl 0 rfl ?_
          refine cg11 hG dX11_hand_29 zf_X11_17 (k := 0) (by decide) (v := .ref (kB ad 0)) rfl ?_
          refine cg0 (by decide) hG dX11_hand_32 zf_X11_91 (k := 6) (by decide) (v := .ref (kA ad 0)) rfl ?_
          refine v_iload_n hG dX11_hand_35 rfl 3 rfl ?_
          refine ca_M (x := (k : Int)) (by decide) (by omega) hG dX11_hand_36 ?_
          refine v_astore (lo' := [(4, .ref (kM ad 0 (k : Int))), (0, .ref (ad 0)), (1, vI d), (2, vI (bset (hanF s SL d) k)), (3, vI (k : Int))]) hG dX11_hand_37 (by decide) rfl ?_
          have hm := hM (k : Int) (by omega) (by omega)
          refine v_aload hG dX11_hand_39 0 rfl ?_
          refine cgM (by decide) (by omega) (by omega) hG dX11_hand_41 zf_X11_117 (k := 5) (by decide) (v := vI (bi (s (11 + (k : Int)) = 1))) (congrArg (fun z => some (vI z)) ((bi01 (by first | assumption | exact (hM _ (by omega) (by omega)).2.2.2.2.1)))) ?_
          refine v_ifb_ne (p := s (11 + (k : Int)) = 1) (tgt := 76) hG dX11_hand_44 (by decide) (fun c10 => ?_) (fun c10 => ?_)
          · skip
            refine v_iinc (lo' := [(3, vI ((k : Int) + 1)), (4, .ref (kM ad 0 (k : Int))), (0, .ref (ad 0)), (1, vI d), (2, vI (bset (hanF s SL d) k))]) hG dX11_hand_76 4 rfl (by decide) rfl ?_
            refine v_goto (tgt := 17) hG dX11_hand_79 (by decide) ?_
            refine v_lo [2, 3, 4, 0] (lo' := [(0, .ref (ad 0)), (1, vI d), (2, vI (bset (hanF s SL d) k)), (3, vI ((k : Int) + 1))]) rfl ?_
            exact ihL5 _ (by omega) (k + 1) (by omega) rfl _ (by first | omega | rfl | (simp [c2, c8, c10]; done)) _ (by first | exact bset_step (by unfold hanF; rw [decide_eq_false (by assumption), decide_eq_false (by assumption)]; rfl) (by omega) | exact bset_same2 (by unfold hanF; rw [decide_eq_true (by assumption)]; rfl) | exact bset_same2 (by unfold hanF; rw [Bool.and_comm, decide_eq_true (by assumption)]; rfl))
          · skip
            refine v_iload_n hG dX11_hand_47 rfl 2 rfl ?_
            refine v_aload_n hG dX11_hand_48 rfl 1 rfl ?_
            refine cg11 hG dX11_hand_49 zf_X11_17 (k := 0) (by decide) (v := .ref (kB ad 0)) rfl ?_
            refine cg0 (by decide) hG dX11_hand_52 zf_X11_86 (k := 5) (by decide) (v := .ref (kP ad (hc s))) rfl ?_
            refine v_aload hG dX11_hand_55 0 rfl ?_
            refine v_aload_n hG dX11_hand_57 rfl 1 rfl ?_
            refine cg11 hG dX11_hand_58 zf_X11_17 (k := 0) (by decide) (v := .ref (kB ad 0)) rfl ?_
            refine cg0 (by decide) hG dX11_hand_61 zf_X11_130 (k := 2) (by decide) (v := vI (s 2)) rfl ?_
            refine v_callV (k1' := 0) (k2' := 0) hG dX11_hand_64 zc_X6_riskOf ⟨zl_X11_133, zi_X6_riskOf, zs_X6_riskOf⟩ (fun l => kc6_riskOf l D A ad K S Q qa tp s bo e uc lr nx 0 (by decide) (hc s) (k : Int) (s 2) SL (by first | assumption | omega) (by omega) (by first | assumption | omega) (by first | assumption | exact hM _ (by omega) (by omega)) (by omega) (by assumption)) rfl (cR6 (by assumption)) (fun _ h => h) ⟨by decide, by decide⟩ rfl rfl ⟨by decide, by decide⟩ (rest := [vI d]) rfl (Nat.le_of_ble_eq_true rfl) (fun u11 => [vI (q_risk s SL (k : Int) (s 2)), vI d]) (fun _ => rfl) (fun u11 hu11 => ?_)
            have fu11 : 0 ≤ q_risk s SL (k : Int) (s 2) ∧ q_risk s SL (k : Int) (s 2) ≤ 99 := hu11
            refine v_icmp_ge (tgt := 76) hG dX11_hand_67 (by decide) (by omega) (by omega) (fun c12 => ?_) (fun c12 => ?_)
            · skip
              refine v_iinc (lo' := [(3, vI ((k : Int) + 1)), (4, .ref (kM ad 0 (k : Int))), (0, .ref (ad 0)), (1, vI d), (2, vI (bset (hanF s SL d) k))]) hG dX11_hand_76 4 rfl (by decide) rfl ?_
              refine v_goto (tgt := 17) hG dX11_hand_79 (by decide) ?_
              refine v_lo [2, 3, 4, 0] (lo' := [(0, .ref (ad 0)), (1, vI d), (2, vI (bset (hanF s SL d) k)), (3, vI ((k : Int) + 1))]) rfl ?_
              exact ihL5 _ (by omega) (k + 1) (by omega) rfl _ (by first | omega | rfl | (simp [c2, c8, c10, c12]; done)) _ (by first | exact bset_step (by unfold hanF; rw [decide_eq_false (by assumption), decide_eq_false (by assumption)]; rfl) (by omega) | exact bset_same2 (by unfold hanF; rw [decide_eq_true (by assumption)]; rfl) | exact bset_same2 (by unfold hanF; rw [Bool.and_comm, decide_eq_true (by assumption)]; rfl))
            · skip
              refine v_iload_n hG dX11_hand_70 rfl 3 rfl ?_
              refine v_iconst hG dX11_hand_71 ?_
              refine v_iload_n hG dX11_hand_72 rfl 4 rfl ?_
              refine v_ishl hG dX11_hand_73 (by omega) ?_
              refine v_ior hG dX11_hand_74 ?_
              refine v_istore_n (lo' := [(2, vI (ior (bset (hanF s SL d) k) (1 * 2 ^ (k : Int).toNat))), (4, .ref (kM ad 0 (k : Int))), (0, .ref (ad 0)), (1, vI d), (3, vI (k : Int))]) hG dX11_hand_75 rfl (by decide) rfl ?_
              refine v_iinc (lo' := [(3, vI ((k : Int) + 1)), (2, vI (ior (bset (hanF s SL d) k) (1 * 2 ^ (k : Int).toNat))), (4, .ref (kM ad 0 (k : Int))), (0, .ref (ad 0)), (1, vI d)]) hG dX11_hand_76 4 rfl (by decide) rfl ?_
              refine v_goto (tgt := 17) hG dX11_hand_79 (by decide) ?_
              refine v_lo [3, 4, 1, 0] (lo' := [(0, .ref (ad 0)), (1, vI d), (2, vI (ior (bset (hanF s SL d) k) (1 * 2 ^ (k : Int).toNat))), (3, vI ((k : Int) + 1))]) rfl ?_
              exact ihL5 _ (by omega) (k + 1) (by omega) rfl _ (by first | omega | rfl | (simp [c2, c8, c10, c12]; done)) _ (by first | exact bset_step (by unfold hanF; rw [decide_eq_false (by assumption), decide_eq_false (by assumption)]; rfl) (by omega) | exact bset_same2 (by unfold hanF; rw [decide_eq_true (by assumption)]; rfl) | exact bset_same2 (by unfold hanF; rw [Bool.and_comm, decide_eq_true (by assumption)]; rfl))
    exact L5 _ 0 (by omega) rfl _ (by first | omega | rfl | (simp [c2]; done)) _ (by first | omega | rfl | (simp [c2]; done))
  · skip
    refine v_bipush hG dX11_hand_10 (by decide) ?_
    have e13 : @Eq Int (a_hand s SL d) (-2) := by first | rfl | (unfold a_hand; (repeat' split) <;> first | rfl | omega | (exfalso; omega) | (congr 1; omega))
    exact v_ireturn hG hR dX11_hand_12 () (congrArg (fun z => some (vI z)) e13) (by trivial) (fun _ hM => hM)
set_option maxHeartbeats 4000000 in
set_option maxRecDepth 100000 in
theorem kc11_errs (l : Launch) (D : Dx) (A : Nat → Prop) (ad : Nat → Nat) (K : Int → Int) (S Q qa : Nat → Int → Int) (tp : Nat → Nat) (s bo e uc lr nx : Int → Int) (hN : NM s) (hM : GM s) (hZ : ZU s) : CT l D A yX11_errs cX11_errs 5 (some .int) { frames := 1, cells := 0, slots := 0, locals := 23 } [.ref (ad 0)] (CW D A ad K (uS S 0 s) Q qa tp bo e uc lr nx) (fun _ : Unit => some (vI ((errB s 3).2))) (fun _ => True) (fun _ => CW D A ad K (uS S 0 s) Q qa tp bo e uc lr nx) := by
  refine ct_of (lo0 := [(0, .ref (ad 0))]) (by decide) (Nat.le_of_ble_eq_true rfl) rfl ?_
  intro G hG hR
  have hN9 : 0 ≤ s 43 ∧ s 43 ≤ 8 := hN
  refine v_iconst hG dX11_errs_0 ?_
  refine v_istore_n (lo' := [(1, vI 0), (0, .ref (ad 0))]) hG dX11_errs_1 rfl (by decide) rfl ?_
  refine v_iconst hG dX11_errs_2 ?_
  refine v_istore_n (lo' := [(2, vI 0), (1, vI 0), (0, .ref (ad 0))]) hG dX11_errs_3 rfl (by decide) rfl ?_
  refine v_iconst hG dX11_errs_4 ?_
  refine v_istore_n (lo' := [(3, vI 1), (2, vI 0), (1, vI 0), (0, .ref (ad 0))]) hG dX11_errs_5 rfl (by decide) rfl ?_
  refine v_lo [3, 2, 1, 0] (lo' := [(0, .ref (ad 0)), (1, vI 0), (2, vI 0), (3, vI 1)]) rfl ?_
  have L4 : ∀ mz : Nat, ∀ (j : Nat), (j ≤ 3) → 3 - j = mz → ∀ x1 : Int, x1 = ((j : Int) + 1) → ∀ x2 : Int, x2 = ((errB s j).1) → ∀ x3 : Int, x3 = ((errB s j).2) → V G 0 0 (CW D A ad K (uS S 0 s) Q qa tp bo e uc lr nx) 6 [(0, .ref (ad 0)), (1, vI x2), (2, vI x3), (3, vI x1)] [] := by
    intro dL4
    induction dL4 using Nat.strongRecOn with
    | ind dL4 ihL4 =>
      intro j hq5 hq6
      intro x1 hx1
      subst hx1
      intro x2 hx2
      subst hx2
      intro x3 hx3
      subst hx3
      have hbr := errB_rng hN j
      refine v_iload_n hG dX11_errs_6 rfl 3 rfl ?_
      refine v_iconst hG dX11_errs_7 ?_
      refine v_icmp_gt (tgt := 38) hG dX11_errs_8 (by decide) (by omega) (by omega) (fun c7 => ?_) (fun c7 => ?_)
      · skip
        refine v_iload_n hG dX11_errs_38 rfl 2 rfl ?_
        have e8 : @Eq Int ((errB s 3).2) ((errB s j).2) := by rw [show 3 = j by omega]
        exact v_ireturn hG hR dX11_errs_39 () (congrArg (fun z => some (vI z)) e8) (by trivial) (fun _ hM => hM)
      · skip
        refine v_aload_n hG dX11_errs_11 rfl 0 rfl ?_
        refine cg11 hG dX11_errs_12 zf_X11_17 (k := 0) (by decide) (v := .ref (kB ad 0)) rfl ?_
        refine v_iload_n hG dX11_errs_15 rfl 3 rfl ?_
        refine v_callV (k1' := 0) (k2' := 0) hG dX11_errs_16 zc_X0_countFlaw ⟨zl_X11_249, zi_X0_countFlaw, zs_X0_countFlaw⟩ (fun l => kc0_countFlaw l D A ad K S Q qa tp s bo e uc lr nx 0 (by decide) ((j : Int) + 1) (by assumption) (by assumption) (by assumption) (by omega)) rfl (cR0 (by decide)) (fun _ h => h) ⟨by decide, by decide⟩ rfl rfl ⟨by decide, by decide⟩ (rest := []) rfl (Nat.le_of_ble_eq_true rfl) (fun u9 => [vI (errC s ((j : Int) + 1))]) (fun _ => rfl) (fun u9 hu9 => ?_)
        have fu9 : 0 ≤ errC s ((j : Int) + 1) ∧ errC s ((j : Int) + 1) ≤ 8 := hu9
        refine v_istore (lo' := [(4, vI (errC s ((j : Int) + 1))), (0, .ref (ad 0)), (1, vI ((errB s j).1)), (2, vI ((errB s j).2)), (3, vI ((j : Int) + 1))]) hG dX11_errs_19 (by decide) rfl ?_
        refine v_iload hG dX11_errs_21 0 rfl ?_
        refine v_iload_n hG dX11_errs_23 rfl 2 rfl ?_
        refine v_icmp_le (tgt := 32) hG dX11_errs_24 (by decide) (by omega) (by omega) (fun c10 => ?_) (fun c10 => ?_)
        · skip
          refine v_iinc (lo' := [(3, vI (((j : Int) + 1) + 1)), (4, vI (errC s ((j : Int) + 1))), (0, .ref (ad 0)), (1, vI ((errB s j).1)), (2, vI ((errB s j).2))]) hG dX11_errs_32 4 rfl (by decide) rfl ?_
          refine v_goto (tgt := 6) hG dX11_errs_35 (by decide) ?_
          refine v_lo [2, 3, 4, 0] (lo' := [(0, .ref (ad 0)), (1, vI ((errB s j).1)), (2, vI ((errB s j).2)), (3, vI (((j : Int) + 1) + 1))]) rfl ?_
          exact ihL4 _ (by omega) (j + 1) (by omega) rfl _ (by omega) _ (by first | (rw [show errB s (j + 1) = errB s j from if_neg (by omega)]; done) | (rw [show errB s (j + 1) = (errC s ((j : Int) + 1), (j : Int) + 1) from if_pos (by omega)]; done)) _ (by first | (rw [show errB s (j + 1) = errB s j from if_neg (by omega)]; done) | (rw [show errB s (j + 1) = (errC s ((j : Int) + 1), (j : Int) + 1) from if_pos (by omega)]; done))
        · skip
          refine v_iload hG dX11_errs_27 0 rfl ?_
          refine v_istore_n (lo' := [(1, vI (errC s ((j : Int) + 1))), (4, vI (errC s ((j : Int) + 1))), (0, .ref (ad 0)), (2, vI ((errB s j).2)), (3, vI ((j : Int) + 1))]) hG dX11_errs_29 rfl (by decide) rfl ?_
          refine v_iload_n hG dX11_errs_30 rfl 4 rfl ?_
          refine v_istore_n (lo' := [(2, vI ((j : Int) + 1)), (1, vI (errC s ((j : Int) + 1))), (4, vI (errC s ((j : Int) + 1))), (0, .ref (ad 0)), (3, vI ((j : Int) + 1))]) hG dX11_errs_31 rfl (by decide) rfl ?_
          refine v_iinc (lo' := [(3, vI (((j : Int) + 1) + 1)), (2, vI ((j : Int) + 1)), (1, vI (errC s ((j : Int) + 1))), (4, vI (errC s ((j : Int) + 1))), (0, .ref (ad 0))]) hG dX11_errs_32 4 rfl (by decide) rfl ?_
          refine v_goto (tgt := 6) hG dX11_errs_35 (by decide) ?_
          refine v_lo [4, 2, 1, 0] (lo' := [(0, .ref (ad 0)), (1, vI (errC s ((j : Int) + 1))), (2, vI ((j : Int) + 1)), (3, vI (((j : Int) + 1) + 1))]) rfl ?_
          exact ihL4 _ (by omega) (j + 1) (by omega) rfl _ (by omega) _ (by first | (rw [show errB s (j + 1) = errB s j from if_neg (by omega)]; done) | (rw [show errB s (j + 1) = (errC s ((j : Int) + 1), (j : Int) + 1) from if_pos (by omega)]; done)) _ (by first | (rw [show errB s (j + 1) = errB s j from if_neg (by omega)]; done) | (rw [show errB s (j + 1) = (errC s ((j : Int) + 1), (j : Int) + 1) from if_pos (by omega)]; done))
  exact L4 _ 0 (by omega) rfl _ (by rfl) _ (by rfl) _ (by rfl)
set_option maxHeartbeats 4000000 in
set_option maxRecDepth 100000 in
theorem kc11_odds (l : Launch) (D : Dx) (A : Nat → Prop) (ad : Nat → Nat) (K : Int → Int) (S Q qa : Nat → Int → Int) (tp : Nat → Nat) (s bo e uc lr nx : Int → Int) (q : Int) (n : Int) (t : Int) (hrq : -2147483648 ≤ q ∧ q < 2147483648) (hrn : -2147483648 ≤ n ∧ n < 2147483648) (hrt : -2147483648 ≤ t ∧ t < 2147483648) (SL : List Int) (hN : NM s) (hM : GM s) (hP : PL s) (hCH : CHP Q qa s SL) : CT l D A yX11_odds cX11_odds 10 (some .long) { frames := 5, cells := 0, slots := 0, locals := 112 } [.ref (ad 0), vI q, vI n, vI t] (CW D A ad K (uS S 0 s) Q qa tp bo e uc lr nx) (fun _ : Unit => some (vL (a_odds s q n t))) (fun _ => True) (fun _ => CW D A ad K (uS S 0 s) Q qa tp bo e uc lr nx) := by
  refine ct_of (lo0 := [(0, .ref (ad 0)), (1, vI q), (2, vI n), (3, vI t)]) (by decide) (Nat.le_of_ble_eq_true rfl) rfl ?_
  intro G hG hR
  have hN9 : 0 ≤ s 43 ∧ s 43 ≤ 8 := hN
  obtain ⟨hhc, hpls, hwe, hmd⟩ := id hCH
  have hwr := q_wear_rng hP
  refine v_iload_n hG dX11_odds_0 rfl 1 rfl ?_
  refine v_iconst hG dX11_odds_1 ?_
  refine v_bipush hG dX11_odds_2 (by decide) ?_
  refine v_callS (k1' := 0) (k2' := 0) hG dX11_odds_4 zc_X11_within ⟨zl_X11_50, zt_X11_within⟩ (fun l => kc11_within l D A (CW D A ad K (uS S 0 s) Q qa tp bo e uc lr nx) q 0 30 (by omega) (by omega) (by omega)) rfl (fun _ h => h) ⟨by decide, by decide⟩ rfl rfl ⟨by decide, by decide⟩ (rest := []) rfl (Nat.le_of_ble_eq_true rfl) (fun u1 => [vI (bi (0 ≤ q ∧ q ≤ 30))]) (fun _ => rfl) (fun u1 hu1 => ?_)
  refine v_ifb_eq (p := 0 ≤ q ∧ q ≤ 30) (tgt := 21) hG dX11_odds_7 (by decide) (fun c2 => ?_) (fun c2 => ?_)
  · skip
    refine v_ldc2 (n := -9223372036854775808) hG dX11_odds_21 (ztb 797 (by decide +kernel) (by decide +kernel)) rfl ?_
    have e3 : @Eq Int (a_odds s q n t) (-9223372036854775808) := by first | rfl | (unfold a_odds; (repeat' split) <;> first | rfl | omega | (exfalso; omega) | (congr 1; omega))
    exact v_lreturn hG hR dX11_odds_24 () (congrArg (fun z => some (vL z)) e3) (by trivial) (fun _ hM => hM)
  · skip
    refine v_iload_n hG dX11_odds_10 rfl 2 rfl ?_
    refine v_iconst hG dX11_odds_11 ?_
    refine v_sipush hG dX11_odds_12 (by decide) ?_
    refine v_callS (k1' := 0) (k2' := 0) hG dX11_odds_15 zc_X11_within ⟨zl_X11_50, zt_X11_within⟩ (fun l => kc11_within l D A (CW D A ad K (uS S 0 s) Q qa tp bo e uc lr nx) n 0 999 (by omega) (by omega) (by omega)) rfl (fun _ h => h) ⟨by decide, by decide⟩ rfl rfl ⟨by decide, by decide⟩ (rest := []) rfl (Nat.le_of_ble_eq_true rfl) (fun u4 => [vI (bi (0 ≤ n ∧ n ≤ 999))]) (fun _ => rfl) (fun u4 hu4 => ?_)
    refine v_ifb_ne (p := 0 ≤ n ∧ n ≤ 999) (tgt := 25) hG dX11_odds_18 (by decide) (fun c5 => ?_) (fun c5 => ?_)
    · skip
      refine v_lconst0 hG dX11_odds_25 ?_
      refine v_lstore (lo' := [(4, vL 0), (0, .ref (ad 0)), (1, vI q), (2, vI n), (3, vI t)]) hG dX11_odds_26 (by decide) rfl ?_
      refine v_lconst0 hG dX11_odds_28 ?_
      refine v_lstore (lo' := [(6, vL 0), (4, vL 0), (0, .ref (ad 0)), (1, vI q), (2, vI n), (3, vI t)]) hG dX11_odds_29 (by decide) rfl ?_
      refine v_iconst hG dX11_odds_31 ?_
      refine v_istore (lo' := [(8, vI 0), (6, vL 0), (4, vL 0), (0, .ref (ad 0)), (1, vI q), (2, vI n), (3, vI t)]) hG dX11_odds_32 (by decide) rfl ?_
      refine v_lo [3, 4, 5, 6, 2, 1, 0] (lo' := [(0, .ref (ad 0)), (1, vI q), (2, vI n), (3, vI t), (4, vL 0), (6, vL 0), (8, vI 0)]) rfl ?_
      have L9 : ∀ mz : Nat, ∀ (k : Nat), ((k : Int) ≤ s 43) → (s 43 - (k : Int)).toNat = mz → ∀ x6 : Int, x6 = ((k : Int)) → ∀ x7 : Int, x7 = (cntB (cutF s) k) → ∀ x8 : Int, x8 = (cntB (oddF s q n) k) → V G 0 0 (CW D A ad K (uS S 0 s) Q qa tp bo e uc lr nx) 34 [(0, .ref (ad 0)), (1, vI q), (2, vI n), (3, vI t), (4, vL x7), (6, vL x8), (8, vI x6)] [] := by
        intro dL9
        induction dL9 using Nat.strongRecOn with
        | ind dL9 ihL9 =>
          intro k hq10 hq11
          intro x6 hx6
          subst hx6
          intro x7 hx7
          subst hx7
          intro x8 hx8
          subst hx8
          have hc1 := cntB_rng (cutF s) k
          have hc2 := cntB_rng (oddF s q n) k
          refine v_iload hG dX11_odds_34 6 rfl ?_
          refine v_aload_n hG dX11_odds_36 rfl 0 rfl ?_
          refine cg11 hG dX11_odds_37 zf_X11_17 (k := 0) (by decide) (v := .ref (kB ad 0)) rfl ?_
          refine cg0 (by decide) hG dX11_odds_40 zf_X11_90 (k := 3) (by decide) (v := vI (s 43)) rfl ?_
          refine v_icmp_ge (tgt := 98) hG dX11_odds_43 (by decide) (by omega) (by omega) (fun c12 => ?_) (fun c12 => ?_)
          · skip
            refine v_lload hG dX11_odds_98 5 rfl ?_
            refine v_lload hG dX11_odds_100 4 rfl ?_
            refine v_iload_n hG dX11_odds_102 rfl 3 rfl ?_
            refine v_callS (k1' := 0) (k2' := 0) hG dX11_odds_103 zc_X11_fraction ⟨zl_X11_215, zt_X11_fraction⟩ (fun l => kc11_fraction l D A (CW D A ad K (uS S 0 s) Q qa tp bo e uc lr nx) (cntB (oddF s q n) k) (cntB (cutF s) k) t (by omega) (by omega) (by omega)) rfl (fun _ h => h) ⟨by decide, by decide⟩ rfl rfl ⟨by decide, by decide⟩ (rest := []) rfl (Nat.le_of_ble_eq_true rfl) (fun u13 => [vL (if 0 ≤ t ∧ t ≤ 1 then (if (cntB (cutF s) k) = 0 then -9223372036854775808 else q_low (cntB (oddF s q n) k) (cntB (cutF s) k) t) else -9223372036854775808)]) (fun _ => rfl) (fun u13 hu13 => ?_)
            have e14 : @Eq Int (a_odds s q n t) (if 0 ≤ t ∧ t ≤ 1 then (if (cntB (cutF s) k) = 0 then -9223372036854775808 else q_low (cntB (oddF s q n) k) (cntB (cutF s) k) t) else -9223372036854775808) := by unfold a_odds; rw [cut_all hN, show k = (s 43).toNat by omega]; (repeat' split) <;> first | rfl | omega | (exfalso; omega)
            exact v_lreturn hG hR dX11_odds_106 () (congrArg (fun z => some (vL z)) e14) (by trivial) (fun _ hM => hM)
          · skip
            refine v_aload_n hG dX11_odds_46 rfl 0 rfl ?_
            refine cg11 hG dX11_odds_47 zf_X11_17 (k := 0) (by decide) (v := .ref (kB ad 0)) rfl ?_
            refine cg0 (by decide) hG dX11_odds_50 zf_X11_91 (k := 6) (by decide) (v := .ref (kA ad 0)) rfl ?_
            refine v_iload hG dX11_odds_53 6 rfl ?_
            refine ca_M (x := (k : Int)) (by decide) (by omega) hG dX11_odds_55 ?_
            have hm := hM (k : Int) (by omega) (by omega)
            refine v_astore (lo' := [(9, .ref (kM ad 0 (k : Int))), (0, .ref (ad 0)), (1, vI q), (2, vI n), (3, vI t), (4, vL (cntB (cutF s) k)), (6, vL (cntB (oddF s q n) k)), (8, vI (k : Int))]) hG dX11_odds_56 (by decide) rfl ?_
            refine v_aload hG dX11_odds_58 0 rfl ?_
            refine cgM (by decide) (by omega) (by omega) hG dX11_odds_60 zf_X11_117 (k := 5) (by decide) (v := vI (bi (s (11 + (k : Int)) = 1))) (congrArg (fun z => some (vI z)) ((bi01 (by first | assumption | exact (hM _ (by omega) (by omega)).2.2.2.2.1)))) ?_
            refine v_ifb_eq (p := s (11 + (k : Int)) = 1) (tgt := 92) hG dX11_odds_63 (by decide) (fun c15 => ?_) (fun c15 => ?_)
            · skip
              refine v_iinc (lo' := [(8, vI ((k : Int) + 1)), (9, .ref (kM ad 0 (k : Int))), (0, .ref (ad 0)), (1, vI q), (2, vI n), (3, vI t), (4, vL (cntB (cutF s) k)), (6, vL (cntB (oddF s q n) k))]) hG dX11_odds_92 7 rfl (by decide) rfl ?_
              refine v_goto (tgt := 34) hG dX11_odds_95 (by decide) ?_
              refine v_lo [2, 3, 4, 5, 6, 7, 0] (lo' := [(0, .ref (ad 0)), (1, vI q), (2, vI n), (3, vI t), (4, vL (cntB (cutF s) k)), (6, vL (cntB (oddF s q n) k)), (8, vI ((k : Int) + 1))]) rfl ?_
              exact ihL9 _ (by omega) (k + 1) (by omega) rfl _ (by first | omega | rfl | (simp [c2, c5, c12, c15]; done)) _ (by first | exact cnt_t (decide_eq_true (by assumption)) | (have hq := cnt_f (f := cutF s) (k := k) (decide_eq_false (by assumption)); omega)) _ (by first | exact cnt_t (by unfold oddF; rw [decide_eq_true (by assumption), decide_eq_false (by assumption)]; rfl) | (have hq := cnt_f (f := oddF s q n) (k := k) (by unfold oddF; rw [decide_eq_false (by assumption)]; rfl); omega) | (have hq := cnt_f (f := oddF s q n) (k := k) (by unfold oddF; rw [Bool.and_comm, decide_eq_true (by assumption)]; rfl); omega))
            · skip
              refine v_lload hG dX11_odds_66 5 rfl ?_
              refine v_lconst1 hG dX11_odds_68 ?_
              refine v_ladd hG dX11_odds_69 ?_
              refine v_lstore (lo' := [(4, vL ((cntB (cutF s) k) + 1)), (9, .ref (kM ad 0 (k : Int))), (0, .ref (ad 0)), (1, vI q), (2, vI n), (3, vI t), (6, vL (cntB (oddF s q n) k)), (8, vI (k : Int))]) hG dX11_odds_70 (by decide) rfl ?_
              refine v_aload_n hG dX11_odds_72 rfl 2 rfl ?_
              refine cg11 hG dX11_odds_73 zf_X11_17 (k := 0) (by decide) (v := .ref (kB ad 0)) rfl ?_
              refine v_aload hG dX11_odds_76 1 rfl ?_
              refine v_iload_n hG dX11_odds_78 rfl 4 rfl ?_
              refine v_callV (k1' := 0) (k2' := 0) hG dX11_odds_79 zc_X0_darkBehind ⟨zl_X11_140, zi_X0_darkBehind, zs_X0_darkBehind⟩ (fun l => kc0_darkBehind l D A ad K S Q qa tp s bo e uc lr nx 0 (by decide) (k : Int) n SL (by omega) (by first | assumption | omega) (by first | assumption | exact hM _ (by omega) (by omega)) (by assumption) (by assumption) (by omega)) rfl (cR0 (by decide)) (fun _ h => h) ⟨by decide, by decide⟩ rfl rfl ⟨by decide, by decide⟩ (rest := []) rfl (Nat.le_of_ble_eq_true rfl) (fun u16 => [vI (q_dk s (k : Int) n)]) (fun _ => rfl) (fun u16 hu16 => ?_)
              have fu16 : 0 ≤ q_dk s (k : Int) n ∧ q_dk s (k : Int) n ≤ 30 := hu16
              refine v_iload_n hG dX11_odds_82 rfl 3 rfl ?_
              refine v_icmp_lt (tgt := 92) hG dX11_odds_83 (by decide) (by omega) (by omega) (fun c17 => ?_) (fun c17 => ?_)
              · skip
                refine v_iinc (lo' := [(8, vI ((k : Int) + 1)), (4, vL ((cntB (cutF s) k) + 1)), (9, .ref (kM ad 0 (k : Int))), (0, .ref (ad 0)), (1, vI q), (2, vI n), (3, vI t), (6, vL (cntB (oddF s q n) k))]) hG dX11_odds_92 7 rfl (by decide) rfl ?_
                refine v_goto (tgt := 34) hG dX11_odds_95 (by decide) ?_
                refine v_lo [3, 4, 5, 6, 1, 7, 0] (lo' := [(0, .ref (ad 0)), (1, vI q), (2, vI n), (3, vI t), (4, vL ((cntB (cutF s) k) + 1)), (6, vL (cntB (oddF s q n) k)), (8, vI ((k : Int) + 1))]) rfl ?_
                exact ihL9 _ (by omega) (k + 1) (by omega) rfl _ (by first | omega | rfl | (simp [c2, c5, c12, c15, c17]; done)) _ (by first | exact cnt_t (decide_eq_true (by assumption)) | (have hq := cnt_f (f := cutF s) (k := k) (decide_eq_false (by assumption)); omega)) _ (by first | exact cnt_t (by unfold oddF; rw [decide_eq_true (by assumption), decide_eq_false (by assumption)]; rfl) | (have hq := cnt_f (f := oddF s q n) (k := k) (by unfold oddF; rw [decide_eq_false (by assumption)]; rfl); omega) | (have hq := cnt_f (f := oddF s q n) (k := k) (by unfold oddF; rw [Bool.and_comm, decide_eq_true (by assumption)]; rfl); omega))
              · skip
                refine v_lload hG dX11_odds_86 6 rfl ?_
                refine v_lconst1 hG dX11_odds_88 ?_
                refine v_ladd hG dX11_odds_89 ?_
                refine v_lstore (lo' := [(6, vL ((cntB (oddF s q n) k) + 1)), (4, vL ((cntB (cutF s) k) + 1)), (9, .ref (kM ad 0 (k : Int))), (0, .ref (ad 0)), (1, vI q), (2, vI n), (3, vI t), (8, vI (k : Int))]) hG dX11_odds_90 (by decide) rfl ?_
                refine v_iinc (lo' := [(8, vI ((k : Int) + 1)), (6, vL ((cntB (oddF s q n) k) + 1)), (4, vL ((cntB (cutF s) k) + 1)), (9, .ref (kM ad 0 (k : Int))), (0, .ref (ad 0)), (1, vI q), (2, vI n), (3, vI t)]) hG dX11_odds_92 7 rfl (by decide) rfl ?_
                refine v_goto (tgt := 34) hG dX11_odds_95 (by decide) ?_
                refine v_lo [4, 5, 6, 7, 2, 1, 0] (lo' := [(0, .ref (ad 0)), (1, vI q), (2, vI n), (3, vI t), (4, vL ((cntB (cutF s) k) + 1)), (6, vL ((cntB (oddF s q n) k) + 1)), (8, vI ((k : Int) + 1))]) rfl ?_
                exact ihL9 _ (by omega) (k + 1) (by omega) rfl _ (by first | omega | rfl | (simp [c2, c5, c12, c15, c17]; done)) _ (by first | exact cnt_t (decide_eq_true (by assumption)) | (have hq := cnt_f (f := cutF s) (k := k) (decide_eq_false (by assumption)); omega)) _ (by first | exact cnt_t (by unfold oddF; rw [decide_eq_true (by assumption), decide_eq_false (by assumption)]; rfl) | (have hq := cnt_f (f := oddF s q n) (k := k) (by unfold oddF; rw [decide_eq_false (by assumption)]; rfl); omega) | (have hq := cnt_f (f := oddF s q n) (k := k) (by unfold oddF; rw [Bool.and_comm, decide_eq_true (by assumption)]; rfl); omega))
      exact L9 _ 0 (by omega) rfl _ (by first | omega | rfl | (simp [c2, c5]; done)) _ (by rfl) _ (by rfl)
    · skip
      refine v_ldc2 (n := -9223372036854775808) hG dX11_odds_21 (ztb 797 (by decide +kernel) (by decide +kernel)) rfl ?_
      have e18 : @Eq Int (a_odds s q n t) (-9223372036854775808) := by first | rfl | (unfold a_odds; (repeat' split) <;> first | rfl | omega | (exfalso; omega) | (congr 1; omega))
      exact v_lreturn hG hR dX11_odds_24 () (congrArg (fun z => some (vL z)) e18) (by trivial) (fun _ hM => hM)
set_option maxHeartbeats 4000000 in
set_option maxRecDepth 100000 in
theorem kc11_mean (l : Launch) (D : Dx) (A : Nat → Prop) (ad : Nat → Nat) (K : Int → Int) (S Q qa : Nat → Int → Int) (tp : Nat → Nat) (s bo e uc lr nx : Int → Int) (n : Int) (t : Int) (hrn : -2147483648 ≤ n ∧ n < 2147483648) (hrt : -2147483648 ≤ t ∧ t < 2147483648) (SL : List Int) (hN : NM s) (hM : GM s) (hP : PL s) (hCH : CHP Q qa s SL) : CT l D A yX11_mean cX11_mean 9 (some .long) { frames := 5, cells := 0, slots := 0, locals := 112 } [.ref (ad 0), vI n, vI t] (CW D A ad K (uS S 0 s) Q qa tp bo e uc lr nx) (fun _ : Unit => some (vL (a_mean s n t))) (fun _ => True) (fun _ => CW D A ad K (uS S 0 s) Q qa tp bo e uc lr nx) := by
  refine ct_of (lo0 := [(0, .ref (ad 0)), (1, vI n), (2, vI t)]) (by decide) (Nat.le_of_ble_eq_true rfl) rfl ?_
  intro G hG hR
  have hN9 : 0 ≤ s 43 ∧ s 43 ≤ 8 := hN
  obtain ⟨hhc, hpls, hwe, hmd⟩ := id hCH
  have hwr := q_wear_rng hP
  refine v_iload_n hG dX11_mean_0 rfl 1 rfl ?_
  refine v_iconst hG dX11_mean_1 ?_
  refine v_sipush hG dX11_mean_2 (by decide) ?_
  refine v_callS (k1' := 0) (k2' := 0) hG dX11_mean_5 zc_X11_within ⟨zl_X11_50, zt_X11_within⟩ (fun l => kc11_within l D A (CW D A ad K (uS S 0 s) Q qa tp bo e uc lr nx) n 0 999 (by omega) (by omega) (by omega)) rfl (fun _ h => h) ⟨by decide, by decide⟩ rfl rfl ⟨by decide, by decide⟩ (rest := []) rfl (Nat.le_of_ble_eq_true rfl) (fun u1 => [vI (bi (0 ≤ n ∧ n ≤ 999))]) (fun _ => rfl) (fun u1 hu1 => ?_)
  refine v_ifb_ne (p := 0 ≤ n ∧ n ≤ 999) (tgt := 15) hG dX11_mean_8 (by decide) (fun c2 => ?_) (fun c2 => ?_)
  · skip
    refine v_lconst0 hG dX11_mean_15 ?_
    refine v_lstore_n (lo' := [(3, vL 0), (0, .ref (ad 0)), (1, vI n), (2, vI t)]) hG dX11_mean_16 rfl (by decide) rfl ?_
    refine v_lconst0 hG dX11_mean_17 ?_
    refine v_lstore (lo' := [(5, vL 0), (3, vL 0), (0, .ref (ad 0)), (1, vI n), (2, vI t)]) hG dX11_mean_18 (by decide) rfl ?_
    refine v_iconst hG dX11_mean_20 ?_
    refine v_istore (lo' := [(7, vI 0), (5, vL 0), (3, vL 0), (0, .ref (ad 0)), (1, vI n), (2, vI t)]) hG dX11_mean_21 (by decide) rfl ?_
    refine v_lo [3, 4, 5, 2, 1, 0] (lo' := [(0, .ref (ad 0)), (1, vI n), (2, vI t), (3, vL 0), (5, vL 0), (7, vI 0)]) rfl ?_
    have L6 : ∀ mz : Nat, ∀ (k : Nat), ((k : Int) ≤ s 43) → (s 43 - (k : Int)).toNat = mz → ∀ x3 : Int, x3 = ((k : Int)) → ∀ x4 : Int, x4 = (cntB (cutF s) k) → ∀ x5 : Int, x5 = (sumF (fun m => q_dk s m n) k) → V G 0 0 (CW D A ad K (uS S 0 s) Q qa tp bo e uc lr nx) 23 [(0, .ref (ad 0)), (1, vI n), (2, vI t), (3, vL x4), (5, vL x5), (7, vI x3)] [] := by
      intro dL6
      induction dL6 using Nat.strongRecOn with
      | ind dL6 ihL6 =>
        intro k hq7 hq8
        intro x3 hx3
        subst hx3
        intro x4 hx4
        subst hx4
        intro x5 hx5
        subst hx5
        have hc1 := cntB_rng (cutF s) k
        have hc2 := sumF_rng (f := fun m => q_dk s m n) (b := 30) k (fun j hj => q_dk_rng (hM j (by omega) (by omega)) hP (by omega))
        refine v_iload hG dX11_mean_23 5 rfl ?_
        refine v_aload_n hG dX11_mean_25 rfl 0 rfl ?_
        refine cg11 hG dX11_mean_26 zf_X11_17 (k := 0) (by decide) (v := .ref (kB ad 0)) rfl ?_
        refine cg0 (by decide) hG dX11_mean_29 zf_X11_90 (k := 3) (by decide) (v := vI (s 43)) rfl ?_
        refine v_icmp_ge (tgt := 81) hG dX11_mean_32 (by decide) (by omega) (by omega) (fun c9 => ?_) (fun c9 => ?_)
        · skip
          refine v_lload hG dX11_mean_81 4 rfl ?_
          refine v_lload_n hG dX11_mean_83 rfl 3 rfl ?_
          refine v_iload_n hG dX11_mean_84 rfl 2 rfl ?_
          refine v_callS (k1' := 0) (k2' := 0) hG dX11_mean_85 zc_X11_fraction ⟨zl_X11_215, zt_X11_fraction⟩ (fun l => kc11_fraction l D A (CW D A ad K (uS S 0 s) Q qa tp bo e uc lr nx) (sumF (fun m => q_dk s m n) k) (cntB (cutF s) k) t (by omega) (by omega) (by omega)) rfl (fun _ h => h) ⟨by decide, by decide⟩ rfl rfl ⟨by decide, by decide⟩ (rest := []) rfl (Nat.le_of_ble_eq_true rfl) (fun u10 => [vL (if 0 ≤ t ∧ t ≤ 1 then (if (cntB (cutF s) k) = 0 then -9223372036854775808 else q_low (sumF (fun m => q_dk s m n) k) (cntB (cutF s) k) t) else -9223372036854775808)]) (fun _ => rfl) (fun u10 hu10 => ?_)
          have e11 : @Eq Int (a_mean s n t) (if 0 ≤ t ∧ t ≤ 1 then (if (cntB (cutF s) k) = 0 then -9223372036854775808 else q_low (sumF (fun m => q_dk s m n) k) (cntB (cutF s) k) t) else -9223372036854775808) := by unfold a_mean; rw [cut_all hN, show k = (s 43).toNat by omega]; (repeat' split) <;> first | rfl | omega | (exfalso; omega)
          exact v_lreturn hG hR dX11_mean_88 () (congrArg (fun z => some (vL z)) e11) (by trivial) (fun _ hM => hM)
        · skip
          refine v_aload_n hG dX11_mean_35 rfl 0 rfl ?_
          refine cg11 hG dX11_mean_36 zf_X11_17 (k := 0) (by decide) (v := .ref (kB ad 0)) rfl ?_
          refine cg0 (by decide) hG dX11_mean_39 zf_X11_91 (k := 6) (by decide) (v := .ref (kA ad 0)) rfl ?_
          refine v_iload hG dX11_mean_42 5 rfl ?_
          refine ca_M (x := (k : Int)) (by decide) (by omega) hG dX11_mean_44 ?_
          have hm := hM (k : Int) (by omega) (by omega)
          refine v_astore (lo' := [(8, .ref (kM ad 0 (k : Int))), (0, .ref (ad 0)), (1, vI n), (2, vI t), (3, vL (cntB (cutF s) k)), (5, vL (sumF (fun m => q_dk s m n) k)), (7, vI (k : Int))]) hG dX11_mean_45 (by decide) rfl ?_
          refine v_aload hG dX11_mean_47 0 rfl ?_
          refine cgM (by decide) (by omega) (by omega) hG dX11_mean_49 zf_X11_117 (k := 5) (by decide) (v := vI (bi (s (11 + (k : Int)) = 1))) (congrArg (fun z => some (vI z)) ((bi01 (by first | assumption | exact (hM _ (by omega) (by omega)).2.2.2.2.1)))) ?_
          refine v_ifb_eq (p := s (11 + (k : Int)) = 1) (tgt := 75) hG dX11_mean_52 (by decide) (fun c12 => ?_) (fun c12 => ?_)
          · skip
            refine v_iinc (lo' := [(7, vI ((k : Int) + 1)), (8, .ref (kM ad 0 (k : Int))), (0, .ref (ad 0)), (1, vI n), (2, vI t), (3, vL (cntB (cutF s) k)), (5, vL (sumF (fun m => q_dk s m n) k))]) hG dX11_mean_75 6 rfl (by decide) rfl ?_
            refine v_goto (tgt := 23) hG dX11_mean_78 (by decide) ?_
            refine v_lo [2, 3, 4, 5, 6, 0] (lo' := [(0, .ref (ad 0)), (1, vI n), (2, vI t), (3, vL (cntB (cutF s) k)), (5, vL (sumF (fun m => q_dk s m n) k)), (7, vI ((k : Int) + 1))]) rfl ?_
            exact ihL6 _ (by omega) (k + 1) (by omega) rfl _ (by first | omega | rfl | (simp [c2, c9, c12]; done)) _ (by first | exact cnt_t (decide_eq_true (by assumption)) | (have hq := cnt_f (f := cutF s) (k := k) (decide_eq_false (by assumption)); omega)) _ (by first | rfl | (show sumF (fun m => q_dk s m n) k = sumF (fun m => q_dk s m n) k + q_dk s (k : Int) n; rw [dk_unc (by assumption)]; omega))
          · skip
            refine v_lload_n hG dX11_mean_55 rfl 4 rfl ?_
            refine v_lconst1 hG dX11_mean_56 ?_
            refine v_ladd hG dX11_mean_57 ?_
            refine v_lstore_n (lo' := [(3, vL ((cntB (cutF s) k) + 1)), (8, .ref (kM ad 0 (k : Int))), (0, .ref (ad 0)), (1, vI n), (2, vI t), (5, vL (sumF (fun m => q_dk s m n) k)), (7, vI (k : Int))]) hG dX11_mean_58 rfl (by decide) rfl ?_
            refine v_lload hG dX11_mean_59 5 rfl ?_
            refine v_aload_n hG dX11_mean_61 rfl 2 rfl ?_
            refine cg11 hG dX11_mean_62 zf_X11_17 (k := 0) (by decide) (v := .ref (kB ad 0)) rfl ?_
            refine v_aload hG dX11_mean_65 1 rfl ?_
            refine v_iload_n hG dX11_mean_67 rfl 3 rfl ?_
            refine v_callV (k1' := 0) (k2' := 0) hG dX11_mean_68 zc_X0_darkBehind ⟨zl_X11_140, zi_X0_darkBehind, zs_X0_darkBehind⟩ (fun l => kc0_darkBehind l D A ad K S Q qa tp s bo e uc lr nx 0 (by decide) (k : Int) n SL (by omega) (by first | assumption | omega) (by first | assumption | exact hM _ (by omega) (by omega)) (by assumption) (by assumption) (by omega)) rfl (cR0 (by decide)) (fun _ h => h) ⟨by decide, by decide⟩ rfl rfl ⟨by decide, by decide⟩ (rest := [vL (sumF (fun m => q_dk s m n) k)]) rfl (Nat.le_of_ble_eq_true rfl) (fun u13 => [vI (q_dk s (k : Int) n), vL (sumF (fun m => q_dk s m n) k)]) (fun _ => rfl) (fun u13 hu13 => ?_)
            have fu13 : 0 ≤ q_dk s (k : Int) n ∧ q_dk s (k : Int) n ≤ 30 := hu13
            refine v_i2l hG dX11_mean_71 (by omega) ?_
            refine v_ladd hG dX11_mean_72 ?_
            refine v_lstore (lo' := [(5, vL ((sumF (fun m => q_dk s m n) k) + (q_dk s (k : Int) n))), (3, vL ((cntB (cutF s) k) + 1)), (8, .ref (kM ad 0 (k : Int))), (0, .ref (ad 0)), (1, vI n), (2, vI t), (7, vI (k : Int))]) hG dX11_mean_73 (by decide) rfl ?_
            refine v_iinc (lo' := [(7, vI ((k : Int) + 1)), (5, vL ((sumF (fun m => q_dk s m n) k) + (q_dk s (k : Int) n))), (3, vL ((cntB (cutF s) k) + 1)), (8, .ref (kM ad 0 (k : Int))), (0, .ref (ad 0)), (1, vI n), (2, vI t)]) hG dX11_mean_75 6 rfl (by decide) rfl ?_
            refine v_goto (tgt := 23) hG dX11_mean_78 (by decide) ?_
            refine v_lo [4, 5, 6, 2, 1, 0] (lo' := [(0, .ref (ad 0)), (1, vI n), (2, vI t), (3, vL ((cntB (cutF s) k) + 1)), (5, vL ((sumF (fun m => q_dk s m n) k) + (q_dk s (k : Int) n))), (7, vI ((k : Int) + 1))]) rfl ?_
            exact ihL6 _ (by omega) (k + 1) (by omega) rfl _ (by first | omega | rfl | (simp [c2, c9, c12]; done)) _ (by first | exact cnt_t (decide_eq_true (by assumption)) | (have hq := cnt_f (f := cutF s) (k := k) (decide_eq_false (by assumption)); omega)) _ (by first | rfl | (show sumF (fun m => q_dk s m n) k = sumF (fun m => q_dk s m n) k + q_dk s (k : Int) n; rw [dk_unc (by assumption)]; omega))
    exact L6 _ 0 (by omega) rfl _ (by first | omega | rfl | (simp [c2]; done)) _ (by rfl) _ (by rfl)
  · skip
    refine v_ldc2 (n := -9223372036854775808) hG dX11_mean_11 (ztb 797 (by decide +kernel) (by decide +kernel)) rfl ?_
    have e14 : @Eq Int (a_mean s n t) (-9223372036854775808) := by first | rfl | (unfold a_mean; (repeat' split) <;> first | rfl | omega | (exfalso; omega) | (congr 1; omega))
    exact v_lreturn hG hR dX11_mean_14 () (congrArg (fun z => some (vL z)) e14) (by trivial) (fun _ hM => hM)
set_option maxHeartbeats 4000000 in
set_option maxRecDepth 100000 in
theorem kc11_act (l : Launch) (D : Dx) (A : Nat → Prop) (ad : Nat → Nat) (K : Int → Int) (S Q qa : Nat → Int → Int) (tp : Nat → Nat) (s bo e uc lr nx : Int → Int) (m : Int) (a : Int) (x : Int) (hrm : -2147483648 ≤ m ∧ m < 2147483648) (hra : -2147483648 ≤ a ∧ a < 2147483648) (hrx : -2147483648 ≤ x ∧ x < 2147483648) (hN : NM s) (hM : GM s) : CT l D A yX11_act cX11_act 5 (some .int) { frames := 7, cells := 0, slots := 0, locals := 154 } [.ref (ad 0), vI m, vI a, vI x] (CW D A ad K (uS S 0 s) Q qa tp bo e uc lr nx) (fun _ : Unit => some (vI (a_act s m a x))) (fun _ => True) (fun _ => CW D A ad K (uS S 0 s) Q qa tp (rbo bo 0 (l_act s m a)) (sU e 0 ((l_act s m a).length : Int)) uc lr nx) := by
  refine ct_of (lo0 := [(0, .ref (ad 0)), (1, vI m), (2, vI a), (3, vI x)]) (by decide) (Nat.le_of_ble_eq_true rfl) rfl ?_
  intro G hG hR
  have hN9 : 0 ≤ s 43 ∧ s 43 ≤ 8 := hN
  refine v_aload_n hG dX11_act_0 rfl 0 rfl ?_
  refine cg11 hG dX11_act_1 zf_X11_36 (k := 4) (by decide) (v := .ref (ad 2)) rfl ?_
  refine v_iconst hG dX11_act_4 ?_
  refine cp9_ran hG dX11_act_5 zf_X11_266 ?_
  refine v_aload_n hG dX11_act_8 rfl 0 rfl ?_
  refine cg11 hG dX11_act_9 zf_X11_17 (k := 0) (by decide) (v := .ref (kB ad 0)) rfl ?_
  refine v_iload_n hG dX11_act_12 rfl 1 rfl ?_
  by_cases c1 : 0 ≤ m ∧ m ≤ s 43 - 1
  · skip
    refine v_callV (k1' := 0) (k2' := 0) hG dX11_act_13 zc_X0_markAt ⟨zl_X11_99, zi_X0_markAt, zs_X0_markAt⟩ (fun l => kc0_markAt_in l D A ad K S Q qa tp s bo (sU e 0 0) uc lr nx 0 (by decide) m (by assumption) (by first | exact c1 | (simp only [sU_at]; omega) | omega)) rfl (cR0 (by decide)) (fun _ h => h) ⟨by decide, by decide⟩ rfl rfl ⟨by decide, by decide⟩ (rest := []) rfl (Nat.le_of_ble_eq_true rfl) (fun u2 => [.ref (kM ad 0 m)]) (fun _ => rfl) (fun u2 hu2 => ?_)
    refine v_astore (lo' := [(4, .ref (kM ad 0 m)), (0, .ref (ad 0)), (1, vI m), (2, vI a), (3, vI x)]) hG dX11_act_16 (by decide) rfl ?_
    refine v_aload hG dX11_act_18 0 rfl ?_
    refine v_ifnonnull (tgt := 25) hG dX11_act_20 (by decide) ?_
    have hm := hM m (by omega) (by omega)
    refine v_iload_n hG dX11_act_25 rfl 3 rfl ?_
    by_cases c3 : a = 0
    · refine v_tabIn (tgt := 52) hG dX11_act_26 0 c3 (by decide) (by decide) (by decide) rfl (by decide) ?_
      refine v_aload hG dX11_act_52 0 rfl ?_
      refine v_iload_n hG dX11_act_54 rfl 4 rfl ?_
      refine v_aload_n hG dX11_act_55 rfl 1 rfl ?_
      refine cg11 hG dX11_act_56 zf_X11_36 (k := 4) (by decide) (v := .ref (ad 2)) rfl ?_
      refine cv_cuts (by decide) (by omega) (by omega) (by first | assumption | exact hM _ (by omega) (by omega)) (by rw [sU_eq]; omega) hG dX11_act_59 zl_X11_269 ⟨by decide, by decide⟩ (Nat.le_of_ble_eq_true rfl) ?_
      have e4 : rbo bo ((sU e 0 0) 0) (cutL (s (50 + m))) = rbo bo 0 (l_act s m a) := by unfold l_act actL; (repeat' split) <;> first | rfl | (exfalso; omega) | (unfold eL; rw [sU_eq]; funext z; unfold sU; (repeat' split) <;> simp) | (rw [sU_eq]; rfl)
      have e5 : eL (sU e 0 0) (cutL (s (50 + m))) = sU e 0 ((l_act s m a).length : Int) := by unfold l_act actL; (repeat' split) <;> first | rfl | (exfalso; omega) | (unfold eL; rw [sU_eq]; funext z; unfold sU; (repeat' split) <;> simp) | (rw [sU_eq]; rfl)
      have e6 : @Eq Int (a_act s m a x) (cutV (s (50 + m)) m x) := by unfold a_act actV; (repeat' split) <;> first | rfl | (exfalso; omega)
      exact v_ireturn hG hR dX11_act_62 () (congrArg (fun z => some (vI z)) e6) (by trivial) (fun _ hM => by rw [← e4]; rw [← e5]; exact hM)
    by_cases c7 : a = 1
    · refine v_tabIn (tgt := 63) hG dX11_act_26 1 c7 (by decide) (by decide) (by decide) rfl (by decide) ?_
      refine v_aload hG dX11_act_63 0 rfl ?_
      refine v_iload_n hG dX11_act_65 rfl 4 rfl ?_
      refine v_aload_n hG dX11_act_66 rfl 1 rfl ?_
      refine cg11 hG dX11_act_67 zf_X11_36 (k := 4) (by decide) (v := .ref (ad 2)) rfl ?_
      refine cv_prints (by decide) (by omega) (by omega) (by first | assumption | exact hM _ (by omega) (by omega)) (by rw [sU_eq]; omega) hG dX11_act_70 zl_X11_273 ⟨by decide, by decide⟩ (Nat.le_of_ble_eq_true rfl) ?_
      have e8 : rbo bo ((sU e 0 0) 0) (prtL (s (50 + m))) = rbo bo 0 (l_act s m a) := by unfold l_act actL; (repeat' split) <;> first | rfl | (exfalso; omega) | (unfold eL; rw [sU_eq]; funext z; unfold sU; (repeat' split) <;> simp) | (rw [sU_eq]; rfl)
      have e9 : eL (sU e 0 0) (prtL (s (50 + m))) = sU e 0 ((l_act s m a).length : Int) := by unfold l_act actL; (repeat' split) <;> first | rfl | (exfalso; omega) | (unfold eL; rw [sU_eq]; funext z; unfold sU; (repeat' split) <;> simp) | (rw [sU_eq]; rfl)
      have e10 : @Eq Int (a_act s m a x) (prtV (s (50 + m)) m (s (58 + m)) x) := by unfold a_act actV; (repeat' split) <;> first | rfl | (exfalso; omega)
      exact v_ireturn hG hR dX11_act_73 () (congrArg (fun z => some (vI z)) e10) (by trivial) (fun _ hM => by rw [← e8]; rw [← e9]; exact hM)
    by_cases c11 : a = 2
    · refine v_tabIn (tgt := 74) hG dX11_act_26 2 c11 (by decide) (by decide) (by decide) rfl (by decide) ?_
      refine v_aload hG dX11_act_74 0 rfl ?_
      refine v_iload_n hG dX11_act_76 rfl 4 rfl ?_
      refine v_aload_n hG dX11_act_77 rfl 1 rfl ?_
      refine cg11 hG dX11_act_78 zf_X11_36 (k := 4) (by decide) (v := .ref (ad 2)) rfl ?_
      refine cv_tells (by decide) (by omega) (by omega) (by first | assumption | exact hM _ (by omega) (by omega)) (by rw [sU_eq]; omega) hG dX11_act_81 zl_X11_276 ⟨by decide, by decide⟩ (Nat.le_of_ble_eq_true rfl) ?_
      have e12 : rbo bo ((sU e 0 0) 0) (telL (s (50 + m))) = rbo bo 0 (l_act s m a) := by unfold l_act actL; (repeat' split) <;> first | rfl | (exfalso; omega) | (unfold eL; rw [sU_eq]; funext z; unfold sU; (repeat' split) <;> simp) | (rw [sU_eq]; rfl)
      have e13 : eL (sU e 0 0) (telL (s (50 + m))) = sU e 0 ((l_act s m a).length : Int) := by unfold l_act actL; (repeat' split) <;> first | rfl | (exfalso; omega) | (unfold eL; rw [sU_eq]; funext z; unfold sU; (repeat' split) <;> simp) | (rw [sU_eq]; rfl)
      have e14 : @Eq Int (a_act s m a x) (telV (s (50 + m)) m (s (58 + m)) x) := by unfold a_act actV; (repeat' split) <;> first | rfl | (exfalso; omega)
      exact v_ireturn hG hR dX11_act_84 () (congrArg (fun z => some (vI z)) e14) (by trivial) (fun _ hM => by rw [← e12]; rw [← e13]; exact hM)
    refine v_tabOut (tgt := 85) hG dX11_act_26 (by omega) (by omega) (by decide) ?_
    refine v_iconst hG dX11_act_85 ?_
    have e16 : bo = rbo bo 0 (l_act s m a) := by unfold l_act actL; (repeat' split) <;> first | rfl | (exfalso; omega) | (unfold eL; rw [sU_eq]; funext z; unfold sU; (repeat' split) <;> simp) | (rw [sU_eq]; rfl)
    have e17 : sU e 0 0 = sU e 0 ((l_act s m a).length : Int) := by unfold l_act actL; (repeat' split) <;> first | rfl | (exfalso; omega) | (unfold eL; rw [sU_eq]; funext z; unfold sU; (repeat' split) <;> simp) | (rw [sU_eq]; rfl)
    have e18 : @Eq Int (a_act s m a x) (0) := by unfold a_act actV; (repeat' split) <;> first | rfl | (exfalso; omega)
    exact v_ireturn hG hR dX11_act_86 () (congrArg (fun z => some (vI z)) e18) (by trivial) (fun _ hM => by rw [← e16]; rw [← e17]; exact hM)
  · skip
    refine v_callV (k1' := 0) (k2' := 0) hG dX11_act_13 zc_X0_markAt ⟨zl_X11_99, zi_X0_markAt, zs_X0_markAt⟩ (fun l => kc0_markAt_out l D A ad K S Q qa tp s bo (sU e 0 0) uc lr nx 0 (by decide) m (by assumption) (by omega) (by first | exact c1 | (simp only [sU_at]; omega) | omega)) rfl (cR0 (by decide)) (fun _ h => h) ⟨by decide, by decide⟩ rfl rfl ⟨by decide, by decide⟩ (rest := []) rfl (Nat.le_of_ble_eq_true rfl) (fun u19 => [.null]) (fun _ => rfl) (fun u19 hu19 => ?_)
    refine v_astoreN (lo' := [(4, .null), (0, .ref (ad 0)), (1, vI m), (2, vI a), (3, vI x)]) hG dX11_act_16 (by decide) rfl ?_
    refine v_aloadN hG dX11_act_18 0 rfl ?_
    refine v_ifnonnullN hG dX11_act_20 ?_
    refine v_iconst hG dX11_act_23 ?_
    have e20 : bo = rbo bo 0 (l_act s m a) := by unfold l_act actL; (repeat' split) <;> first | rfl | (exfalso; omega) | (unfold eL; rw [sU_eq]; funext z; unfold sU; (repeat' split) <;> simp) | (rw [sU_eq]; rfl)
    have e21 : sU e 0 0 = sU e 0 ((l_act s m a).length : Int) := by unfold l_act actL; (repeat' split) <;> first | rfl | (exfalso; omega) | (unfold eL; rw [sU_eq]; funext z; unfold sU; (repeat' split) <;> simp) | (rw [sU_eq]; rfl)
    have e22 : @Eq Int (a_act s m a x) (0) := by unfold a_act actV; (repeat' split) <;> first | rfl | (exfalso; omega)
    exact v_ireturn hG hR dX11_act_24 () (congrArg (fun z => some (vI z)) e22) (by trivial) (fun _ hM => by rw [← e20]; rw [← e21]; exact hM)
set_option maxHeartbeats 4000000 in
set_option maxRecDepth 100000 in
theorem kc11_trace (l : Launch) (D : Dx) (A : Nat → Prop) (ad : Nat → Nat) (K : Int → Int) (S Q qa : Nat → Int → Int) (tp : Nat → Nat) (s bo e uc lr nx : Int → Int) (i : Int) (hri : -2147483648 ≤ i ∧ i < 2147483648) (he : 0 ≤ e 0 ∧ e 0 ≤ 1000000) : CT l D A yX11_trace cX11_trace 2 (some .int) { frames := 1, cells := 0, slots := 0, locals := 22 } [.ref (ad 0), vI i] (CW D A ad K (uS S 0 s) Q qa tp bo e uc lr nx) (fun _ : Unit => some (vI (if 0 ≤ i ∧ i ≤ (if 20 ≤ e 0 then 20 else e 0) - 1 then bo i else -1))) (fun _ => True) (fun _ => CW D A ad K (uS S 0 s) Q qa tp bo e uc lr nx) := by
  refine ct_of (lo0 := [(0, .ref (ad 0)), (1, vI i)]) (by decide) (Nat.le_of_ble_eq_true rfl) rfl ?_
  intro G hG hR
  refine v_iload_n hG dX11_trace_0 rfl 1 rfl ?_
  refine v_iconst hG dX11_trace_1 ?_
  refine v_aload_n hG dX11_trace_2 rfl 0 rfl ?_
  refine cg11 hG dX11_trace_3 zf_X11_36 (k := 4) (by decide) (v := .ref (ad 2)) rfl ?_
  refine cg9 hG dX11_trace_6 zf_X11_266 (k := 1) (by decide) (v := vI (e 0)) rfl ?_
  refine v_aload_n hG dX11_trace_9 rfl 0 rfl ?_
  refine cg11 hG dX11_trace_10 zf_X11_36 (k := 4) (by decide) (v := .ref (ad 2)) rfl ?_
  refine cg9 hG dX11_trace_13 zf_X11_279 (k := 0) (by decide) (v := .ref (ad 3)) rfl ?_
  refine cl_bo hG dX11_trace_16 ?_
  refine v_mmin hG dX11_trace_17 zl_X11_205 (by decide) ⟨Nat.le_refl _, Nat.le_refl _⟩ (Nat.le_of_ble_eq_true rfl) (by omega) (by omega) ?_
  generalize hv1 : (if 20 < (e 0) then 20 else (e 0)) = v1
  have bv1 : (v1 = e 0 ∨ v1 = 20) ∧ v1 ≤ e 0 ∧ v1 ≤ 20 := by rw [← hv1]; (repeat' split) <;> omega
  refine v_iconst hG dX11_trace_20 ?_
  refine v_isub hG dX11_trace_21 ?_
  refine v_callS (k1' := 0) (k2' := 0) hG dX11_trace_22 zc_X11_within ⟨zl_X11_50, zt_X11_within⟩ (fun l => kc11_within l D A (CW D A ad K (uS S 0 s) Q qa tp bo e uc lr nx) i 0 (v1 - 1) (by omega) (by omega) (by omega)) rfl (fun _ h => h) ⟨by decide, by decide⟩ rfl rfl ⟨by decide, by decide⟩ (rest := []) rfl (Nat.le_of_ble_eq_true rfl) (fun u2 => [vI (bi (0 ≤ i ∧ i ≤ (v1 - 1)))]) (fun _ => rfl) (fun u2 hu2 => ?_)
  have J4 : ∀ z3 : Int, z3 = (if 0 ≤ i ∧ i ≤ (v1 - 1) then bo i else -1) → V G 0 0 (CW D A ad K (uS S 0 s) Q qa tp bo e uc lr nx) 41 [(0, .ref (ad 0)), (1, vI i)] [vI z3] := by
    intro z3 hz3
    have e5 : @Eq Int (if 0 ≤ i ∧ i ≤ (if 20 ≤ e 0 then 20 else e 0) - 1 then bo i else -1) (z3) := by subst hz3; (repeat' split) <;> first | rfl | omega | (exfalso; omega)
    exact v_ireturn hG hR dX11_trace_41 () (congrArg (fun z => some (vI z)) e5) (by trivial) (fun _ hM => hM)
  refine v_ifb_eq (p := 0 ≤ i ∧ i ≤ (v1 - 1)) (tgt := 40) hG dX11_trace_25 (by decide) (fun c6 => ?_) (fun c6 => ?_)
  · skip
    refine v_iconst hG dX11_trace_40 ?_
    exact J4 _ (by first | rfl | (simp only [if_neg c6]; done) | (simp [bi, ← hv1, c6]; done))
  · skip
    refine v_aload_n hG dX11_trace_28 rfl 0 rfl ?_
    refine cg11 hG dX11_trace_29 zf_X11_36 (k := 4) (by decide) (v := .ref (ad 2)) rfl ?_
    refine cg9 hG dX11_trace_32 zf_X11_279 (k := 0) (by decide) (v := .ref (ad 3)) rfl ?_
    refine v_iload_n hG dX11_trace_35 rfl 1 rfl ?_
    refine ca_bo hG dX11_trace_36 (by omega) rfl ?_
    refine v_goto (tgt := 41) hG dX11_trace_37 (by decide) ?_
    exact J4 _ (by first | rfl | (simp only [if_pos c6]; done) | (simp [bi, ← hv1, c6]; done))
set_option maxHeartbeats 4000000 in
set_option maxRecDepth 100000 in
theorem kc11_count (l : Launch) (D : Dx) (A : Nat → Prop) (ad : Nat → Nat) (K : Int → Int) (S Q qa : Nat → Int → Int) (tp : Nat → Nat) (s bo e uc lr nx : Int → Int) (w : Int) (hrw : -2147483648 ≤ w ∧ w < 2147483648) : CT l D A yX11_count cX11_count 2 (some .int) { frames := 0, cells := 0, slots := 0, locals := 0 } [.ref (ad 0), vI w] (CW D A ad K (uS S 0 s) Q qa tp bo e uc lr nx) (fun _ : Unit => some (vI (if w = 6 then e 0 else if 0 ≤ w ∧ w ≤ 5 then s (43 + w) else -1))) (fun _ => True) (fun _ => CW D A ad K (uS S 0 s) Q qa tp bo e uc lr nx) := by
  refine ct_of (lo0 := [(0, .ref (ad 0)), (1, vI w)]) (by decide) (Nat.le_of_ble_eq_true rfl) rfl ?_
  intro G hG hR
  refine v_iload_n hG dX11_count_0 rfl 1 rfl ?_
  by_cases c1 : w = 0
  · refine v_tabIn (tgt := 44) hG dX11_count_1 0 c1 (by decide) (by decide) (by decide) rfl (by decide) ?_
    refine v_aload_n hG dX11_count_44 rfl 0 rfl ?_
    refine cg11 hG dX11_count_45 zf_X11_17 (k := 0) (by decide) (v := .ref (kB ad 0)) rfl ?_
    refine cg0 (by decide) hG dX11_count_48 zf_X11_90 (k := 3) (by decide) (v := vI (s 43)) rfl ?_
    have e2 : @Eq Int (if w = 6 then e 0 else if 0 ≤ w ∧ w ≤ 5 then s (43 + w) else -1) (s 43) := by (repeat' split) <;> first | rfl | omega | (exfalso; omega) | (congr 1; omega)
    exact v_ireturn hG hR dX11_count_51 () (congrArg (fun z => some (vI z)) e2) (by trivial) (fun _ hM => hM)
  by_cases c3 : w = 1
  · refine v_tabIn (tgt := 52) hG dX11_count_1 1 c3 (by decide) (by decide) (by decide) rfl (by decide) ?_
    refine v_aload_n hG dX11_count_52 rfl 0 rfl ?_
    refine cg11 hG dX11_count_53 zf_X11_17 (k := 0) (by decide) (v := .ref (kB ad 0)) rfl ?_
    refine cg0 (by decide) hG dX11_count_56 zf_X11_68 (k := 4) (by decide) (v := vI (s 44)) rfl ?_
    have e4 : @Eq Int (if w = 6 then e 0 else if 0 ≤ w ∧ w ≤ 5 then s (43 + w) else -1) (s 44) := by (repeat' split) <;> first | rfl | omega | (exfalso; omega) | (congr 1; omega)
    exact v_ireturn hG hR dX11_count_59 () (congrArg (fun z => some (vI z)) e4) (by trivial) (fun _ hM => hM)
  by_cases c5 : w = 2
  · refine v_tabIn (tgt := 60) hG dX11_count_1 2 c5 (by decide) (by decide) (by decide) rfl (by decide) ?_
    refine v_aload_n hG dX11_count_60 rfl 0 rfl ?_
    refine cg11 hG dX11_count_61 zf_X11_17 (k := 0) (by decide) (v := .ref (kB ad 0)) rfl ?_
    refine cg0 (by decide) hG dX11_count_64 zf_X11_242 (k := 8) (by decide) (v := .ref (kT ad 0 1)) rfl ?_
    refine cg7 (by decide) (t := 1) (by decide) hG dX11_count_67 zf_X11_75 (k := 2) (by decide) (v := vI (s 45)) rfl ?_
    have e6 : @Eq Int (if w = 6 then e 0 else if 0 ≤ w ∧ w ≤ 5 then s (43 + w) else -1) (s 45) := by (repeat' split) <;> first | rfl | omega | (exfalso; omega) | (congr 1; omega)
    exact v_ireturn hG hR dX11_count_70 () (congrArg (fun z => some (vI z)) e6) (by trivial) (fun _ hM => hM)
  by_cases c7 : w = 3
  · refine v_tabIn (tgt := 71) hG dX11_count_1 3 c7 (by decide) (by decide) (by decide) rfl (by decide) ?_
    refine v_aload_n hG dX11_count_71 rfl 0 rfl ?_
    refine cg11 hG dX11_count_72 zf_X11_17 (k := 0) (by decide) (v := .ref (kB ad 0)) rfl ?_
    refine cg0 (by decide) hG dX11_count_75 zf_X11_254 (k := 9) (by decide) (v := .ref (kT ad 0 2)) rfl ?_
    refine cg7 (by decide) (t := 2) (by decide) hG dX11_count_78 zf_X11_75 (k := 2) (by decide) (v := vI (s 46)) rfl ?_
    have e8 : @Eq Int (if w = 6 then e 0 else if 0 ≤ w ∧ w ≤ 5 then s (43 + w) else -1) (s 46) := by (repeat' split) <;> first | rfl | omega | (exfalso; omega) | (congr 1; omega)
    exact v_ireturn hG hR dX11_count_81 () (congrArg (fun z => some (vI z)) e8) (by trivial) (fun _ hM => hM)
  by_cases c9 : w = 4
  · refine v_tabIn (tgt := 82) hG dX11_count_1 4 c9 (by decide) (by decide) (by decide) rfl (by decide) ?_
    refine v_aload_n hG dX11_count_82 rfl 0 rfl ?_
    refine cg11 hG dX11_count_83 zf_X11_17 (k := 0) (by decide) (v := .ref (kB ad 0)) rfl ?_
    refine cg0 (by decide) hG dX11_count_86 zf_X11_263 (k := 10) (by decide) (v := .ref (kT ad 0 3)) rfl ?_
    refine cg7 (by decide) (t := 3) (by decide) hG dX11_count_89 zf_X11_75 (k := 2) (by decide) (v := vI (s 47)) rfl ?_
    have e10 : @Eq Int (if w = 6 then e 0 else if 0 ≤ w ∧ w ≤ 5 then s (43 + w) else -1) (s 47) := by (repeat' split) <;> first | rfl | omega | (exfalso; omega) | (congr 1; omega)
    exact v_ireturn hG hR dX11_count_92 () (congrArg (fun z => some (vI z)) e10) (by trivial) (fun _ hM => hM)
  by_cases c11 : w = 5
  · refine v_tabIn (tgt := 93) hG dX11_count_1 5 c11 (by decide) (by decide) (by decide) rfl (by decide) ?_
    refine v_aload_n hG dX11_count_93 rfl 0 rfl ?_
    refine cg11 hG dX11_count_94 zf_X11_17 (k := 0) (by decide) (v := .ref (kB ad 0)) rfl ?_
    refine cg0 (by decide) hG dX11_count_97 zf_X11_54 (k := 7) (by decide) (v := .ref (kT ad 0 0)) rfl ?_
    refine cg7 (by decide) (t := 0) (by decide) hG dX11_count_100 zf_X11_75 (k := 2) (by decide) (v := vI (s 48)) rfl ?_
    have e12 : @Eq Int (if w = 6 then e 0 else if 0 ≤ w ∧ w ≤ 5 then s (43 + w) else -1) (s 48) := by (repeat' split) <;> first | rfl | omega | (exfalso; omega) | (congr 1; omega)
    exact v_ireturn hG hR dX11_count_103 () (congrArg (fun z => some (vI z)) e12) (by trivial) (fun _ hM => hM)
  by_cases c13 : w = 6
  · refine v_tabIn (tgt := 104) hG dX11_count_1 6 c13 (by decide) (by decide) (by decide) rfl (by decide) ?_
    refine v_aload_n hG dX11_count_104 rfl 0 rfl ?_
    refine cg11 hG dX11_count_105 zf_X11_36 (k := 4) (by decide) (v := .ref (ad 2)) rfl ?_
    refine cg9 hG dX11_count_108 zf_X11_266 (k := 1) (by decide) (v := vI (e 0)) rfl ?_
    have e14 : @Eq Int (if w = 6 then e 0 else if 0 ≤ w ∧ w ≤ 5 then s (43 + w) else -1) (e 0) := by (repeat' split) <;> first | rfl | omega | (exfalso; omega) | (congr 1; omega)
    exact v_ireturn hG hR dX11_count_111 () (congrArg (fun z => some (vI z)) e14) (by trivial) (fun _ hM => hM)
  refine v_tabOut (tgt := 112) hG dX11_count_1 (by omega) (by omega) (by decide) ?_
  refine v_iconst hG dX11_count_112 ?_
  have e16 : @Eq Int (if w = 6 then e 0 else if 0 ≤ w ∧ w ≤ 5 then s (43 + w) else -1) (-1) := by (repeat' split) <;> first | rfl | omega | (exfalso; omega) | (congr 1; omega)
  exact v_ireturn hG hR dX11_count_113 () (congrArg (fun z => some (vI z)) e16) (by trivial) (fun _ hM => hM)
