/-! THE JDK: more walks -/
section VJ2
variable {D : Dx} {A : Nat → Prop} {G : Gx} {cc : ByteArray} {nL : Nat} {own : String} {rm : Room} {k1 k2 pc : Nat} {P P' : Heap → Prop} {lo : List (Nat × Value)} {st : List Value}
def iushr (x y : Int) : Int := ((ii x).toUInt32 >>> ((ii y).toUInt32 &&& Int32.toUInt32 31)).toInt32.toInt
theorem v_iushr {x y : Int} (hG : Ok D A G cc nL own rm) (hd : decode cc pc = .ok (.iushr, 1)) (kk : V G k1 k2 P (pc + 1) lo (vI (iushr x y) :: st)) : V G k1 k2 P pc lo (vI y :: vI x :: st) := by
  obtain ⟨p, l, e, R, s, m, args, below, meth, c, A', Q⟩ := G
  obtain ⟨hrm, hx, hb, hml, hown, hts, hA, hK⟩ := hG
  intro H locs ls hP hS hl
  refine lv_iushr hx hb hd rfl ?_
  have := kk H locs ls hP hS hl
  have e : ii (iushr x y) = ((ii x).toUInt32 >>> ((ii y).toUInt32 &&& Int32.toUInt32 31)).toInt32 := ii_of _
  rw [show vI (iushr x y) = .int (ii (iushr x y)) from rfl, e] at this
  exact this
theorem i2b_127 {x : Int} (h : 0 ≤ x ∧ x ≤ 127) : (ii x).toInt8.toInt32 = ii x := by
  obtain ⟨n, rfl⟩ := Int.eq_ofNat_of_zero_le h.1
  have e : ∀ n : Nat, n < 128 → (ii (n : Int)).toInt8.toInt32 = ii (n : Int) := by decide +kernel
  exact e n (by omega)
theorem v_i2b {x : Int} (hG : Ok D A G cc nL own rm) (hd : decode cc pc = .ok (.i2b, 1)) (h : 0 ≤ x ∧ x ≤ 127) (kk : V G k1 k2 P (pc + 1) lo (vI x :: st)) : V G k1 k2 P pc lo (vI x :: st) := by
  obtain ⟨p, l, e, R, s, m, args, below, meth, c, A', Q⟩ := G
  obtain ⟨hrm, hx, hb, hml, hown, hts, hA, hK⟩ := hG
  intro H locs ls hP hS hl
  exact lv_i2b hx hb hd (i2b_127 h) (kk H locs ls hP hS hl)
theorem v_mmin {x y : Int} {idx : Nat} (hG : Ok D A G cc nL own rm) (hd : decode cc pc = .ok (.invokestatic idx, 3)) (hl : Cond.methodLink own idx yJ9_min_7cf53 ∈ zTB) (hr : 1 ≤ rm.frames ∧ 21 ≤ rm.locals) (h1 : k1 ≤ rm.cells ∧ k2 ≤ rm.slots) (hw : (st.map fun v => v.category).sum ≤ 8) (hx0 : -2147483648 ≤ x ∧ x < 2147483648) (hy0 : -2147483648 ≤ y ∧ y < 2147483648) (kk : V G k1 k2 P (pc + 3) lo (vI (if y < x then y else x) :: st)) : V G k1 k2 P pc lo (vI y :: vI x :: st) := by
  obtain ⟨p, l, e, R, s, m, args, below, meth, c, A', Q⟩ := G
  obtain ⟨hrm, hx, hb, hml, hown, hts, hA, hK⟩ := hG
  subst hrm
  intro H locs ls hP hS hl2
  refine va_mmin hx hb hl2.1.symm hown (hts _ hl) (hts _ zt_J9_min_7cf53) (hts _ (ztb 8 (by decide +kernel) (by decide +kernel))) (hts _ zc_J9_min_7cf53.1) hr.1 (by omega) h1.1 h1.2 hd ?_
  have := kk H locs ls hP hS hl2
  rw [show (if ii y < ii x then ii y else ii x) = ii (if y < x then y else x) by
    by_cases q : y < x
    · rw [if_pos q, if_pos ((ii_lt hy0 hx0).mpr q)]
    · rw [if_neg q, if_neg (fun z => q ((ii_lt hy0 hx0).mp z))]]
  exact this
theorem v_mmax {x y : Int} {idx : Nat} (hG : Ok D A G cc nL own rm) (hd : decode cc pc = .ok (.invokestatic idx, 3)) (hl : Cond.methodLink own idx yJ9_max_7cf53 ∈ zTB) (hr : 1 ≤ rm.frames ∧ 21 ≤ rm.locals) (h1 : k1 ≤ rm.cells ∧ k2 ≤ rm.slots) (hw : (st.map fun v => v.category).sum ≤ 8) (hx0 : -2147483648 ≤ x ∧ x < 2147483648) (hy0 : -2147483648 ≤ y ∧ y < 2147483648) (kk : V G k1 k2 P (pc + 3) lo (vI (if x < y then y else x) :: st)) : V G k1 k2 P pc lo (vI y :: vI x :: st) := by
  obtain ⟨p, l, e, R, s, m, args, below, meth, c, A', Q⟩ := G
  obtain ⟨hrm, hx, hb, hml, hown, hts, hA, hK⟩ := hG
  subst hrm
  intro H locs ls hP hS hl2
  refine va_mmax hx hb hl2.1.symm hown (hts _ hl) (hts _ zt_J9_max_7cf53) (hts _ (ztb 8 (by decide +kernel) (by decide +kernel))) (hts _ zc_J9_max_7cf53.1) hr.1 (by omega) h1.1 h1.2 hd ?_
  have := kk H locs ls hP hS hl2
  rw [show (if ii x < ii y then ii y else ii x) = ii (if x < y then y else x) by
    by_cases q : x < y
    · rw [if_pos q, if_pos ((ii_lt hx0 hy0).mpr q)]
    · rw [if_neg q, if_neg (fun z => q ((ii_lt hx0 hy0).mp z))]]
  exact this
theorem v_mabs {x : Int} {idx : Nat} (hG : Ok D A G cc nL own rm) (hd : decode cc pc = .ok (.invokestatic idx, 3)) (hl : Cond.methodLink own idx yJ9_abs_0f7a4 ∈ zTB) (hr : 1 ≤ rm.frames ∧ 21 ≤ rm.locals) (h1 : k1 ≤ rm.cells ∧ k2 ≤ rm.slots) (hw : (st.map fun v => v.category).sum ≤ 8) (hx0 : -2147483648 ≤ x ∧ x < 2147483648) (kk : V G k1 k2 P (pc + 3) lo (vI (if 0 ≤ x then x else 0 - x) :: st)) : V G k1 k2 P pc lo (vI x :: st) := by
  obtain ⟨p, l, e, R, s, m, args, below, meth, c, A', Q⟩ := G
  obtain ⟨hrm, hx, hb, hml, hown, hts, hA, hK⟩ := hG
  subst hrm
  intro H locs ls hP hS hl2
  refine va_mabs hx hb hl2.1.symm hown (hts _ hl) (hts _ zt_J9_abs_0f7a4) (hts _ (ztb 8 (by decide +kernel) (by decide +kernel))) (hts _ zc_J9_abs_0f7a4.1) hr.1 (by omega) h1.1 h1.2 hd ?_
  have := kk H locs ls hP hS hl2
  rw [show (if 0 ≤ ii x then ii x else 0 - ii x) = ii (if 0 ≤ x then x else 0 - x) by
    by_cases q : 0 ≤ x
    · rw [if_pos q, if_pos (show (0 : Int32) ≤ ii x from (ii_le (x := 0) (by omega) hx0).mpr q)]
    · rw [if_neg q, if_neg (show ¬ (0 : Int32) ≤ ii x from fun z => q ((ii_le (x := 0) (by omega) hx0).mp z))]
      exact ii_sub 0 x]
  exact this
end VJ2
theorem nI_xor (a b : Nat) : nI a ^^^ nI b = nI (a ^^^ b) := by
  apply Int32.toBitVec_inj.1
  show BitVec.ofNat 32 a ^^^ BitVec.ofNat 32 b = BitVec.ofNat 32 (a ^^^ b)
  apply BitVec.eq_of_getLsbD_eq
  intro i hi
  simp [hi]
theorem ixor_pos {x y : Int} (hx : 0 ≤ x ∧ x < 2147483648) (hy : 0 ≤ y ∧ y < 2147483648) : 0 ≤ ixor x y ∧ ixor x y < 2147483648 := by
  obtain ⟨a, rfl⟩ := Int.eq_ofNat_of_zero_le hx.1
  obtain ⟨b, rfl⟩ := Int.eq_ofNat_of_zero_le hy.1
  have h : a ^^^ b < 2 ^ 31 := Nat.xor_lt_two_pow (by omega) (by omega)
  unfold ixor
  rw [ii_natE, ii_natE, nI_xor, nI_toInt (by omega)]
  omega
set_option maxRecDepth 100000 in
theorem bc_all {x : Int} (h : 0 ≤ x ∧ x < 256) : iand (((iand (((iand (x - (iand (iushr x (1 : Int)) 1431655765)) 858993459) + (iand (iushr (x - (iand (iushr x (1 : Int)) 1431655765)) (2 : Int)) 858993459)) + (iushr ((iand (x - (iand (iushr x (1 : Int)) 1431655765)) 858993459) + (iand (iushr (x - (iand (iushr x (1 : Int)) 1431655765)) (2 : Int)) 858993459)) (4 : Int))) 252645135) + (iushr (iand (((iand (x - (iand (iushr x (1 : Int)) 1431655765)) 858993459) + (iand (iushr (x - (iand (iushr x (1 : Int)) 1431655765)) (2 : Int)) 858993459)) + (iushr ((iand (x - (iand (iushr x (1 : Int)) 1431655765)) 858993459) + (iand (iushr (x - (iand (iushr x (1 : Int)) 1431655765)) (2 : Int)) 858993459)) (4 : Int))) 252645135) (8 : Int))) + (iushr ((iand (((iand (x - (iand (iushr x (1 : Int)) 1431655765)) 858993459) + (iand (iushr (x - (iand (iushr x (1 : Int)) 1431655765)) (2 : Int)) 858993459)) + (iushr ((iand (x - (iand (iushr x (1 : Int)) 1431655765)) 858993459) + (iand (iushr (x - (iand (iushr x (1 : Int)) 1431655765)) (2 : Int)) 858993459)) (4 : Int))) 252645135) + (iushr (iand (((iand (x - (iand (iushr x (1 : Int)) 1431655765)) 858993459) + (iand (iushr (x - (iand (iushr x (1 : Int)) 1431655765)) (2 : Int)) 858993459)) + (iushr ((iand (x - (iand (iushr x (1 : Int)) 1431655765)) 858993459) + (iand (iushr (x - (iand (iushr x (1 : Int)) 1431655765)) (2 : Int)) 858993459)) (4 : Int))) 252645135) (8 : Int))) (16 : Int))) 63 = szF x 8 := by
  obtain ⟨n, rfl⟩ := Int.eq_ofNat_of_zero_le h.1
  have e : ∀ n : Nat, n < 256 → iand (((iand (((iand ((n : Int) - (iand (iushr (n : Int) (1 : Int)) 1431655765)) 858993459) + (iand (iushr ((n : Int) - (iand (iushr (n : Int) (1 : Int)) 1431655765)) (2 : Int)) 858993459)) + (iushr ((iand ((n : Int) - (iand (iushr (n : Int) (1 : Int)) 1431655765)) 858993459) + (iand (iushr ((n : Int) - (iand (iushr (n : Int) (1 : Int)) 1431655765)) (2 : Int)) 858993459)) (4 : Int))) 252645135) + (iushr (iand (((iand ((n : Int) - (iand (iushr (n : Int) (1 : Int)) 1431655765)) 858993459) + (iand (iushr ((n : Int) - (iand (iushr (n : Int) (1 : Int)) 1431655765)) (2 : Int)) 858993459)) + (iushr ((iand ((n : Int) - (iand (iushr (n : Int) (1 : Int)) 1431655765)) 858993459) + (iand (iushr ((n : Int) - (iand (iushr (n : Int) (1 : Int)) 1431655765)) (2 : Int)) 858993459)) (4 : Int))) 252645135) (8 : Int))) + (iushr ((iand (((iand ((n : Int) - (iand (iushr (n : Int) (1 : Int)) 1431655765)) 858993459) + (iand (iushr ((n : Int) - (iand (iushr (n : Int) (1 : Int)) 1431655765)) (2 : Int)) 858993459)) + (iushr ((iand ((n : Int) - (iand (iushr (n : Int) (1 : Int)) 1431655765)) 858993459) + (iand (iushr ((n : Int) - (iand (iushr (n : Int) (1 : Int)) 1431655765)) (2 : Int)) 858993459)) (4 : Int))) 252645135) + (iushr (iand (((iand ((n : Int) - (iand (iushr (n : Int) (1 : Int)) 1431655765)) 858993459) + (iand (iushr ((n : Int) - (iand (iushr (n : Int) (1 : Int)) 1431655765)) (2 : Int)) 858993459)) + (iushr ((iand ((n : Int) - (iand (iushr (n : Int) (1 : Int)) 1431655765)) 858993459) + (iand (iushr ((n : Int) - (iand (iushr (n : Int) (1 : Int)) 1431655765)) (2 : Int)) 858993459)) (4 : Int))) 252645135) (8 : Int))) (16 : Int))) 63 = szF (n : Int) 8 := by decide +kernel
  exact e n (by omega)
set_option maxHeartbeats 4000000 in
set_option maxRecDepth 100000 in
theorem k_bitCount_0f7a4 (l : Launch) (D : Dx) (A : Nat → Prop) (P : Heap → Prop) (x : Int) (h1 : 0 ≤ x ∧ x < 256) : CT l D A yJ6_bitCount_0f7a4 cJ6_bitCount_0f7a4 1 (some .int) { frames := 0, cells := 0, slots := 0, locals := 0 } [vI x] P (fun _ : Unit => some (vI (szF x 8))) (fun _ => 0 ≤ szF x 8 ∧ szF x 8 ≤ 8) (fun _ => P) := by
  refine ct_of (lo0 := [(0, vI x)]) (by decide) (Nat.le_of_ble_eq_true rfl) rfl ?_
  intro G hG hR
  refine v_iload_n hG dJ6_bitCount_0f7a4_0 rfl 0 rfl ?_
  refine v_iload_n hG dJ6_bitCount_0f7a4_1 rfl 0 rfl ?_
  refine v_iconst hG dJ6_bitCount_0f7a4_2 ?_
  refine v_iushr hG dJ6_bitCount_0f7a4_3 ?_
  refine v_ldcw (n := 1431655765) hG dJ6_bitCount_0f7a4_4 (ztb 735 (by decide +kernel) (by decide +kernel)) rfl ?_
  refine v_iand hG dJ6_bitCount_0f7a4_7 ?_
  refine v_isub hG dJ6_bitCount_0f7a4_8 ?_
  refine v_istore_n (lo' := [(0, vI (x - (iand (iushr x (1 : Int)) 1431655765)))]) hG dJ6_bitCount_0f7a4_9 rfl (by decide) rfl ?_
  refine v_iload_n hG dJ6_bitCount_0f7a4_10 rfl 0 rfl ?_
  refine v_ldcw (n := 858993459) hG dJ6_bitCount_0f7a4_11 (ztb 736 (by decide +kernel) (by decide +kernel)) rfl ?_
  refine v_iand hG dJ6_bitCount_0f7a4_14 ?_
  refine v_iload_n hG dJ6_bitCount_0f7a4_15 rfl 0 rfl ?_
  refine v_iconst hG dJ6_bitCount_0f7a4_16 ?_
  refine v_iushr hG dJ6_bitCount_0f7a4_17 ?_
  refine v_ldcw (n := 858993459) hG dJ6_bitCount_0f7a4_18 (ztb 736 (by decide +kernel) (by decide +kernel)) rfl ?_
  refine v_iand hG dJ6_bitCount_0f7a4_21 ?_
  refine v_iadd hG dJ6_bitCount_0f7a4_22 ?_
  refine v_istore_n (lo' := [(0, vI ((iand (x - (iand (iushr x (1 : Int)) 1431655765)) 858993459) + (iand (iushr (x - (iand (iushr x (1 : Int)) 1431655765)) (2 : Int)) 858993459)))]) hG dJ6_bitCount_0f7a4_23 rfl (by decide) rfl ?_
  refine v_iload_n hG dJ6_bitCount_0f7a4_24 rfl 0 rfl ?_
  refine v_iload_n hG dJ6_bitCount_0f7a4_25 rfl 0 rfl ?_
  refine v_iconst hG dJ6_bitCount_0f7a4_26 ?_
  refine v_iushr hG dJ6_bitCount_0f7a4_27 ?_
  refine v_iadd hG dJ6_bitCount_0f7a4_28 ?_
  refine v_ldcw (n := 252645135) hG dJ6_bitCount_0f7a4_29 (ztb 737 (by decide +kernel) (by decide +kernel)) rfl ?_
  refine v_iand hG dJ6_bitCount_0f7a4_32 ?_
  refine v_istore_n (lo' := [(0, vI (iand (((iand (x - (iand (iushr x (1 : Int)) 1431655765)) 858993459) + (iand (iushr (x - (iand (iushr x (1 : Int)) 1431655765)) (2 : Int)) 858993459)) + (iushr ((iand (x - (iand (iushr x (1 : Int)) 1431655765)) 858993459) + (iand (iushr (x - (iand (iushr x (1 : Int)) 1431655765)) (2 : Int)) 858993459)) (4 : Int))) 252645135))]) hG dJ6_bitCount_0f7a4_33 rfl (by decide) rfl ?_
  refine v_iload_n hG dJ6_bitCount_0f7a4_34 rfl 0 rfl ?_
  refine v_iload_n hG dJ6_bitCount_0f7a4_35 rfl 0 rfl ?_
  refine v_bipush hG dJ6_bitCount_0f7a4_36 (by decide) ?_
  refine v_iushr hG dJ6_bitCount_0f7a4_38 ?_
  refine v_iadd hG dJ6_bitCount_0f7a4_39 ?_
  refine v_istore_n (lo' := [(0, vI ((iand (((iand (x - (iand (iushr x (1 : Int)) 1431655765)) 858993459) + (iand (iushr (x - (iand (iushr x (1 : Int)) 1431655765)) (2 : Int)) 858993459)) + (iushr ((iand (x - (iand (iushr x (1 : Int)) 1431655765)) 858993459) + (iand (iushr (x - (iand (iushr x (1 : Int)) 1431655765)) (2 : Int)) 858993459)) (4 : Int))) 252645135) + (iushr (iand (((iand (x - (iand (iushr x (1 : Int)) 1431655765)) 858993459) + (iand (iushr (x - (iand (iushr x (1 : Int)) 1431655765)) (2 : Int)) 858993459)) + (iushr ((iand (x - (iand (iushr x (1 : Int)) 1431655765)) 858993459) + (iand (iushr (x - (iand (iushr x (1 : Int)) 1431655765)) (2 : Int)) 858993459)) (4 : Int))) 252645135) (8 : Int))))]) hG dJ6_bitCount_0f7a4_40 rfl (by decide) rfl ?_
  refine v_iload_n hG dJ6_bitCount_0f7a4_41 rfl 0 rfl ?_
  refine v_iload_n hG dJ6_bitCount_0f7a4_42 rfl 0 rfl ?_
  refine v_bipush hG dJ6_bitCount_0f7a4_43 (by decide) ?_
  refine v_iushr hG dJ6_bitCount_0f7a4_45 ?_
  refine v_iadd hG dJ6_bitCount_0f7a4_46 ?_
  refine v_istore_n (lo' := [(0, vI (((iand (((iand (x - (iand (iushr x (1 : Int)) 1431655765)) 858993459) + (iand (iushr (x - (iand (iushr x (1 : Int)) 1431655765)) (2 : Int)) 858993459)) + (iushr ((iand (x - (iand (iushr x (1 : Int)) 1431655765)) 858993459) + (iand (iushr (x - (iand (iushr x (1 : Int)) 1431655765)) (2 : Int)) 858993459)) (4 : Int))) 252645135) + (iushr (iand (((iand (x - (iand (iushr x (1 : Int)) 1431655765)) 858993459) + (iand (iushr (x - (iand (iushr x (1 : Int)) 1431655765)) (2 : Int)) 858993459)) + (iushr ((iand (x - (iand (iushr x (1 : Int)) 1431655765)) 858993459) + (iand (iushr (x - (iand (iushr x (1 : Int)) 1431655765)) (2 : Int)) 858993459)) (4 : Int))) 252645135) (8 : Int))) + (iushr ((iand (((iand (x - (iand (iushr x (1 : Int)) 1431655765)) 858993459) + (iand (iushr (x - (iand (iushr x (1 : Int)) 1431655765)) (2 : Int)) 858993459)) + (iushr ((iand (x - (iand (iushr x (1 : Int)) 1431655765)) 858993459) + (iand (iushr (x - (iand (iushr x (1 : Int)) 1431655765)) (2 : Int)) 858993459)) (4 : Int))) 252645135) + (iushr (iand (((iand (x - (iand (iushr x (1 : Int)) 1431655765)) 858993459) + (iand (iushr (x - (iand (iushr x (1 : Int)) 1431655765)) (2 : Int)) 858993459)) + (iushr ((iand (x - (iand (iushr x (1 : Int)) 1431655765)) 858993459) + (iand (iushr (x - (iand (iushr x (1 : Int)) 1431655765)) (2 : Int)) 858993459)) (4 : Int))) 252645135) (8 : Int))) (16 : Int))))]) hG dJ6_bitCount_0f7a4_47 rfl (by decide) rfl ?_
  refine v_iload_n hG dJ6_bitCount_0f7a4_48 rfl 0 rfl ?_
  refine v_bipush hG dJ6_bitCount_0f7a4_49 (by decide) ?_
  refine v_iand hG dJ6_bitCount_0f7a4_51 ?_
  have e1 : @Eq Int (szF x 8) (iand (((iand (((iand (x - (iand (iushr x (1 : Int)) 1431655765)) 858993459) + (iand (iushr (x - (iand (iushr x (1 : Int)) 1431655765)) (2 : Int)) 858993459)) + (iushr ((iand (x - (iand (iushr x (1 : Int)) 1431655765)) 858993459) + (iand (iushr (x - (iand (iushr x (1 : Int)) 1431655765)) (2 : Int)) 858993459)) (4 : Int))) 252645135) + (iushr (iand (((iand (x - (iand (iushr x (1 : Int)) 1431655765)) 858993459) + (iand (iushr (x - (iand (iushr x (1 : Int)) 1431655765)) (2 : Int)) 858993459)) + (iushr ((iand (x - (iand (iushr x (1 : Int)) 1431655765)) 858993459) + (iand (iushr (x - (iand (iushr x (1 : Int)) 1431655765)) (2 : Int)) 858993459)) (4 : Int))) 252645135) (8 : Int))) + (iushr ((iand (((iand (x - (iand (iushr x (1 : Int)) 1431655765)) 858993459) + (iand (iushr (x - (iand (iushr x (1 : Int)) 1431655765)) (2 : Int)) 858993459)) + (iushr ((iand (x - (iand (iushr x (1 : Int)) 1431655765)) 858993459) + (iand (iushr (x - (iand (iushr x (1 : Int)) 1431655765)) (2 : Int)) 858993459)) (4 : Int))) 252645135) + (iushr (iand (((iand (x - (iand (iushr x (1 : Int)) 1431655765)) 858993459) + (iand (iushr (x - (iand (iushr x (1 : Int)) 1431655765)) (2 : Int)) 858993459)) + (iushr ((iand (x - (iand (iushr x (1 : Int)) 1431655765)) 858993459) + (iand (iushr (x - (iand (iushr x (1 : Int)) 1431655765)) (2 : Int)) 858993459)) (4 : Int))) 252645135) (8 : Int))) (16 : Int))) 63) := by exact (bc_all h1).symm
  exact v_ireturn hG hR dJ6_bitCount_0f7a4_52 () (congrArg (fun z => some (vI z)) e1) (by exact szF_rng (by omega) 8) (fun _ hM => hM)
set_option maxHeartbeats 4000000 in
set_option maxRecDepth 100000 in
theorem k_canEncode_9a6ad (l : Launch) (D : Dx) (A : Nat → Prop) (P : Heap → Prop) (x : Int) (h1 : -2147483648 ≤ x ∧ x < 2147483648) : CT l D A yJ1_canEncode_9a6ad cJ1_canEncode_9a6ad 1 (some .boolean) { frames := 0, cells := 0, slots := 0, locals := 0 } [vI x] P (fun _ : Unit => some (vI (bi (0 ≤ x ∧ x ≤ 255)))) (fun _ => True) (fun _ => P) := by
  refine ct_of (lo0 := [(0, vI x)]) (by decide) (Nat.le_of_ble_eq_true rfl) rfl ?_
  intro G hG hR
  refine v_iload_n hG dJ1_canEncode_9a6ad_0 rfl 0 rfl ?_
  have J2 : ∀ z1 : Int, z1 = (bi ((¬ (x < 0)) ∧ (¬ (255 < x)))) → V G 0 0 (P) 16 [(0, vI x)] [vI z1] := by
    intro z1 hz1
    subst hz1
    have e3 : @Eq Int (bi (0 ≤ x ∧ x ≤ 255)) (bi ((¬ (x < 0)) ∧ (¬ (255 < x)))) := by exact bi_congr (by omega)
    exact v_zreturn hG hR dJ1_canEncode_9a6ad_16 (bi_01 _) () (congrArg (fun z => some (vI z)) e3) (by trivial) (fun _ hM => hM)
  refine v_if_lt (tgt := 15) hG dJ1_canEncode_9a6ad_1 (by decide) (by omega) (fun c4 => ?_) (fun c4 => ?_)
  · skip
    refine v_iconst hG dJ1_canEncode_9a6ad_15 ?_
    exact J2 _ (by first | rfl | (simp only [if_pos c4]; done) | (simp [bi, c4]; done))
  · skip
    refine v_iload_n hG dJ1_canEncode_9a6ad_4 rfl 0 rfl ?_
    refine v_sipush hG dJ1_canEncode_9a6ad_5 (by decide) ?_
    refine v_icmp_gt (tgt := 15) hG dJ1_canEncode_9a6ad_8 (by decide) (by omega) (by omega) (fun c5 => ?_) (fun c5 => ?_)
    · skip
      refine v_iconst hG dJ1_canEncode_9a6ad_15 ?_
      exact J2 _ (by first | rfl | (simp only [if_neg c4, if_pos c5]; done) | (simp [bi, c4, c5]; done))
    · skip
      refine v_iconst hG dJ1_canEncode_9a6ad_11 ?_
      refine v_goto (tgt := 16) hG dJ1_canEncode_9a6ad_12 (by decide) ?_
      exact J2 _ (by first | rfl | (simp only [if_neg c4, if_neg c5]; done) | (simp [bi, c4, c5]; done))
