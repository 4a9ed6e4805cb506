/-! THE CLASS: its own methods, first -/
theorem bi01 {x : Int} (h : 0 ≤ x ∧ x ≤ 1) : x = bi (x = 1) := by
  by_cases e : x = 1
  · rw [bi_pos e]; exact e
  · rw [bi_neg e]; omega
theorem bset_digit (f : Nat → Bool) (k : Nat) : ∀ n : Nat, n ≤ 8 → iand (bset f n / 2 ^ (k : Int).toNat) 1 = (if k < n ∧ f k = true then 1 else 0)
  | 0, _ => by
    show iand (0 / 2 ^ (k : Int).toNat) 1 = _
    rw [Int.zero_ediv, if_neg (by omega)]; decide +kernel
  | n + 1, hn => by
    have ih := bset_digit f k n (by omega)
    have hr := bset_8 f (n := n) (by omega)
    have hr2 := bset_8 f (n := n + 1) hn
    have s1 := sh_rng (x := bset f n) (k := k) (by omega)
    have s2 := sh_rng (x := bset f (n + 1)) (k := k) (by omega)
    rw [iand_1 s1] at ih
    rw [iand_1 s2]
    rw [Int.toNat_natCast] at ih ⊢
    show (bset f n + (if f n then 2 ^ n else 0)) / 2 ^ k % 2 = _
    have hp : (0 : Int) < 2 ^ k := Int.pow_pos (by omega)
    by_cases hf : f n = true
    · rw [if_pos hf]
      rcases Nat.lt_trichotomy k n with h | h | h
      · have e2 : (2 : Int) ^ n = 2 ^ k * (2 * 2 ^ (n - k - 1)) := by
          rw [← Int.pow_succ', ← Int.pow_add]
          congr 1
          omega
        rw [e2, Int.add_mul_ediv_left _ _ (by omega)]
        by_cases hk : f k = true
        · rw [if_pos ⟨h, hk⟩] at ih; rw [if_pos ⟨by omega, hk⟩]; omega
        · rw [if_neg (fun q => hk q.2)] at ih; rw [if_neg (fun q => hk q.2)]; omega
      · subst h
        have hb := bset_rng f k
        rw [if_pos ⟨by omega, hf⟩, show bset f k + 2 ^ k = bset f k + 2 ^ k * 1 by omega, Int.add_mul_ediv_left _ _ (by omega), Int.ediv_eq_zero_of_lt hb.1 hb.2]
        rfl
      · have hb := bset_rng f (n + 1)
        have hb2 : bset f (n + 1) = bset f n + 2 ^ n := by show bset f n + (if f n then 2 ^ n else 0) = _; rw [if_pos hf]
        have hle : (2 : Int) ^ (n + 1) ≤ 2 ^ k := by
          have : 2 ^ (n + 1) ≤ 2 ^ k := Nat.pow_le_pow_right (by omega) (by omega)
          exact_mod_cast this
        rw [if_neg (by omega), Int.ediv_eq_zero_of_lt (by omega) (by omega)]
        rfl
    · rw [if_neg hf, Int.add_zero, ih]
      by_cases hk : k < n ∧ f k = true
      · rw [if_pos hk, if_pos ⟨by omega, hk.2⟩]
      · rw [if_neg hk, if_neg]
        intro q
        by_cases e : k = n
        · subst e; exact hf q.2
        · exact hk ⟨by omega, q.2⟩
theorem szB_k (f : Nat → Bool) {n : Nat} (hn : n ≤ 8) : ∀ k : Nat, szF (bset f n) k = cntB f (min k n)
  | 0 => by simp [szF, cntB]
  | k + 1 => by
    show szF (bset f n) k + iand (bset f n / 2 ^ (k : Int).toNat) 1 = _
    rw [szB_k f hn k, bset_digit f k n hn]
    by_cases h : k < n
    · rw [show min (k + 1) n = k + 1 by omega, show min k n = k by omega]
      show _ = cntB f k + (if f k then 1 else 0)
      by_cases hk : f k = true
      · rw [if_pos ⟨h, hk⟩, if_pos hk]
      · rw [if_neg (fun q => hk q.2), if_neg hk]
    · rw [show min (k + 1) n = n by omega, show min k n = n by omega, if_neg (fun q => h q.1), Int.add_zero]
theorem szB (f : Nat → Bool) {n : Nat} (hn : n ≤ 8) : szF (bset f n) 8 = cntB f n := by
  rw [szB_k f hn 8, show min 8 n = n by omega]
set_option maxHeartbeats 4000000 in
set_option maxRecDepth 100000 in
theorem kc11_of (l : Launch) (D : Dx) (A : Nat → Prop) (ad : Nat → Nat) (K : Int → Int) (S Q qa : Nat → Int → Int) (tp : Nat → Nat) (s bo e uc lr nx : Int → Int) (m : Int) (w : Int) (hrm : -2147483648 ≤ m ∧ m < 2147483648) (hrw : -2147483648 ≤ w ∧ w < 2147483648) (SL : List Int) (hN : NM s) (hM : GM s) (hP : PL s) (hCH : CHP Q qa s SL) (hT : TI s) : CT l D A yX11_of cX11_of 4 (some .int) { frames := 5, cells := 0, slots := 0, locals := 112 } [.ref (ad 0), vI m, vI w] (CW D A ad K (uS S 0 s) Q qa tp bo e uc lr nx) (fun _ : Unit => some (vI (a_of s SL m w))) (fun _ => True) (fun _ => CW D A ad K (uS S 0 s) Q qa tp bo e uc lr nx) := by
  refine ct_of (lo0 := [(0, .ref (ad 0)), (1, vI m), (2, vI w)]) (by decide) (Nat.le_of_ble_eq_true rfl) rfl ?_
  intro G hG hR
  have hN9 : 0 ≤ s 43 ∧ s 43 ≤ 8 := hN
  obtain ⟨hhc, hpls, hwe, hmd⟩ := id hCH
  have hwr := q_wear_rng hP
  have hT2 : 0 ≤ s 2 ∧ s 2 ≤ 99 := hT
  refine v_aload_n hG dX11_of_0 rfl 0 rfl ?_
  refine cg11 hG dX11_of_1 zf_X11_17 (k := 0) (by decide) (v := .ref (kB ad 0)) rfl ?_
  refine v_iload_n hG dX11_of_4 rfl 1 rfl ?_
  by_cases c1 : 0 ≤ m ∧ m ≤ s 43 - 1
  · skip
    refine v_callV (k1' := 0) (k2' := 0) hG dX11_of_5 zc_X0_markAt ⟨zl_X11_99, zi_X0_markAt, zs_X0_markAt⟩ (fun l => kc0_markAt_in l D A ad K S Q qa tp s bo e uc lr nx 0 (by decide) m (by assumption) (by first | exact c1 | (simp only [sU_at]; omega) | omega)) rfl (cR0 (by decide)) (fun _ h => h) ⟨by decide, by decide⟩ rfl rfl ⟨by decide, by decide⟩ (rest := []) rfl (Nat.le_of_ble_eq_true rfl) (fun u2 => [.ref (kM ad 0 m)]) (fun _ => rfl) (fun u2 hu2 => ?_)
    refine v_astore_n (lo' := [(3, .ref (kM ad 0 m)), (0, .ref (ad 0)), (1, vI m), (2, vI w)]) hG dX11_of_8 rfl (by decide) rfl ?_
    refine v_aload_n hG dX11_of_9 rfl 0 rfl ?_
    refine v_ifnonnull (tgt := 15) hG dX11_of_10 (by decide) ?_
    have hm := hM m (by omega) (by omega)
    have hm5 := hm.2.2.2.2.1
    refine v_iload_n hG dX11_of_15 rfl 3 rfl ?_
    by_cases c3 : w = 0
    · refine v_tabIn (tgt := 76) hG dX11_of_16 0 c3 (by decide) (by decide) (by decide) rfl (by decide) ?_
      refine v_aload_n hG dX11_of_76 rfl 0 rfl ?_
      refine cgM (by decide) (by omega) (by omega) hG dX11_of_77 zf_X11_103 (k := 0) (by decide) (v := vI (s (50 + m))) rfl ?_
      have e4 : @Eq Int (a_of s SL m w) (s (50 + m)) := by unfold a_of; (repeat' split) <;> first | rfl | omega | (exfalso; omega) | (congr 1; omega) | (rw [show 3 + 8 * (w - 3) + m = 11 + m by omega]; omega)
      exact v_ireturn hG hR dX11_of_80 () (congrArg (fun z => some (vI z)) e4) (by trivial) (fun _ hM => hM)
    by_cases c5 : w = 1
    · refine v_tabIn (tgt := 81) hG dX11_of_16 1 c5 (by decide) (by decide) (by decide) rfl (by decide) ?_
      refine v_aload_n hG dX11_of_81 rfl 0 rfl ?_
      refine cgM (by decide) (by omega) (by omega) hG dX11_of_82 zf_X11_108 (k := 2) (by decide) (v := vI (s (58 + m))) rfl ?_
      have e6 : @Eq Int (a_of s SL m w) (s (58 + m)) := by unfold a_of; (repeat' split) <;> first | rfl | omega | (exfalso; omega) | (congr 1; omega) | (rw [show 3 + 8 * (w - 3) + m = 11 + m by omega]; omega)
      exact v_ireturn hG hR dX11_of_85 () (congrArg (fun z => some (vI z)) e6) (by trivial) (fun _ hM => hM)
    by_cases c7 : w = 2
    · refine v_tabIn (tgt := 86) hG dX11_of_16 2 c7 (by decide) (by decide) (by decide) rfl (by decide) ?_
      refine v_aload_n hG dX11_of_86 rfl 0 rfl ?_
      refine cgM (by decide) (by omega) (by omega) hG dX11_of_87 zf_X11_111 (k := 3) (by decide) (v := vI (s (66 + m))) rfl ?_
      have e8 : @Eq Int (a_of s SL m w) (s (66 + m)) := by unfold a_of; (repeat' split) <;> first | rfl | omega | (exfalso; omega) | (congr 1; omega) | (rw [show 3 + 8 * (w - 3) + m = 11 + m by omega]; omega)
      exact v_ireturn hG hR dX11_of_90 () (congrArg (fun z => some (vI z)) e8) (by trivial) (fun _ hM => hM)
    by_cases c9 : w = 3
    · refine v_tabIn (tgt := 91) hG dX11_of_16 3 c9 (by decide) (by decide) (by decide) rfl (by decide) ?_
      refine v_aload_n hG dX11_of_91 rfl 0 rfl ?_
      refine cgM (by decide) (by omega) (by omega) hG dX11_of_92 zf_X11_114 (k := 4) (by decide) (v := vI (s (3 + m))) rfl ?_
      have e10 : @Eq Int (a_of s SL m w) (s (3 + m)) := by unfold a_of; (repeat' split) <;> first | rfl | omega | (exfalso; omega) | (congr 1; omega) | (rw [show 3 + 8 * (w - 3) + m = 11 + m by omega]; omega)
      exact v_ireturn hG hR dX11_of_95 () (congrArg (fun z => some (vI z)) e10) (by trivial) (fun _ hM => hM)
    by_cases c11 : w = 4
    · refine v_tabIn (tgt := 96) hG dX11_of_16 4 c11 (by decide) (by decide) (by decide) rfl (by decide) ?_
      refine v_aload_n hG dX11_of_96 rfl 0 rfl ?_
      refine cgM (by decide) (by omega) (by omega) hG dX11_of_97 zf_X11_117 (k := 5) (by decide) (v := vI (bi (s (11 + m) = 1))) (congrArg (fun z => some (vI z)) ((bi01 (by first | assumption | exact (hM _ (by omega) (by omega)).2.2.2.2.1)))) ?_
      have J13 : ∀ z12 : Int, z12 = (if s (11 + m) = 1 then 1 else 0) → V G 0 0 (CW D A ad K (uS S 0 s) Q qa tp bo e uc lr nx) 108 [(0, .ref (ad 0)), (1, vI m), (2, vI w), (3, .ref (kM ad 0 m))] [vI z12] := by
        intro z12 hz12
        have e14 : @Eq Int (a_of s SL m w) (z12) := by subst hz12; unfold a_of; (repeat' split) <;> first | rfl | omega | (exfalso; omega) | (congr 1; omega) | (rw [show 3 + 8 * (w - 3) + m = 11 + m by omega]; omega)
        exact v_ireturn hG hR dX11_of_108 () (congrArg (fun z => some (vI z)) e14) (by trivial) (fun _ hM => hM)
      refine v_ifb_eq (p := s (11 + m) = 1) (tgt := 107) hG dX11_of_100 (by decide) (fun c15 => ?_) (fun c15 => ?_)
      · skip
        refine v_iconst hG dX11_of_107 ?_
        refine v_lo [1, 2, 3, 0] (lo' := [(0, .ref (ad 0)), (1, vI m), (2, vI w), (3, .ref (kM ad 0 m))]) rfl ?_
        exact J13 _ (by first | rfl | (simp only [if_pos c1, if_neg c3, if_neg c5, if_neg c7, if_neg c9, if_pos c11, if_neg c15]; done) | (simp [bi, c1, c3, c5, c7, c9, c11, c15]; done))
      · skip
        refine v_iconst hG dX11_of_103 ?_
        refine v_goto (tgt := 108) hG dX11_of_104 (by decide) ?_
        refine v_lo [1, 2, 3, 0] (lo' := [(0, .ref (ad 0)), (1, vI m), (2, vI w), (3, .ref (kM ad 0 m))]) rfl ?_
        exact J13 _ (by first | rfl | (simp only [if_pos c1, if_neg c3, if_neg c5, if_neg c7, if_neg c9, if_pos c11, if_pos c15]; done) | (simp [bi, c1, c3, c5, c7, c9, c11, c15]; done))
    by_cases c16 : w = 5
    · refine v_tabIn (tgt := 109) hG dX11_of_16 5 c16 (by decide) (by decide) (by decide) rfl (by decide) ?_
      refine v_aload_n hG dX11_of_109 rfl 0 rfl ?_
      refine cgM (by decide) (by omega) (by omega) hG dX11_of_110 zf_X11_121 (k := 6) (by decide) (v := vI (s (19 + m))) rfl ?_
      have e17 : @Eq Int (a_of s SL m w) (s (19 + m)) := by unfold a_of; (repeat' split) <;> first | rfl | omega | (exfalso; omega) | (congr 1; omega) | (rw [show 3 + 8 * (w - 3) + m = 11 + m by omega]; omega)
      exact v_ireturn hG hR dX11_of_113 () (congrArg (fun z => some (vI z)) e17) (by trivial) (fun _ hM => hM)
    by_cases c18 : w = 6
    · refine v_tabIn (tgt := 114) hG dX11_of_16 6 c18 (by decide) (by decide) (by decide) rfl (by decide) ?_
      refine v_aload_n hG dX11_of_114 rfl 0 rfl ?_
      refine cgM (by decide) (by omega) (by omega) hG dX11_of_115 zf_X11_124 (k := 7) (by decide) (v := vI (s (27 + m))) rfl ?_
      have e19 : @Eq Int (a_of s SL m w) (s (27 + m)) := by unfold a_of; (repeat' split) <;> first | rfl | omega | (exfalso; omega) | (congr 1; omega) | (rw [show 3 + 8 * (w - 3) + m = 11 + m by omega]; omega)
      exact v_ireturn hG hR dX11_of_118 () (congrArg (fun z => some (vI z)) e19) (by trivial) (fun _ hM => hM)
    by_cases c20 : w = 7
    · refine v_tabIn (tgt := 119) hG dX11_of_16 7 c20 (by decide) (by decide) (by decide) rfl (by decide) ?_
      refine v_aload_n hG dX11_of_119 rfl 0 rfl ?_
      refine cgM (by decide) (by omega) (by omega) hG dX11_of_120 zf_X11_127 (k := 8) (by decide) (v := vI (s (35 + m))) rfl ?_
      have e21 : @Eq Int (a_of s SL m w) (s (35 + m)) := by unfold a_of; (repeat' split) <;> first | rfl | omega | (exfalso; omega) | (congr 1; omega) | (rw [show 3 + 8 * (w - 3) + m = 11 + m by omega]; omega)
      exact v_ireturn hG hR dX11_of_123 () (congrArg (fun z => some (vI z)) e21) (by trivial) (fun _ hM => hM)
    by_cases c22 : w = 8
    · refine v_tabIn (tgt := 124) hG dX11_of_16 8 c22 (by decide) (by decide) (by decide) rfl (by decide) ?_
      refine v_aload_n hG dX11_of_124 rfl 1 rfl ?_
      refine cg11 hG dX11_of_125 zf_X11_17 (k := 0) (by decide) (v := .ref (kB ad 0)) rfl ?_
      refine cg0 (by decide) hG dX11_of_128 zf_X11_86 (k := 5) (by decide) (v := .ref (kP ad (hc s))) rfl ?_
      refine v_aload_n hG dX11_of_131 rfl 0 rfl ?_
      refine v_aload_n hG dX11_of_132 rfl 1 rfl ?_
      refine cg11 hG dX11_of_133 zf_X11_17 (k := 0) (by decide) (v := .ref (kB ad 0)) rfl ?_
      refine cg0 (by decide) hG dX11_of_136 zf_X11_130 (k := 2) (by decide) (v := vI (s 2)) rfl ?_
      refine v_callV (k1' := 0) (k2' := 0) hG dX11_of_139 zc_X6_riskOf ⟨zl_X11_133, zi_X6_riskOf, zs_X6_riskOf⟩ (fun l => kc6_riskOf l D A ad K S Q qa tp s bo e uc lr nx 0 (by decide) (hc s) m (s 2) SL (by first | assumption | omega) (by omega) (by first | assumption | omega) (by first | assumption | exact hM _ (by omega) (by omega)) (by omega) (by assumption)) rfl (cR6 (by assumption)) (fun _ h => h) ⟨by decide, by decide⟩ rfl rfl ⟨by decide, by decide⟩ (rest := []) rfl (Nat.le_of_ble_eq_true rfl) (fun u23 => [vI (q_risk s SL m (s 2))]) (fun _ => rfl) (fun u23 hu23 => ?_)
      have fu23 : 0 ≤ q_risk s SL m (s 2) ∧ q_risk s SL m (s 2) ≤ 99 := hu23
      have e24 : @Eq Int (a_of s SL m w) (q_risk s SL m (s 2)) := by unfold a_of; (repeat' split) <;> first | rfl | omega | (exfalso; omega) | (congr 1; omega) | (rw [show 3 + 8 * (w - 3) + m = 11 + m by omega]; omega)
      exact v_ireturn hG hR dX11_of_142 () (congrArg (fun z => some (vI z)) e24) (by trivial) (fun _ hM => hM)
    by_cases c25 : w = 9
    · refine v_tabIn (tgt := 143) hG dX11_of_16 9 c25 (by decide) (by decide) (by decide) rfl (by decide) ?_
      refine v_aload_n hG dX11_of_143 rfl 0 rfl ?_
      refine cv_needs (by decide) (by omega) (by omega) (by first | assumption | exact hM _ (by omega) (by omega)) hG dX11_of_144 zl_X11_137 ⟨by decide, by decide⟩ (Nat.le_of_ble_eq_true rfl) ?_
      have e26 : @Eq Int (a_of s SL m w) (q_needs s m) := by unfold a_of; (repeat' split) <;> first | rfl | omega | (exfalso; omega) | (congr 1; omega) | (rw [show 3 + 8 * (w - 3) + m = 11 + m by omega]; omega)
      exact v_ireturn hG hR dX11_of_147 () (congrArg (fun z => some (vI z)) e26) (by trivial) (fun _ hM => hM)
    by_cases c27 : w = 10
    · refine v_tabIn (tgt := 148) hG dX11_of_16 10 c27 (by decide) (by decide) (by decide) rfl (by decide) ?_
      refine v_aload_n hG dX11_of_148 rfl 1 rfl ?_
      refine cg11 hG dX11_of_149 zf_X11_17 (k := 0) (by decide) (v := .ref (kB ad 0)) rfl ?_
      refine v_aload_n hG dX11_of_152 rfl 0 rfl ?_
      refine v_iconst hG dX11_of_153 ?_
      refine v_callV (k1' := 0) (k2' := 0) hG dX11_of_154 zc_X0_darkBehind ⟨zl_X11_140, zi_X0_darkBehind, zs_X0_darkBehind⟩ (fun l => kc0_darkBehind l D A ad K S Q qa tp s bo e uc lr nx 0 (by decide) m 0 SL (by omega) (by first | assumption | omega) (by first | assumption | exact hM _ (by omega) (by omega)) (by assumption) (by assumption) (by omega)) rfl (cR0 (by decide)) (fun _ h => h) ⟨by decide, by decide⟩ rfl rfl ⟨by decide, by decide⟩ (rest := []) rfl (Nat.le_of_ble_eq_true rfl) (fun u28 => [vI (q_dk s m 0)]) (fun _ => rfl) (fun u28 hu28 => ?_)
      have fu28 : 0 ≤ q_dk s m 0 ∧ q_dk s m 0 ≤ 30 := hu28
      have e29 : @Eq Int (a_of s SL m w) (q_dk s m 0) := by unfold a_of; (repeat' split) <;> first | rfl | omega | (exfalso; omega) | (congr 1; omega) | (rw [show 3 + 8 * (w - 3) + m = 11 + m by omega]; omega)
      exact v_ireturn hG hR dX11_of_157 () (congrArg (fun z => some (vI z)) e29) (by trivial) (fun _ hM => hM)
    refine v_tabOut (tgt := 158) hG dX11_of_16 (by omega) (by omega) (by decide) ?_
    refine v_iconst hG dX11_of_158 ?_
    have e31 : @Eq Int (a_of s SL m w) (-1) := by unfold a_of; (repeat' split) <;> first | rfl | omega | (exfalso; omega) | (congr 1; omega) | (rw [show 3 + 8 * (w - 3) + m = 11 + m by omega]; omega)
    exact v_ireturn hG hR dX11_of_159 () (congrArg (fun z => some (vI z)) e31) (by trivial) (fun _ hM => hM)
  · skip
    refine v_callV (k1' := 0) (k2' := 0) hG dX11_of_5 zc_X0_markAt ⟨zl_X11_99, zi_X0_markAt, zs_X0_markAt⟩ (fun l => kc0_markAt_out l D A ad K S Q qa tp s bo e uc lr nx 0 (by decide) m (by assumption) (by omega) (by first | exact c1 | (simp only [sU_at]; omega) | omega)) rfl (cR0 (by decide)) (fun _ h => h) ⟨by decide, by decide⟩ rfl rfl ⟨by decide, by decide⟩ (rest := []) rfl (Nat.le_of_ble_eq_true rfl) (fun u32 => [.null]) (fun _ => rfl) (fun u32 hu32 => ?_)
    refine v_astoreN_n (lo' := [(3, .null), (0, .ref (ad 0)), (1, vI m), (2, vI w)]) hG dX11_of_8 rfl (by decide) rfl ?_
    refine v_aloadN_n hG dX11_of_9 rfl 0 rfl ?_
    refine v_ifnonnullN hG dX11_of_10 ?_
    refine v_iconst hG dX11_of_13 ?_
    have e33 : @Eq Int (a_of s SL m w) (-1) := by unfold a_of; (repeat' split) <;> first | rfl | omega | (exfalso; omega) | (congr 1; omega) | (rw [show 3 + 8 * (w - 3) + m = 11 + m by omega]; omega)
    exact v_ireturn hG hR dX11_of_14 () (congrArg (fun z => some (vI z)) e33) (by trivial) (fun _ hM => hM)
set_option maxHeartbeats 4000000 in
set_option maxRecDepth 100000 in
theorem kc11_told (l : Launch) (D : Dx) (A : Nat → Prop) (ad : Nat → Nat) (K : Int → Int) (S Q qa : Nat → Int → Int) (tp : Nat → Nat) (s bo e uc lr nx : Int → Int) (w : Int) (hrw : -2147483648 ≤ w ∧ w < 2147483648) (SL : List Int) (hP : PL s) (hCH : CHP Q qa s SL) : CT l D A yX11_told cX11_told 2 (some .int) { frames := 0, cells := 0, slots := 0, locals := 0 } [.ref (ad 0), vI w] (CW D A ad K (uS S 0 s) Q qa tp bo e uc lr nx) (fun _ : Unit => some (vI (a_told s w))) (fun _ => True) (fun _ => CW D A ad K (uS S 0 s) Q qa tp bo e uc lr nx) := by
  refine ct_of (lo0 := [(0, .ref (ad 0)), (1, vI w)]) (by decide) (Nat.le_of_ble_eq_true rfl) rfl ?_
  intro G hG hR
  obtain ⟨hhc, hpls, hwe, hmd⟩ := id hCH
  have hwr := q_wear_rng hP
  refine v_iload_n hG dX11_told_0 rfl 1 rfl ?_
  by_cases c1 : w = 0
  · refine v_tabIn (tgt := 36) hG dX11_told_1 0 c1 (by decide) (by decide) (by decide) rfl (by decide) ?_
    refine v_aload_n hG dX11_told_36 rfl 0 rfl ?_
    refine cg11 hG dX11_told_37 zf_X11_17 (k := 0) (by decide) (v := .ref (kB ad 0)) rfl ?_
    refine cg0 (by decide) hG dX11_told_40 zf_X11_149 (k := 0) (by decide) (v := vI (s 0)) rfl ?_
    have e2 : @Eq Int (a_told s w) (s 0) := by unfold a_told; (repeat' split) <;> first | rfl | omega | (subst_vars; rfl) | (exfalso; omega)
    exact v_ireturn hG hR dX11_told_43 () (congrArg (fun z => some (vI z)) e2) (by trivial) (fun _ hM => hM)
  by_cases c3 : w = 1
  · refine v_tabIn (tgt := 44) hG dX11_told_1 1 c3 (by decide) (by decide) (by decide) rfl (by decide) ?_
    refine v_aload_n hG dX11_told_44 rfl 0 rfl ?_
    refine cg11 hG dX11_told_45 zf_X11_17 (k := 0) (by decide) (v := .ref (kB ad 0)) rfl ?_
    refine cg0 (by decide) hG dX11_told_48 zf_X11_152 (k := 1) (by decide) (v := vI (s 1)) rfl ?_
    have e4 : @Eq Int (a_told s w) (s 1) := by unfold a_told; (repeat' split) <;> first | rfl | omega | (subst_vars; rfl) | (exfalso; omega)
    exact v_ireturn hG hR dX11_told_51 () (congrArg (fun z => some (vI z)) e4) (by trivial) (fun _ hM => hM)
  by_cases c5 : w = 2
  · refine v_tabIn (tgt := 52) hG dX11_told_1 2 c5 (by decide) (by decide) (by decide) rfl (by decide) ?_
    refine v_aload_n hG dX11_told_52 rfl 0 rfl ?_
    refine cg11 hG dX11_told_53 zf_X11_17 (k := 0) (by decide) (v := .ref (kB ad 0)) rfl ?_
    refine cg0 (by decide) hG dX11_told_56 zf_X11_130 (k := 2) (by decide) (v := vI (s 2)) rfl ?_
    have e6 : @Eq Int (a_told s w) (s 2) := by unfold a_told; (repeat' split) <;> first | rfl | omega | (subst_vars; rfl) | (exfalso; omega)
    exact v_ireturn hG hR dX11_told_59 () (congrArg (fun z => some (vI z)) e6) (by trivial) (fun _ hM => hM)
  by_cases c7 : w = 3
  · refine v_tabIn (tgt := 60) hG dX11_told_1 3 c7 (by decide) (by decide) (by decide) rfl (by decide) ?_
    refine v_aload_n hG dX11_told_60 rfl 0 rfl ?_
    refine cg11 hG dX11_told_61 zf_X11_17 (k := 0) (by decide) (v := .ref (kB ad 0)) rfl ?_
    refine cg0 (by decide) hG dX11_told_64 zf_X11_86 (k := 5) (by decide) (v := .ref (kP ad (hc s))) rfl ?_
    refine cg6 (by assumption) hG dX11_told_67 zf_X11_155 (k := 9) (by decide) (v := vI (Q (hc s) 4)) rfl ?_
    rw [hwe]
    have e8 : @Eq Int (a_told s w) (q_wear s) := by unfold a_told; (repeat' split) <;> first | rfl | omega | (subst_vars; rfl) | (exfalso; omega)
    exact v_ireturn hG hR dX11_told_70 () (congrArg (fun z => some (vI z)) e8) (by trivial) (fun _ hM => hM)
  by_cases c9 : w = 4
  · refine v_tabIn (tgt := 71) hG dX11_told_1 4 c9 (by decide) (by decide) (by decide) rfl (by decide) ?_
    refine v_aload_n hG dX11_told_71 rfl 0 rfl ?_
    refine cg11 hG dX11_told_72 zf_X11_17 (k := 0) (by decide) (v := .ref (kB ad 0)) rfl ?_
    refine cg0 (by decide) hG dX11_told_75 zf_X11_86 (k := 5) (by decide) (v := .ref (kP ad (hc s))) rfl ?_
    refine cg6 (by assumption) hG dX11_told_78 zf_X11_158 (k := 10) (by decide) (v := vI (Q (hc s) 5)) rfl ?_
    rw [hmd]
    have e10 : @Eq Int (a_told s w) (q_mend s) := by unfold a_told; (repeat' split) <;> first | rfl | omega | (subst_vars; rfl) | (exfalso; omega)
    exact v_ireturn hG hR dX11_told_81 () (congrArg (fun z => some (vI z)) e10) (by trivial) (fun _ hM => hM)
  refine v_tabOut (tgt := 82) hG dX11_told_1 (by omega) (by omega) (by decide) ?_
  refine v_iconst hG dX11_told_82 ?_
  have e12 : @Eq Int (a_told s w) (-1) := by unfold a_told; (repeat' split) <;> first | rfl | omega | (subst_vars; rfl) | (exfalso; omega)
  exact v_ireturn hG hR dX11_told_83 () (congrArg (fun z => some (vI z)) e12) (by trivial) (fun _ hM => hM)
set_option maxHeartbeats 4000000 in
set_option maxRecDepth 100000 in
theorem kc11_cut (l : Launch) (D : Dx) (A : Nat → Prop) (ad : Nat → Nat) (K : Int → Int) (S Q qa : Nat → Int → Int) (tp : Nat → Nat) (s bo e uc lr nx : Int → Int) (m : Int) (d : Int) (hrm : -2147483648 ≤ m ∧ m < 2147483648) (hrd : -2147483648 ≤ d ∧ d < 2147483648) (SL : List Int) (hTB : TB s) (hN : NM s) (hM : GM s) (hP : PL s) (hCH : CHP Q qa s SL) (hT : TI s) (hZ : ZU s) (h0 : 0 ≤ s 0 ∧ s 0 ≤ 1000000) : CT l D A yX11_cut cX11_cut 4 (some .int) { frames := 5, cells := 0, slots := 0, locals := 121 } [.ref (ad 0), vI m, vI d] (CW D A ad K (uS S 0 s) Q qa tp bo e uc lr nx) (fun _ : Unit => some (vI (a_cut s SL m d))) (fun _ => True) (fun _ => CW D A ad K (uS S 0 (f_cut s SL m d)) Q qa tp bo e uc lr nx) := by
  refine ct_of (lo0 := [(0, .ref (ad 0)), (1, vI m), (2, vI d)]) (by decide) (Nat.le_of_ble_eq_true rfl) rfl ?_
  intro G hG hR
  have hN9 : 0 ≤ s 43 ∧ s 43 ≤ 8 := hN
  obtain ⟨hhc, hpls, hwe, hmd⟩ := id hCH
  have hwr := q_wear_rng hP
  have hT2 : 0 ≤ s 2 ∧ s 2 ≤ 99 := hT
  refine v_aload_n hG dX11_cut_0 rfl 0 rfl ?_
  refine cg11 hG dX11_cut_1 zf_X11_17 (k := 0) (by decide) (v := .ref (kB ad 0)) rfl ?_
  refine v_iload_n hG dX11_cut_4 rfl 1 rfl ?_
  by_cases c1 : 0 ≤ m ∧ m ≤ s 43 - 1
  · skip
    refine v_callV (k1' := 0) (k2' := 0) hG dX11_cut_5 zc_X0_markAt ⟨zl_X11_99, zi_X0_markAt, zs_X0_markAt⟩ (fun l => kc0_markAt_in l D A ad K S Q qa tp s bo e uc lr nx 0 (by decide) m (by assumption) (by first | exact c1 | (simp only [sU_at]; omega) | omega)) rfl (cR0 (by decide)) (fun _ h => h) ⟨by decide, by decide⟩ rfl rfl ⟨by decide, by decide⟩ (rest := []) rfl (Nat.le_of_ble_eq_true rfl) (fun u2 => [.ref (kM ad 0 m)]) (fun _ => rfl) (fun u2 hu2 => ?_)
    refine v_astore_n (lo' := [(3, .ref (kM ad 0 m)), (0, .ref (ad 0)), (1, vI m), (2, vI d)]) hG dX11_cut_8 rfl (by decide) rfl ?_
    refine v_aload_n hG dX11_cut_9 rfl 0 rfl ?_
    refine v_ifnonnull (tgt := 15) hG dX11_cut_10 (by decide) ?_
    refine v_iload_n hG dX11_cut_15 rfl 3 rfl ?_
    refine v_iconst hG dX11_cut_16 ?_
    refine v_bipush hG dX11_cut_17 (by decide) ?_
    refine v_callS (k1' := 0) (k2' := 0) hG dX11_cut_19 zc_X11_within ⟨zl_X11_50, zt_X11_within⟩ (fun l => kc11_within l D A (CW D A ad K (uS S 0 s) Q qa tp bo e uc lr nx) d 0 99 (by omega) (by omega) (by omega)) rfl (fun _ h => h) ⟨by decide, by decide⟩ rfl rfl ⟨by decide, by decide⟩ (rest := []) rfl (Nat.le_of_ble_eq_true rfl) (fun u3 => [vI (bi (0 ≤ d ∧ d ≤ 99))]) (fun _ => rfl) (fun u3 hu3 => ?_)
    refine v_ifb_ne (p := 0 ≤ d ∧ d ≤ 99) (tgt := 28) hG dX11_cut_22 (by decide) (fun c4 => ?_) (fun c4 => ?_)
    · skip
      refine v_aload_n hG dX11_cut_28 rfl 0 rfl ?_
      refine cgM (by decide) (by omega) (by omega) hG dX11_cut_29 zf_X11_117 (k := 5) (by decide) (v := vI (bi (s (11 + m) = 1))) (congrArg (fun z => some (vI z)) ((bi01 (by first | assumption | exact (hM _ (by omega) (by omega)).2.2.2.2.1)))) ?_
      refine v_ifb_ne (p := s (11 + m) = 1) (tgt := 47) hG dX11_cut_32 (by decide) (fun c5 => ?_) (fun c5 => ?_)
      · skip
        refine v_bipush hG dX11_cut_47 (by decide) ?_
        have e6 : s = f_cut s SL m d := by first | rfl | (unfold f_cut; (repeat' split) <;> first | rfl | omega | (exfalso; omega) | (congr 1; omega))
        have e7 : @Eq Int (a_cut s SL m d) (-3) := by first | rfl | (unfold a_cut; (repeat' split) <;> first | rfl | omega | (exfalso; omega) | (congr 1; omega))
        exact v_ireturn hG hR dX11_cut_49 () (congrArg (fun z => some (vI z)) e7) (by trivial) (fun _ hM => by rw [← e6]; exact hM)
      · skip
        refine v_aload_n hG dX11_cut_35 rfl 1 rfl ?_
        refine cg11 hG dX11_cut_36 zf_X11_17 (k := 0) (by decide) (v := .ref (kB ad 0)) rfl ?_
        refine cg0 (by decide) hG dX11_cut_39 zf_X11_149 (k := 0) (by decide) (v := vI (s 0)) rfl ?_
        refine v_ldc (n := 99000) hG dX11_cut_42 (ztb 649 (by decide +kernel) (by decide +kernel)) rfl ?_
        refine v_icmp_le (tgt := 50) hG dX11_cut_44 (by decide) (by omega) (by omega) (fun c8 => ?_) (fun c8 => ?_)
        · skip
          have hm := hM m (by omega) (by omega)
          have hzu := hZ m (by omega) (by omega) (by assumption)
          refine v_aload_n hG dX11_cut_50 rfl 1 rfl ?_
          refine cg11 hG dX11_cut_51 zf_X11_17 (k := 0) (by decide) (v := .ref (kB ad 0)) rfl ?_
          refine v_aload_n hG dX11_cut_54 rfl 0 rfl ?_
          refine v_iload_n hG dX11_cut_55 rfl 3 rfl ?_
          refine v_callV (k1' := 0) (k2' := 0) hG dX11_cut_56 zc_X0_cutMark ⟨zl_X11_162, zi_X0_cutMark, zs_X0_cutMark⟩ (fun l => kc0_cutMark l D A ad K S Q qa tp s bo e uc lr nx 0 (by decide) m d SL (by assumption) (by omega) (by first | assumption | omega) (by first | assumption | exact hM _ (by omega) (by omega)) (by assumption) (by assumption) (by assumption) (by omega) (by exact hzu.2)) rfl (cR0 (by decide)) (fun _ h => h) ⟨by decide, by decide⟩ rfl rfl ⟨by decide, by decide⟩ (rest := []) rfl (Nat.le_of_ble_eq_true rfl) (fun u9 => []) (fun _ => rfl) (fun u9 hu9 => ?_)
          have e43 := p_cut_lo (s := s) (f := flawF (s (50 + m)) (q_risk s SL m (s 2)) d) (m := m) (by omega) 43 (by omega)
          refine v_aload_n hG dX11_cut_59 rfl 0 rfl ?_
          refine cgM (by decide) (by omega) (by omega) hG dX11_cut_60 zf_X11_121 (k := 6) (by decide) (v := vI ((p_cut s (flawF (s (50 + m)) (q_risk s SL m (s 2)) d) m) (19 + m))) rfl ?_
          have e10 : p_cut s (flawF (s (50 + m)) (q_risk s SL m (s 2)) d) m = f_cut s SL m d := by first | rfl | (unfold f_cut; (repeat' split) <;> first | rfl | omega | (exfalso; omega) | (congr 1; omega))
          have e11 : @Eq Int (a_cut s SL m d) ((p_cut s (flawF (s (50 + m)) (q_risk s SL m (s 2)) d) m) (19 + m)) := by first | rfl | (unfold a_cut; (repeat' split) <;> first | rfl | omega | (exfalso; omega) | (congr 1; omega))
          exact v_ireturn hG hR dX11_cut_63 () (congrArg (fun z => some (vI z)) e11) (by trivial) (fun _ hM => by rw [← e10]; exact hM)
        · skip
          refine v_bipush hG dX11_cut_47 (by decide) ?_
          have e12 : s = f_cut s SL m d := by first | rfl | (unfold f_cut; (repeat' split) <;> first | rfl | omega | (exfalso; omega) | (congr 1; omega))
          have e13 : @Eq Int (a_cut s SL m d) (-3) := by first | rfl | (unfold a_cut; (repeat' split) <;> first | rfl | omega | (exfalso; omega) | (congr 1; omega))
          exact v_ireturn hG hR dX11_cut_49 () (congrArg (fun z => some (vI z)) e13) (by trivial) (fun _ hM => by rw [← e12]; exact hM)
    · skip
      refine v_bipush hG dX11_cut_25 (by decide) ?_
      have e14 : s = f_cut s SL m d := by first | rfl | (unfold f_cut; (repeat' split) <;> first | rfl | omega | (exfalso; omega) | (congr 1; omega))
      have e15 : @Eq Int (a_cut s SL m d) (-2) := by first | rfl | (unfold a_cut; (repeat' split) <;> first | rfl | omega | (exfalso; omega) | (congr 1; omega))
      exact v_ireturn hG hR dX11_cut_27 () (congrArg (fun z => some (vI z)) e15) (by trivial) (fun _ hM => by rw [← e14]; exact hM)
  · skip
    refine v_callV (k1' := 0) (k2' := 0) hG dX11_cut_5 zc_X0_markAt ⟨zl_X11_99, zi_X0_markAt, zs_X0_markAt⟩ (fun l => kc0_markAt_out l D A ad K S Q qa tp s bo e uc lr nx 0 (by decide) m (by assumption) (by omega) (by first | exact c1 | (simp only [sU_at]; omega) | omega)) rfl (cR0 (by decide)) (fun _ h => h) ⟨by decide, by decide⟩ rfl rfl ⟨by decide, by decide⟩ (rest := []) rfl (Nat.le_of_ble_eq_true rfl) (fun u16 => [.null]) (fun _ => rfl) (fun u16 hu16 => ?_)
    refine v_astoreN_n (lo' := [(3, .null), (0, .ref (ad 0)), (1, vI m), (2, vI d)]) hG dX11_cut_8 rfl (by decide) rfl ?_
    refine v_aloadN_n hG dX11_cut_9 rfl 0 rfl ?_
    refine v_ifnonnullN hG dX11_cut_10 ?_
    refine v_iconst hG dX11_cut_13 ?_
    have e17 : s = f_cut s SL m d := by first | rfl | (unfold f_cut; (repeat' split) <;> first | rfl | omega | (exfalso; omega) | (congr 1; omega))
    have e18 : @Eq Int (a_cut s SL m d) (-1) := by first | rfl | (unfold a_cut; (repeat' split) <;> first | rfl | omega | (exfalso; omega) | (congr 1; omega))
    exact v_ireturn hG hR dX11_cut_14 () (congrArg (fun z => some (vI z)) e18) (by trivial) (fun _ hM => by rw [← e17]; exact hM)
set_option maxHeartbeats 4000000 in
set_option maxRecDepth 100000 in
theorem kc11_rest (l : Launch) (D : Dx) (A : Nat → Prop) (ad : Nat → Nat) (K : Int → Int) (S Q qa : Nat → Int → Int) (tp : Nat → Nat) (s bo e uc lr nx : Int → Int) (n : Int) (hrn : -2147483648 ≤ n ∧ n < 2147483648) (hTB : TB s) (hT : TI s) (h0 : 0 ≤ s 0 ∧ s 0 ≤ 1000000) : CT l D A yX11_rest cX11_rest 2 (some .int) { frames := 3, cells := 0, slots := 0, locals := 63 } [.ref (ad 0), vI n] (CW D A ad K (uS S 0 s) Q qa tp bo e uc lr nx) (fun _ : Unit => some (vI (a_rest s n))) (fun _ => True) (fun _ => CW D A ad K (uS S 0 (f_rest s n)) Q qa tp bo e uc lr nx) := by
  refine ct_of (lo0 := [(0, .ref (ad 0)), (1, vI n)]) (by decide) (Nat.le_of_ble_eq_true rfl) rfl ?_
  intro G hG hR
  have hT2 : 0 ≤ s 2 ∧ s 2 ≤ 99 := hT
  refine v_iload_n hG dX11_rest_0 rfl 1 rfl ?_
  refine v_iconst hG dX11_rest_1 ?_
  refine v_bipush hG dX11_rest_2 (by decide) ?_
  refine v_callS (k1' := 0) (k2' := 0) hG dX11_rest_4 zc_X11_within ⟨zl_X11_50, zt_X11_within⟩ (fun l => kc11_within l D A (CW D A ad K (uS S 0 s) Q qa tp bo e uc lr nx) n 0 60 (by omega) (by omega) (by omega)) rfl (fun _ h => h) ⟨by decide, by decide⟩ rfl rfl ⟨by decide, by decide⟩ (rest := []) rfl (Nat.le_of_ble_eq_true rfl) (fun u1 => [vI (bi (0 ≤ n ∧ n ≤ 60))]) (fun _ => rfl) (fun u1 hu1 => ?_)
  refine v_ifb_ne (p := 0 ≤ n ∧ n ≤ 60) (tgt := 13) hG dX11_rest_7 (by decide) (fun c2 => ?_) (fun c2 => ?_)
  · skip
    refine v_aload_n hG dX11_rest_13 rfl 0 rfl ?_
    refine cg11 hG dX11_rest_14 zf_X11_17 (k := 0) (by decide) (v := .ref (kB ad 0)) rfl ?_
    refine cg0 (by decide) hG dX11_rest_17 zf_X11_149 (k := 0) (by decide) (v := vI (s 0)) rfl ?_
    refine v_ldc (n := 99000) hG dX11_rest_20 (ztb 649 (by decide +kernel) (by decide +kernel)) rfl ?_
    refine v_icmp_le (tgt := 28) hG dX11_rest_22 (by decide) (by omega) (by omega) (fun c3 => ?_) (fun c3 => ?_)
    · skip
      refine v_aload_n hG dX11_rest_28 rfl 0 rfl ?_
      refine cg11 hG dX11_rest_29 zf_X11_17 (k := 0) (by decide) (v := .ref (kB ad 0)) rfl ?_
      refine v_iload_n hG dX11_rest_32 rfl 1 rfl ?_
      refine v_callV (k1' := 0) (k2' := 0) hG dX11_rest_33 zc_X0_restFor ⟨zl_X11_166, zi_X0_restFor, zs_X0_restFor⟩ (fun l => kc0_restFor l D A ad K S Q qa tp s bo e uc lr nx 0 (by decide) n (by assumption) (by assumption) (by omega)) rfl (cR0 (by decide)) (fun _ h => h) ⟨by decide, by decide⟩ rfl rfl ⟨by decide, by decide⟩ (rest := []) rfl (Nat.le_of_ble_eq_true rfl) (fun u4 => []) (fun _ => rfl) (fun u4 hu4 => ?_)
      refine v_aload_n hG dX11_rest_36 rfl 0 rfl ?_
      refine cg11 hG dX11_rest_37 zf_X11_17 (k := 0) (by decide) (v := .ref (kB ad 0)) rfl ?_
      refine cg0 (by decide) hG dX11_rest_40 zf_X11_130 (k := 2) (by decide) (v := vI ((p_rest s n) 2)) rfl ?_
      have e5 : p_rest s n = f_rest s n := by first | rfl | (unfold f_rest; (repeat' split) <;> first | rfl | omega | (exfalso; omega) | (congr 1; omega))
      have e6 : @Eq Int (a_rest s n) ((p_rest s n) 2) := by first | rfl | (unfold a_rest; (repeat' split) <;> first | rfl | omega | (exfalso; omega) | (congr 1; omega))
      exact v_ireturn hG hR dX11_rest_43 () (congrArg (fun z => some (vI z)) e6) (by trivial) (fun _ hM => by rw [← e5]; exact hM)
    · skip
      refine v_bipush hG dX11_rest_25 (by decide) ?_
      have e7 : s = f_rest s n := by first | rfl | (unfold f_rest; (repeat' split) <;> first | rfl | omega | (exfalso; omega) | (congr 1; omega))
      have e8 : @Eq Int (a_rest s n) (-3) := by first | rfl | (unfold a_rest; (repeat' split) <;> first | rfl | omega | (exfalso; omega) | (congr 1; omega))
      exact v_ireturn hG hR dX11_rest_27 () (congrArg (fun z => some (vI z)) e8) (by trivial) (fun _ hM => by rw [← e7]; exact hM)
  · skip
    refine v_bipush hG dX11_rest_10 (by decide) ?_
    have e9 : s = f_rest s n := by first | rfl | (unfold f_rest; (repeat' split) <;> first | rfl | omega | (exfalso; omega) | (congr 1; omega))
    have e10 : @Eq Int (a_rest s n) (-2) := by first | rfl | (unfold a_rest; (repeat' split) <;> first | rfl | omega | (exfalso; omega) | (congr 1; omega))
    exact v_ireturn hG hR dX11_rest_12 () (congrArg (fun z => some (vI z)) e10) (by trivial) (fun _ hM => by rw [← e9]; exact hM)
set_option maxHeartbeats 4000000 in
set_option maxRecDepth 100000 in
theorem kc11_mend (l : Launch) (D : Dx) (A : Nat → Prop) (ad : Nat → Nat) (K : Int → Int) (S Q qa : Nat → Int → Int) (tp : Nat → Nat) (s bo e uc lr nx : Int → Int) (m : Int) (hrm : -2147483648 ≤ m ∧ m < 2147483648) (SL : List Int) (hTB : TB s) (hN : NM s) (hM : GM s) (hP : PL s) (hCH : CHP Q qa s SL) (hT : TI s) (h0 : 0 ≤ s 0 ∧ s 0 ≤ 1000000) : CT l D A yX11_mend cX11_mend 3 (some .int) { frames := 5, cells := 0, slots := 0, locals := 112 } [.ref (ad 0), vI m] (CW D A ad K (uS S 0 s) Q qa tp bo e uc lr nx) (fun _ : Unit => some (vI (a_mend s m))) (fun _ => True) (fun _ => CW D A ad K (uS S 0 (f_mend s m)) Q qa tp bo e uc lr nx) := by
  refine ct_of (lo0 := [(0, .ref (ad 0)), (1, vI m)]) (by decide) (Nat.le_of_ble_eq_true rfl) rfl ?_
  intro G hG hR
  have hN9 : 0 ≤ s 43 ∧ s 43 ≤ 8 := hN
  obtain ⟨hhc, hpls, hwe, hmd⟩ := id hCH
  have hwr := q_wear_rng hP
  have hT2 : 0 ≤ s 2 ∧ s 2 ≤ 99 := hT
  refine v_aload_n hG dX11_mend_0 rfl 0 rfl ?_
  refine cg11 hG dX11_mend_1 zf_X11_17 (k := 0) (by decide) (v := .ref (kB ad 0)) rfl ?_
  refine v_iload_n hG dX11_mend_4 rfl 1 rfl ?_
  by_cases c1 : 0 ≤ m ∧ m ≤ s 43 - 1
  · skip
    refine v_callV (k1' := 0) (k2' := 0) hG dX11_mend_5 zc_X0_markAt ⟨zl_X11_99, zi_X0_markAt, zs_X0_markAt⟩ (fun l => kc0_markAt_in l D A ad K S Q qa tp s bo e uc lr nx 0 (by decide) m (by assumption) (by first | exact c1 | (simp only [sU_at]; omega) | omega)) rfl (cR0 (by decide)) (fun _ h => h) ⟨by decide, by decide⟩ rfl rfl ⟨by decide, by decide⟩ (rest := []) rfl (Nat.le_of_ble_eq_true rfl) (fun u2 => [.ref (kM ad 0 m)]) (fun _ => rfl) (fun u2 hu2 => ?_)
    refine v_astore_n (lo' := [(2, .ref (kM ad 0 m)), (0, .ref (ad 0)), (1, vI m)]) hG dX11_mend_8 rfl (by decide) rfl ?_
    refine v_aload_n hG dX11_mend_9 rfl 0 rfl ?_
    refine v_ifnonnull (tgt := 15) hG dX11_mend_10 (by decide) ?_
    have hm := hM m (by omega) (by omega)
    have hm8 := hm.2.2.2.2.2.2.2.1
    refine v_aload_n hG dX11_mend_15 rfl 0 rfl ?_
    refine cgM (by decide) (by omega) (by omega) hG dX11_mend_16 zf_X11_117 (k := 5) (by decide) (v := vI (bi (s (11 + m) = 1))) (congrArg (fun z => some (vI z)) ((bi01 (by first | assumption | exact (hM _ (by omega) (by omega)).2.2.2.2.1)))) ?_
    refine v_ifb_eq (p := s (11 + m) = 1) (tgt := 43) hG dX11_mend_19 (by decide) (fun c3 => ?_) (fun c3 => ?_)
    · skip
      refine v_bipush hG dX11_mend_43 (by decide) ?_
      have e4 : s = f_mend s m := by first | rfl | (unfold f_mend; (repeat' split) <;> first | rfl | omega | (exfalso; omega) | (congr 1; omega))
      have e5 : @Eq Int (a_mend s m) (-3) := by first | rfl | (unfold a_mend; (repeat' split) <;> first | rfl | omega | (exfalso; omega) | (congr 1; omega))
      exact v_ireturn hG hR dX11_mend_45 () (congrArg (fun z => some (vI z)) e5) (by trivial) (fun _ hM => by rw [← e4]; exact hM)
    · skip
      refine v_aload_n hG dX11_mend_22 rfl 0 rfl ?_
      refine cgM (by decide) (by omega) (by omega) hG dX11_mend_23 zf_X11_127 (k := 8) (by decide) (v := vI (s (35 + m))) rfl ?_
      refine v_bipush hG dX11_mend_26 (by decide) ?_
      refine v_icmp_ge (tgt := 43) hG dX11_mend_28 (by decide) (by omega) (by omega) (fun c6 => ?_) (fun c6 => ?_)
      · skip
        refine v_bipush hG dX11_mend_43 (by decide) ?_
        have e7 : s = f_mend s m := by first | rfl | (unfold f_mend; (repeat' split) <;> first | rfl | omega | (exfalso; omega) | (congr 1; omega))
        have e8 : @Eq Int (a_mend s m) (-3) := by first | rfl | (unfold a_mend; (repeat' split) <;> first | rfl | omega | (exfalso; omega) | (congr 1; omega))
        exact v_ireturn hG hR dX11_mend_45 () (congrArg (fun z => some (vI z)) e8) (by trivial) (fun _ hM => by rw [← e7]; exact hM)
      · skip
        refine v_aload_n hG dX11_mend_31 rfl 1 rfl ?_
        refine cg11 hG dX11_mend_32 zf_X11_17 (k := 0) (by decide) (v := .ref (kB ad 0)) rfl ?_
        refine cg0 (by decide) hG dX11_mend_35 zf_X11_149 (k := 0) (by decide) (v := vI (s 0)) rfl ?_
        refine v_ldc (n := 99000) hG dX11_mend_38 (ztb 649 (by decide +kernel) (by decide +kernel)) rfl ?_
        refine v_icmp_le (tgt := 46) hG dX11_mend_40 (by decide) (by omega) (by omega) (fun c9 => ?_) (fun c9 => ?_)
        · skip
          refine v_aload_n hG dX11_mend_46 rfl 1 rfl ?_
          refine cg11 hG dX11_mend_47 zf_X11_17 (k := 0) (by decide) (v := .ref (kB ad 0)) rfl ?_
          refine v_aload_n hG dX11_mend_50 rfl 0 rfl ?_
          refine v_callV (k1' := 0) (k2' := 0) hG dX11_mend_51 zc_X0_mendMark ⟨zl_X11_170, zi_X0_mendMark, zs_X0_mendMark⟩ (fun l => kc0_mendMark l D A ad K S Q qa tp s bo e uc lr nx 0 (by decide) m SL (by assumption) (by omega) (by first | assumption | omega) (by first | assumption | exact hM _ (by omega) (by omega)) (by assumption) (by assumption) (by assumption)) rfl (cR0 (by decide)) (fun _ h => h) ⟨by decide, by decide⟩ rfl rfl ⟨by decide, by decide⟩ (rest := []) rfl (Nat.le_of_ble_eq_true rfl) (fun u10 => []) (fun _ => rfl) (fun u10 hu10 => ?_)
          refine v_aload_n hG dX11_mend_54 rfl 1 rfl ?_
          refine cg11 hG dX11_mend_55 zf_X11_17 (k := 0) (by decide) (v := .ref (kB ad 0)) rfl ?_
          refine v_aload_n hG dX11_mend_58 rfl 0 rfl ?_
          refine v_iconst hG dX11_mend_59 ?_
          refine v_callV (k1' := 0) (k2' := 0) hG dX11_mend_60 zc_X0_darkBehind ⟨zl_X11_140, zi_X0_darkBehind, zs_X0_darkBehind⟩ (fun l => kc0_darkBehind l D A ad K S Q qa tp (p_mend s m) bo e uc lr nx 0 (by decide) m 0 SL (by omega) (by rw [p_mend_lo (by omega) 43 (by omega)]; omega) (by exact MK_mend (by omega) (by omega) hm) (by exact lo_PL (p_mend_lo (by omega)) hP) (by exact CHP_lo (p_mend_lo (by omega)) hP hCH) (by omega)) rfl (cR0 (by decide)) (fun _ h => h) ⟨by decide, by decide⟩ rfl rfl ⟨by decide, by decide⟩ (rest := []) rfl (Nat.le_of_ble_eq_true rfl) (fun u11 => [vI (q_dk (p_mend s m) m 0)]) (fun _ => rfl) (fun u11 hu11 => ?_)
          have fu11 : 0 ≤ q_dk (p_mend s m) m 0 ∧ q_dk (p_mend s m) m 0 ≤ 30 := hu11
          have e12 : p_mend s m = f_mend s m := by first | rfl | (unfold f_mend; (repeat' split) <;> first | rfl | omega | (exfalso; omega) | (congr 1; omega))
          have e13 : @Eq Int (a_mend s m) (q_dk (p_mend s m) m 0) := by first | rfl | (unfold a_mend; (repeat' split) <;> first | rfl | omega | (exfalso; omega) | (congr 1; omega))
          exact v_ireturn hG hR dX11_mend_63 () (congrArg (fun z => some (vI z)) e13) (by trivial) (fun _ hM => by rw [← e12]; exact hM)
        · skip
          refine v_bipush hG dX11_mend_43 (by decide) ?_
          have e14 : s = f_mend s m := by first | rfl | (unfold f_mend; (repeat' split) <;> first | rfl | omega | (exfalso; omega) | (congr 1; omega))
          have e15 : @Eq Int (a_mend s m) (-3) := by first | rfl | (unfold a_mend; (repeat' split) <;> first | rfl | omega | (exfalso; omega) | (congr 1; omega))
          exact v_ireturn hG hR dX11_mend_45 () (congrArg (fun z => some (vI z)) e15) (by trivial) (fun _ hM => by rw [← e14]; exact hM)
  · skip
    refine v_callV (k1' := 0) (k2' := 0) hG dX11_mend_5 zc_X0_markAt ⟨zl_X11_99, zi_X0_markAt, zs_X0_markAt⟩ (fun l => kc0_markAt_out l D A ad K S Q qa tp s bo e uc lr nx 0 (by decide) m (by assumption) (by omega) (by first | exact c1 | (simp only [sU_at]; omega) | omega)) rfl (cR0 (by decide)) (fun _ h => h) ⟨by decide, by decide⟩ rfl rfl ⟨by decide, by decide⟩ (rest := []) rfl (Nat.le_of_ble_eq_true rfl) (fun u16 => [.null]) (fun _ => rfl) (fun u16 hu16 => ?_)
    refine v_astoreN_n (lo' := [(2, .null), (0, .ref (ad 0)), (1, vI m)]) hG dX11_mend_8 rfl (by decide) rfl ?_
    refine v_aloadN_n hG dX11_mend_9 rfl 0 rfl ?_
    refine v_ifnonnullN hG dX11_mend_10 ?_
    refine v_iconst hG dX11_mend_13 ?_
    have e17 : s = f_mend s m := by first | rfl | (unfold f_mend; (repeat' split) <;> first | rfl | omega | (exfalso; omega) | (congr 1; omega))
    have e18 : @Eq Int (a_mend s m) (-1) := by first | rfl | (unfold a_mend; (repeat' split) <;> first | rfl | omega | (exfalso; omega) | (congr 1; omega))
    exact v_ireturn hG hR dX11_mend_14 () (congrArg (fun z => some (vI z)) e18) (by trivial) (fun _ hM => by rw [← e17]; exact hM)
set_option maxHeartbeats 4000000 in
set_option maxRecDepth 100000 in
theorem kc11_over (l : Launch) (D : Dx) (A : Nat → Prop) (ad : Nat → Nat) (K : Int → Int) (S Q qa : Nat → Int → Int) (tp : Nat → Nat) (s bo e uc lr nx : Int → Int) (m : Int) (hrm : -2147483648 ≤ m ∧ m < 2147483648) (SL : List Int) (hTB : TB s) (hN : NM s) (hM : GM s) (hP : PL s) (hCH : CHP Q qa s SL) (hT : TI s) (h0 : 0 ≤ s 0 ∧ s 0 ≤ 1000000) : CT l D A yX11_over cX11_over 3 (some .int) { frames := 5, cells := 0, slots := 0, locals := 112 } [.ref (ad 0), vI m] (CW D A ad K (uS S 0 s) Q qa tp bo e uc lr nx) (fun _ : Unit => some (vI (a_over s m))) (fun _ => True) (fun _ => CW D A ad K (uS S 0 (f_over s m)) Q qa tp bo e uc lr nx) := by
  refine ct_of (lo0 := [(0, .ref (ad 0)), (1, vI m)]) (by decide) (Nat.le_of_ble_eq_true rfl) rfl ?_
  intro G hG hR
  have hN9 : 0 ≤ s 43 ∧ s 43 ≤ 8 := hN
  obtain ⟨hhc, hpls, hwe, hmd⟩ := id hCH
  have hwr := q_wear_rng hP
  have hT2 : 0 ≤ s 2 ∧ s 2 ≤ 99 := hT
  refine v_aload_n hG dX11_over_0 rfl 0 rfl ?_
  refine cg11 hG dX11_over_1 zf_X11_17 (k := 0) (by decide) (v := .ref (kB ad 0)) rfl ?_
  refine v_iload_n hG dX11_over_4 rfl 1 rfl ?_
  by_cases c1 : 0 ≤ m ∧ m ≤ s 43 - 1
  · skip
    refine v_callV (k1' := 0) (k2' := 0) hG dX11_over_5 zc_X0_markAt ⟨zl_X11_99, zi_X0_markAt, zs_X0_markAt⟩ (fun l => kc0_markAt_in l D A ad K S Q qa tp s bo e uc lr nx 0 (by decide) m (by assumption) (by first | exact c1 | (simp only [sU_at]; omega) | omega)) rfl (cR0 (by decide)) (fun _ h => h) ⟨by decide, by decide⟩ rfl rfl ⟨by decide, by decide⟩ (rest := []) rfl (Nat.le_of_ble_eq_true rfl) (fun u2 => [.ref (kM ad 0 m)]) (fun _ => rfl) (fun u2 hu2 => ?_)
    refine v_astore_n (lo' := [(2, .ref (kM ad 0 m)), (0, .ref (ad 0)), (1, vI m)]) hG dX11_over_8 rfl (by decide) rfl ?_
    refine v_aload_n hG dX11_over_9 rfl 0 rfl ?_
    refine v_ifnonnull (tgt := 15) hG dX11_over_10 (by decide) ?_
    have hm := hM m (by omega) (by omega)
    refine v_aload_n hG dX11_over_15 rfl 0 rfl ?_
    refine cgM (by decide) (by omega) (by omega) hG dX11_over_16 zf_X11_117 (k := 5) (by decide) (v := vI (bi (s (11 + m) = 1))) (congrArg (fun z => some (vI z)) ((bi01 (by first | assumption | exact (hM _ (by omega) (by omega)).2.2.2.2.1)))) ?_
    refine v_ifb_eq (p := s (11 + m) = 1) (tgt := 34) hG dX11_over_19 (by decide) (fun c3 => ?_) (fun c3 => ?_)
    · skip
      refine v_bipush hG dX11_over_34 (by decide) ?_
      have e4 : s = f_over s m := by first | rfl | (unfold f_over; (repeat' split) <;> first | rfl | omega | (exfalso; omega) | (congr 1; omega))
      have e5 : @Eq Int (a_over s m) (-3) := by first | rfl | (unfold a_over; (repeat' split) <;> first | rfl | omega | (exfalso; omega) | (congr 1; omega))
      exact v_ireturn hG hR dX11_over_36 () (congrArg (fun z => some (vI z)) e5) (by trivial) (fun _ hM => by rw [← e4]; exact hM)
    · skip
      refine v_aload_n hG dX11_over_22 rfl 1 rfl ?_
      refine cg11 hG dX11_over_23 zf_X11_17 (k := 0) (by decide) (v := .ref (kB ad 0)) rfl ?_
      refine cg0 (by decide) hG dX11_over_26 zf_X11_149 (k := 0) (by decide) (v := vI (s 0)) rfl ?_
      refine v_ldc (n := 99000) hG dX11_over_29 (ztb 649 (by decide +kernel) (by decide +kernel)) rfl ?_
      refine v_icmp_le (tgt := 37) hG dX11_over_31 (by decide) (by omega) (by omega) (fun c6 => ?_) (fun c6 => ?_)
      · skip
        refine v_aload_n hG dX11_over_37 rfl 1 rfl ?_
        refine cg11 hG dX11_over_38 zf_X11_17 (k := 0) (by decide) (v := .ref (kB ad 0)) rfl ?_
        refine v_aload_n hG dX11_over_41 rfl 0 rfl ?_
        refine v_callV (k1' := 0) (k2' := 0) hG dX11_over_42 zc_X0_goOver ⟨zl_X11_174, zi_X0_goOver, zs_X0_goOver⟩ (fun l => kc0_goOver l D A ad K S Q qa tp s bo e uc lr nx 0 (by decide) m (by assumption) (by omega) (by first | assumption | omega) (by first | assumption | exact hM _ (by omega) (by omega)) (by assumption)) rfl (cR0 (by decide)) (fun _ h => h) ⟨by decide, by decide⟩ rfl rfl ⟨by decide, by decide⟩ (rest := []) rfl (Nat.le_of_ble_eq_true rfl) (fun u7 => []) (fun _ => rfl) (fun u7 hu7 => ?_)
        refine v_aload_n hG dX11_over_45 rfl 1 rfl ?_
        refine cg11 hG dX11_over_46 zf_X11_17 (k := 0) (by decide) (v := .ref (kB ad 0)) rfl ?_
        refine v_aload_n hG dX11_over_49 rfl 0 rfl ?_
        refine v_iconst hG dX11_over_50 ?_
        refine v_callV (k1' := 0) (k2' := 0) hG dX11_over_51 zc_X0_darkBehind ⟨zl_X11_140, zi_X0_darkBehind, zs_X0_darkBehind⟩ (fun l => kc0_darkBehind l D A ad K S Q qa tp (p_over s m) bo e uc lr nx 0 (by decide) m 0 SL (by omega) (by rw [p_over_lo (by omega) 43 (by omega)]; omega) (by exact MK_over (by omega) (by omega) hm) (by exact lo_PL (p_over_lo (by omega)) hP) (by exact CHP_lo (p_over_lo (by omega)) hP hCH) (by omega)) rfl (cR0 (by decide)) (fun _ h => h) ⟨by decide, by decide⟩ rfl rfl ⟨by decide, by decide⟩ (rest := []) rfl (Nat.le_of_ble_eq_true rfl) (fun u8 => [vI (q_dk (p_over s m) m 0)]) (fun _ => rfl) (fun u8 hu8 => ?_)
        have fu8 : 0 ≤ q_dk (p_over s m) m 0 ∧ q_dk (p_over s m) m 0 ≤ 30 := hu8
        have e9 : p_over s m = f_over s m := by first | rfl | (unfold f_over; (repeat' split) <;> first | rfl | omega | (exfalso; omega) | (congr 1; omega))
        have e10 : @Eq Int (a_over s m) (q_dk (p_over s m) m 0) := by first | rfl | (unfold a_over; (repeat' split) <;> first | rfl | omega | (exfalso; omega) | (congr 1; omega))
        exact v_ireturn hG hR dX11_over_54 () (congrArg (fun z => some (vI z)) e10) (by trivial) (fun _ hM => by rw [← e9]; exact hM)
      · skip
        refine v_bipush hG dX11_over_34 (by decide) ?_
        have e11 : s = f_over s m := by first | rfl | (unfold f_over; (repeat' split) <;> first | rfl | omega | (exfalso; omega) | (congr 1; omega))
        have e12 : @Eq Int (a_over s m) (-3) := by first | rfl | (unfold a_over; (repeat' split) <;> first | rfl | omega | (exfalso; omega) | (congr 1; omega))
        exact v_ireturn hG hR dX11_over_36 () (congrArg (fun z => some (vI z)) e12) (by trivial) (fun _ hM => by rw [← e11]; exact hM)
  · skip
    refine v_callV (k1' := 0) (k2' := 0) hG dX11_over_5 zc_X0_markAt ⟨zl_X11_99, zi_X0_markAt, zs_X0_markAt⟩ (fun l => kc0_markAt_out l D A ad K S Q qa tp s bo e uc lr nx 0 (by decide) m (by assumption) (by omega) (by first | exact c1 | (simp only [sU_at]; omega) | omega)) rfl (cR0 (by decide)) (fun _ h => h) ⟨by decide, by decide⟩ rfl rfl ⟨by decide, by decide⟩ (rest := []) rfl (Nat.le_of_ble_eq_true rfl) (fun u13 => [.null]) (fun _ => rfl) (fun u13 hu13 => ?_)
    refine v_astoreN_n (lo' := [(2, .null), (0, .ref (ad 0)), (1, vI m)]) hG dX11_over_8 rfl (by decide) rfl ?_
    refine v_aloadN_n hG dX11_over_9 rfl 0 rfl ?_
    refine v_ifnonnullN hG dX11_over_10 ?_
    refine v_iconst hG dX11_over_13 ?_
    have e14 : s = f_over s m := by first | rfl | (unfold f_over; (repeat' split) <;> first | rfl | omega | (exfalso; omega) | (congr 1; omega))
    have e15 : @Eq Int (a_over s m) (-1) := by first | rfl | (unfold a_over; (repeat' split) <;> first | rfl | omega | (exfalso; omega) | (congr 1; omega))
    exact v_ireturn hG hR dX11_over_14 () (congrArg (fun z => some (vI z)) e15) (by trivial) (fun _ hM => by rw [← e14]; exact hM)
set_option maxHeartbeats 4000000 in
set_option maxRecDepth 100000 in
theorem kc11_print (l : Launch) (D : Dx) (A : Nat → Prop) (ad : Nat → Nat) (K : Int → Int) (S Q qa : Nat → Int → Int) (tp : Nat → Nat) (s bo e uc lr nx : Int → Int) (n : Int) (hrn : -2147483648 ≤ n ∧ n < 2147483648) (SL : List Int) (hTB : TB s) (hN : NM s) (hM : GM s) (hP : PL s) (hCH : CHP Q qa s SL) (hW : WW s) (h1p : 0 ≤ s 1 ∧ s 1 ≤ 9999) : CT l D A yX11_print cX11_print 2 (some .int) { frames := 6, cells := 0, slots := 0, locals := 135 } [.ref (ad 0), vI n] (CW D A ad K (uS S 0 s) Q qa tp bo e uc lr nx) (fun _ : Unit => some (vI (a_print s n))) (fun _ => True) (fun _ => CW D A ad K (uS S 0 (f_print s n)) Q qa tp bo e uc lr nx) := by
  refine ct_of (lo0 := [(0, .ref (ad 0)), (1, vI n)]) (by decide) (Nat.le_of_ble_eq_true rfl) rfl ?_
  intro G hG hR
  have hN9 : 0 ≤ s 43 ∧ s 43 ≤ 8 := hN
  obtain ⟨hhc, hpls, hwe, hmd⟩ := id hCH
  have hwr := q_wear_rng hP
  refine v_iload_n hG dX11_print_0 rfl 1 rfl ?_
  refine v_iconst hG dX11_print_1 ?_
  refine v_sipush hG dX11_print_2 (by decide) ?_
  refine v_callS (k1' := 0) (k2' := 0) hG dX11_print_5 zc_X11_within ⟨zl_X11_50, zt_X11_within⟩ (fun l => kc11_within l D A (CW D A ad K (uS S 0 s) Q qa tp bo e uc lr nx) n 0 999 (by omega) (by omega) (by omega)) rfl (fun _ h => h) ⟨by decide, by decide⟩ rfl rfl ⟨by decide, by decide⟩ (rest := []) rfl (Nat.le_of_ble_eq_true rfl) (fun u1 => [vI (bi (0 ≤ n ∧ n ≤ 999))]) (fun _ => rfl) (fun u1 hu1 => ?_)
  refine v_ifb_ne (p := 0 ≤ n ∧ n ≤ 999) (tgt := 14) hG dX11_print_8 (by decide) (fun c2 => ?_) (fun c2 => ?_)
  · skip
    refine v_aload_n hG dX11_print_14 rfl 0 rfl ?_
    refine cg11 hG dX11_print_15 zf_X11_17 (k := 0) (by decide) (v := .ref (kB ad 0)) rfl ?_
    refine v_iload_n hG dX11_print_18 rfl 1 rfl ?_
    refine v_sipush hG dX11_print_19 (by decide) ?_
    refine v_callV (k1' := 0) (k2' := 0) hG dX11_print_22 zc_X0_takePrints ⟨zl_X11_177, zi_X0_takePrints, zs_X0_takePrints⟩ (fun l => kc0_takePrints l D A ad K S Q qa tp s bo e uc lr nx 0 (by decide) n 9999 (by assumption) (by assumption) (by assumption) (by omega) (by omega) (by omega)) rfl (cR0 (by decide)) (fun _ h => h) ⟨by decide, by decide⟩ rfl rfl ⟨by decide, by decide⟩ (rest := []) rfl (Nat.le_of_ble_eq_true rfl) (fun u3 => []) (fun _ => rfl) (fun u3 hu3 => ?_)
    rw [take_print hN hM hW h1p (by omega)]
    have hlo : LoEq s (p_print s n) := p_print_lo (by omega)
    have e43 : p_print s n 43 = s 43 := hlo 43 (by omega)
    refine v_aload_n hG dX11_print_25 rfl 0 rfl ?_
    refine cg11 hG dX11_print_26 zf_X11_17 (k := 0) (by decide) (v := .ref (kB ad 0)) rfl ?_
    refine v_iconst hG dX11_print_29 ?_
    refine v_callV (k1' := 0) (k2' := 0) hG dX11_print_30 zc_X0_printing ⟨zl_X11_181, zi_X0_printing, zs_X0_printing⟩ (fun l => kc0_printing l D A ad K S Q qa tp (p_print s n) bo e uc lr nx 0 (by decide) 0 SL (by exact lo_NM hlo hN) (by exact GM_print hN hM hW (by omega)) (by exact lo_PL hlo hP) (by exact CHP_lo hlo hP hCH) (by omega)) rfl (cR0 (by decide)) (fun _ h => h) ⟨by decide, by decide⟩ rfl rfl ⟨by decide, by decide⟩ (rest := []) rfl (Nat.le_of_ble_eq_true rfl) (fun u4 => [vI (bset (prt (p_print s n) 0) ((p_print s n) 43).toNat)]) (fun _ => rfl) (fun u4 hu4 => ?_)
    have fu4 : 0 ≤ bset (prt (p_print s n) 0) ((p_print s n) 43).toNat ∧ bset (prt (p_print s n) 0) ((p_print s n) 43).toNat < 256 := hu4
    refine v_callS (k1' := 0) (k2' := 0) hG dX11_print_33 zc_J6_bitCount_0f7a4 ⟨zl_X11_185, zt_J6_bitCount_0f7a4⟩ (fun l => k_bitCount_0f7a4 l D A (CW D A ad K (uS S 0 (p_print s n)) Q qa tp bo e uc lr nx) (bset (prt (p_print s n) 0) ((p_print s n) 43).toNat) (by omega)) rfl (fun _ h => h) ⟨by decide, by decide⟩ rfl rfl ⟨by decide, by decide⟩ (rest := []) rfl (Nat.le_of_ble_eq_true rfl) (fun u5 => [vI (szF (bset (prt (p_print s n) 0) ((p_print s n) 43).toNat) 8)]) (fun _ => rfl) (fun u5 hu5 => ?_)
    have fu5 : 0 ≤ szF (bset (prt (p_print s n) 0) ((p_print s n) 43).toNat) 8 ∧ szF (bset (prt (p_print s n) 0) ((p_print s n) 43).toNat) 8 ≤ 8 := hu5
    have e6 : p_print s n = f_print s n := by first | rfl | (unfold f_print; (repeat' split) <;> first | rfl | omega | (exfalso; omega) | (congr 1; omega))
    have e7 : @Eq Int (a_print s n) (szF (bset (prt (p_print s n) 0) ((p_print s n) 43).toNat) 8) := by unfold a_print; rw [if_pos (by omega), szB _ (by rw [e43]; omega), e43]
    exact v_ireturn hG hR dX11_print_36 () (congrArg (fun z => some (vI z)) e7) (by trivial) (fun _ hM => by rw [← e6]; exact hM)
  · skip
    refine v_bipush hG dX11_print_11 (by decide) ?_
    have e8 : s = f_print s n := by first | rfl | (unfold f_print; (repeat' split) <;> first | rfl | omega | (exfalso; omega) | (congr 1; omega))
    have e9 : @Eq Int (a_print s n) (-2) := by first | rfl | (unfold a_print; (repeat' split) <;> first | rfl | omega | (exfalso; omega) | (congr 1; omega))
    exact v_ireturn hG hR dX11_print_13 () (congrArg (fun z => some (vI z)) e9) (by trivial) (fun _ hM => by rw [← e8]; exact hM)
set_option maxHeartbeats 4000000 in
set_option maxRecDepth 100000 in
theorem kc11_dark (l : Launch) (D : Dx) (A : Nat → Prop) (ad : Nat → Nat) (K : Int → Int) (S Q qa : Nat → Int → Int) (tp : Nat → Nat) (s bo e uc lr nx : Int → Int) (m : Int) (n : Int) (hrm : -2147483648 ≤ m ∧ m < 2147483648) (hrn : -2147483648 ≤ n ∧ n < 2147483648) (SL : List Int) (hN : NM s) (hM : GM s) (hP : PL s) (hCH : CHP Q qa s SL) : CT l D A yX11_dark cX11_dark 4 (some .int) { frames := 5, cells := 0, slots := 0, locals := 112 } [.ref (ad 0), vI m, vI n] (CW D A ad K (uS S 0 s) Q qa tp bo e uc lr nx) (fun _ : Unit => some (vI (a_dark s m n))) (fun _ => True) (fun _ => CW D A ad K (uS S 0 s) Q qa tp bo e uc lr nx) := by
  refine ct_of (lo0 := [(0, .ref (ad 0)), (1, vI m), (2, vI n)]) (by decide) (Nat.le_of_ble_eq_true rfl) rfl ?_
  intro G hG hR
  have hN9 : 0 ≤ s 43 ∧ s 43 ≤ 8 := hN
  obtain ⟨hhc, hpls, hwe, hmd⟩ := id hCH
  have hwr := q_wear_rng hP
  refine v_aload_n hG dX11_dark_0 rfl 0 rfl ?_
  refine cg11 hG dX11_dark_1 zf_X11_17 (k := 0) (by decide) (v := .ref (kB ad 0)) rfl ?_
  refine v_iload_n hG dX11_dark_4 rfl 1 rfl ?_
  by_cases c1 : 0 ≤ m ∧ m ≤ s 43 - 1
  · skip
    refine v_callV (k1' := 0) (k2' := 0) hG dX11_dark_5 zc_X0_markAt ⟨zl_X11_99, zi_X0_markAt, zs_X0_markAt⟩ (fun l => kc0_markAt_in l D A ad K S Q qa tp s bo e uc lr nx 0 (by decide) m (by assumption) (by first | exact c1 | (simp only [sU_at]; omega) | omega)) rfl (cR0 (by decide)) (fun _ h => h) ⟨by decide, by decide⟩ rfl rfl ⟨by decide, by decide⟩ (rest := []) rfl (Nat.le_of_ble_eq_true rfl) (fun u2 => [.ref (kM ad 0 m)]) (fun _ => rfl) (fun u2 hu2 => ?_)
    refine v_astore_n (lo' := [(3, .ref (kM ad 0 m)), (0, .ref (ad 0)), (1, vI m), (2, vI n)]) hG dX11_dark_8 rfl (by decide) rfl ?_
    refine v_aload_n hG dX11_dark_9 rfl 0 rfl ?_
    refine v_ifnonnull (tgt := 15) hG dX11_dark_10 (by decide) ?_
    refine v_iload_n hG dX11_dark_15 rfl 3 rfl ?_
    refine v_iconst hG dX11_dark_16 ?_
    refine v_sipush hG dX11_dark_17 (by decide) ?_
    refine v_callS (k1' := 0) (k2' := 0) hG dX11_dark_20 zc_X11_within ⟨zl_X11_50, zt_X11_within⟩ (fun l => kc11_within l D A (CW D A ad K (uS S 0 s) Q qa tp bo e uc lr nx) n 0 999 (by omega) (by omega) (by omega)) rfl (fun _ h => h) ⟨by decide, by decide⟩ rfl rfl ⟨by decide, by decide⟩ (rest := []) rfl (Nat.le_of_ble_eq_true rfl) (fun u3 => [vI (bi (0 ≤ n ∧ n ≤ 999))]) (fun _ => rfl) (fun u3 hu3 => ?_)
    refine v_ifb_eq (p := 0 ≤ n ∧ n ≤ 999) (tgt := 38) hG dX11_dark_23 (by decide) (fun c4 => ?_) (fun c4 => ?_)
    · skip
      refine v_bipush hG dX11_dark_38 (by decide) ?_
      have e5 : @Eq Int (a_dark s m n) (-2) := by first | rfl | (unfold a_dark; (repeat' split) <;> first | rfl | omega | (exfalso; omega) | (congr 1; omega))
      exact v_ireturn hG hR dX11_dark_40 () (congrArg (fun z => some (vI z)) e5) (by trivial) (fun _ hM => hM)
    · skip
      refine v_aload_n hG dX11_dark_26 rfl 1 rfl ?_
      refine cg11 hG dX11_dark_27 zf_X11_17 (k := 0) (by decide) (v := .ref (kB ad 0)) rfl ?_
      refine v_aload_n hG dX11_dark_30 rfl 0 rfl ?_
      refine v_iload_n hG dX11_dark_31 rfl 3 rfl ?_
      refine v_callV (k1' := 0) (k2' := 0) hG dX11_dark_32 zc_X0_darkBehind ⟨zl_X11_140, zi_X0_darkBehind, zs_X0_darkBehind⟩ (fun l => kc0_darkBehind l D A ad K S Q qa tp s bo e uc lr nx 0 (by decide) m n SL (by omega) (by first | assumption | omega) (by first | assumption | exact hM _ (by omega) (by omega)) (by assumption) (by assumption) (by omega)) rfl (cR0 (by decide)) (fun _ h => h) ⟨by decide, by decide⟩ rfl rfl ⟨by decide, by decide⟩ (rest := []) rfl (Nat.le_of_ble_eq_true rfl) (fun u6 => [vI (q_dk s m n)]) (fun _ => rfl) (fun u6 hu6 => ?_)
      have fu6 : 0 ≤ q_dk s m n ∧ q_dk s m n ≤ 30 := hu6
      refine v_goto (tgt := 40) hG dX11_dark_35 (by decide) ?_
      have e7 : @Eq Int (a_dark s m n) (q_dk s m n) := by first | rfl | (unfold a_dark; (repeat' split) <;> first | rfl | omega | (exfalso; omega) | (congr 1; omega))
      exact v_ireturn hG hR dX11_dark_40 () (congrArg (fun z => some (vI z)) e7) (by trivial) (fun _ hM => hM)
  · skip
    refine v_callV (k1' := 0) (k2' := 0) hG dX11_dark_5 zc_X0_markAt ⟨zl_X11_99, zi_X0_markAt, zs_X0_markAt⟩ (fun l => kc0_markAt_out l D A ad K S Q qa tp s bo e uc lr nx 0 (by decide) m (by assumption) (by omega) (by first | exact c1 | (simp only [sU_at]; omega) | omega)) rfl (cR0 (by decide)) (fun _ h => h) ⟨by decide, by decide⟩ rfl rfl ⟨by decide, by decide⟩ (rest := []) rfl (Nat.le_of_ble_eq_true rfl) (fun u8 => [.null]) (fun _ => rfl) (fun u8 hu8 => ?_)
    refine v_astoreN_n (lo' := [(3, .null), (0, .ref (ad 0)), (1, vI m), (2, vI n)]) hG dX11_dark_8 rfl (by decide) rfl ?_
    refine v_aloadN_n hG dX11_dark_9 rfl 0 rfl ?_
    refine v_ifnonnullN hG dX11_dark_10 ?_
    refine v_iconst hG dX11_dark_13 ?_
    have e9 : @Eq Int (a_dark s m n) (-1) := by first | rfl | (unfold a_dark; (repeat' split) <;> first | rfl | omega | (exfalso; omega) | (congr 1; omega))
    exact v_ireturn hG hR dX11_dark_14 () (congrArg (fun z => some (vI z)) e9) (by trivial) (fun _ hM => hM)
