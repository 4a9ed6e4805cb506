/-! THE MODEL: fourth walks -/
def a_flaws (s : Int → Int) (SL : List Int) (t : Int) : Int := if 0 ≤ t ∧ t ≤ 1 then q_low (lff s SL (s 43).toNat).2.1 100 t else -9223372036854775808
def a_clean (s : Int → Int) (SL : List Int) (t : Int) : Int := if 0 ≤ t ∧ t ≤ 1 then q_low (lff s SL (s 43).toNat).2.2.1 (lff s SL (s 43).toNat).2.2.2.1 t else -9223372036854775808
def a_mirror (s : Int → Int) (m : Int) : Int := if 0 ≤ m ∧ m ≤ s 43 - 1 then 99 - s (66 + m) else -1
def a_beside (s : Int → Int) (m : Int) : Int := if 0 ≤ m ∧ m ≤ s 43 - 1 then q_bes s m else -1
theorem best_n {i0 : Int} {f : Nat → Int} {k : Nat} (h : f k ≤ (bestF i0 f k).1) : bestF i0 f (k + 1) = bestF i0 f k := if_neg (Int.not_lt.mpr h)
theorem best_y {i0 : Int} {f : Nat → Int} {k : Nat} (h : ¬ f k ≤ (bestF i0 f k).1) : bestF i0 f (k + 1) = (f k, (k : Int)) := if_pos (Int.not_le.mp h)
def croF (s : Int → Int) : Nat → Int := fun k => szF (q_bes s k) 8
theorem croF_rng {s : Int → Int} (hN : NM s) (k : Nat) : -999 ≤ croF s k ∧ croF s k ≤ 999 := by
  have h1 : 0 ≤ q_bes s k ∧ q_bes s k < 256 := bset_8 _ (by unfold NM at hN; omega)
  have := szF_rng (x := q_bes s k) (by omega) 8
  unfold croF
  omega
def a_room (s : Int → Int) (d : Int) : Int := if 1 ≤ d ∧ d ≤ 9 then q_room s d else -2
theorem freeF_t {s : Int → Int} {p d : Int} {k : Nat} (h : ¬ q_apart s k p < d) : freeF s p d k = true := by
  unfold freeF; rw [decide_eq_false h]; rfl
theorem freeF_f {s : Int → Int} {p d : Int} {k : Nat} (h : q_apart s k p < d) : freeF s p d k = false := by
  unfold freeF; rw [decide_eq_true h]; rfl
theorem room_stay {s : Int → Int} {d : Int} {j k : Nat} (h : leastM (roomF s d) j = -1) (h2 : ¬ allM (freeF s j d) k = true) (hk : k ≤ (s 43).toNat) : leastM (roomF s d) (j + 1) = -1 := by
  refine leastM_stay h ?_
  show allM (freeF s j d) (s 43).toNat = false
  cases hc : allM (freeF s j d) (s 43).toNat
  · rfl
  · exact absurd (allM_down hk hc) h2
theorem room_hit {s : Int → Int} {d : Int} {j k : Nat} (hd : 1 ≤ d ∧ d ≤ 9) (h : leastM (roomF s d) j = -1) (h2 : allM (freeF s j d) k = true) (hk : k = (s 43).toNat) (hj : j < 100) : a_room s d = j := by
  subst hk
  unfold a_room q_room
  rw [if_pos hd]
  exact pos_5 h h2 hj
theorem room_none {s : Int → Int} {d : Int} {j : Nat} (hd : 1 ≤ d ∧ d ≤ 9) (h : leastM (roomF s d) j = -1) (hj : j = 100) : a_room s d = -5 := by
  unfold a_room q_room
  rw [if_pos hd]
  exact pos_n h hj
theorem flaw_t {s : Int → Int} {k : Int} (h : s (11 + k) = 1 ∧ 0 < s (19 + k)) : flawed s k = true := by
  unfold flawed; rw [decide_eq_true h.1, decide_eq_true h.2]; rfl
theorem flaw_f {s : Int → Int} {k : Int} (h : ¬ (s (11 + k) = 1 ∧ 0 < s (19 + k))) : flawed s k = false := by
  unfold flawed
  by_cases h1 : s (11 + k) = 1
  · rw [decide_eq_false (p := 0 < s (19 + k)) (fun q => h ⟨h1, q⟩), Bool.and_false]
  · rw [decide_eq_false h1]; rfl
theorem proF_t {s : Int → Int} {e : Int} {k : Nat} (h : s (11 + (k : Int)) = 1 ∧ 0 < s (19 + (k : Int))) (h2 : ¬ q_dk s k 0 + e < 6) : proF s e k = true := by
  unfold proF; rw [flaw_t h, decide_eq_false h2]; rfl
theorem proF_f1 {s : Int → Int} {e : Int} {k : Nat} (h : ¬ (s (11 + (k : Int)) = 1 ∧ 0 < s (19 + (k : Int)))) : proF s e k = false := by
  unfold proF; rw [flaw_f h]; rfl
theorem proF_f2 {s : Int → Int} {e : Int} {k : Nat} (h2 : q_dk s k 0 + e < 6) : proF s e k = false := by
  unfold proF; rw [decide_eq_true h2, Bool.not_true, Bool.and_false]
def a_proof (s : Int → Int) (e : Int) : Int := if 0 ≤ e ∧ e ≤ 9 then q_proof s e else -2
theorem proofs_stay {s : Int → Int} {j k : Nat} (h : leastM (fun e : Nat => decide (q_proof s e = q_flawed s)) j = -1) (h2 : ¬ q_proof s j = bset (fun m => flawed s m) k) (hk : k = (s 43).toNat) : leastM (fun e : Nat => decide (q_proof s e = q_flawed s)) (j + 1) = -1 := by
  subst hk
  exact leastM_stay h (decide_eq_false h2)
theorem proofs_hit {s : Int → Int} {j k : Nat} (h : leastM (fun e : Nat => decide (q_proof s e = q_flawed s)) j = -1) (h2 : q_proof s j = bset (fun m => flawed s m) k) (hk : k = (s 43).toNat) (hj : j < 10) : q_proofs s = j := by
  subst hk
  exact pos_5 h (decide_eq_true h2) hj
theorem bset_same {f : Nat → Bool} {k : Nat} (h : f k = false) : bset f k = bset f (k + 1) := by
  show bset f k = bset f k + (if f k then 2 ^ k else 0)
  rw [h]; simp
theorem menF_t {s : Int → Int} {k : Nat} (h : s (11 + (k : Int)) = 1 ∧ 0 < s (19 + (k : Int))) (h2 : 0 < q_dk (p_mend s k) k 0) : menF s k = true := by
  unfold menF; rw [flaw_t h, decide_eq_true h2]; rfl
theorem menF_f1 {s : Int → Int} {k : Nat} (h : ¬ (s (11 + (k : Int)) = 1 ∧ 0 < s (19 + (k : Int)))) : menF s k = false := by
  unfold menF; rw [flaw_f h]; rfl
theorem menF_f2 {s : Int → Int} {k : Nat} (h2 : ¬ 0 < q_dk (p_mend s k) k 0) : menF s k = false := by
  unfold menF; rw [decide_eq_false h2, Bool.and_false]
def a_worth (s : Int → Int) (m : Int) : Int := if 0 ≤ m ∧ m ≤ s 43 - 1 then (if s (11 + m) = 1 then q_worth s m else -1002) else -1001
set_option maxHeartbeats 4000000 in
set_option maxRecDepth 100000 in
theorem k_flaws (l : Launch) (D : Dx) (A : Nat → Prop) (a : Nat → Nat) (s im fr bY tr ln bl bo g lg : Int → Int) (t : Int) (SL : List Int) (hr : -2147483648 ≤ t ∧ t < 2147483648) (hN : NM s) (hM : GM s) (hE : HE s SL) (hT : TI s) : CT l D A yX12_flaws cX12_flaws 2 (some .long) { frames := 4, cells := 0, slots := 0, locals := 99 } [.ref (a 0), vI t] (MW D A a s im fr bY tr ln bl bo g lg) (fun u : (Int → Int) × (Int → Int) × (Int → Int) => some (vL (a_flaws s SL t))) (fun _ => True) (fun u => MW D A a s im fr u.1 u.2.1 ln bl bo g u.2.2) := by
  refine ct_of (lo0 := [(0, .ref (a 0)), (1, vI t)]) (by decide) (Nat.le_of_ble_eq_true rfl) rfl ?_
  intro G hG hR
  have hN9 : 0 ≤ s 43 ∧ s 43 ≤ 8 := hN
  have hro := lff_rng (SL := SL) hT (s 43).toNat
  obtain ⟨hr1, hr2, hr3, hr4, hr5, -⟩ := id hro
  refine v_iload_n hG dX12_flaws_0 rfl 1 rfl ?_
  refine v_iconst hG dX12_flaws_1 ?_
  refine v_iconst hG dX12_flaws_2 ?_
  refine v_callS (k1' := 0) (k2' := 0) hG dX12_flaws_3 zc_X12_in ⟨zl_X12_41, zt_X12_in⟩ (fun l => k_in l D A (MW D A a s im fr bY tr ln bl bo g lg) t 0 1 (by omega) (by omega) (by omega)) rfl (fun _ h => h) ⟨by decide, by decide⟩ rfl rfl ⟨by decide, by decide⟩ (rest := []) rfl (Nat.le_of_ble_eq_true rfl) (fun u1 => [vI (bi (0 ≤ t ∧ t ≤ 1))]) (fun _ => rfl) (fun u1 hu1 => ?_)
  refine v_ifb_ne (p := 0 ≤ t ∧ t ≤ 1) (tgt := 13) hG dX12_flaws_6 (by decide) (fun c2 => ?_) (fun c2 => ?_)
  · skip
    refine v_aload_n hG dX12_flaws_13 rfl 0 rfl ?_
    refine v_callV (k1' := 0) (k2' := 0) hG dX12_flaws_14 zc_X12_looksForFlaws ⟨zl_X12_231, zi_X12_looksForFlaws, zs_X12_looksForFlaws⟩ (fun l => k_looksForFlaws l D A a s im fr bY tr ln bl bo g lg SL (by assumption) (by assumption) (by assumption) (by assumption)) rfl mw_recv (fun _ h => h) ⟨by decide, by decide⟩ rfl rfl ⟨by decide, by decide⟩ (rest := []) rfl (Nat.le_of_ble_eq_true rfl) (fun u3 => []) (fun _ => rfl) (fun u3 hu3 => ?_)
    refine v_aload_n hG dX12_flaws_17 rfl 0 rfl ?_
    refine mg_risks (z := (lff s SL (s 43).toNat).2.1) hG dX12_flaws_18 rfl ?_
    refine v_ldc2 (n := 100) hG dX12_flaws_21 (ztb 1375 (by decide +kernel) (by decide +kernel)) rfl ?_
    refine v_iload_n hG dX12_flaws_24 rfl 1 rfl ?_
    refine v_callS (k1' := 0) (k2' := 0) hG dX12_flaws_25 zc_X12_lowest ⟨zl_X12_234, zt_X12_lowest⟩ (fun l => k_lowest l D A (MW D A a s im fr u3.1 u3.2 ln bl bo g (sU (sU (sU lg 0 (lff s SL (s 43).toNat).2.1) 1 (lff s SL (s 43).toNat).2.2.1) 2 (lff s SL (s 43).toNat).2.2.2.1)) ((lff s SL (s 43).toNat).2.1) 100 t (by omega) (by omega) (by omega)) rfl (fun _ h => h) ⟨by decide, by decide⟩ rfl rfl ⟨by decide, by decide⟩ (rest := []) rfl (Nat.le_of_ble_eq_true rfl) (fun u4 => [vL (q_low ((lff s SL (s 43).toNat).2.1) 100 t)]) (fun _ => rfl) (fun u4 hu4 => ?_)
    have e5 : @Eq Int (a_flaws s SL t) (q_low ((lff s SL (s 43).toNat).2.1) 100 t) := by first | rfl | (simp only [a_flaws, if_pos c2]; done) | (simp only [a_flaws, if_pos c2]; done) | (simp only [a_flaws, if_pos c2]; rfl) | (simp only [a_flaws, if_pos c2]; omega)
    exact v_lreturn hG hR dX12_flaws_28 (u3.1, u3.2, sU (sU (sU lg 0 (lff s SL (s 43).toNat).2.1) 1 (lff s SL (s 43).toNat).2.2.1) 2 (lff s SL (s 43).toNat).2.2.2.1) (congrArg (fun z => some (vL z)) e5) (by trivial) (fun _ hM => hM)
  · skip
    refine v_ldc2 (n := -9223372036854775808) hG dX12_flaws_9 (ztb 1370 (by decide +kernel) (by decide +kernel)) rfl ?_
    have e6 : @Eq Int (a_flaws s SL t) (-9223372036854775808) := by first | rfl | (simp only [a_flaws, if_neg c2]; done) | (simp only [a_flaws, if_neg c2]; done) | (simp only [a_flaws, if_neg c2]; rfl) | (simp only [a_flaws, if_neg c2]; omega)
    exact v_lreturn hG hR dX12_flaws_12 (bY, tr, lg) (congrArg (fun z => some (vL z)) e6) (by trivial) (fun _ hM => hM)
set_option maxHeartbeats 4000000 in
set_option maxRecDepth 100000 in
theorem k_clean (l : Launch) (D : Dx) (A : Nat → Prop) (a : Nat → Nat) (s im fr bY tr ln bl bo g lg : Int → Int) (t : Int) (SL : List Int) (hr : -2147483648 ≤ t ∧ t < 2147483648) (hN : NM s) (hM : GM s) (hE : HE s SL) (hT : TI s) : CT l D A yX12_clean cX12_clean 2 (some .long) { frames := 4, cells := 0, slots := 0, locals := 99 } [.ref (a 0), vI t] (MW D A a s im fr bY tr ln bl bo g lg) (fun u : (Int → Int) × (Int → Int) × (Int → Int) => some (vL (a_clean s SL t))) (fun _ => True) (fun u => MW D A a s im fr u.1 u.2.1 ln bl bo g u.2.2) := by
  refine ct_of (lo0 := [(0, .ref (a 0)), (1, vI t)]) (by decide) (Nat.le_of_ble_eq_true rfl) rfl ?_
  intro G hG hR
  have hN9 : 0 ≤ s 43 ∧ s 43 ≤ 8 := hN
  have hro := lff_rng (SL := SL) hT (s 43).toNat
  obtain ⟨hr1, hr2, hr3, hr4, hr5, -⟩ := id hro
  refine v_iload_n hG dX12_clean_0 rfl 1 rfl ?_
  refine v_iconst hG dX12_clean_1 ?_
  refine v_iconst hG dX12_clean_2 ?_
  refine v_callS (k1' := 0) (k2' := 0) hG dX12_clean_3 zc_X12_in ⟨zl_X12_41, zt_X12_in⟩ (fun l => k_in l D A (MW D A a s im fr bY tr ln bl bo g lg) t 0 1 (by omega) (by omega) (by omega)) rfl (fun _ h => h) ⟨by decide, by decide⟩ rfl rfl ⟨by decide, by decide⟩ (rest := []) rfl (Nat.le_of_ble_eq_true rfl) (fun u1 => [vI (bi (0 ≤ t ∧ t ≤ 1))]) (fun _ => rfl) (fun u1 hu1 => ?_)
  refine v_ifb_ne (p := 0 ≤ t ∧ t ≤ 1) (tgt := 13) hG dX12_clean_6 (by decide) (fun c2 => ?_) (fun c2 => ?_)
  · skip
    refine v_aload_n hG dX12_clean_13 rfl 0 rfl ?_
    refine v_callV (k1' := 0) (k2' := 0) hG dX12_clean_14 zc_X12_looksForFlaws ⟨zl_X12_231, zi_X12_looksForFlaws, zs_X12_looksForFlaws⟩ (fun l => k_looksForFlaws l D A a s im fr bY tr ln bl bo g lg SL (by assumption) (by assumption) (by assumption) (by assumption)) rfl mw_recv (fun _ h => h) ⟨by decide, by decide⟩ rfl rfl ⟨by decide, by decide⟩ (rest := []) rfl (Nat.le_of_ble_eq_true rfl) (fun u3 => []) (fun _ => rfl) (fun u3 hu3 => ?_)
    refine v_aload_n hG dX12_clean_17 rfl 0 rfl ?_
    refine mg_cleanWays (z := (lff s SL (s 43).toNat).2.2.1) hG dX12_clean_18 rfl ?_
    refine v_aload_n hG dX12_clean_21 rfl 0 rfl ?_
    refine mg_allWays (z := (lff s SL (s 43).toNat).2.2.2.1) hG dX12_clean_22 rfl ?_
    refine v_iload_n hG dX12_clean_25 rfl 1 rfl ?_
    refine v_callS (k1' := 0) (k2' := 0) hG dX12_clean_26 zc_X12_lowest ⟨zl_X12_234, zt_X12_lowest⟩ (fun l => k_lowest l D A (MW D A a s im fr u3.1 u3.2 ln bl bo g (sU (sU (sU lg 0 (lff s SL (s 43).toNat).2.1) 1 (lff s SL (s 43).toNat).2.2.1) 2 (lff s SL (s 43).toNat).2.2.2.1)) ((lff s SL (s 43).toNat).2.2.1) ((lff s SL (s 43).toNat).2.2.2.1) t (by omega) (by omega) (by omega)) rfl (fun _ h => h) ⟨by decide, by decide⟩ rfl rfl ⟨by decide, by decide⟩ (rest := []) rfl (Nat.le_of_ble_eq_true rfl) (fun u4 => [vL (q_low ((lff s SL (s 43).toNat).2.2.1) ((lff s SL (s 43).toNat).2.2.2.1) t)]) (fun _ => rfl) (fun u4 hu4 => ?_)
    have e5 : @Eq Int (a_clean s SL t) (q_low ((lff s SL (s 43).toNat).2.2.1) ((lff s SL (s 43).toNat).2.2.2.1) t) := by first | rfl | (simp only [a_clean, if_pos c2]; done) | (simp only [a_clean, if_pos c2]; done) | (simp only [a_clean, if_pos c2]; rfl) | (simp only [a_clean, if_pos c2]; omega)
    exact v_lreturn hG hR dX12_clean_29 (u3.1, u3.2, sU (sU (sU lg 0 (lff s SL (s 43).toNat).2.1) 1 (lff s SL (s 43).toNat).2.2.1) 2 (lff s SL (s 43).toNat).2.2.2.1) (congrArg (fun z => some (vL z)) e5) (by trivial) (fun _ hM => hM)
  · skip
    refine v_ldc2 (n := -9223372036854775808) hG dX12_clean_9 (ztb 1370 (by decide +kernel) (by decide +kernel)) rfl ?_
    have e6 : @Eq Int (a_clean s SL t) (-9223372036854775808) := by first | rfl | (simp only [a_clean, if_neg c2]; done) | (simp only [a_clean, if_neg c2]; done) | (simp only [a_clean, if_neg c2]; rfl) | (simp only [a_clean, if_neg c2]; omega)
    exact v_lreturn hG hR dX12_clean_12 (bY, tr, lg) (congrArg (fun z => some (vL z)) e6) (by trivial) (fun _ hM => hM)
set_option maxHeartbeats 4000000 in
set_option maxRecDepth 100000 in
theorem k_mirror (l : Launch) (D : Dx) (A : Nat → Prop) (a : Nat → Nat) (s im fr bY tr ln bl bo g lg : Int → Int) (m : Int) (hr : -2147483648 ≤ m ∧ m < 2147483648) (hN : NM s) (hM : GM s) : CT l D A yX12_mirror cX12_mirror 2 (some .int) { frames := 2, cells := 0, slots := 0, locals := 43 } [.ref (a 0), vI m] (MW D A a s im fr bY tr ln bl bo g lg) (fun _ : Unit => some (vI (a_mirror s m))) (fun _ => True) (fun _ => MW D A a s im fr bY tr ln bl bo g lg) := by
  refine ct_of (lo0 := [(0, .ref (a 0)), (1, vI m)]) (by decide) (Nat.le_of_ble_eq_true rfl) rfl ?_
  intro G hG hR
  have hN9 : 0 ≤ s 43 ∧ s 43 ≤ 8 := hN
  refine v_aload_n hG dX12_mirror_0 rfl 0 rfl ?_
  refine v_iload_n hG dX12_mirror_1 rfl 1 rfl ?_
  refine v_callV (k1' := 0) (k2' := 0) hG dX12_mirror_2 zc_X12_isMark ⟨zl_X12_150, zi_X12_isMark, zs_X12_isMark⟩ (fun l => k_isMark l D A a s im fr bY tr ln bl bo g lg m (by omega) (by assumption)) rfl mw_recv (fun _ h => h) ⟨by decide, by decide⟩ rfl rfl ⟨by decide, by decide⟩ (rest := []) rfl (Nat.le_of_ble_eq_true rfl) (fun u1 => [vI (bi (0 ≤ m ∧ m ≤ s 43 - 1))]) (fun _ => rfl) (fun u1 hu1 => ?_)
  refine v_ifb_eq (p := 0 ≤ m ∧ m ≤ s 43 - 1) (tgt := 23) hG dX12_mirror_5 (by decide) (fun c2 => ?_) (fun c2 => ?_)
  · skip
    refine v_iconst hG dX12_mirror_23 ?_
    have e3 : @Eq Int (a_mirror s m) (-1) := by first | rfl | (simp only [a_mirror, if_neg c2]; done) | (simp only [a_mirror, if_neg c2]; done) | (simp only [a_mirror, if_neg c2]; rfl) | (simp only [a_mirror, if_neg c2]; omega)
    exact v_ireturn hG hR dX12_mirror_24 () (congrArg (fun z => some (vI z)) e3) (by trivial) (fun _ hM => hM)
  · skip
    refine v_bipush hG dX12_mirror_8 (by decide) ?_
    refine v_aload_n hG dX12_mirror_10 rfl 0 rfl ?_
    refine mg_s hG dX12_mirror_11 ?_
    refine v_bipush hG dX12_mirror_14 (by decide) ?_
    refine v_iload_n hG dX12_mirror_16 rfl 1 rfl ?_
    refine v_iadd hG dX12_mirror_17 ?_
    refine ma_s (z := s (66 + m)) hG dX12_mirror_18 (by omega) rfl ?_
    refine v_isub hG dX12_mirror_19 ?_
    refine v_goto (tgt := 24) hG dX12_mirror_20 (by decide) ?_
    have e4 : @Eq Int (a_mirror s m) (99 - (s (66 + m))) := by first | rfl | (simp only [a_mirror, if_pos c2]; done) | (simp only [a_mirror, if_pos c2]; done) | (simp only [a_mirror, if_pos c2]; rfl) | (simp only [a_mirror, if_pos c2]; omega)
    exact v_ireturn hG hR dX12_mirror_24 () (congrArg (fun z => some (vI z)) e4) (by trivial) (fun _ hM => hM)
set_option maxHeartbeats 4000000 in
set_option maxRecDepth 100000 in
theorem k_apart (l : Launch) (D : Dx) (A : Nat → Prop) (a : Nat → Nat) (s im fr bY tr ln bl bo g lg : Int → Int) (m : Int) (p : Int) (h8 : 0 ≤ m ∧ m < 8) (hm : MK s m) (hp : 0 ≤ p ∧ p ≤ 1000) : CT l D A yX12_apart cX12_apart 4 (some .int) { frames := 0, cells := 0, slots := 0, locals := 0 } [.ref (a 0), vI m, vI p] (MW D A a s im fr bY tr ln bl bo g lg) (fun _ : Unit => some (vI (q_apart s m p))) (fun _ => 0 ≤ q_apart s m p ∧ q_apart s m p ≤ 1000) (fun _ => MW D A a s im fr bY tr ln bl bo g lg) := by
  refine ct_of (lo0 := [(0, .ref (a 0)), (1, vI m), (2, vI p)]) (by decide) (Nat.le_of_ble_eq_true rfl) rfl ?_
  intro G hG hR
  have hm3 := hm.2.2.1
  refine v_aload_n hG dX12_apart_0 rfl 0 rfl ?_
  refine mg_s hG dX12_apart_1 ?_
  refine v_bipush hG dX12_apart_4 (by decide) ?_
  refine v_iload_n hG dX12_apart_6 rfl 1 rfl ?_
  refine v_iadd hG dX12_apart_7 ?_
  refine ma_s (z := s (66 + m)) hG dX12_apart_8 (by omega) rfl ?_
  refine v_iload_n hG dX12_apart_9 rfl 2 rfl ?_
  refine v_isub hG dX12_apart_10 ?_
  refine v_istore_n (lo' := [(3, vI ((s (66 + m)) - p)), (0, .ref (a 0)), (1, vI m), (2, vI p)]) hG dX12_apart_11 rfl (by decide) rfl ?_
  refine v_iload_n hG dX12_apart_12 rfl 0 rfl ?_
  refine v_if_ge (tgt := 21) hG dX12_apart_13 (by decide) (by omega) (fun c1 => ?_) (fun c1 => ?_)
  · skip
    refine v_iload_n hG dX12_apart_21 rfl 0 rfl ?_
    have e2 : @Eq Int (q_apart s m p) ((s (66 + m)) - p) := by first | rfl | (simp only [q_apart, if_pos c1]; done) | (simp only [q_apart, if_pos c1]; done) | (simp only [q_apart, if_pos c1]; rfl) | (simp only [q_apart, if_pos c1]; omega)
    exact v_ireturn hG hR dX12_apart_22 () (congrArg (fun z => some (vI z)) e2) (by unfold q_apart; split <;> omega) (fun _ hM => hM)
  · skip
    refine v_iload_n hG dX12_apart_16 rfl 0 rfl ?_
    refine v_ineg hG dX12_apart_17 ?_
    refine v_goto (tgt := 22) hG dX12_apart_18 (by decide) ?_
    have e3 : @Eq Int (q_apart s m p) (-((s (66 + m)) - p)) := by first | rfl | (simp only [q_apart, if_neg c1]; done) | (simp only [q_apart, if_neg c1]; done) | (simp only [q_apart, if_neg c1]; rfl) | (simp only [q_apart, if_neg c1]; omega)
    exact v_ireturn hG hR dX12_apart_22 () (congrArg (fun z => some (vI z)) e3) (by unfold q_apart; split <;> omega) (fun _ hM => hM)
set_option maxHeartbeats 4000000 in
set_option maxRecDepth 100000 in
theorem k_besideOf (l : Launch) (D : Dx) (A : Nat → Prop) (a : Nat → Nat) (s im fr bY tr ln bl bo g lg : Int → Int) (m : Int) (h8 : 0 ≤ m ∧ m < s 43) (hN : NM s) (hM : GM s) : CT l D A yX12_besideOf cX12_besideOf 4 (some .int) { frames := 1, cells := 0, slots := 0, locals := 23 } [.ref (a 0), vI m] (MW D A a s im fr bY tr ln bl bo g lg) (fun _ : Unit => some (vI (q_bes s m))) (fun _ => 0 ≤ q_bes s m ∧ q_bes s m < 256) (fun _ => MW D A a s im fr bY tr ln bl bo g lg) := by
  refine ct_of (lo0 := [(0, .ref (a 0)), (1, vI m)]) (by decide) (Nat.le_of_ble_eq_true rfl) rfl ?_
  intro G hG hR
  have hN9 : 0 ≤ s 43 ∧ s 43 ≤ 8 := hN
  have hp3 := (hM m h8.1 h8.2).2.2.1
  refine v_iconst hG dX12_besideOf_0 ?_
  refine v_istore_n (lo' := [(2, vI 0), (0, .ref (a 0)), (1, vI m)]) hG dX12_besideOf_1 rfl (by decide) rfl ?_
  refine v_iconst hG dX12_besideOf_2 ?_
  refine v_istore_n (lo' := [(3, vI 0), (2, vI 0), (0, .ref (a 0)), (1, vI m)]) hG dX12_besideOf_3 rfl (by decide) rfl ?_
  refine v_lo [2, 3, 1, 0] (lo' := [(0, .ref (a 0)), (1, vI m), (2, vI 0), (3, vI 0)]) rfl ?_
  have L3 : ∀ mz : Nat, ∀ (k : Nat), ((k : Int) ≤ s 43) → (s 43 - (k : Int)).toNat = mz → ∀ x1 : Int, x1 = ((k : Int)) → ∀ x2 : Int, x2 = (bset (besF s m) k) → V G 0 0 (MW D A a s im fr bY tr ln bl bo g lg) 4 [(0, .ref (a 0)), (1, vI m), (2, vI x2), (3, vI x1)] [] := by
    intro dL3
    induction dL3 using Nat.strongRecOn with
    | ind dL3 ihL3 =>
      intro k h4 h5
      intro x1 hx1
      subst hx1
      intro x2 hx2
      subst hx2
      refine v_iload_n hG dX12_besideOf_4 rfl 3 rfl ?_
      refine v_aload_n hG dX12_besideOf_5 rfl 0 rfl ?_
      refine mg_s hG dX12_besideOf_6 ?_
      refine v_bipush hG dX12_besideOf_9 (by decide) ?_
      refine ma_s (z := s 43) hG dX12_besideOf_11 (by omega) rfl ?_
      refine v_icmp_ge (tgt := 54) hG dX12_besideOf_12 (by decide) (by omega) (by omega) (fun c6 => ?_) (fun c6 => ?_)
      · skip
        refine v_iload_n hG dX12_besideOf_54 rfl 2 rfl ?_
        have e7 : @Eq Int (q_bes s m) (bset (besF s m) k) := by unfold q_bes; rw [show k = (s 43).toNat by omega]
        exact v_ireturn hG hR dX12_besideOf_55 () (congrArg (fun z => some (vI z)) e7) (by exact bset_8 _ (by omega)) (fun _ hM => hM)
      · skip
        refine v_iload_n hG dX12_besideOf_15 rfl 2 rfl ?_
        refine v_iload_n hG dX12_besideOf_16 rfl 3 rfl ?_
        refine v_iload_n hG dX12_besideOf_17 rfl 1 rfl ?_
        refine v_icmp_eq (tgt := 45) hG dX12_besideOf_18 (by decide) (by omega) (by omega) (fun c8 => ?_) (fun c8 => ?_)
        · skip
          refine v_iconst hG dX12_besideOf_45 ?_
          refine v_ior hG dX12_besideOf_46 ?_
          refine v_istore_n (lo' := [(2, vI (ior (bset (besF s m) k) 0)), (0, .ref (a 0)), (1, vI m), (3, vI (k : Int))]) hG dX12_besideOf_47 rfl (by decide) rfl ?_
          refine v_iinc (lo' := [(3, vI ((k : Int) + 1)), (2, vI (ior (bset (besF s m) k) 0)), (0, .ref (a 0)), (1, vI m)]) hG dX12_besideOf_48 3 rfl (by decide) rfl ?_
          refine v_goto (tgt := 4) hG dX12_besideOf_51 (by decide) ?_
          refine v_lo [2, 3, 1, 0] (lo' := [(0, .ref (a 0)), (1, vI m), (2, vI (ior (bset (besF s m) k) 0)), (3, vI ((k : Int) + 1))]) rfl ?_
          exact ihL3 _ (by omega) (k + 1) (by omega) rfl _ (by first | omega | rfl | (simp [c6, c8]; done)) _ (by first | exact bset_step (by simp only [besF, decide_eq_false c6, decide_eq_true c8, Bool.not_true, Bool.not_false, Bool.and_true, Bool.true_and, Bool.and_self]) (by omega) | exact bset_stay (by simp only [besF, decide_eq_false c6, decide_eq_true c8, Bool.not_true, Bool.not_false, Bool.and_false, Bool.false_and, Bool.and_self]) (by omega))
        · skip
          refine v_aload_n hG dX12_besideOf_21 rfl 0 rfl ?_
          refine v_iload_n hG dX12_besideOf_22 rfl 3 rfl ?_
          refine v_aload_n hG dX12_besideOf_23 rfl 0 rfl ?_
          refine mg_s hG dX12_besideOf_24 ?_
          refine v_bipush hG dX12_besideOf_27 (by decide) ?_
          refine v_iload_n hG dX12_besideOf_29 rfl 1 rfl ?_
          refine v_iadd hG dX12_besideOf_30 ?_
          refine ma_s (z := s (66 + m)) hG dX12_besideOf_31 (by omega) rfl ?_
          refine v_callV (k1' := 0) (k2' := 0) hG dX12_besideOf_32 zc_X12_apart ⟨zl_X12_238, zi_X12_apart, zs_X12_apart⟩ (fun l => k_apart l D A a s im fr bY tr ln bl bo g lg (k : Int) (s (66 + m)) (by omega) (by first | assumption | (exact hM _ (by omega) (by omega))) (by first | omega | (have := (hM _ (by assumption) (by omega)).2.2.1; omega))) rfl mw_recv (fun _ h => h) ⟨by decide, by decide⟩ rfl rfl ⟨by decide, by decide⟩ (rest := [vI (bset (besF s m) k)]) rfl (Nat.le_of_ble_eq_true rfl) (fun u9 => [vI (q_apart s (k : Int) (s (66 + m))), vI (bset (besF s m) k)]) (fun _ => rfl) (fun u9 hu9 => ?_)
          have fu9 : 0 ≤ q_apart s (k : Int) (s (66 + m)) ∧ q_apart s (k : Int) (s (66 + m)) ≤ 1000 := hu9
          refine v_iconst hG dX12_besideOf_35 ?_
          refine v_icmp_gt (tgt := 45) hG dX12_besideOf_36 (by decide) (by omega) (by omega) (fun c10 => ?_) (fun c10 => ?_)
          · skip
            refine v_iconst hG dX12_besideOf_45 ?_
            refine v_ior hG dX12_besideOf_46 ?_
            refine v_istore_n (lo' := [(2, vI (ior (bset (besF s m) k) 0)), (0, .ref (a 0)), (1, vI m), (3, vI (k : Int))]) hG dX12_besideOf_47 rfl (by decide) rfl ?_
            refine v_iinc (lo' := [(3, vI ((k : Int) + 1)), (2, vI (ior (bset (besF s m) k) 0)), (0, .ref (a 0)), (1, vI m)]) hG dX12_besideOf_48 3 rfl (by decide) rfl ?_
            refine v_goto (tgt := 4) hG dX12_besideOf_51 (by decide) ?_
            refine v_lo [2, 3, 1, 0] (lo' := [(0, .ref (a 0)), (1, vI m), (2, vI (ior (bset (besF s m) k) 0)), (3, vI ((k : Int) + 1))]) rfl ?_
            exact ihL3 _ (by omega) (k + 1) (by omega) rfl _ (by first | omega | rfl | (simp [c6, c8, c10]; done)) _ (by first | exact bset_step (by simp only [besF, decide_eq_false c6, decide_eq_false c8, decide_eq_true c10, Bool.not_true, Bool.not_false, Bool.and_true, Bool.true_and, Bool.and_self]) (by omega) | exact bset_stay (by simp only [besF, decide_eq_false c6, decide_eq_false c8, decide_eq_true c10, Bool.not_true, Bool.not_false, Bool.and_false, Bool.false_and, Bool.and_self]) (by omega))
          · skip
            refine v_iconst hG dX12_besideOf_39 ?_
            refine v_iload_n hG dX12_besideOf_40 rfl 3 rfl ?_
            refine v_ishl hG dX12_besideOf_41 (by omega) ?_
            refine v_goto (tgt := 46) hG dX12_besideOf_42 (by decide) ?_
            refine v_ior hG dX12_besideOf_46 ?_
            refine v_istore_n (lo' := [(2, vI (ior (bset (besF s m) k) (1 * 2 ^ (k : Int).toNat))), (0, .ref (a 0)), (1, vI m), (3, vI (k : Int))]) hG dX12_besideOf_47 rfl (by decide) rfl ?_
            refine v_iinc (lo' := [(3, vI ((k : Int) + 1)), (2, vI (ior (bset (besF s m) k) (1 * 2 ^ (k : Int).toNat))), (0, .ref (a 0)), (1, vI m)]) hG dX12_besideOf_48 3 rfl (by decide) rfl ?_
            refine v_goto (tgt := 4) hG dX12_besideOf_51 (by decide) ?_
            refine v_lo [2, 3, 1, 0] (lo' := [(0, .ref (a 0)), (1, vI m), (2, vI (ior (bset (besF s m) k) (1 * 2 ^ (k : Int).toNat))), (3, vI ((k : Int) + 1))]) rfl ?_
            exact ihL3 _ (by omega) (k + 1) (by omega) rfl _ (by first | omega | rfl | (simp [c6, c8, c10]; done)) _ (by first | exact bset_step (by simp only [besF, decide_eq_false c6, decide_eq_false c8, decide_eq_false c10, Bool.not_true, Bool.not_false, Bool.and_true, Bool.true_and, Bool.and_self]) (by omega) | exact bset_stay (by simp only [besF, decide_eq_false c6, decide_eq_false c8, decide_eq_false c10, Bool.not_true, Bool.not_false, Bool.and_false, Bool.false_and, Bool.and_self]) (by omega))
  exact L3 _ 0 (by omega) rfl _ (by first | omega | rfl | (simp []; done)) _ (by first | omega | rfl | (simp []; done))
set_option maxHeartbeats 4000000 in
set_option maxRecDepth 100000 in
theorem k_sizeOf (l : Launch) (D : Dx) (A : Nat → Prop) (P : Heap → Prop) (x : Int) (hx : 0 ≤ x ∧ x < 256) : CT l D A yX12_sizeOf cX12_sizeOf 3 (some .int) { frames := 0, cells := 0, slots := 0, locals := 0 } [vI x] P (fun _ : Unit => some (vI (szF x 8))) (fun _ => 0 ≤ szF x 8 ∧ szF x 8 ≤ 8) (fun _ => P) := by
  refine ct_of (lo0 := [(0, vI x)]) (by decide) (Nat.le_of_ble_eq_true rfl) rfl ?_
  intro G hG hR
  refine v_iconst hG dX12_sizeOf_0 ?_
  refine v_istore_n (lo' := [(1, vI 0), (0, vI x)]) hG dX12_sizeOf_1 rfl (by decide) rfl ?_
  refine v_iconst hG dX12_sizeOf_2 ?_
  refine v_istore_n (lo' := [(2, vI 0), (1, vI 0), (0, vI x)]) hG dX12_sizeOf_3 rfl (by decide) rfl ?_
  refine v_lo [2, 1, 0] (lo' := [(0, vI x), (1, vI 0), (2, vI 0)]) rfl ?_
  have L3 : ∀ mz : Nat, ∀ (k : Nat), ((k : Int) ≤ 8) → (8 - (k : Int)).toNat = mz → ∀ x1 : Int, x1 = ((k : Int)) → ∀ x2 : Int, x2 = (szF x k) → V G 0 0 (P) 4 [(0, vI x), (1, vI x2), (2, vI x1)] [] := by
    intro dL3
    induction dL3 using Nat.strongRecOn with
    | ind dL3 ihL3 =>
      intro k h4 h5
      intro x1 hx1
      subst hx1
      intro x2 hx2
      subst hx2
      have hsz := szF_rng (x := x) (by omega) k
      have hsh := sh_rng (x := x) (k := k) (by omega)
      refine v_iload_n hG dX12_sizeOf_4 rfl 2 rfl ?_
      refine v_bipush hG dX12_sizeOf_5 (by decide) ?_
      refine v_icmp_ge (tgt := 24) hG dX12_sizeOf_7 (by decide) (by omega) (by omega) (fun c6 => ?_) (fun c6 => ?_)
      · skip
        refine v_iload_n hG dX12_sizeOf_24 rfl 1 rfl ?_
        have e7 : @Eq Int (szF x 8) (szF x k) := by rw [show k = 8 by omega]
        exact v_ireturn hG hR dX12_sizeOf_25 () (congrArg (fun z => some (vI z)) e7) (by exact szF_rng (by omega) 8) (fun _ hM => hM)
      · skip
        refine v_iload_n hG dX12_sizeOf_10 rfl 1 rfl ?_
        refine v_iload_n hG dX12_sizeOf_11 rfl 0 rfl ?_
        refine v_iload_n hG dX12_sizeOf_12 rfl 2 rfl ?_
        refine v_ishr hG dX12_sizeOf_13 (by omega) (by omega) ?_
        refine v_iconst hG dX12_sizeOf_14 ?_
        refine v_iand hG dX12_sizeOf_15 ?_
        refine v_iadd hG dX12_sizeOf_16 ?_
        refine v_istore_n (lo' := [(1, vI ((szF x k) + (iand (x / 2 ^ (k : Int).toNat) 1))), (0, vI x), (2, vI (k : Int))]) hG dX12_sizeOf_17 rfl (by decide) rfl ?_
        refine v_iinc (lo' := [(2, vI ((k : Int) + 1)), (1, vI ((szF x k) + (iand (x / 2 ^ (k : Int).toNat) 1))), (0, vI x)]) hG dX12_sizeOf_18 2 rfl (by decide) rfl ?_
        refine v_goto (tgt := 4) hG dX12_sizeOf_21 (by decide) ?_
        refine v_lo [2, 1, 0] (lo' := [(0, vI x), (1, vI ((szF x k) + (iand (x / 2 ^ (k : Int).toNat) 1))), (2, vI ((k : Int) + 1))]) rfl ?_
        exact ihL3 _ (by omega) (k + 1) (by omega) rfl _ (by first | omega | rfl | (simp [c6]; done)) _ (by rfl)
  exact L3 _ 0 (by omega) rfl _ (by first | omega | rfl | (simp []; done)) _ (by rfl)
set_option maxHeartbeats 4000000 in
set_option maxRecDepth 100000 in
theorem k_beside (l : Launch) (D : Dx) (A : Nat → Prop) (a : Nat → Nat) (s im fr bY tr ln bl bo g lg : Int → Int) (m : Int) (hr : -2147483648 ≤ m ∧ m < 2147483648) (hN : NM s) (hM : GM s) : CT l D A yX12_beside cX12_beside 2 (some .int) { frames := 2, cells := 0, slots := 0, locals := 46 } [.ref (a 0), vI m] (MW D A a s im fr bY tr ln bl bo g lg) (fun _ : Unit => some (vI (a_beside s m))) (fun _ => True) (fun _ => MW D A a s im fr bY tr ln bl bo g lg) := by
  refine ct_of (lo0 := [(0, .ref (a 0)), (1, vI m)]) (by decide) (Nat.le_of_ble_eq_true rfl) rfl ?_
  intro G hG hR
  have hN9 : 0 ≤ s 43 ∧ s 43 ≤ 8 := hN
  refine v_aload_n hG dX12_beside_0 rfl 0 rfl ?_
  refine v_iload_n hG dX12_beside_1 rfl 1 rfl ?_
  refine v_callV (k1' := 0) (k2' := 0) hG dX12_beside_2 zc_X12_isMark ⟨zl_X12_150, zi_X12_isMark, zs_X12_isMark⟩ (fun l => k_isMark l D A a s im fr bY tr ln bl bo g lg m (by omega) (by assumption)) rfl mw_recv (fun _ h => h) ⟨by decide, by decide⟩ rfl rfl ⟨by decide, by decide⟩ (rest := []) rfl (Nat.le_of_ble_eq_true rfl) (fun u1 => [vI (bi (0 ≤ m ∧ m ≤ s 43 - 1))]) (fun _ => rfl) (fun u1 hu1 => ?_)
  refine v_ifb_eq (p := 0 ≤ m ∧ m ≤ s 43 - 1) (tgt := 16) hG dX12_beside_5 (by decide) (fun c2 => ?_) (fun c2 => ?_)
  · skip
    refine v_iconst hG dX12_beside_16 ?_
    have e3 : @Eq Int (a_beside s m) (-1) := by first | rfl | (simp only [a_beside, if_neg c2]; done) | (simp only [a_beside, if_neg c2]; done) | (simp only [a_beside, if_neg c2]; rfl) | (simp only [a_beside, if_neg c2]; omega)
    exact v_ireturn hG hR dX12_beside_17 () (congrArg (fun z => some (vI z)) e3) (by trivial) (fun _ hM => hM)
  · skip
    refine v_aload_n hG dX12_beside_8 rfl 0 rfl ?_
    refine v_iload_n hG dX12_beside_9 rfl 1 rfl ?_
    refine v_callV (k1' := 0) (k2' := 0) hG dX12_beside_10 zc_X12_besideOf ⟨zl_X12_241, zi_X12_besideOf, zs_X12_besideOf⟩ (fun l => k_besideOf l D A a s im fr bY tr ln bl bo g lg m (by omega) (by assumption) (by assumption)) rfl mw_recv (fun _ h => h) ⟨by decide, by decide⟩ rfl rfl ⟨by decide, by decide⟩ (rest := []) rfl (Nat.le_of_ble_eq_true rfl) (fun u4 => [vI (q_bes s m)]) (fun _ => rfl) (fun u4 hu4 => ?_)
    have fu4 : 0 ≤ q_bes s m ∧ q_bes s m < 256 := hu4
    refine v_goto (tgt := 17) hG dX12_beside_13 (by decide) ?_
    have e5 : @Eq Int (a_beside s m) (q_bes s m) := by first | rfl | (simp only [a_beside, if_pos c2]; done) | (simp only [a_beside, if_pos c2]; done) | (simp only [a_beside, if_pos c2]; rfl) | (simp only [a_beside, if_pos c2]; omega)
    exact v_ireturn hG hR dX12_beside_17 () (congrArg (fun z => some (vI z)) e5) (by trivial) (fun _ hM => hM)
set_option maxHeartbeats 4000000 in
set_option maxRecDepth 100000 in
theorem k_crowd (l : Launch) (D : Dx) (A : Nat → Prop) (a : Nat → Nat) (s im fr bY tr ln bl bo g lg : Int → Int) (hN : NM s) (hM : GM s) : CT l D A yX12_crowd cX12_crowd 5 (some .int) { frames := 2, cells := 0, slots := 0, locals := 46 } [.ref (a 0)] (MW D A a s im fr bY tr ln bl bo g lg) (fun _ : Unit => some (vI ((bestF (-1) (croF s) (s 43).toNat).2))) (fun _ => True) (fun _ => MW D A a s im fr bY tr ln bl bo g lg) := by
  refine ct_of (lo0 := [(0, .ref (a 0))]) (by decide) (Nat.le_of_ble_eq_true rfl) rfl ?_
  intro G hG hR
  have hN9 : 0 ≤ s 43 ∧ s 43 ≤ 8 := hN
  refine v_iconst hG dX12_crowd_0 ?_
  refine v_istore_n (lo' := [(1, vI (-1)), (0, .ref (a 0))]) hG dX12_crowd_1 rfl (by decide) rfl ?_
  refine v_bipush hG dX12_crowd_2 (by decide) ?_
  refine v_istore_n (lo' := [(2, vI (-5)), (1, vI (-1)), (0, .ref (a 0))]) hG dX12_crowd_4 rfl (by decide) rfl ?_
  refine v_iconst hG dX12_crowd_5 ?_
  refine v_istore_n (lo' := [(3, vI 0), (2, vI (-5)), (1, vI (-1)), (0, .ref (a 0))]) hG dX12_crowd_6 rfl (by decide) rfl ?_
  refine v_lo [3, 2, 1, 0] (lo' := [(0, .ref (a 0)), (1, vI (-1)), (2, vI (-5)), (3, vI 0)]) rfl ?_
  have L4 : ∀ mz : Nat, ∀ (k : Nat), ((k : Int) ≤ s 43) → (s 43 - (k : Int)).toNat = mz → ∀ x1 : Int, x1 = ((k : Int)) → ∀ x2 : Int, x2 = ((bestF (-1) (croF s) k).1) → ∀ x3 : Int, x3 = ((bestF (-1) (croF s) k).2) → V G 0 0 (MW D A a s im fr bY tr ln bl bo g lg) 7 [(0, .ref (a 0)), (1, vI x2), (2, vI x3), (3, vI x1)] [] := by
    intro dL4
    induction dL4 using Nat.strongRecOn with
    | ind dL4 ihL4 =>
      intro k h5 h6
      intro x1 hx1
      subst hx1
      intro x2 hx2
      subst hx2
      intro x3 hx3
      subst hx3
      have hbr := bestF_rng (i0 := -1) (f := croF s) (b := 999) (by omega) (fun k => croF_rng hN k) k
      refine v_iload_n hG dX12_crowd_7 rfl 3 rfl ?_
      refine v_aload_n hG dX12_crowd_8 rfl 0 rfl ?_
      refine mg_s hG dX12_crowd_9 ?_
      refine v_bipush hG dX12_crowd_12 (by decide) ?_
      refine ma_s (z := s 43) hG dX12_crowd_14 (by omega) rfl ?_
      refine v_icmp_ge (tgt := 59) hG dX12_crowd_15 (by decide) (by omega) (by omega) (fun c7 => ?_) (fun c7 => ?_)
      · skip
        refine v_iload_n hG dX12_crowd_59 rfl 2 rfl ?_
        have e8 : @Eq Int ((bestF (-1) (croF s) (s 43).toNat).2) ((bestF (-1) (croF s) k).2) := by rw [show k = (s 43).toNat by omega]
        exact v_ireturn hG hR dX12_crowd_60 () (congrArg (fun z => some (vI z)) e8) (by trivial) (fun _ hM => hM)
      · skip
        refine v_aload_n hG dX12_crowd_18 rfl 0 rfl ?_
        refine v_iload_n hG dX12_crowd_19 rfl 3 rfl ?_
        refine v_callV (k1' := 0) (k2' := 0) hG dX12_crowd_20 zc_X12_besideOf ⟨zl_X12_241, zi_X12_besideOf, zs_X12_besideOf⟩ (fun l => k_besideOf l D A a s im fr bY tr ln bl bo g lg (k : Int) (by omega) (by assumption) (by assumption)) rfl mw_recv (fun _ h => h) ⟨by decide, by decide⟩ rfl rfl ⟨by decide, by decide⟩ (rest := []) rfl (Nat.le_of_ble_eq_true rfl) (fun u9 => [vI (q_bes s (k : Int))]) (fun _ => rfl) (fun u9 hu9 => ?_)
        have fu9 : 0 ≤ q_bes s (k : Int) ∧ q_bes s (k : Int) < 256 := hu9
        refine v_callS (k1' := 0) (k2' := 0) hG dX12_crowd_23 zc_X12_sizeOf ⟨zl_X12_244, zt_X12_sizeOf⟩ (fun l => k_sizeOf l D A (MW D A a s im fr bY tr ln bl bo g lg) (q_bes s (k : Int)) (by omega)) rfl (fun _ h => h) ⟨by decide, by decide⟩ rfl rfl ⟨by decide, by decide⟩ (rest := []) rfl (Nat.le_of_ble_eq_true rfl) (fun u10 => [vI (szF (q_bes s (k : Int)) 8)]) (fun _ => rfl) (fun u10 hu10 => ?_)
        have fu10 : 0 ≤ szF (q_bes s (k : Int)) 8 ∧ szF (q_bes s (k : Int)) 8 ≤ 8 := hu10
        have hbx : szF (q_bes s (k : Int)) 8 ≤ (bestF (-1) (croF s) k).1 ∨ ¬ szF (q_bes s (k : Int)) 8 ≤ (bestF (-1) (croF s) k).1 := by omega
        refine v_istore (lo' := [(4, vI (szF (q_bes s (k : Int)) 8)), (0, .ref (a 0)), (1, vI ((bestF (-1) (croF s) k).1)), (2, vI ((bestF (-1) (croF s) k).2)), (3, vI (k : Int))]) hG dX12_crowd_26 (by decide) rfl ?_
        refine v_iload hG dX12_crowd_28 0 rfl ?_
        refine v_iload_n hG dX12_crowd_30 rfl 2 rfl ?_
        refine v_icmp_le (tgt := 38) hG dX12_crowd_31 (by decide) (by omega) (by omega) (fun c11 => ?_) (fun c11 => ?_)
        · skip
          refine v_iload_n hG dX12_crowd_38 rfl 3 rfl ?_
          refine v_istore_n (lo' := [(2, vI ((bestF (-1) (croF s) k).2)), (4, vI (szF (q_bes s (k : Int)) 8)), (0, .ref (a 0)), (1, vI ((bestF (-1) (croF s) k).1)), (3, vI (k : Int))]) hG dX12_crowd_39 rfl (by decide) rfl ?_
          refine v_iload hG dX12_crowd_40 1 rfl ?_
          refine v_iload_n hG dX12_crowd_42 rfl 3 rfl ?_
          refine v_icmp_le (tgt := 51) hG dX12_crowd_43 (by decide) (by omega) (by omega) (fun c12 => ?_) (fun c12 => ?_)
          · skip
            refine v_iload_n hG dX12_crowd_51 rfl 3 rfl ?_
            refine v_istore_n (lo' := [(1, vI ((bestF (-1) (croF s) k).1)), (2, vI ((bestF (-1) (croF s) k).2)), (4, vI (szF (q_bes s (k : Int)) 8)), (0, .ref (a 0)), (3, vI (k : Int))]) hG dX12_crowd_52 rfl (by decide) rfl ?_
            refine v_iinc (lo' := [(3, vI ((k : Int) + 1)), (1, vI ((bestF (-1) (croF s) k).1)), (2, vI ((bestF (-1) (croF s) k).2)), (4, vI (szF (q_bes s (k : Int)) 8)), (0, .ref (a 0))]) hG dX12_crowd_53 4 rfl (by decide) rfl ?_
            refine v_goto (tgt := 7) hG dX12_crowd_56 (by decide) ?_
            refine v_lo [4, 1, 2, 0] (lo' := [(0, .ref (a 0)), (1, vI ((bestF (-1) (croF s) k).1)), (2, vI ((bestF (-1) (croF s) k).2)), (3, vI ((k : Int) + 1))]) rfl ?_
            exact ihL4 _ (by omega) (k + 1) (by omega) rfl _ (by first | omega | rfl | (simp [c7, c11, c12]; done)) _ (by first | (exfalso; omega) | (rw [best_n (f := croF s) (by assumption)] <;> rfl) | (rw [best_y (f := croF s) (by assumption)] <;> rfl)) _ (by first | (exfalso; omega) | (rw [best_n (f := croF s) (by assumption)] <;> rfl) | (rw [best_y (f := croF s) (by assumption)] <;> rfl))
          · skip
            refine v_iload hG dX12_crowd_46 1 rfl ?_
            refine v_goto (tgt := 52) hG dX12_crowd_48 (by decide) ?_
            refine v_istore_n (lo' := [(1, vI (szF (q_bes s (k : Int)) 8)), (2, vI ((bestF (-1) (croF s) k).2)), (4, vI (szF (q_bes s (k : Int)) 8)), (0, .ref (a 0)), (3, vI (k : Int))]) hG dX12_crowd_52 rfl (by decide) rfl ?_
            refine v_iinc (lo' := [(3, vI ((k : Int) + 1)), (1, vI (szF (q_bes s (k : Int)) 8)), (2, vI ((bestF (-1) (croF s) k).2)), (4, vI (szF (q_bes s (k : Int)) 8)), (0, .ref (a 0))]) hG dX12_crowd_53 4 rfl (by decide) rfl ?_
            refine v_goto (tgt := 7) hG dX12_crowd_56 (by decide) ?_
            refine v_lo [4, 1, 2, 0] (lo' := [(0, .ref (a 0)), (1, vI (szF (q_bes s (k : Int)) 8)), (2, vI ((bestF (-1) (croF s) k).2)), (3, vI ((k : Int) + 1))]) rfl ?_
            exact ihL4 _ (by omega) (k + 1) (by omega) rfl _ (by first | omega | rfl | (simp [c7, c11, c12]; done)) _ (by first | (exfalso; omega) | (rw [best_n (f := croF s) (by assumption)] <;> rfl) | (rw [best_y (f := croF s) (by assumption)] <;> rfl)) _ (by first | (exfalso; omega) | (rw [best_n (f := croF s) (by assumption)] <;> rfl) | (rw [best_y (f := croF s) (by assumption)] <;> rfl))
        · skip
          refine v_iload_n hG dX12_crowd_34 rfl 4 rfl ?_
          refine v_goto (tgt := 39) hG dX12_crowd_35 (by decide) ?_
          refine v_istore_n (lo' := [(2, vI (k : Int)), (4, vI (szF (q_bes s (k : Int)) 8)), (0, .ref (a 0)), (1, vI ((bestF (-1) (croF s) k).1)), (3, vI (k : Int))]) hG dX12_crowd_39 rfl (by decide) rfl ?_
          refine v_iload hG dX12_crowd_40 1 rfl ?_
          refine v_iload_n hG dX12_crowd_42 rfl 3 rfl ?_
          refine v_icmp_le (tgt := 51) hG dX12_crowd_43 (by decide) (by omega) (by omega) (fun c13 => ?_) (fun c13 => ?_)
          · skip
            refine v_iload_n hG dX12_crowd_51 rfl 3 rfl ?_
            refine v_istore_n (lo' := [(1, vI ((bestF (-1) (croF s) k).1)), (2, vI (k : Int)), (4, vI (szF (q_bes s (k : Int)) 8)), (0, .ref (a 0)), (3, vI (k : Int))]) hG dX12_crowd_52 rfl (by decide) rfl ?_
            refine v_iinc (lo' := [(3, vI ((k : Int) + 1)), (1, vI ((bestF (-1) (croF s) k).1)), (2, vI (k : Int)), (4, vI (szF (q_bes s (k : Int)) 8)), (0, .ref (a 0))]) hG dX12_crowd_53 4 rfl (by decide) rfl ?_
            refine v_goto (tgt := 7) hG dX12_crowd_56 (by decide) ?_
            refine v_lo [4, 1, 2, 0] (lo' := [(0, .ref (a 0)), (1, vI ((bestF (-1) (croF s) k).1)), (2, vI (k : Int)), (3, vI ((k : Int) + 1))]) rfl ?_
            exact ihL4 _ (by omega) (k + 1) (by omega) rfl _ (by first | omega | rfl | (simp [c7, c11, c13]; done)) _ (by first | (exfalso; omega) | (rw [best_n (f := croF s) (by assumption)] <;> rfl) | (rw [best_y (f := croF s) (by assumption)] <;> rfl)) _ (by first | (exfalso; omega) | (rw [best_n (f := croF s) (by assumption)] <;> rfl) | (rw [best_y (f := croF s) (by assumption)] <;> rfl))
          · skip
            refine v_iload hG dX12_crowd_46 1 rfl ?_
            refine v_goto (tgt := 52) hG dX12_crowd_48 (by decide) ?_
            refine v_istore_n (lo' := [(1, vI (szF (q_bes s (k : Int)) 8)), (2, vI (k : Int)), (4, vI (szF (q_bes s (k : Int)) 8)), (0, .ref (a 0)), (3, vI (k : Int))]) hG dX12_crowd_52 rfl (by decide) rfl ?_
            refine v_iinc (lo' := [(3, vI ((k : Int) + 1)), (1, vI (szF (q_bes s (k : Int)) 8)), (2, vI (k : Int)), (4, vI (szF (q_bes s (k : Int)) 8)), (0, .ref (a 0))]) hG dX12_crowd_53 4 rfl (by decide) rfl ?_
            refine v_goto (tgt := 7) hG dX12_crowd_56 (by decide) ?_
            refine v_lo [4, 1, 2, 0] (lo' := [(0, .ref (a 0)), (1, vI (szF (q_bes s (k : Int)) 8)), (2, vI (k : Int)), (3, vI ((k : Int) + 1))]) rfl ?_
            exact ihL4 _ (by omega) (k + 1) (by omega) rfl _ (by first | omega | rfl | (simp [c7, c11, c13]; done)) _ (by first | (exfalso; omega) | (rw [best_n (f := croF s) (by assumption)] <;> rfl) | (rw [best_y (f := croF s) (by assumption)] <;> rfl)) _ (by first | (exfalso; omega) | (rw [best_n (f := croF s) (by assumption)] <;> rfl) | (rw [best_y (f := croF s) (by assumption)] <;> rfl))
  exact L4 _ 0 (by omega) rfl _ (by first | omega | rfl | (simp []; done)) _ (by rfl) _ (by rfl)
set_option maxHeartbeats 4000000 in
set_option maxRecDepth 100000 in
theorem k_room (l : Launch) (D : Dx) (A : Nat → Prop) (a : Nat → Nat) (s im fr bY tr ln bl bo g lg : Int → Int) (d : Int) (hr : -2147483648 ≤ d ∧ d < 2147483648) (hN : NM s) (hM : GM s) : CT l D A yX12_room cX12_room 5 (some .int) { frames := 1, cells := 0, slots := 0, locals := 23 } [.ref (a 0), vI d] (MW D A a s im fr bY tr ln bl bo g lg) (fun _ : Unit => some (vI (a_room s d))) (fun _ => True) (fun _ => MW D A a s im fr bY tr ln bl bo g lg) := by
  refine ct_of (lo0 := [(0, .ref (a 0)), (1, vI d)]) (by decide) (Nat.le_of_ble_eq_true rfl) rfl ?_
  intro G hG hR
  have hN9 : 0 ≤ s 43 ∧ s 43 ≤ 8 := hN
  refine v_iload_n hG dX12_room_0 rfl 1 rfl ?_
  refine v_iconst hG dX12_room_1 ?_
  refine v_bipush hG dX12_room_2 (by decide) ?_
  refine v_callS (k1' := 0) (k2' := 0) hG dX12_room_4 zc_X12_in ⟨zl_X12_41, zt_X12_in⟩ (fun l => k_in l D A (MW D A a s im fr bY tr ln bl bo g lg) d 1 9 (by omega) (by omega) (by omega)) rfl (fun _ h => h) ⟨by decide, by decide⟩ rfl rfl ⟨by decide, by decide⟩ (rest := []) rfl (Nat.le_of_ble_eq_true rfl) (fun u1 => [vI (bi (1 ≤ d ∧ d ≤ 9))]) (fun _ => rfl) (fun u1 hu1 => ?_)
  refine v_ifb_ne (p := 1 ≤ d ∧ d ≤ 9) (tgt := 13) hG dX12_room_7 (by decide) (fun c2 => ?_) (fun c2 => ?_)
  · skip
    refine v_iconst hG dX12_room_13 ?_
    refine v_istore_n (lo' := [(2, vI 0), (0, .ref (a 0)), (1, vI d)]) hG dX12_room_14 rfl (by decide) rfl ?_
    refine v_lo [1, 2, 0] (lo' := [(0, .ref (a 0)), (1, vI d), (2, vI 0)]) rfl ?_
    have L4 : ∀ mz : Nat, ∀ (j : Nat), ((j : Int) ≤ 100) → (leastM (roomF s d) j = -1) → (100 - (j : Int)).toNat = mz → ∀ x3 : Int, x3 = ((j : Int)) → V G 0 0 (MW D A a s im fr bY tr ln bl bo g lg) 15 [(0, .ref (a 0)), (1, vI d), (2, vI x3)] [] := by
      intro dL4
      induction dL4 using Nat.strongRecOn with
      | ind dL4 ihL4 =>
        intro j h5 h6 h7
        intro x3 hx3
        subst hx3
        refine v_iload_n hG dX12_room_15 rfl 2 rfl ?_
        refine v_bipush hG dX12_room_16 (by decide) ?_
        refine v_icmp_ge (tgt := 77) hG dX12_room_18 (by decide) (by omega) (by omega) (fun c8 => ?_) (fun c8 => ?_)
        · skip
          refine v_bipush hG dX12_room_77 (by decide) ?_
          have e9 : @Eq Int (a_room s d) (-5) := by exact room_none (by omega) (by assumption) (by omega)
          exact v_ireturn hG hR dX12_room_79 () (congrArg (fun z => some (vI z)) e9) (by trivial) (fun _ hM => hM)
        · skip
          refine v_iconst hG dX12_room_21 ?_
          refine v_istore_n (lo' := [(3, vI 1), (0, .ref (a 0)), (1, vI d), (2, vI (j : Int))]) hG dX12_room_22 rfl (by decide) rfl ?_
          refine v_iconst hG dX12_room_23 ?_
          refine v_istore (lo' := [(4, vI 0), (3, vI 1), (0, .ref (a 0)), (1, vI d), (2, vI (j : Int))]) hG dX12_room_24 (by decide) rfl ?_
          refine v_lo [2, 3, 4, 1, 0] (lo' := [(0, .ref (a 0)), (1, vI d), (2, vI (j : Int)), (3, vI 1), (4, vI 0)]) rfl ?_
          have L12 : ∀ mz : Nat, ∀ (k : Nat), ((k : Int) ≤ s 43) → (s 43 - (k : Int)).toNat = mz → ∀ x10 : Int, x10 = ((k : Int)) → ∀ x11 : Int, x11 = (bi (allM (freeF s j d) k = true)) → V G 0 0 (MW D A a s im fr bY tr ln bl bo g lg) 26 [(0, .ref (a 0)), (1, vI d), (2, vI (j : Int)), (3, vI x11), (4, vI x10)] [] := by
            intro dL12
            induction dL12 using Nat.strongRecOn with
            | ind dL12 ihL12 =>
              intro k h13 h14
              intro x10 hx10
              subst hx10
              intro x11 hx11
              subst hx11
              refine v_iload hG dX12_room_26 4 rfl ?_
              refine v_aload_n hG dX12_room_28 rfl 0 rfl ?_
              refine mg_s hG dX12_room_29 ?_
              refine v_bipush hG dX12_room_32 (by decide) ?_
              refine ma_s (z := s 43) hG dX12_room_34 (by omega) rfl ?_
              refine v_icmp_ge (tgt := 65) hG dX12_room_35 (by decide) (by omega) (by omega) (fun c15 => ?_) (fun c15 => ?_)
              · skip
                refine v_iload_n hG dX12_room_65 rfl 3 rfl ?_
                refine v_ifb_eq (p := allM (freeF s j d) k = true) (tgt := 71) hG dX12_room_66 (by decide) (fun c16 => ?_) (fun c16 => ?_)
                · skip
                  refine v_iinc (lo' := [(2, vI ((j : Int) + 1)), (0, .ref (a 0)), (1, vI d), (3, vI (bi (allM (freeF s j d) k = true))), (4, vI (k : Int))]) hG dX12_room_71 2 rfl (by decide) rfl ?_
                  refine v_goto (tgt := 15) hG dX12_room_74 (by decide) ?_
                  refine v_lo [1, 2, 0] (lo' := [(0, .ref (a 0)), (1, vI d), (2, vI ((j : Int) + 1))]) rfl ?_
                  exact ihL4 _ (by omega) (j + 1) (by omega) (by exact room_stay (by assumption) (by assumption) (by omega)) rfl _ (by rfl)
                · skip
                  refine v_iload_n hG dX12_room_69 rfl 2 rfl ?_
                  have e17 : @Eq Int (a_room s d) ((j : Int)) := by exact room_hit (by omega) (by assumption) (by assumption) (by omega) (by omega)
                  exact v_ireturn hG hR dX12_room_70 () (congrArg (fun z => some (vI z)) e17) (by trivial) (fun _ hM => hM)
              · skip
                refine v_iload_n hG dX12_room_38 rfl 3 rfl ?_
                refine v_ifb_eq (p := allM (freeF s j d) k = true) (tgt := 57) hG dX12_room_39 (by decide) (fun c18 => ?_) (fun c18 => ?_)
                · skip
                  refine v_iconst hG dX12_room_57 ?_
                  refine v_istore_n (lo' := [(3, vI 0), (0, .ref (a 0)), (1, vI d), (2, vI (j : Int)), (4, vI (k : Int))]) hG dX12_room_58 rfl (by decide) rfl ?_
                  refine v_iinc (lo' := [(4, vI ((k : Int) + 1)), (3, vI 0), (0, .ref (a 0)), (1, vI d), (2, vI (j : Int))]) hG dX12_room_59 4 rfl (by decide) rfl ?_
                  refine v_goto (tgt := 26) hG dX12_room_62 (by decide) ?_
                  refine v_lo [2, 3, 4, 1, 0] (lo' := [(0, .ref (a 0)), (1, vI d), (2, vI (j : Int)), (3, vI 0), (4, vI ((k : Int) + 1))]) rfl ?_
                  exact ihL12 _ (by omega) (k + 1) (by omega) rfl _ (by first | omega | rfl | (simp [c2, c8, c15, c18]; done)) _ (by first | exact allM_t (by assumption) (freeF_t (by assumption)) | exact allM_f (freeF_f (by assumption)) | exact allM_n (by assumption))
                · skip
                  refine v_aload_n hG dX12_room_42 rfl 0 rfl ?_
                  refine v_iload hG dX12_room_43 4 rfl ?_
                  refine v_iload_n hG dX12_room_45 rfl 2 rfl ?_
                  refine v_callV (k1' := 0) (k2' := 0) hG dX12_room_46 zc_X12_apart ⟨zl_X12_238, zi_X12_apart, zs_X12_apart⟩ (fun l => k_apart l D A a s im fr bY tr ln bl bo g lg (k : Int) (j : Int) (by omega) (by first | assumption | (exact hM _ (by omega) (by omega))) (by first | omega | (have := (hM _ (by assumption) (by omega)).2.2.1; omega))) rfl mw_recv (fun _ h => h) ⟨by decide, by decide⟩ rfl rfl ⟨by decide, by decide⟩ (rest := []) rfl (Nat.le_of_ble_eq_true rfl) (fun u19 => [vI (q_apart s (k : Int) (j : Int))]) (fun _ => rfl) (fun u19 hu19 => ?_)
                  have fu19 : 0 ≤ q_apart s (k : Int) (j : Int) ∧ q_apart s (k : Int) (j : Int) ≤ 1000 := hu19
                  refine v_iload_n hG dX12_room_49 rfl 1 rfl ?_
                  refine v_icmp_lt (tgt := 57) hG dX12_room_50 (by decide) (by omega) (by omega) (fun c20 => ?_) (fun c20 => ?_)
                  · skip
                    refine v_iconst hG dX12_room_57 ?_
                    refine v_istore_n (lo' := [(3, vI 0), (0, .ref (a 0)), (1, vI d), (2, vI (j : Int)), (4, vI (k : Int))]) hG dX12_room_58 rfl (by decide) rfl ?_
                    refine v_iinc (lo' := [(4, vI ((k : Int) + 1)), (3, vI 0), (0, .ref (a 0)), (1, vI d), (2, vI (j : Int))]) hG dX12_room_59 4 rfl (by decide) rfl ?_
                    refine v_goto (tgt := 26) hG dX12_room_62 (by decide) ?_
                    refine v_lo [2, 3, 4, 1, 0] (lo' := [(0, .ref (a 0)), (1, vI d), (2, vI (j : Int)), (3, vI 0), (4, vI ((k : Int) + 1))]) rfl ?_
                    exact ihL12 _ (by omega) (k + 1) (by omega) rfl _ (by first | omega | rfl | (simp [c2, c8, c15, c18, c20]; done)) _ (by first | exact allM_t (by assumption) (freeF_t (by assumption)) | exact allM_f (freeF_f (by assumption)) | exact allM_n (by assumption))
                  · skip
                    refine v_iconst hG dX12_room_53 ?_
                    refine v_goto (tgt := 58) hG dX12_room_54 (by decide) ?_
                    refine v_istore_n (lo' := [(3, vI 1), (0, .ref (a 0)), (1, vI d), (2, vI (j : Int)), (4, vI (k : Int))]) hG dX12_room_58 rfl (by decide) rfl ?_
                    refine v_iinc (lo' := [(4, vI ((k : Int) + 1)), (3, vI 1), (0, .ref (a 0)), (1, vI d), (2, vI (j : Int))]) hG dX12_room_59 4 rfl (by decide) rfl ?_
                    refine v_goto (tgt := 26) hG dX12_room_62 (by decide) ?_
                    refine v_lo [2, 3, 4, 1, 0] (lo' := [(0, .ref (a 0)), (1, vI d), (2, vI (j : Int)), (3, vI 1), (4, vI ((k : Int) + 1))]) rfl ?_
                    exact ihL12 _ (by omega) (k + 1) (by omega) rfl _ (by first | omega | rfl | (simp [c2, c8, c15, c18, c20]; done)) _ (by first | exact allM_t (by assumption) (freeF_t (by assumption)) | exact allM_f (freeF_f (by assumption)) | exact allM_n (by assumption))
          exact L12 _ 0 (by omega) rfl _ (by first | omega | rfl | (simp [c2, c8]; done)) _ (by exact (bi_pos rfl).symm)
    exact L4 _ 0 (by omega) (by rfl) rfl _ (by rfl)
  · skip
    refine v_bipush hG dX12_room_10 (by decide) ?_
    have e21 : @Eq Int (a_room s d) (-2) := by simp only [a_room, if_neg c2]
    exact v_ireturn hG hR dX12_room_12 () (congrArg (fun z => some (vI z)) e21) (by trivial) (fun _ hM => hM)
set_option maxHeartbeats 4000000 in
set_option maxRecDepth 100000 in
theorem k_hasFlaw (l : Launch) (D : Dx) (A : Nat → Prop) (a : Nat → Nat) (s im fr bY tr ln bl bo g lg : Int → Int) (m : Int) (h8 : 0 ≤ m ∧ m < 8) (hm : MK s m) : CT l D A yX12_hasFlaw cX12_hasFlaw 2 (some .boolean) { frames := 1, cells := 0, slots := 0, locals := 21 } [.ref (a 0), vI m] (MW D A a s im fr bY tr ln bl bo g lg) (fun _ : Unit => some (vI (bi (s (11 + m) = 1 ∧ 0 < s (19 + m))))) (fun _ => True) (fun _ => MW D A a s im fr bY tr ln bl bo g lg) := by
  refine ct_of (lo0 := [(0, .ref (a 0)), (1, vI m)]) (by decide) (Nat.le_of_ble_eq_true rfl) rfl ?_
  intro G hG hR
  have hm5 := hm.2.2.2.2.1; have hm6 := hm.2.2.2.2.2.1
  refine v_aload_n hG dX12_hasFlaw_0 rfl 0 rfl ?_
  refine v_iload_n hG dX12_hasFlaw_1 rfl 1 rfl ?_
  refine v_callV (k1' := 0) (k2' := 0) hG dX12_hasFlaw_2 zc_X12_isCut ⟨zl_X12_137, zi_X12_isCut, zs_X12_isCut⟩ (fun l => k_isCut l D A a s im fr bY tr ln bl bo g lg m (by omega) (by first | exact hm.2.2.2.2.1 | exact (hM _ (by omega) (by omega)).2.2.2.2.1 | omega)) rfl mw_recv (fun _ h => h) ⟨by decide, by decide⟩ rfl rfl ⟨by decide, by decide⟩ (rest := []) rfl (Nat.le_of_ble_eq_true rfl) (fun u1 => [vI (bi (s (11 + m) = 1))]) (fun _ => rfl) (fun u1 hu1 => ?_)
  have J3 : ∀ z2 : Int, z2 = (bi ((s (11 + m) = 1) ∧ (¬ (s (19 + m) ≤ 0)))) → V G 0 0 (MW D A a s im fr bY tr ln bl bo g lg) 25 [(0, .ref (a 0)), (1, vI m)] [vI z2] := by
    intro z2 hz2
    subst hz2
    have e4 : @Eq Int (bi (s (11 + m) = 1 ∧ 0 < s (19 + m))) (bi ((s (11 + m) = 1) ∧ (¬ (s (19 + m) ≤ 0)))) := by first | rfl | omega | (exact bi_congr (by omega)) | (simp []; done)
    exact v_zreturn hG hR dX12_hasFlaw_25 (bi_01 _) () (congrArg (fun z => some (vI z)) e4) (by trivial) (fun _ hM => hM)
  refine v_ifb_eq (p := s (11 + m) = 1) (tgt := 24) hG dX12_hasFlaw_5 (by decide) (fun c5 => ?_) (fun c5 => ?_)
  · skip
    refine v_iconst hG dX12_hasFlaw_24 ?_
    exact J3 _ (by first | rfl | (simp only [if_neg c5]; done) | (simp [bi, c5]; done))
  · skip
    refine v_aload_n hG dX12_hasFlaw_8 rfl 0 rfl ?_
    refine mg_s hG dX12_hasFlaw_9 ?_
    refine v_bipush hG dX12_hasFlaw_12 (by decide) ?_
    refine v_iload_n hG dX12_hasFlaw_14 rfl 1 rfl ?_
    refine v_iadd hG dX12_hasFlaw_15 ?_
    refine ma_s (z := s (19 + m)) hG dX12_hasFlaw_16 (by omega) rfl ?_
    refine v_if_le (tgt := 24) hG dX12_hasFlaw_17 (by decide) (by omega) (fun c6 => ?_) (fun c6 => ?_)
    · skip
      refine v_iconst hG dX12_hasFlaw_24 ?_
      exact J3 _ (by first | rfl | (simp only [if_pos c5, if_pos c6]; done) | (simp [bi, c5, c6]; done))
    · skip
      refine v_iconst hG dX12_hasFlaw_20 ?_
      refine v_goto (tgt := 25) hG dX12_hasFlaw_21 (by decide) ?_
      exact J3 _ (by first | rfl | (simp only [if_pos c5, if_neg c6]; done) | (simp [bi, c5, c6]; done))
set_option maxHeartbeats 4000000 in
set_option maxRecDepth 100000 in
theorem k_proofOf (l : Launch) (D : Dx) (A : Nat → Prop) (a : Nat → Nat) (s im fr bY tr ln bl bo g lg : Int → Int) (e : Int) (he : 0 ≤ e ∧ e ≤ 9) (hN : NM s) (hM : GM s) (hP : PL s) : CT l D A yX12_proofOf cX12_proofOf 4 (some .int) { frames := 4, cells := 0, slots := 0, locals := 91 } [.ref (a 0), vI e] (MW D A a s im fr bY tr ln bl bo g lg) (fun _ : Unit => some (vI (q_proof s e))) (fun _ => 0 ≤ q_proof s e ∧ q_proof s e < 256) (fun _ => MW D A a s im fr bY tr ln bl bo g lg) := by
  refine ct_of (lo0 := [(0, .ref (a 0)), (1, vI e)]) (by decide) (Nat.le_of_ble_eq_true rfl) rfl ?_
  intro G hG hR
  have hN9 : 0 ≤ s 43 ∧ s 43 ≤ 8 := hN
  refine v_iconst hG dX12_proofOf_0 ?_
  refine v_istore_n (lo' := [(2, vI 0), (0, .ref (a 0)), (1, vI e)]) hG dX12_proofOf_1 rfl (by decide) rfl ?_
  refine v_iconst hG dX12_proofOf_2 ?_
  refine v_istore_n (lo' := [(3, vI 0), (2, vI 0), (0, .ref (a 0)), (1, vI e)]) hG dX12_proofOf_3 rfl (by decide) rfl ?_
  refine v_lo [2, 3, 1, 0] (lo' := [(0, .ref (a 0)), (1, vI e), (2, vI 0), (3, vI 0)]) rfl ?_
  have L3 : ∀ mz : Nat, ∀ (k : Nat), ((k : Int) ≤ s 43) → (s 43 - (k : Int)).toNat = mz → ∀ x1 : Int, x1 = ((k : Int)) → ∀ x2 : Int, x2 = (bset (proF s e) k) → V G 0 0 (MW D A a s im fr bY tr ln bl bo g lg) 4 [(0, .ref (a 0)), (1, vI e), (2, vI x2), (3, vI x1)] [] := by
    intro dL3
    induction dL3 using Nat.strongRecOn with
    | ind dL3 ihL3 =>
      intro k h4 h5
      intro x1 hx1
      subst hx1
      intro x2 hx2
      subst hx2
      refine v_iload_n hG dX12_proofOf_4 rfl 3 rfl ?_
      refine v_aload_n hG dX12_proofOf_5 rfl 0 rfl ?_
      refine mg_s hG dX12_proofOf_6 ?_
      refine v_bipush hG dX12_proofOf_9 (by decide) ?_
      refine ma_s (z := s 43) hG dX12_proofOf_11 (by omega) rfl ?_
      refine v_icmp_ge (tgt := 52) hG dX12_proofOf_12 (by decide) (by omega) (by omega) (fun c6 => ?_) (fun c6 => ?_)
      · skip
        refine v_iload_n hG dX12_proofOf_52 rfl 2 rfl ?_
        have e7 : @Eq Int (q_proof s e) (bset (proF s e) k) := by unfold q_proof; rw [show k = (s 43).toNat by omega]
        exact v_ireturn hG hR dX12_proofOf_53 () (congrArg (fun z => some (vI z)) e7) (by exact bset_8 _ (by omega)) (fun _ hM => hM)
      · skip
        refine v_iload_n hG dX12_proofOf_15 rfl 2 rfl ?_
        refine v_aload_n hG dX12_proofOf_16 rfl 0 rfl ?_
        refine v_iload_n hG dX12_proofOf_17 rfl 3 rfl ?_
        refine v_callV (k1' := 0) (k2' := 0) hG dX12_proofOf_18 zc_X12_hasFlaw ⟨zl_X12_247, zi_X12_hasFlaw, zs_X12_hasFlaw⟩ (fun l => k_hasFlaw l D A a s im fr bY tr ln bl bo g lg (k : Int) (by omega) (by first | assumption | (exact hM _ (by omega) (by omega)))) rfl mw_recv (fun _ h => h) ⟨by decide, by decide⟩ rfl rfl ⟨by decide, by decide⟩ (rest := [vI (bset (proF s e) k)]) rfl (Nat.le_of_ble_eq_true rfl) (fun u8 => [vI (bi (s (11 + (k : Int)) = 1 ∧ 0 < s (19 + (k : Int)))), vI (bset (proF s e) k)]) (fun _ => rfl) (fun u8 hu8 => ?_)
        refine v_ifb_eq (p := s (11 + (k : Int)) = 1 ∧ 0 < s (19 + (k : Int))) (tgt := 43) hG dX12_proofOf_21 (by decide) (fun c9 => ?_) (fun c9 => ?_)
        · skip
          refine v_iconst hG dX12_proofOf_43 ?_
          refine v_ior hG dX12_proofOf_44 ?_
          refine v_istore_n (lo' := [(2, vI (ior (bset (proF s e) k) 0)), (0, .ref (a 0)), (1, vI e), (3, vI (k : Int))]) hG dX12_proofOf_45 rfl (by decide) rfl ?_
          refine v_iinc (lo' := [(3, vI ((k : Int) + 1)), (2, vI (ior (bset (proF s e) k) 0)), (0, .ref (a 0)), (1, vI e)]) hG dX12_proofOf_46 3 rfl (by decide) rfl ?_
          refine v_goto (tgt := 4) hG dX12_proofOf_49 (by decide) ?_
          refine v_lo [2, 3, 1, 0] (lo' := [(0, .ref (a 0)), (1, vI e), (2, vI (ior (bset (proF s e) k) 0)), (3, vI ((k : Int) + 1))]) rfl ?_
          exact ihL3 _ (by omega) (k + 1) (by omega) rfl _ (by first | omega | rfl | (simp [c6, c9]; done)) _ (by first | exact bset_step (proF_t (by assumption) (by assumption)) (by omega) | exact bset_stay (proF_f1 (by assumption)) (by omega) | exact bset_stay (proF_f2 (by assumption)) (by omega))
        · skip
          refine v_aload_n hG dX12_proofOf_24 rfl 0 rfl ?_
          refine v_iload_n hG dX12_proofOf_25 rfl 3 rfl ?_
          refine v_iconst hG dX12_proofOf_26 ?_
          refine v_callV (k1' := 0) (k2' := 0) hG dX12_proofOf_27 zc_X12_darkBy ⟨zl_X12_147, zi_X12_darkBy, zs_X12_darkBy⟩ (fun l => k_darkBy l D A a s im fr bY tr ln bl bo g lg (k : Int) 0 (by omega) (by first | assumption | (exact hM _ (by omega) (by omega))) (by assumption) (by omega)) rfl mw_recv (fun _ h => h) ⟨by decide, by decide⟩ rfl rfl ⟨by decide, by decide⟩ (rest := [vI (bset (proF s e) k)]) rfl (Nat.le_of_ble_eq_true rfl) (fun u10 => [vI (q_dk s (k : Int) 0), vI (bset (proF s e) k)]) (fun _ => rfl) (fun u10 hu10 => ?_)
          have fu10 : 0 ≤ q_dk s (k : Int) 0 ∧ q_dk s (k : Int) 0 ≤ 30 := hu10
          refine v_iload_n hG dX12_proofOf_30 rfl 1 rfl ?_
          refine v_iadd hG dX12_proofOf_31 ?_
          refine v_bipush hG dX12_proofOf_32 (by decide) ?_
          refine v_icmp_lt (tgt := 43) hG dX12_proofOf_34 (by decide) (by omega) (by omega) (fun c11 => ?_) (fun c11 => ?_)
          · skip
            refine v_iconst hG dX12_proofOf_43 ?_
            refine v_ior hG dX12_proofOf_44 ?_
            refine v_istore_n (lo' := [(2, vI (ior (bset (proF s e) k) 0)), (0, .ref (a 0)), (1, vI e), (3, vI (k : Int))]) hG dX12_proofOf_45 rfl (by decide) rfl ?_
            refine v_iinc (lo' := [(3, vI ((k : Int) + 1)), (2, vI (ior (bset (proF s e) k) 0)), (0, .ref (a 0)), (1, vI e)]) hG dX12_proofOf_46 3 rfl (by decide) rfl ?_
            refine v_goto (tgt := 4) hG dX12_proofOf_49 (by decide) ?_
            refine v_lo [2, 3, 1, 0] (lo' := [(0, .ref (a 0)), (1, vI e), (2, vI (ior (bset (proF s e) k) 0)), (3, vI ((k : Int) + 1))]) rfl ?_
            exact ihL3 _ (by omega) (k + 1) (by omega) rfl _ (by first | omega | rfl | (simp [c6, c9, c11]; done)) _ (by first | exact bset_step (proF_t (by assumption) (by assumption)) (by omega) | exact bset_stay (proF_f1 (by assumption)) (by omega) | exact bset_stay (proF_f2 (by assumption)) (by omega))
          · skip
            refine v_iconst hG dX12_proofOf_37 ?_
            refine v_iload_n hG dX12_proofOf_38 rfl 3 rfl ?_
            refine v_ishl hG dX12_proofOf_39 (by omega) ?_
            refine v_goto (tgt := 44) hG dX12_proofOf_40 (by decide) ?_
            refine v_ior hG dX12_proofOf_44 ?_
            refine v_istore_n (lo' := [(2, vI (ior (bset (proF s e) k) (1 * 2 ^ (k : Int).toNat))), (0, .ref (a 0)), (1, vI e), (3, vI (k : Int))]) hG dX12_proofOf_45 rfl (by decide) rfl ?_
            refine v_iinc (lo' := [(3, vI ((k : Int) + 1)), (2, vI (ior (bset (proF s e) k) (1 * 2 ^ (k : Int).toNat))), (0, .ref (a 0)), (1, vI e)]) hG dX12_proofOf_46 3 rfl (by decide) rfl ?_
            refine v_goto (tgt := 4) hG dX12_proofOf_49 (by decide) ?_
            refine v_lo [2, 3, 1, 0] (lo' := [(0, .ref (a 0)), (1, vI e), (2, vI (ior (bset (proF s e) k) (1 * 2 ^ (k : Int).toNat))), (3, vI ((k : Int) + 1))]) rfl ?_
            exact ihL3 _ (by omega) (k + 1) (by omega) rfl _ (by first | omega | rfl | (simp [c6, c9, c11]; done)) _ (by first | exact bset_step (proF_t (by assumption) (by assumption)) (by omega) | exact bset_stay (proF_f1 (by assumption)) (by omega) | exact bset_stay (proF_f2 (by assumption)) (by omega))
  exact L3 _ 0 (by omega) rfl _ (by first | omega | rfl | (simp []; done)) _ (by first | omega | rfl | (simp []; done))
set_option maxHeartbeats 4000000 in
set_option maxRecDepth 100000 in
theorem k_proof (l : Launch) (D : Dx) (A : Nat → Prop) (a : Nat → Nat) (s im fr bY tr ln bl bo g lg : Int → Int) (e : Int) (hr : -2147483648 ≤ e ∧ e < 2147483648) (hN : NM s) (hM : GM s) (hP : PL s) : CT l D A yX12_proof cX12_proof 2 (some .int) { frames := 5, cells := 0, slots := 0, locals := 114 } [.ref (a 0), vI e] (MW D A a s im fr bY tr ln bl bo g lg) (fun _ : Unit => some (vI (a_proof s e))) (fun _ => True) (fun _ => MW D A a s im fr bY tr ln bl bo g lg) := by
  refine ct_of (lo0 := [(0, .ref (a 0)), (1, vI e)]) (by decide) (Nat.le_of_ble_eq_true rfl) rfl ?_
  intro G hG hR
  have hN9 : 0 ≤ s 43 ∧ s 43 ≤ 8 := hN
  refine v_iload_n hG dX12_proof_0 rfl 1 rfl ?_
  refine v_iconst hG dX12_proof_1 ?_
  refine v_bipush hG dX12_proof_2 (by decide) ?_
  refine v_callS (k1' := 0) (k2' := 0) hG dX12_proof_4 zc_X12_in ⟨zl_X12_41, zt_X12_in⟩ (fun l => k_in l D A (MW D A a s im fr bY tr ln bl bo g lg) e 0 9 (by omega) (by omega) (by omega)) rfl (fun _ h => h) ⟨by decide, by decide⟩ rfl rfl ⟨by decide, by decide⟩ (rest := []) rfl (Nat.le_of_ble_eq_true rfl) (fun u1 => [vI (bi (0 ≤ e ∧ e ≤ 9))]) (fun _ => rfl) (fun u1 hu1 => ?_)
  refine v_ifb_eq (p := 0 ≤ e ∧ e ≤ 9) (tgt := 18) hG dX12_proof_7 (by decide) (fun c2 => ?_) (fun c2 => ?_)
  · skip
    refine v_bipush hG dX12_proof_18 (by decide) ?_
    have e3 : @Eq Int (a_proof s e) (-2) := by first | rfl | (simp only [a_proof, if_neg c2]; done) | (simp only [a_proof, if_neg c2]; done) | (simp only [a_proof, if_neg c2]; rfl) | (simp only [a_proof, if_neg c2]; omega)
    exact v_ireturn hG hR dX12_proof_20 () (congrArg (fun z => some (vI z)) e3) (by trivial) (fun _ hM => hM)
  · skip
    refine v_aload_n hG dX12_proof_10 rfl 0 rfl ?_
    refine v_iload_n hG dX12_proof_11 rfl 1 rfl ?_
    refine v_callV (k1' := 0) (k2' := 0) hG dX12_proof_12 zc_X12_proofOf ⟨zl_X12_250, zi_X12_proofOf, zs_X12_proofOf⟩ (fun l => k_proofOf l D A a s im fr bY tr ln bl bo g lg e (by omega) (by assumption) (by assumption) (by assumption)) rfl mw_recv (fun _ h => h) ⟨by decide, by decide⟩ rfl rfl ⟨by decide, by decide⟩ (rest := []) rfl (Nat.le_of_ble_eq_true rfl) (fun u4 => [vI (q_proof s e)]) (fun _ => rfl) (fun u4 hu4 => ?_)
    have fu4 : 0 ≤ q_proof s e ∧ q_proof s e < 256 := hu4
    refine v_goto (tgt := 20) hG dX12_proof_15 (by decide) ?_
    have e5 : @Eq Int (a_proof s e) (q_proof s e) := by first | rfl | (simp only [a_proof, if_pos c2]; done) | (simp only [a_proof, if_pos c2]; done) | (simp only [a_proof, if_pos c2]; rfl) | (simp only [a_proof, if_pos c2]; omega)
    exact v_ireturn hG hR dX12_proof_20 () (congrArg (fun z => some (vI z)) e5) (by trivial) (fun _ hM => hM)
set_option maxHeartbeats 4000000 in
set_option maxRecDepth 100000 in
theorem k_proofs (l : Launch) (D : Dx) (A : Nat → Prop) (a : Nat → Nat) (s im fr bY tr ln bl bo g lg : Int → Int) (hN : NM s) (hM : GM s) (hP : PL s) : CT l D A yX12_proofs cX12_proofs 3 (some .int) { frames := 5, cells := 0, slots := 0, locals := 114 } [.ref (a 0)] (MW D A a s im fr bY tr ln bl bo g lg) (fun _ : Unit => some (vI (q_proofs s))) (fun _ => True) (fun _ => MW D A a s im fr bY tr ln bl bo g lg) := by
  refine ct_of (lo0 := [(0, .ref (a 0))]) (by decide) (Nat.le_of_ble_eq_true rfl) rfl ?_
  intro G hG hR
  have hN9 : 0 ≤ s 43 ∧ s 43 ≤ 8 := hN
  refine v_iconst hG dX12_proofs_0 ?_
  refine v_istore_n (lo' := [(1, vI 0), (0, .ref (a 0))]) hG dX12_proofs_1 rfl (by decide) rfl ?_
  refine v_iconst hG dX12_proofs_2 ?_
  refine v_istore_n (lo' := [(2, vI 0), (1, vI 0), (0, .ref (a 0))]) hG dX12_proofs_3 rfl (by decide) rfl ?_
  refine v_lo [2, 1, 0] (lo' := [(0, .ref (a 0)), (1, vI 0), (2, vI 0)]) rfl ?_
  have L3 : ∀ mz : Nat, ∀ (k : Nat), ((k : Int) ≤ s 43) → (s 43 - (k : Int)).toNat = mz → ∀ x1 : Int, x1 = ((k : Int)) → ∀ x2 : Int, x2 = (bset (fun m => flawed s m) k) → V G 0 0 (MW D A a s im fr bY tr ln bl bo g lg) 4 [(0, .ref (a 0)), (1, vI x2), (2, vI x1)] [] := by
    intro dL3
    induction dL3 using Nat.strongRecOn with
    | ind dL3 ihL3 =>
      intro k h4 h5
      intro x1 hx1
      subst hx1
      intro x2 hx2
      subst hx2
      refine v_iload_n hG dX12_proofs_4 rfl 2 rfl ?_
      refine v_aload_n hG dX12_proofs_5 rfl 0 rfl ?_
      refine mg_s hG dX12_proofs_6 ?_
      refine v_bipush hG dX12_proofs_9 (by decide) ?_
      refine ma_s (z := s 43) hG dX12_proofs_11 (by omega) rfl ?_
      refine v_icmp_ge (tgt := 39) hG dX12_proofs_12 (by decide) (by omega) (by omega) (fun c6 => ?_) (fun c6 => ?_)
      · skip
        refine v_iconst hG dX12_proofs_39 ?_
        refine v_istore_n (lo' := [(2, vI 0), (0, .ref (a 0)), (1, vI (bset (fun m => flawed s m) k))]) hG dX12_proofs_40 rfl (by decide) rfl ?_
        refine v_lo [1, 2, 0] (lo' := [(0, .ref (a 0)), (1, vI (bset (fun m => flawed s m) k)), (2, vI 0)]) rfl ?_
        have L8 : ∀ mz : Nat, ∀ (j : Nat), ((j : Int) ≤ 10) → (leastM (fun e : Nat => decide (q_proof s e = q_flawed s)) j = -1) → (10 - (j : Int)).toNat = mz → ∀ x7 : Int, x7 = ((j : Int)) → V G 0 0 (MW D A a s im fr bY tr ln bl bo g lg) 41 [(0, .ref (a 0)), (1, vI (bset (fun m => flawed s m) k)), (2, vI x7)] [] := by
          intro dL8
          induction dL8 using Nat.strongRecOn with
          | ind dL8 ihL8 =>
            intro j h9 h10 h11
            intro x7 hx7
            subst hx7
            have hbk := bset_8 (fun m => flawed s m) (n := k) (by omega)
            refine v_iload_n hG dX12_proofs_41 rfl 2 rfl ?_
            refine v_bipush hG dX12_proofs_42 (by decide) ?_
            refine v_icmp_ge (tgt := 64) hG dX12_proofs_44 (by decide) (by omega) (by omega) (fun c12 => ?_) (fun c12 => ?_)
            · skip
              refine v_bipush hG dX12_proofs_64 (by decide) ?_
              have e13 : @Eq Int (q_proofs s) (-5) := by exact pos_n (by assumption) (by omega)
              exact v_ireturn hG hR dX12_proofs_66 () (congrArg (fun z => some (vI z)) e13) (by trivial) (fun _ hM => hM)
            · skip
              refine v_aload_n hG dX12_proofs_47 rfl 0 rfl ?_
              refine v_iload_n hG dX12_proofs_48 rfl 2 rfl ?_
              refine v_callV (k1' := 0) (k2' := 0) hG dX12_proofs_49 zc_X12_proofOf ⟨zl_X12_250, zi_X12_proofOf, zs_X12_proofOf⟩ (fun l => k_proofOf l D A a s im fr bY tr ln bl bo g lg (j : Int) (by omega) (by assumption) (by assumption) (by assumption)) rfl mw_recv (fun _ h => h) ⟨by decide, by decide⟩ rfl rfl ⟨by decide, by decide⟩ (rest := []) rfl (Nat.le_of_ble_eq_true rfl) (fun u14 => [vI (q_proof s (j : Int))]) (fun _ => rfl) (fun u14 hu14 => ?_)
              have fu14 : 0 ≤ q_proof s (j : Int) ∧ q_proof s (j : Int) < 256 := hu14
              refine v_iload_n hG dX12_proofs_52 rfl 1 rfl ?_
              refine v_icmp_ne (tgt := 58) hG dX12_proofs_53 (by decide) (by omega) (by omega) (fun c15 => ?_) (fun c15 => ?_)
              · skip
                refine v_iinc (lo' := [(2, vI ((j : Int) + 1)), (0, .ref (a 0)), (1, vI (bset (fun m => flawed s m) k))]) hG dX12_proofs_58 2 rfl (by decide) rfl ?_
                refine v_goto (tgt := 41) hG dX12_proofs_61 (by decide) ?_
                refine v_lo [1, 2, 0] (lo' := [(0, .ref (a 0)), (1, vI (bset (fun m => flawed s m) k)), (2, vI ((j : Int) + 1))]) rfl ?_
                exact ihL8 _ (by omega) (j + 1) (by omega) (by exact proofs_stay (by assumption) (by assumption) (by omega)) rfl _ (by rfl)
              · skip
                refine v_iload_n hG dX12_proofs_56 rfl 2 rfl ?_
                have e16 : @Eq Int (q_proofs s) ((j : Int)) := by exact proofs_hit (by assumption) (by assumption) (by omega) (by omega)
                exact v_ireturn hG hR dX12_proofs_57 () (congrArg (fun z => some (vI z)) e16) (by trivial) (fun _ hM => hM)
        exact L8 _ 0 (by omega) (by rfl) rfl _ (by rfl)
      · skip
        refine v_iload_n hG dX12_proofs_15 rfl 1 rfl ?_
        refine v_aload_n hG dX12_proofs_16 rfl 0 rfl ?_
        refine v_iload_n hG dX12_proofs_17 rfl 2 rfl ?_
        refine v_callV (k1' := 0) (k2' := 0) hG dX12_proofs_18 zc_X12_hasFlaw ⟨zl_X12_247, zi_X12_hasFlaw, zs_X12_hasFlaw⟩ (fun l => k_hasFlaw l D A a s im fr bY tr ln bl bo g lg (k : Int) (by omega) (by first | assumption | (exact hM _ (by omega) (by omega)))) rfl mw_recv (fun _ h => h) ⟨by decide, by decide⟩ rfl rfl ⟨by decide, by decide⟩ (rest := [vI (bset (fun m => flawed s m) k)]) rfl (Nat.le_of_ble_eq_true rfl) (fun u17 => [vI (bi (s (11 + (k : Int)) = 1 ∧ 0 < s (19 + (k : Int)))), vI (bset (fun m => flawed s m) k)]) (fun _ => rfl) (fun u17 hu17 => ?_)
        refine v_ifb_eq (p := s (11 + (k : Int)) = 1 ∧ 0 < s (19 + (k : Int))) (tgt := 30) hG dX12_proofs_21 (by decide) (fun c18 => ?_) (fun c18 => ?_)
        · skip
          refine v_iconst hG dX12_proofs_30 ?_
          refine v_ior hG dX12_proofs_31 ?_
          refine v_istore_n (lo' := [(1, vI (ior (bset (fun m => flawed s m) k) 0)), (0, .ref (a 0)), (2, vI (k : Int))]) hG dX12_proofs_32 rfl (by decide) rfl ?_
          refine v_iinc (lo' := [(2, vI ((k : Int) + 1)), (1, vI (ior (bset (fun m => flawed s m) k) 0)), (0, .ref (a 0))]) hG dX12_proofs_33 2 rfl (by decide) rfl ?_
          refine v_goto (tgt := 4) hG dX12_proofs_36 (by decide) ?_
          refine v_lo [2, 1, 0] (lo' := [(0, .ref (a 0)), (1, vI (ior (bset (fun m => flawed s m) k) 0)), (2, vI ((k : Int) + 1))]) rfl ?_
          exact ihL3 _ (by omega) (k + 1) (by omega) rfl _ (by first | omega | rfl | (simp [c6, c18]; done)) _ (by first | exact bset_step (flaw_t (by assumption)) (by omega) | exact bset_stay (flaw_f (by assumption)) (by omega))
        · skip
          refine v_iconst hG dX12_proofs_24 ?_
          refine v_iload_n hG dX12_proofs_25 rfl 2 rfl ?_
          refine v_ishl hG dX12_proofs_26 (by omega) ?_
          refine v_goto (tgt := 31) hG dX12_proofs_27 (by decide) ?_
          refine v_ior hG dX12_proofs_31 ?_
          refine v_istore_n (lo' := [(1, vI (ior (bset (fun m => flawed s m) k) (1 * 2 ^ (k : Int).toNat))), (0, .ref (a 0)), (2, vI (k : Int))]) hG dX12_proofs_32 rfl (by decide) rfl ?_
          refine v_iinc (lo' := [(2, vI ((k : Int) + 1)), (1, vI (ior (bset (fun m => flawed s m) k) (1 * 2 ^ (k : Int).toNat))), (0, .ref (a 0))]) hG dX12_proofs_33 2 rfl (by decide) rfl ?_
          refine v_goto (tgt := 4) hG dX12_proofs_36 (by decide) ?_
          refine v_lo [2, 1, 0] (lo' := [(0, .ref (a 0)), (1, vI (ior (bset (fun m => flawed s m) k) (1 * 2 ^ (k : Int).toNat))), (2, vI ((k : Int) + 1))]) rfl ?_
          exact ihL3 _ (by omega) (k + 1) (by omega) rfl _ (by first | omega | rfl | (simp [c6, c18]; done)) _ (by first | exact bset_step (flaw_t (by assumption)) (by omega) | exact bset_stay (flaw_f (by assumption)) (by omega))
  exact L3 _ 0 (by omega) rfl _ (by first | omega | rfl | (simp []; done)) _ (by first | omega | rfl | (simp []; done))
set_option maxHeartbeats 4000000 in
set_option maxRecDepth 100000 in
theorem k_mends (l : Launch) (D : Dx) (A : Nat → Prop) (a : Nat → Nat) (s im fr bY tr ln bl bo g lg : Int → Int) (hN : NM s) (hM : GM s) (hP : PL s) (hT : TI s) : CT l D A yX12_mends cX12_mends 3 (some .int) { frames := 5, cells := 0, slots := 0, locals := 113 } [.ref (a 0)] (MW D A a s im fr bY tr ln bl bo g lg) (fun u : (Int → Int) => some (vI (bset (menF s) (s 43).toNat))) (fun _ => True) (fun u => MW D A a s im u bY tr ln bl bo g lg) := by
  refine ct_of (lo0 := [(0, .ref (a 0))]) (by decide) (Nat.le_of_ble_eq_true rfl) rfl ?_
  intro G hG hR
  have hN9 : 0 ≤ s 43 ∧ s 43 ≤ 8 := hN
  refine v_iconst hG dX12_mends_0 ?_
  refine v_istore_n (lo' := [(1, vI 0), (0, .ref (a 0))]) hG dX12_mends_1 rfl (by decide) rfl ?_
  refine v_iconst hG dX12_mends_2 ?_
  refine v_istore_n (lo' := [(2, vI 0), (1, vI 0), (0, .ref (a 0))]) hG dX12_mends_3 rfl (by decide) rfl ?_
  refine v_lo [2, 1, 0] (lo' := [(0, .ref (a 0)), (1, vI 0), (2, vI 0)]) rfl ?_
  have L4 : ∀ mz : Nat, ∀ (k : Nat), ((k : Int) ≤ s 43) → (s 43 - (k : Int)).toNat = mz → ∀ x1 : Int, x1 = ((k : Int)) → ∀ x2 : Int, x2 = (bset (menF s) k) → ∀ x3 : Int → Int, V G 0 0 (MW D A a s im x3 bY tr ln bl bo g lg) 4 [(0, .ref (a 0)), (1, vI x2), (2, vI x1)] [] := by
    intro dL4
    induction dL4 using Nat.strongRecOn with
    | ind dL4 ihL4 =>
      intro k h5 h6
      intro x1 hx1
      subst hx1
      intro x2 hx2
      subst hx2
      intro x3
      refine v_iload_n hG dX12_mends_4 rfl 2 rfl ?_
      refine v_aload_n hG dX12_mends_5 rfl 0 rfl ?_
      refine mg_s hG dX12_mends_6 ?_
      refine v_bipush hG dX12_mends_9 (by decide) ?_
      refine ma_s (z := s 43) hG dX12_mends_11 (by omega) rfl ?_
      refine v_icmp_ge (tgt := 61) hG dX12_mends_12 (by decide) (by omega) (by omega) (fun c7 => ?_) (fun c7 => ?_)
      · skip
        refine v_iload_n hG dX12_mends_61 rfl 1 rfl ?_
        have e8 : @Eq Int (bset (menF s) (s 43).toNat) (bset (menF s) k) := by rw [show k = (s 43).toNat by omega]
        exact v_ireturn hG hR dX12_mends_62 x3 (congrArg (fun z => some (vI z)) e8) (by trivial) (fun _ hM => hM)
      · skip
        refine v_aload_n hG dX12_mends_15 rfl 0 rfl ?_
        refine v_iload_n hG dX12_mends_16 rfl 2 rfl ?_
        refine v_callV (k1' := 0) (k2' := 0) hG dX12_mends_17 zc_X12_hasFlaw ⟨zl_X12_247, zi_X12_hasFlaw, zs_X12_hasFlaw⟩ (fun l => k_hasFlaw l D A a s im x3 bY tr ln bl bo g lg (k : Int) (by omega) (by first | assumption | (exact hM _ (by omega) (by omega)))) rfl mw_recv (fun _ h => h) ⟨by decide, by decide⟩ rfl rfl ⟨by decide, by decide⟩ (rest := []) rfl (Nat.le_of_ble_eq_true rfl) (fun u9 => [vI (bi (s (11 + (k : Int)) = 1 ∧ 0 < s (19 + (k : Int))))]) (fun _ => rfl) (fun u9 hu9 => ?_)
        refine v_ifb_eq (p := s (11 + (k : Int)) = 1 ∧ 0 < s (19 + (k : Int))) (tgt := 55) hG dX12_mends_20 (by decide) (fun c10 => ?_) (fun c10 => ?_)
        · skip
          refine v_iinc (lo' := [(2, vI ((k : Int) + 1)), (0, .ref (a 0)), (1, vI (bset (menF s) k))]) hG dX12_mends_55 2 rfl (by decide) rfl ?_
          refine v_goto (tgt := 4) hG dX12_mends_58 (by decide) ?_
          refine v_lo [1, 2, 0] (lo' := [(0, .ref (a 0)), (1, vI (bset (menF s) k)), (2, vI ((k : Int) + 1))]) rfl ?_
          exact ihL4 _ (by omega) (k + 1) (by omega) rfl _ (by first | omega | rfl | (simp [c7, c10]; done)) _ (by first | exact bset_step (menF_t (by assumption) (by assumption)) (by omega) | exact bset_same (menF_f1 (by assumption)) | exact bset_stay (menF_f2 (by assumption)) (by omega)) _
        · skip
          refine v_aload_n hG dX12_mends_23 rfl 0 rfl ?_
          have hk8 : 0 ≤ (k : Int) ∧ (k : Int) < 8 := by omega
          refine v_callV (k1' := 0) (k2' := 0) hG dX12_mends_24 zc_X12_keeps ⟨zl_X12_253, zi_X12_keeps, zs_X12_keeps⟩ (fun l => k_keeps l D A a s im x3 bY tr ln bl bo g lg) rfl mw_recv (fun _ h => h) ⟨by decide, by decide⟩ rfl rfl ⟨by decide, by decide⟩ (rest := []) rfl (Nat.le_of_ble_eq_true rfl) (fun u11 => []) (fun _ => rfl) (fun u11 hu11 => ?_)
          refine v_aload_n hG dX12_mends_27 rfl 0 rfl ?_
          refine v_iload_n hG dX12_mends_28 rfl 2 rfl ?_
          refine v_callV (k1' := 0) (k2' := 0) hG dX12_mends_29 zc_X12_mendsOne ⟨zl_X12_181, zi_X12_mendsOne, zs_X12_mendsOne⟩ (fun l => k_mendsOne l D A a s im (cpy 43 s x3) bY tr ln bl bo g lg (k : Int) (by omega) (by first | assumption | (exact hM _ (by omega) (by omega))) (by assumption) (by exact hT)) rfl mw_recv (fun _ h => h) ⟨by decide, by decide⟩ rfl rfl ⟨by decide, by decide⟩ (rest := []) rfl (Nat.le_of_ble_eq_true rfl) (fun u12 => []) (fun _ => rfl) (fun u12 hu12 => ?_)
          refine v_iload_n hG dX12_mends_32 rfl 1 rfl ?_
          refine v_aload_n hG dX12_mends_33 rfl 0 rfl ?_
          refine v_iload_n hG dX12_mends_34 rfl 2 rfl ?_
          refine v_iconst hG dX12_mends_35 ?_
          refine v_callV (k1' := 0) (k2' := 0) hG dX12_mends_36 zc_X12_doesPrint ⟨zl_X12_187, zi_X12_doesPrint, zs_X12_doesPrint⟩ (fun l => k_doesPrint l D A a (p_mend s (k : Int)) im (cpy 43 s x3) bY tr ln bl bo g lg (k : Int) 0 (by omega) (by exact MK_mend (by omega) (by omega) (hM _ (by omega) (by omega))) (by exact lo_PL (p_mend_lo (by omega)) hP) (by omega)) rfl mw_recv (fun _ h => h) ⟨by decide, by decide⟩ rfl rfl ⟨by decide, by decide⟩ (rest := [vI (bset (menF s) k)]) rfl (Nat.le_of_ble_eq_true rfl) (fun u13 => [vI (bi (0 < q_dk (p_mend s (k : Int)) (k : Int) 0)), vI (bset (menF s) k)]) (fun _ => rfl) (fun u13 hu13 => ?_)
          refine v_ifb_eq (p := 0 < q_dk (p_mend s (k : Int)) (k : Int) 0) (tgt := 48) hG dX12_mends_39 (by decide) (fun c14 => ?_) (fun c14 => ?_)
          · skip
            refine v_iconst hG dX12_mends_48 ?_
            refine v_ior hG dX12_mends_49 ?_
            refine v_istore_n (lo' := [(1, vI (ior (bset (menF s) k) 0)), (0, .ref (a 0)), (2, vI (k : Int))]) hG dX12_mends_50 rfl (by decide) rfl ?_
            refine v_aload_n hG dX12_mends_51 rfl 1 rfl ?_
            refine v_callV (k1' := 0) (k2' := 0) hG dX12_mends_52 zc_X12_goesBack ⟨zl_X12_256, zi_X12_goesBack, zs_X12_goesBack⟩ (fun l => k_goesBack l D A a (p_mend s (k : Int)) im (cpy 43 s x3) bY tr ln bl bo g lg) rfl mw_recv (fun _ h => h) ⟨by decide, by decide⟩ rfl rfl ⟨by decide, by decide⟩ (rest := []) rfl (Nat.le_of_ble_eq_true rfl) (fun u15 => []) (fun _ => rfl) (fun u15 hu15 => ?_)
            rw [show cpy 43 (cpy 43 s x3) (p_mend s (k : Int)) = s from by exact back_eq (p_mend_lo hk8)]
            refine v_iinc (lo' := [(2, vI ((k : Int) + 1)), (1, vI (ior (bset (menF s) k) 0)), (0, .ref (a 0))]) hG dX12_mends_55 2 rfl (by decide) rfl ?_
            refine v_goto (tgt := 4) hG dX12_mends_58 (by decide) ?_
            refine v_lo [2, 1, 0] (lo' := [(0, .ref (a 0)), (1, vI (ior (bset (menF s) k) 0)), (2, vI ((k : Int) + 1))]) rfl ?_
            exact ihL4 _ (by omega) (k + 1) (by omega) rfl _ (by first | omega | rfl | (simp [c7, c10, c14]; done)) _ (by first | exact bset_step (menF_t (by assumption) (by assumption)) (by omega) | exact bset_same (menF_f1 (by assumption)) | exact bset_stay (menF_f2 (by assumption)) (by omega)) _
          · skip
            refine v_iconst hG dX12_mends_42 ?_
            refine v_iload_n hG dX12_mends_43 rfl 2 rfl ?_
            refine v_ishl hG dX12_mends_44 (by omega) ?_
            refine v_goto (tgt := 49) hG dX12_mends_45 (by decide) ?_
            refine v_ior hG dX12_mends_49 ?_
            refine v_istore_n (lo' := [(1, vI (ior (bset (menF s) k) (1 * 2 ^ (k : Int).toNat))), (0, .ref (a 0)), (2, vI (k : Int))]) hG dX12_mends_50 rfl (by decide) rfl ?_
            refine v_aload_n hG dX12_mends_51 rfl 1 rfl ?_
            refine v_callV (k1' := 0) (k2' := 0) hG dX12_mends_52 zc_X12_goesBack ⟨zl_X12_256, zi_X12_goesBack, zs_X12_goesBack⟩ (fun l => k_goesBack l D A a (p_mend s (k : Int)) im (cpy 43 s x3) bY tr ln bl bo g lg) rfl mw_recv (fun _ h => h) ⟨by decide, by decide⟩ rfl rfl ⟨by decide, by decide⟩ (rest := []) rfl (Nat.le_of_ble_eq_true rfl) (fun u16 => []) (fun _ => rfl) (fun u16 hu16 => ?_)
            rw [show cpy 43 (cpy 43 s x3) (p_mend s (k : Int)) = s from by exact back_eq (p_mend_lo hk8)]
            refine v_iinc (lo' := [(2, vI ((k : Int) + 1)), (1, vI (ior (bset (menF s) k) (1 * 2 ^ (k : Int).toNat))), (0, .ref (a 0))]) hG dX12_mends_55 2 rfl (by decide) rfl ?_
            refine v_goto (tgt := 4) hG dX12_mends_58 (by decide) ?_
            refine v_lo [2, 1, 0] (lo' := [(0, .ref (a 0)), (1, vI (ior (bset (menF s) k) (1 * 2 ^ (k : Int).toNat))), (2, vI ((k : Int) + 1))]) rfl ?_
            exact ihL4 _ (by omega) (k + 1) (by omega) rfl _ (by first | omega | rfl | (simp [c7, c10, c14]; done)) _ (by first | exact bset_step (menF_t (by assumption) (by assumption)) (by omega) | exact bset_same (menF_f1 (by assumption)) | exact bset_stay (menF_f2 (by assumption)) (by omega)) _
  exact L4 _ 0 (by omega) rfl _ (by first | omega | rfl | (simp []; done)) _ (by first | omega | rfl | (simp []; done)) _
set_option maxHeartbeats 4000000 in
set_option maxRecDepth 100000 in
theorem k_goodNow (l : Launch) (D : Dx) (A : Nat → Prop) (a : Nat → Nat) (s im fr bY tr ln bl bo g lg : Int → Int) (hN : NM s) (hM : GM s) (hP : PL s) : CT l D A yX12_goodNow cX12_goodNow 2 (some .int) { frames := 6, cells := 0, slots := 0, locals := 137 } [.ref (a 0)] (MW D A a s im fr bY tr ln bl bo g lg) (fun _ : Unit => some (vI (q_gn s))) (fun _ => 0 ≤ q_gn s ∧ q_gn s ≤ 999) (fun _ => MW D A a s im fr bY tr ln bl bo g lg) := by
  refine ct_of (lo0 := [(0, .ref (a 0))]) (by decide) (Nat.le_of_ble_eq_true rfl) rfl ?_
  intro G hG hR
  have hN9 : 0 ≤ s 43 ∧ s 43 ≤ 8 := hN
  have hq := q_now_rng hN
  refine v_aload_n hG dX12_goodNow_0 rfl 0 rfl ?_
  refine v_aload_n hG dX12_goodNow_1 rfl 0 rfl ?_
  refine v_callV (k1' := 0) (k2' := 0) hG dX12_goodNow_2 zc_X12_printsNow ⟨zl_X12_197, zi_X12_printsNow, zs_X12_printsNow⟩ (fun l => k_printsNow l D A a s im fr bY tr ln bl bo g lg (by assumption) (by assumption) (by assumption)) rfl mw_recv (fun _ h => h) ⟨by decide, by decide⟩ rfl rfl ⟨by decide, by decide⟩ (rest := [.ref (a 0)]) rfl (Nat.le_of_ble_eq_true rfl) (fun u1 => [vI (q_now s), .ref (a 0)]) (fun _ => rfl) (fun u1 hu1 => ?_)
  have fu1 : 0 ≤ q_now s ∧ q_now s < 256 := hu1
  refine v_callV (k1' := 0) (k2' := 0) hG dX12_goodNow_5 zc_X12_goodOf ⟨zl_X12_200, zi_X12_goodOf, zs_X12_goodOf⟩ (fun l => k_goodOf l D A a s im fr bY tr ln bl bo g lg (q_now s) (by assumption) (by assumption) (by assumption) (by omega)) rfl mw_recv (fun _ h => h) ⟨by decide, by decide⟩ rfl rfl ⟨by decide, by decide⟩ (rest := []) rfl (Nat.le_of_ble_eq_true rfl) (fun u2 => [vI (q_goodOf s (q_now s))]) (fun _ => rfl) (fun u2 hu2 => ?_)
  have fu2 : -5 ≤ q_goodOf s (q_now s) ∧ q_goodOf s (q_now s) ≤ 999 := hu2
  refine v_istore_n (lo' := [(1, vI (q_goodOf s (q_now s))), (0, .ref (a 0))]) hG dX12_goodNow_8 rfl (by decide) rfl ?_
  refine v_iload_n hG dX12_goodNow_9 rfl 0 rfl ?_
  refine v_if_ge (tgt := 17) hG dX12_goodNow_10 (by decide) (by omega) (fun c3 => ?_) (fun c3 => ?_)
  · skip
    refine v_iload_n hG dX12_goodNow_17 rfl 0 rfl ?_
    have e4 : @Eq Int (q_gn s) (q_goodOf s (q_now s)) := by unfold q_gn; split <;> omega
    exact v_ireturn hG hR dX12_goodNow_18 () (congrArg (fun z => some (vI z)) e4) (by exact q_gn_rng s) (fun _ hM => hM)
  · skip
    refine v_iconst hG dX12_goodNow_13 ?_
    refine v_goto (tgt := 18) hG dX12_goodNow_14 (by decide) ?_
    have e5 : @Eq Int (q_gn s) (0) := by unfold q_gn; split <;> omega
    exact v_ireturn hG hR dX12_goodNow_18 () (congrArg (fun z => some (vI z)) e5) (by exact q_gn_rng s) (fun _ hM => hM)
set_option maxHeartbeats 4000000 in
set_option maxRecDepth 100000 in
theorem k_worthOf (l : Launch) (D : Dx) (A : Nat → Prop) (a : Nat → Nat) (s im fr bY tr ln bl bo g lg : Int → Int) (m : Int) (h8 : 0 ≤ m ∧ m < s 43) (hN : NM s) (hM : GM s) (hP : PL s) (hT : TI s) : CT l D A yX12_worthOf cX12_worthOf 4 (some .int) { frames := 7, cells := 0, slots := 0, locals := 158 } [.ref (a 0), vI m] (MW D A a s im fr bY tr ln bl bo g lg) (fun u : (Int → Int) => some (vI (q_worth s m))) (fun u => -999 ≤ q_worth s m ∧ q_worth s m ≤ 999) (fun u => MW D A a s im u bY tr ln bl bo g lg) := by
  refine ct_of (lo0 := [(0, .ref (a 0)), (1, vI m)]) (by decide) (Nat.le_of_ble_eq_true rfl) rfl ?_
  intro G hG hR
  have hN9 : 0 ≤ s 43 ∧ s 43 ≤ 8 := hN
  refine v_aload_n hG dX12_worthOf_0 rfl 0 rfl ?_
  refine v_callV (k1' := 0) (k2' := 0) hG dX12_worthOf_1 zc_X12_goodNow ⟨zl_X12_259, zi_X12_goodNow, zs_X12_goodNow⟩ (fun l => k_goodNow l D A a s im fr bY tr ln bl bo g lg (by assumption) (by assumption) (by assumption)) rfl mw_recv (fun _ h => h) ⟨by decide, by decide⟩ rfl rfl ⟨by decide, by decide⟩ (rest := []) rfl (Nat.le_of_ble_eq_true rfl) (fun u1 => [vI (q_gn s)]) (fun _ => rfl) (fun u1 hu1 => ?_)
  have fu1 : 0 ≤ q_gn s ∧ q_gn s ≤ 999 := hu1
  refine v_istore_n (lo' := [(2, vI (q_gn s)), (0, .ref (a 0)), (1, vI m)]) hG dX12_worthOf_4 rfl (by decide) rfl ?_
  refine v_aload_n hG dX12_worthOf_5 rfl 1 rfl ?_
  refine v_callV (k1' := 0) (k2' := 0) hG dX12_worthOf_6 zc_X12_keeps ⟨zl_X12_253, zi_X12_keeps, zs_X12_keeps⟩ (fun l => k_keeps l D A a s im fr bY tr ln bl bo g lg) rfl mw_recv (fun _ h => h) ⟨by decide, by decide⟩ rfl rfl ⟨by decide, by decide⟩ (rest := []) rfl (Nat.le_of_ble_eq_true rfl) (fun u2 => []) (fun _ => rfl) (fun u2 hu2 => ?_)
  refine v_aload_n hG dX12_worthOf_9 rfl 1 rfl ?_
  refine v_iload_n hG dX12_worthOf_10 rfl 2 rfl ?_
  refine v_callV (k1' := 0) (k2' := 0) hG dX12_worthOf_11 zc_X12_goesOver ⟨zl_X12_184, zi_X12_goesOver, zs_X12_goesOver⟩ (fun l => k_goesOver l D A a s im (cpy 43 s fr) bY tr ln bl bo g lg m (by omega) (by first | assumption | (exact hM _ (by omega) (by omega))) (by exact hT)) rfl mw_recv (fun _ h => h) ⟨by decide, by decide⟩ rfl rfl ⟨by decide, by decide⟩ (rest := []) rfl (Nat.le_of_ble_eq_true rfl) (fun u3 => []) (fun _ => rfl) (fun u3 hu3 => ?_)
  refine v_aload_n hG dX12_worthOf_14 rfl 1 rfl ?_
  refine v_callV (k1' := 0) (k2' := 0) hG dX12_worthOf_15 zc_X12_goodNow ⟨zl_X12_259, zi_X12_goodNow, zs_X12_goodNow⟩ (fun l => k_goodNow l D A a (p_over s m) im (cpy 43 s fr) bY tr ln bl bo g lg (by exact lo_NM (p_over_lo (by omega)) hN) (by exact GM_over hN (by omega) hM) (by exact lo_PL (p_over_lo (by omega)) hP)) rfl mw_recv (fun _ h => h) ⟨by decide, by decide⟩ rfl rfl ⟨by decide, by decide⟩ (rest := []) rfl (Nat.le_of_ble_eq_true rfl) (fun u4 => [vI (q_gn (p_over s m))]) (fun _ => rfl) (fun u4 hu4 => ?_)
  have fu4 : 0 ≤ q_gn (p_over s m) ∧ q_gn (p_over s m) ≤ 999 := hu4
  refine v_istore_n (lo' := [(3, vI (q_gn (p_over s m))), (2, vI (q_gn s)), (0, .ref (a 0)), (1, vI m)]) hG dX12_worthOf_18 rfl (by decide) rfl ?_
  refine v_aload_n hG dX12_worthOf_19 rfl 2 rfl ?_
  refine v_callV (k1' := 0) (k2' := 0) hG dX12_worthOf_20 zc_X12_goesBack ⟨zl_X12_256, zi_X12_goesBack, zs_X12_goesBack⟩ (fun l => k_goesBack l D A a (p_over s m) im (cpy 43 s fr) bY tr ln bl bo g lg) rfl mw_recv (fun _ h => h) ⟨by decide, by decide⟩ rfl rfl ⟨by decide, by decide⟩ (rest := []) rfl (Nat.le_of_ble_eq_true rfl) (fun u5 => []) (fun _ => rfl) (fun u5 hu5 => ?_)
  rw [show cpy 43 (cpy 43 s fr) (p_over s m) = s from by exact back_eq (p_over_lo (by omega))]
  refine v_iload_n hG dX12_worthOf_23 rfl 0 rfl ?_
  refine v_iload_n hG dX12_worthOf_24 rfl 1 rfl ?_
  refine v_isub hG dX12_worthOf_25 ?_
  have e6 : @Eq Int (q_worth s m) ((q_gn (p_over s m)) - (q_gn s)) := by rfl
  exact v_ireturn hG hR dX12_worthOf_26 (cpy 43 s fr) (congrArg (fun z => some (vI z)) e6) (by exact q_worth_rng s m) (fun _ hM => hM)
set_option maxHeartbeats 4000000 in
set_option maxRecDepth 100000 in
theorem k_worth (l : Launch) (D : Dx) (A : Nat → Prop) (a : Nat → Nat) (s im fr bY tr ln bl bo g lg : Int → Int) (m : Int) (hr : -2147483648 ≤ m ∧ m < 2147483648) (hN : NM s) (hM : GM s) (hP : PL s) (hT : TI s) : CT l D A yX12_worth cX12_worth 2 (some .int) { frames := 8, cells := 0, slots := 0, locals := 181 } [.ref (a 0), vI m] (MW D A a s im fr bY tr ln bl bo g lg) (fun u : (Int → Int) => some (vI (a_worth s m))) (fun _ => True) (fun u => MW D A a s im u bY tr ln bl bo g lg) := by
  refine ct_of (lo0 := [(0, .ref (a 0)), (1, vI m)]) (by decide) (Nat.le_of_ble_eq_true rfl) rfl ?_
  intro G hG hR
  have hN9 : 0 ≤ s 43 ∧ s 43 ≤ 8 := hN
  refine v_aload_n hG dX12_worth_0 rfl 0 rfl ?_
  refine v_iload_n hG dX12_worth_1 rfl 1 rfl ?_
  refine v_callV (k1' := 0) (k2' := 0) hG dX12_worth_2 zc_X12_isMark ⟨zl_X12_150, zi_X12_isMark, zs_X12_isMark⟩ (fun l => k_isMark l D A a s im fr bY tr ln bl bo g lg m (by omega) (by assumption)) rfl mw_recv (fun _ h => h) ⟨by decide, by decide⟩ rfl rfl ⟨by decide, by decide⟩ (rest := []) rfl (Nat.le_of_ble_eq_true rfl) (fun u1 => [vI (bi (0 ≤ m ∧ m ≤ s 43 - 1))]) (fun _ => rfl) (fun u1 hu1 => ?_)
  refine v_ifb_ne (p := 0 ≤ m ∧ m ≤ s 43 - 1) (tgt := 14) hG dX12_worth_5 (by decide) (fun c2 => ?_) (fun c2 => ?_)
  · skip
    refine v_aload_n hG dX12_worth_14 rfl 0 rfl ?_
    refine v_iload_n hG dX12_worth_15 rfl 1 rfl ?_
    refine v_callV (k1' := 0) (k2' := 0) hG dX12_worth_16 zc_X12_isCut ⟨zl_X12_137, zi_X12_isCut, zs_X12_isCut⟩ (fun l => k_isCut l D A a s im fr bY tr ln bl bo g lg m (by omega) (by first | exact hm.2.2.2.2.1 | exact (hM _ (by omega) (by omega)).2.2.2.2.1 | omega)) rfl mw_recv (fun _ h => h) ⟨by decide, by decide⟩ rfl rfl ⟨by decide, by decide⟩ (rest := []) rfl (Nat.le_of_ble_eq_true rfl) (fun u3 => [vI (bi (s (11 + m) = 1))]) (fun _ => rfl) (fun u3 hu3 => ?_)
    refine v_ifb_ne (p := s (11 + m) = 1) (tgt := 28) hG dX12_worth_19 (by decide) (fun c4 => ?_) (fun c4 => ?_)
    · skip
      refine v_aload_n hG dX12_worth_28 rfl 0 rfl ?_
      refine v_iload_n hG dX12_worth_29 rfl 1 rfl ?_
      refine v_callV (k1' := 0) (k2' := 0) hG dX12_worth_30 zc_X12_worthOf ⟨zl_X12_262, zi_X12_worthOf, zs_X12_worthOf⟩ (fun l => k_worthOf l D A a s im fr bY tr ln bl bo g lg m (by omega) (by assumption) (by assumption) (by assumption) (by assumption)) rfl mw_recv (fun _ h => h) ⟨by decide, by decide⟩ rfl rfl ⟨by decide, by decide⟩ (rest := []) rfl (Nat.le_of_ble_eq_true rfl) (fun u5 => [vI (q_worth s m)]) (fun _ => rfl) (fun u5 hu5 => ?_)
      have fu5 : -999 ≤ q_worth s m ∧ q_worth s m ≤ 999 := hu5
      have e6 : @Eq Int (a_worth s m) (q_worth s m) := by first | rfl | (simp only [a_worth, if_pos c2, if_pos c4]; done) | (simp only [a_worth, if_pos c2, if_pos c4]; done) | (simp only [a_worth, if_pos c2, if_pos c4]; rfl) | (simp only [a_worth, if_pos c2, if_pos c4]; omega)
      exact v_ireturn hG hR dX12_worth_33 u5 (congrArg (fun z => some (vI z)) e6) (by trivial) (fun _ hM => hM)
    · skip
      refine v_sipush hG dX12_worth_22 (by decide) ?_
      refine v_goto (tgt := 33) hG dX12_worth_25 (by decide) ?_
      have e7 : @Eq Int (a_worth s m) (-1002) := by first | rfl | (simp only [a_worth, if_pos c2, if_neg c4]; done) | (simp only [a_worth, if_pos c2, if_neg c4]; done) | (simp only [a_worth, if_pos c2, if_neg c4]; rfl) | (simp only [a_worth, if_pos c2, if_neg c4]; omega)
      exact v_ireturn hG hR dX12_worth_33 fr (congrArg (fun z => some (vI z)) e7) (by trivial) (fun _ hM => hM)
  · skip
    refine v_sipush hG dX12_worth_8 (by decide) ?_
    refine v_goto (tgt := 33) hG dX12_worth_11 (by decide) ?_
    have e8 : @Eq Int (a_worth s m) (-1001) := by first | rfl | (simp only [a_worth, if_neg c2]; done) | (simp only [a_worth, if_neg c2]; done) | (simp only [a_worth, if_neg c2]; rfl) | (simp only [a_worth, if_neg c2]; omega)
    exact v_ireturn hG hR dX12_worth_33 fr (congrArg (fun z => some (vI z)) e8) (by trivial) (fun _ hM => hM)
set_option maxHeartbeats 4000000 in
set_option maxRecDepth 100000 in
theorem k_best (l : Launch) (D : Dx) (A : Nat → Prop) (a : Nat → Nat) (s im fr bY tr ln bl bo g lg : Int → Int) (hN : NM s) (hM : GM s) (hP : PL s) (hT : TI s) : CT l D A yX12_best cX12_best 5 (some .int) { frames := 8, cells := 0, slots := 0, locals := 181 } [.ref (a 0)] (MW D A a s im fr bY tr ln bl bo g lg) (fun u : (Int → Int) => some (vI ((bestF 0 (worF s) (s 43).toNat).2))) (fun _ => True) (fun u => MW D A a s im u bY tr ln bl bo g lg) := by
  refine ct_of (lo0 := [(0, .ref (a 0))]) (by decide) (Nat.le_of_ble_eq_true rfl) rfl ?_
  intro G hG hR
  have hN9 : 0 ≤ s 43 ∧ s 43 ≤ 8 := hN
  refine v_iconst hG dX12_best_0 ?_
  refine v_istore_n (lo' := [(1, vI 0), (0, .ref (a 0))]) hG dX12_best_1 rfl (by decide) rfl ?_
  refine v_bipush hG dX12_best_2 (by decide) ?_
  refine v_istore_n (lo' := [(2, vI (-5)), (1, vI 0), (0, .ref (a 0))]) hG dX12_best_4 rfl (by decide) rfl ?_
  refine v_iconst hG dX12_best_5 ?_
  refine v_istore_n (lo' := [(3, vI 0), (2, vI (-5)), (1, vI 0), (0, .ref (a 0))]) hG dX12_best_6 rfl (by decide) rfl ?_
  refine v_lo [3, 2, 1, 0] (lo' := [(0, .ref (a 0)), (1, vI 0), (2, vI (-5)), (3, vI 0)]) rfl ?_
  have L5 : ∀ mz : Nat, ∀ (k : Nat), ((k : Int) ≤ s 43) → (s 43 - (k : Int)).toNat = mz → ∀ x1 : Int, x1 = ((k : Int)) → ∀ x2 : Int, x2 = ((bestF 0 (worF s) k).1) → ∀ x3 : Int, x3 = ((bestF 0 (worF s) k).2) → ∀ x4 : Int → Int, V G 0 0 (MW D A a s im x4 bY tr ln bl bo g lg) 7 [(0, .ref (a 0)), (1, vI x2), (2, vI x3), (3, vI x1)] [] := by
    intro dL5
    induction dL5 using Nat.strongRecOn with
    | ind dL5 ihL5 =>
      intro k h6 h7
      intro x1 hx1
      subst hx1
      intro x2 hx2
      subst hx2
      intro x3 hx3
      subst hx3
      intro x4
      have hbr := bestF_rng (i0 := 0) (f := worF s) (b := 999) (by omega) (fun k => worF_rng s k) k
      refine v_iload_n hG dX12_best_7 rfl 3 rfl ?_
      refine v_aload_n hG dX12_best_8 rfl 0 rfl ?_
      refine mg_s hG dX12_best_9 ?_
      refine v_bipush hG dX12_best_12 (by decide) ?_
      refine ma_s (z := s 43) hG dX12_best_14 (by omega) rfl ?_
      refine v_icmp_ge (tgt := 68) hG dX12_best_15 (by decide) (by omega) (by omega) (fun c8 => ?_) (fun c8 => ?_)
      · skip
        refine v_iload_n hG dX12_best_68 rfl 2 rfl ?_
        have e9 : @Eq Int ((bestF 0 (worF s) (s 43).toNat).2) ((bestF 0 (worF s) k).2) := by rw [show k = (s 43).toNat by omega]
        exact v_ireturn hG hR dX12_best_69 x4 (congrArg (fun z => some (vI z)) e9) (by trivial) (fun _ hM => hM)
      · skip
        refine v_aload_n hG dX12_best_18 rfl 0 rfl ?_
        refine v_iload_n hG dX12_best_19 rfl 3 rfl ?_
        refine v_callV (k1' := 0) (k2' := 0) hG dX12_best_20 zc_X12_isCut ⟨zl_X12_137, zi_X12_isCut, zs_X12_isCut⟩ (fun l => k_isCut l D A a s im x4 bY tr ln bl bo g lg (k : Int) (by omega) (by first | exact hm.2.2.2.2.1 | exact (hM _ (by omega) (by omega)).2.2.2.2.1 | omega)) rfl mw_recv (fun _ h => h) ⟨by decide, by decide⟩ rfl rfl ⟨by decide, by decide⟩ (rest := []) rfl (Nat.le_of_ble_eq_true rfl) (fun u10 => [vI (bi (s (11 + (k : Int)) = 1))]) (fun _ => rfl) (fun u10 hu10 => ?_)
        have J13 : ∀ z11 : Int, z11 = (if s (11 + (k : Int)) = 1 then q_worth s (k : Int) else 0) → ∀ z12 : Int → Int, V G 0 0 (MW D A a s im z12 bY tr ln bl bo g lg) 35 [(0, .ref (a 0)), (1, vI ((bestF 0 (worF s) k).1)), (2, vI ((bestF 0 (worF s) k).2)), (3, vI (k : Int))] [vI z11] := by
          intro z11 hz11
          intro z12
          have bz11 : -999 ≤ z11 ∧ z11 ≤ 999 := by rw [hz11]; exact worF_rng s k
          refine v_istore (lo' := [(4, vI z11), (0, .ref (a 0)), (1, vI ((bestF 0 (worF s) k).1)), (2, vI ((bestF 0 (worF s) k).2)), (3, vI (k : Int))]) hG dX12_best_35 (by decide) rfl ?_
          refine v_iload hG dX12_best_37 0 rfl ?_
          refine v_iload_n hG dX12_best_39 rfl 2 rfl ?_
          refine v_icmp_le (tgt := 47) hG dX12_best_40 (by decide) (by omega) (by omega) (fun c14 => ?_) (fun c14 => ?_)
          · skip
            refine v_iload_n hG dX12_best_47 rfl 3 rfl ?_
            refine v_istore_n (lo' := [(2, vI ((bestF 0 (worF s) k).2)), (4, vI z11), (0, .ref (a 0)), (1, vI ((bestF 0 (worF s) k).1)), (3, vI (k : Int))]) hG dX12_best_48 rfl (by decide) rfl ?_
            refine v_iload hG dX12_best_49 1 rfl ?_
            refine v_iload_n hG dX12_best_51 rfl 3 rfl ?_
            refine v_icmp_le (tgt := 60) hG dX12_best_52 (by decide) (by omega) (by omega) (fun c15 => ?_) (fun c15 => ?_)
            · skip
              refine v_iload_n hG dX12_best_60 rfl 3 rfl ?_
              refine v_istore_n (lo' := [(1, vI ((bestF 0 (worF s) k).1)), (2, vI ((bestF 0 (worF s) k).2)), (4, vI z11), (0, .ref (a 0)), (3, vI (k : Int))]) hG dX12_best_61 rfl (by decide) rfl ?_
              refine v_iinc (lo' := [(3, vI ((k : Int) + 1)), (1, vI ((bestF 0 (worF s) k).1)), (2, vI ((bestF 0 (worF s) k).2)), (4, vI z11), (0, .ref (a 0))]) hG dX12_best_62 4 rfl (by decide) rfl ?_
              refine v_goto (tgt := 7) hG dX12_best_65 (by decide) ?_
              refine v_lo [4, 1, 2, 0] (lo' := [(0, .ref (a 0)), (1, vI ((bestF 0 (worF s) k).1)), (2, vI ((bestF 0 (worF s) k).2)), (3, vI ((k : Int) + 1))]) rfl ?_
              exact ihL5 _ (by omega) (k + 1) (by omega) rfl _ (by first | omega | rfl | (simp [c8, hz11, c14, c15]; done)) _ (by subst hz11; first | (exfalso; omega) | (rw [best_n (f := worF s) (by assumption)] <;> rfl) | (rw [best_y (f := worF s) (by assumption)] <;> rfl)) _ (by subst hz11; first | (exfalso; omega) | (rw [best_n (f := worF s) (by assumption)] <;> rfl) | (rw [best_y (f := worF s) (by assumption)] <;> rfl)) _
            · skip
              refine v_iload hG dX12_best_55 1 rfl ?_
              refine v_goto (tgt := 61) hG dX12_best_57 (by decide) ?_
              refine v_istore_n (lo' := [(1, vI z11), (2, vI ((bestF 0 (worF s) k).2)), (4, vI z11), (0, .ref (a 0)), (3, vI (k : Int))]) hG dX12_best_61 rfl (by decide) rfl ?_
              refine v_iinc (lo' := [(3, vI ((k : Int) + 1)), (1, vI z11), (2, vI ((bestF 0 (worF s) k).2)), (4, vI z11), (0, .ref (a 0))]) hG dX12_best_62 4 rfl (by decide) rfl ?_
              refine v_goto (tgt := 7) hG dX12_best_65 (by decide) ?_
              refine v_lo [4, 1, 2, 0] (lo' := [(0, .ref (a 0)), (1, vI z11), (2, vI ((bestF 0 (worF s) k).2)), (3, vI ((k : Int) + 1))]) rfl ?_
              exact ihL5 _ (by omega) (k + 1) (by omega) rfl _ (by first | omega | rfl | (simp [c8, hz11, c14, c15]; done)) _ (by subst hz11; first | (exfalso; omega) | (rw [best_n (f := worF s) (by assumption)] <;> rfl) | (rw [best_y (f := worF s) (by assumption)] <;> rfl)) _ (by subst hz11; first | (exfalso; omega) | (rw [best_n (f := worF s) (by assumption)] <;> rfl) | (rw [best_y (f := worF s) (by assumption)] <;> rfl)) _
          · skip
            refine v_iload_n hG dX12_best_43 rfl 4 rfl ?_
            refine v_goto (tgt := 48) hG dX12_best_44 (by decide) ?_
            refine v_istore_n (lo' := [(2, vI (k : Int)), (4, vI z11), (0, .ref (a 0)), (1, vI ((bestF 0 (worF s) k).1)), (3, vI (k : Int))]) hG dX12_best_48 rfl (by decide) rfl ?_
            refine v_iload hG dX12_best_49 1 rfl ?_
            refine v_iload_n hG dX12_best_51 rfl 3 rfl ?_
            refine v_icmp_le (tgt := 60) hG dX12_best_52 (by decide) (by omega) (by omega) (fun c16 => ?_) (fun c16 => ?_)
            · skip
              refine v_iload_n hG dX12_best_60 rfl 3 rfl ?_
              refine v_istore_n (lo' := [(1, vI ((bestF 0 (worF s) k).1)), (2, vI (k : Int)), (4, vI z11), (0, .ref (a 0)), (3, vI (k : Int))]) hG dX12_best_61 rfl (by decide) rfl ?_
              refine v_iinc (lo' := [(3, vI ((k : Int) + 1)), (1, vI ((bestF 0 (worF s) k).1)), (2, vI (k : Int)), (4, vI z11), (0, .ref (a 0))]) hG dX12_best_62 4 rfl (by decide) rfl ?_
              refine v_goto (tgt := 7) hG dX12_best_65 (by decide) ?_
              refine v_lo [4, 1, 2, 0] (lo' := [(0, .ref (a 0)), (1, vI ((bestF 0 (worF s) k).1)), (2, vI (k : Int)), (3, vI ((k : Int) + 1))]) rfl ?_
              exact ihL5 _ (by omega) (k + 1) (by omega) rfl _ (by first | omega | rfl | (simp [c8, hz11, c14, c16]; done)) _ (by subst hz11; first | (exfalso; omega) | (rw [best_n (f := worF s) (by assumption)] <;> rfl) | (rw [best_y (f := worF s) (by assumption)] <;> rfl)) _ (by subst hz11; first | (exfalso; omega) | (rw [best_n (f := worF s) (by assumption)] <;> rfl) | (rw [best_y (f := worF s) (by assumption)] <;> rfl)) _
            · skip
              refine v_iload hG dX12_best_55 1 rfl ?_
              refine v_goto (tgt := 61) hG dX12_best_57 (by decide) ?_
              refine v_istore_n (lo' := [(1, vI z11), (2, vI (k : Int)), (4, vI z11), (0, .ref (a 0)), (3, vI (k : Int))]) hG dX12_best_61 rfl (by decide) rfl ?_
              refine v_iinc (lo' := [(3, vI ((k : Int) + 1)), (1, vI z11), (2, vI (k : Int)), (4, vI z11), (0, .ref (a 0))]) hG dX12_best_62 4 rfl (by decide) rfl ?_
              refine v_goto (tgt := 7) hG dX12_best_65 (by decide) ?_
              refine v_lo [4, 1, 2, 0] (lo' := [(0, .ref (a 0)), (1, vI z11), (2, vI (k : Int)), (3, vI ((k : Int) + 1))]) rfl ?_
              exact ihL5 _ (by omega) (k + 1) (by omega) rfl _ (by first | omega | rfl | (simp [c8, hz11, c14, c16]; done)) _ (by subst hz11; first | (exfalso; omega) | (rw [best_n (f := worF s) (by assumption)] <;> rfl) | (rw [best_y (f := worF s) (by assumption)] <;> rfl)) _ (by subst hz11; first | (exfalso; omega) | (rw [best_n (f := worF s) (by assumption)] <;> rfl) | (rw [best_y (f := worF s) (by assumption)] <;> rfl)) _
        refine v_ifb_eq (p := s (11 + (k : Int)) = 1) (tgt := 34) hG dX12_best_23 (by decide) (fun c17 => ?_) (fun c17 => ?_)
        · skip
          refine v_iconst hG dX12_best_34 ?_
          exact J13 _ (by first | rfl | (simp only [if_neg c8, if_neg c17]; done) | (simp [bi, c8, c17]; done)) _
        · skip
          refine v_aload_n hG dX12_best_26 rfl 0 rfl ?_
          refine v_iload_n hG dX12_best_27 rfl 3 rfl ?_
          refine v_callV (k1' := 0) (k2' := 0) hG dX12_best_28 zc_X12_worthOf ⟨zl_X12_262, zi_X12_worthOf, zs_X12_worthOf⟩ (fun l => k_worthOf l D A a s im x4 bY tr ln bl bo g lg (k : Int) (by omega) (by assumption) (by assumption) (by assumption) (by assumption)) rfl mw_recv (fun _ h => h) ⟨by decide, by decide⟩ rfl rfl ⟨by decide, by decide⟩ (rest := []) rfl (Nat.le_of_ble_eq_true rfl) (fun u18 => [vI (q_worth s (k : Int))]) (fun _ => rfl) (fun u18 hu18 => ?_)
          have fu18 : -999 ≤ q_worth s (k : Int) ∧ q_worth s (k : Int) ≤ 999 := hu18
          refine v_goto (tgt := 35) hG dX12_best_31 (by decide) ?_
          exact J13 _ (by first | rfl | (simp only [if_neg c8, if_pos c17]; done) | (simp [bi, c8, c17]; done)) _
  exact L5 _ 0 (by omega) rfl _ (by first | omega | rfl | (simp []; done)) _ (by rfl) _ (by rfl) _
