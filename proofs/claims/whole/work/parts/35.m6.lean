/-! THE MODEL: sixth walks -/
abbrev isU (kind k : Int) : Prop := k = 0 ∨ k = kind ∨ (0 < k ∧ k < 4 ∧ kind = k + 3)
/-- bodies kept: the first twenty; how many -/
def rbo (bo : Int → Int) (n : Int) : List Int → Int → Int
  | [] => bo
  | b :: L => rbo (if 20 ≤ n then bo else sU bo n b) (n + 1) L
def gL (g : Int → Int) (L : List Int) : Int → Int := sU g 8 (g 8 + (L.length : Int))
theorem rbo_app (bo : Int → Int) (n : Int) (L1 L2 : List Int) : rbo (rbo bo n L1) (n + (L1.length : Int)) L2 = rbo bo n (L1 ++ L2) := by
  induction L1 generalizing bo n with
  | nil => simp [rbo]
  | cons b L ih =>
    show rbo (rbo (if 20 ≤ n then bo else sU bo n b) (n + 1) L) _ L2 = rbo (if 20 ≤ n then bo else sU bo n b) (n + 1) (L ++ L2)
    rw [← ih, List.length_cons, show n + ((L.length + 1 : Nat) : Int) = n + 1 + (L.length : Int) by omega]
theorem rbo_ap2 (bo : Int → Int) (n : Int) (b : Int) (L1 L2 : List Int) : rbo (rbo bo n (b :: L1)) (n + (([b] : List Int).length : Int) + (L1.length : Int)) L2 = rbo bo n (b :: (L1 ++ L2)) := by
  rw [show n + (([b] : List Int).length : Int) + (L1.length : Int) = n + ((b :: L1).length : Int) by simp only [List.length_cons, List.length_nil]; omega, rbo_app]
  rfl
theorem gL_8 (g : Int → Int) (L : List Int) : gL g L 8 = g 8 + (L.length : Int) := sU_eq
theorem gL_9 (g : Int → Int) (L : List Int) : gL g L 9 = g 9 := sU_ne (by omega)
theorem gL_10 (g : Int → Int) (L : List Int) : gL g L 10 = g 10 := sU_ne (by omega)
theorem gL_11 (g : Int → Int) (L : List Int) : gL g L 11 = g 11 := sU_ne (by omega)
theorem gL_1 (g : Int → Int) (L : List Int) : gL g L 1 = g 1 := sU_ne (by omega)
theorem gL_app (g : Int → Int) (L1 L2 : List Int) : gL (gL g L1) L2 = gL g (L1 ++ L2) := by
  funext q
  unfold gL
  rw [sU_eq, List.length_append]
  simp only [sU]
  split <;> omega
def cutL (k : Int) : List Int := if isU k 1 then [11, 1] else if k = 5 then [51, 1] else [1]
def cutV (k n x : Int) : Int := if isU k 1 then x * 3 + n else if k = 5 then ixor (x + n) n else x + n
def prtL (k : Int) : List Int := if isU k 2 then 21 :: 2 :: cutL k else if k = 6 then 61 :: 2 :: cutL k else 2 :: cutL k
def prtV (k n v x : Int) : Int := if isU k 2 then -(cutV k n x - v) else if k = 6 then cutV k n x - v + v else cutV k n x - v
def telL (k : Int) : List Int := if isU k 3 then 31 :: 3 :: prtL k else if k = 4 then 41 :: 3 :: (prtL k ++ cutL k) else 3 :: prtL k
def telV (k n v x : Int) : Int := if isU k 3 then ixor (prtV k n v x * 2) 7 else if k = 4 then prtV k n v (x - 1) * 2 + cutV k n 2 else prtV k n v x * 2
def actL (k a : Int) : List Int := if a = 0 then cutL k else if a = 1 then prtL k else telL k
def actV (k n v a x : Int) : Int := if a = 0 then cutV k n x else if a = 1 then prtV k n v x else telV k n v x
theorem cutL_len (k : Int) : ((cutL k).length : Int) ≤ 2 := by
  unfold cutL; (repeat' split) <;> decide
theorem prtL_len (k : Int) : ((prtL k).length : Int) ≤ 4 := by
  have := cutL_len k
  unfold prtL; (repeat' split) <;> simp only [List.length_cons] <;> omega
theorem telL_len (k : Int) : ((telL k).length : Int) ≤ 8 := by
  have := cutL_len k
  have := prtL_len k
  unfold telL; (repeat' split) <;> simp only [List.length_cons, List.length_append] <;> omega
def a_act (s : Int → Int) (m a x : Int) : Int := if 0 ≤ m ∧ m ≤ s 43 - 1 then (if 0 ≤ a ∧ a ≤ 2 then actV (s (50 + m)) m (s (58 + m)) a x else 0) else 0
def l_act (s : Int → Int) (m a : Int) : List Int := if 0 ≤ m ∧ m ≤ s 43 - 1 then (if 0 ≤ a ∧ a ≤ 2 then actL (s (50 + m)) a else []) else []
def a_trace (bo g : Int → Int) (i : Int) : Int := if 0 ≤ i ∧ i ≤ (if 20 ≤ g 8 then 20 else g 8) - 1 then bo i else -1
def a_as (s : Int → Int) (m k : Int) : Int := if 0 ≤ m ∧ m ≤ s 43 - 1 then (if 0 ≤ k ∧ k ≤ 6 then (if isU (s (50 + m)) k then s (58 + m) else -6) else -1) else -1
def a_count (s g : Int → Int) (w : Int) : Int := if w = 6 then g 8 else if 0 ≤ w ∧ w ≤ 5 then s (43 + w) else -1
def rowk (s : Int → Int) (m k : Int) : Int → Int := fun q => if 74 + 4 * m ≤ q ∧ q < 74 + 4 * m + k then 0 else s q
theorem rowk_0 {s : Int → Int} {m : Int} : rowk s m 0 = s := by
  funext q; unfold rowk; rw [if_neg (by omega)]
theorem rowk_step {s : Int → Int} {m : Int} {k : Nat} : sU (rowk s m k) (74 + 4 * m + k) 0 = rowk s m ((k + 1 : Nat) : Int) := by
  funext q
  unfold sU rowk
  by_cases h : q = 74 + 4 * m + (k : Int)
  · rw [if_pos h, if_pos (by omega)]
  · rw [if_neg h]
    by_cases h2 : 74 + 4 * m ≤ q ∧ q < 74 + 4 * m + (k : Int)
    · rw [if_pos h2, if_pos (by omega)]
    · rw [if_neg h2, if_neg (by omega)]
def mk8 (s : Int → Int) (m kind v place depth : Int) : Int → Int := sU (sU (sU (sU (sU (sU (sU (sU s (50 + m) kind) (58 + m) v) (66 + m) place) (3 + m) depth) (11 + m) 0) (19 + m) 0) (27 + m) 0) (35 + m) 0
theorem mk8_43 {s : Int → Int} {m kind v place depth : Int} (h : 0 ≤ m ∧ m < 8) : mk8 s m kind v place depth 43 = s 43 := by
  unfold mk8
  rw [sU_ne (by omega), sU_ne (by omega), sU_ne (by omega), sU_ne (by omega), sU_ne (by omega), sU_ne (by omega), sU_ne (by omega), sU_ne (by omega)]
def p_mark (s : Int → Int) (kind v place depth : Int) : Int → Int := sU (rowk (mk8 s (s 43) kind v place depth) (s 43) 4) 43 (s 43 + 1)
def a_mark (s : Int → Int) (kind v place depth : Int) : Int := if 0 ≤ kind ∧ kind ≤ 6 then (if 0 ≤ v ∧ v ≤ 9 then (if 0 ≤ place ∧ place ≤ 99 then (if 1 ≤ depth ∧ depth ≤ 9 then (if s 43 = 8 then -4 else s 43) else -2) else -2) else -2) else -1
def f_mark (s : Int → Int) (kind v place depth : Int) : Int → Int := if 0 ≤ kind ∧ kind ≤ 6 then (if 0 ≤ v ∧ v ≤ 9 then (if 0 ≤ place ∧ place ≤ 99 then (if 1 ≤ depth ∧ depth ≤ 9 then (if s 43 = 8 then s else p_mark s kind v place depth) else s) else s) else s) else s
def a_of (s : Int → Int) (SL : List Int) (m w : Int) : Int := if 0 ≤ m ∧ m ≤ s 43 - 1 then (if 0 ≤ w ∧ w ≤ 10 then (if w = 0 then s (50 + m) else if w = 1 then s (58 + m) else if w = 2 then s (66 + m) else if w = 8 then q_risk s SL m (s 2) else if w = 9 then q_needs s m else if w = 10 then q_dk s m 0 else s (3 + 8 * (w - 3) + m)) else -1) else -1
def a_row (s : Int → Int) (m k n : Int) : Int := if 0 ≤ m ∧ m ≤ s 43 - 1 then (if 0 ≤ k ∧ k ≤ 3 then (if 0 ≤ n ∧ n ≤ 9 then (if s (50 + m) = 6 then s (74 + 4 * m + k) else -3) else -2) else -1) else -1
def f_row (s : Int → Int) (m k n : Int) : Int → Int := if 0 ≤ m ∧ m ≤ s 43 - 1 then (if 0 ≤ k ∧ k ≤ 3 then (if 0 ≤ n ∧ n ≤ 9 then (if s (50 + m) = 6 then sU s (74 + 4 * m + k) n else s) else s) else s) else s
def a_told (s : Int → Int) (w : Int) : Int := if 0 ≤ w ∧ w ≤ 2 then s w else if w = 3 then q_wear s else if w = 4 then q_mend s else -1
set_option maxHeartbeats 4000000 in
set_option maxRecDepth 100000 in
theorem k_ranBody (l : Launch) (D : Dx) (A : Nat → Prop) (a : Nat → Nat) (s im fr bY tr ln bl bo g lg : Int → Int) (b : Int) (h8g : 0 ≤ g 8 ∧ g 8 ≤ 1000) : CT l D A yX12_ranBody cX12_ranBody 2 none { frames := 0, cells := 0, slots := 0, locals := 0 } [.ref (a 0), vI b] (MW D A a s im fr bY tr ln bl bo g lg) (fun _ : Unit => none) (fun _ => True) (fun _ => MW D A a s im fr bY tr ln bl (rbo bo (g 8) [b]) (gL g [b]) lg) := by
  refine ct_of (lo0 := [(0, .ref (a 0)), (1, vI b)]) (by decide) (Nat.le_of_ble_eq_true rfl) rfl ?_
  intro G hG hR
  refine v_aload_n hG dX12_ranBody_0 rfl 0 rfl ?_
  refine mg_ranMany (z := g 8) hG dX12_ranBody_1 rfl ?_
  refine v_bipush hG dX12_ranBody_4 (by decide) ?_
  have J2 : ∀ z1 : Int → Int, z1 = (if 20 ≤ g 8 then bo else sU bo (g 8) b) → V G 0 0 (MW D A a s im fr bY tr ln bl z1 g lg) 19 [(0, .ref (a 0)), (1, vI b)] [] := by
    intro z1 hz1
    refine v_aload_n hG dX12_ranBody_19 rfl 0 rfl ?_
    refine v_dup hG dX12_ranBody_20 rfl ?_
    refine mg_ranMany (z := g 8) hG dX12_ranBody_21 rfl ?_
    refine v_iconst hG dX12_ranBody_24 ?_
    refine v_iadd hG dX12_ranBody_25 ?_
    refine mp_ranMany hG dX12_ranBody_26 ?_
    have e3 : z1 = rbo bo (g 8) [b] := by subst hz1; first | rfl | (simp [rbo, hz1]; done)
    have e4 : sU g 8 ((g 8) + 1) = gL g [b] := by subst hz1; first | rfl | (simp [rbo, hz1]; done)
    exact v_return hG hR dX12_ranBody_29 () rfl (by trivial) (fun _ hM => by rw [← e3]; rw [← e4]; exact hM)
  refine v_icmp_ge (tgt := 19) hG dX12_ranBody_6 (by decide) (by omega) (by omega) (fun c5 => ?_) (fun c5 => ?_)
  · skip
    exact J2 _ (by first | rfl | (simp only [if_pos c5]; done) | (simp [bi, c5]; done))
  · skip
    refine v_aload_n hG dX12_ranBody_9 rfl 0 rfl ?_
    refine mg_bodies hG dX12_ranBody_10 ?_
    refine v_aload_n hG dX12_ranBody_13 rfl 0 rfl ?_
    refine mg_ranMany (z := g 8) hG dX12_ranBody_14 rfl ?_
    refine v_iload_n hG dX12_ranBody_17 rfl 1 rfl ?_
    refine ms_bodies hG dX12_ranBody_18 (by omega) ?_
    exact J2 _ (by first | rfl | (simp only [if_neg c5]; done) | (simp [bi, c5]; done))
set_option maxHeartbeats 4000000 in
set_option maxRecDepth 100000 in
theorem k_isUnder (l : Launch) (D : Dx) (A : Nat → Prop) (P : Heap → Prop) (kind : Int) (k : Int) (h1 : 0 ≤ kind ∧ kind ≤ 6) (h2 : 0 ≤ k ∧ k ≤ 6) : CT l D A yX12_isUnder cX12_isUnder 2 (some .boolean) { frames := 0, cells := 0, slots := 0, locals := 0 } [vI kind, vI k] P (fun _ : Unit => some (vI (bi (isU kind k)))) (fun _ => True) (fun _ => P) := by
  refine ct_of (lo0 := [(0, vI kind), (1, vI k)]) (by decide) (Nat.le_of_ble_eq_true rfl) rfl ?_
  intro G hG hR
  refine v_iload_n hG dX12_isUnder_0 rfl 1 rfl ?_
  refine v_if_eq (tgt := 25) hG dX12_isUnder_1 (by decide) (by omega) (fun c1 => ?_) (fun c1 => ?_)
  · skip
    refine v_iconst hG dX12_isUnder_25 ?_
    refine v_goto (tgt := 30) hG dX12_isUnder_26 (by decide) ?_
    have e2 : @Eq Int (bi (isU kind k)) (1) := by first | exact bi_pos (by unfold isU; omega) | exact bi_neg (by unfold isU; omega)
    exact v_zreturn hG hR dX12_isUnder_30 (Or.inr rfl) () (congrArg (fun z => some (vI z)) e2) (by trivial) (fun _ hM => hM)
  · skip
    refine v_iload_n hG dX12_isUnder_4 rfl 1 rfl ?_
    refine v_iload_n hG dX12_isUnder_5 rfl 0 rfl ?_
    refine v_icmp_eq (tgt := 25) hG dX12_isUnder_6 (by decide) (by omega) (by omega) (fun c3 => ?_) (fun c3 => ?_)
    · skip
      refine v_iconst hG dX12_isUnder_25 ?_
      refine v_goto (tgt := 30) hG dX12_isUnder_26 (by decide) ?_
      have e4 : @Eq Int (bi (isU kind k)) (1) := by first | exact bi_pos (by unfold isU; omega) | exact bi_neg (by unfold isU; omega)
      exact v_zreturn hG hR dX12_isUnder_30 (Or.inr rfl) () (congrArg (fun z => some (vI z)) e4) (by trivial) (fun _ hM => hM)
    · skip
      refine v_iload_n hG dX12_isUnder_9 rfl 1 rfl ?_
      refine v_if_le (tgt := 29) hG dX12_isUnder_10 (by decide) (by omega) (fun c5 => ?_) (fun c5 => ?_)
      · skip
        refine v_iconst hG dX12_isUnder_29 ?_
        have e6 : @Eq Int (bi (isU kind k)) (0) := by first | exact bi_pos (by unfold isU; omega) | exact bi_neg (by unfold isU; omega)
        exact v_zreturn hG hR dX12_isUnder_30 (Or.inl rfl) () (congrArg (fun z => some (vI z)) e6) (by trivial) (fun _ hM => hM)
      · skip
        refine v_iload_n hG dX12_isUnder_13 rfl 1 rfl ?_
        refine v_iconst hG dX12_isUnder_14 ?_
        refine v_icmp_ge (tgt := 29) hG dX12_isUnder_15 (by decide) (by omega) (by omega) (fun c7 => ?_) (fun c7 => ?_)
        · skip
          refine v_iconst hG dX12_isUnder_29 ?_
          have e8 : @Eq Int (bi (isU kind k)) (0) := by first | exact bi_pos (by unfold isU; omega) | exact bi_neg (by unfold isU; omega)
          exact v_zreturn hG hR dX12_isUnder_30 (Or.inl rfl) () (congrArg (fun z => some (vI z)) e8) (by trivial) (fun _ hM => hM)
        · skip
          refine v_iload_n hG dX12_isUnder_18 rfl 0 rfl ?_
          refine v_iload_n hG dX12_isUnder_19 rfl 1 rfl ?_
          refine v_iconst hG dX12_isUnder_20 ?_
          refine v_iadd hG dX12_isUnder_21 ?_
          refine v_icmp_ne (tgt := 29) hG dX12_isUnder_22 (by decide) (by omega) (by omega) (fun c9 => ?_) (fun c9 => ?_)
          · skip
            refine v_iconst hG dX12_isUnder_29 ?_
            have e10 : @Eq Int (bi (isU kind k)) (0) := by first | exact bi_pos (by unfold isU; omega) | exact bi_neg (by unfold isU; omega)
            exact v_zreturn hG hR dX12_isUnder_30 (Or.inl rfl) () (congrArg (fun z => some (vI z)) e10) (by trivial) (fun _ hM => hM)
          · skip
            refine v_iconst hG dX12_isUnder_25 ?_
            refine v_goto (tgt := 30) hG dX12_isUnder_26 (by decide) ?_
            have e11 : @Eq Int (bi (isU kind k)) (1) := by first | exact bi_pos (by unfold isU; omega) | exact bi_neg (by unfold isU; omega)
            exact v_zreturn hG hR dX12_isUnder_30 (Or.inr rfl) () (congrArg (fun z => some (vI z)) e11) (by trivial) (fun _ hM => hM)
set_option maxHeartbeats 4000000 in
set_option maxRecDepth 100000 in
theorem k_plainCuts (l : Launch) (D : Dx) (A : Nat → Prop) (a : Nat → Nat) (s im fr bY tr ln bl bo g lg : Int → Int) (x : Int) (h8g : 0 ≤ g 8 ∧ g 8 ≤ 990) : CT l D A yX12_plainCuts cX12_plainCuts 2 (some .int) { frames := 1, cells := 0, slots := 0, locals := 21 } [.ref (a 0), vI x] (MW D A a s im fr bY tr ln bl bo g lg) (fun _ : Unit => some (vI (x + g 10))) (fun _ => True) (fun _ => MW D A a s im fr bY tr ln bl (rbo bo (g 8) [1]) (gL g [1]) lg) := by
  refine ct_of (lo0 := [(0, .ref (a 0)), (1, vI x)]) (by decide) (Nat.le_of_ble_eq_true rfl) rfl ?_
  intro G hG hR
  refine v_aload_n hG dX12_plainCuts_0 rfl 0 rfl ?_
  refine v_iconst hG dX12_plainCuts_1 ?_
  refine v_callV (k1' := 0) (k2' := 0) hG dX12_plainCuts_2 zc_X12_ranBody ⟨zl_X12_274, zi_X12_ranBody, zs_X12_ranBody⟩ (fun l => k_ranBody l D A a s im fr bY tr ln bl bo g lg 1 (by first | omega | (simp only [gL_8, gL_9, List.length_cons, List.length_nil] at *; omega))) rfl mw_recv (fun _ h => h) ⟨by decide, by decide⟩ rfl rfl ⟨by decide, by decide⟩ (rest := []) rfl (Nat.le_of_ble_eq_true rfl) (fun u1 => []) (fun _ => rfl) (fun u1 hu1 => ?_)
  refine v_iload_n hG dX12_plainCuts_5 rfl 1 rfl ?_
  refine v_aload_n hG dX12_plainCuts_6 rfl 0 rfl ?_
  refine mg_number (z := (gL g [1]) 10) hG dX12_plainCuts_7 rfl ?_
  refine v_iadd hG dX12_plainCuts_10 ?_
  have e2 : @Eq Int (x + g 10) (x + ((gL g [1]) 10)) := by first | rfl | (simp only [Int.add_assoc, gL_8, gL_9, gL_10, gL_11, gL_app, rbo_app, rbo_ap2, List.cons_append, List.nil_append, List.append_assoc, ]; done) | (simp only [Int.add_assoc, gL_8, gL_9, gL_10, gL_11, gL_app, rbo_app, rbo_ap2, List.cons_append, List.nil_append, List.append_assoc, ]; rfl)
  exact v_ireturn hG hR dX12_plainCuts_11 () (congrArg (fun z => some (vI z)) e2) (by trivial) (fun _ hM => hM)
set_option maxHeartbeats 4000000 in
set_option maxRecDepth 100000 in
theorem k_cutsActs (l : Launch) (D : Dx) (A : Nat → Prop) (a : Nat → Nat) (s im fr bY tr ln bl bo g lg : Int → Int) (x : Int) (h8g : 0 ≤ g 8 ∧ g 8 ≤ 980) (h9g : 0 ≤ g 9 ∧ g 9 ≤ 6) : CT l D A yX12_cutsActs cX12_cutsActs 2 (some .int) { frames := 2, cells := 0, slots := 0, locals := 42 } [.ref (a 0), vI x] (MW D A a s im fr bY tr ln bl bo g lg) (fun _ : Unit => some (vI (cutV (g 9) (g 10) x))) (fun _ => ((cutL (g 9)).length : Int) ≤ 2) (fun _ => MW D A a s im fr bY tr ln bl (rbo bo (g 8) (cutL (g 9))) (gL g (cutL (g 9))) lg) := by
  refine ct_of (lo0 := [(0, .ref (a 0)), (1, vI x)]) (by decide) (Nat.le_of_ble_eq_true rfl) rfl ?_
  intro G hG hR
  refine v_aload_n hG dX12_cutsActs_0 rfl 0 rfl ?_
  refine mg_kind (z := g 9) hG dX12_cutsActs_1 rfl ?_
  refine v_iconst hG dX12_cutsActs_4 ?_
  refine v_callS (k1' := 0) (k2' := 0) hG dX12_cutsActs_5 zc_X12_isUnder ⟨zl_X12_283, zt_X12_isUnder⟩ (fun l => k_isUnder l D A (MW D A a s im fr bY tr ln bl bo g lg) (g 9) 1 (by first | omega | (simp only [gL_9]; omega)) (by omega)) rfl (fun _ h => h) ⟨by decide, by decide⟩ rfl rfl ⟨by decide, by decide⟩ (rest := []) rfl (Nat.le_of_ble_eq_true rfl) (fun u1 => [vI (bi (isU (g 9) 1))]) (fun _ => rfl) (fun u1 hu1 => ?_)
  refine v_ifb_eq (p := isU (g 9) 1) (tgt := 25) hG dX12_cutsActs_8 (by decide) (fun c2 => ?_) (fun c2 => ?_)
  · skip
    refine v_aload_n hG dX12_cutsActs_25 rfl 0 rfl ?_
    refine mg_kind (z := g 9) hG dX12_cutsActs_26 rfl ?_
    refine v_iconst hG dX12_cutsActs_29 ?_
    refine v_icmp_ne (tgt := 50) hG dX12_cutsActs_30 (by decide) (by omega) (by omega) (fun c3 => ?_) (fun c3 => ?_)
    · skip
      refine v_aload_n hG dX12_cutsActs_50 rfl 0 rfl ?_
      refine v_iload_n hG dX12_cutsActs_51 rfl 1 rfl ?_
      refine v_callV (k1' := 0) (k2' := 0) hG dX12_cutsActs_52 zc_X12_plainCuts ⟨zl_X12_286, zi_X12_plainCuts, zs_X12_plainCuts⟩ (fun l => k_plainCuts l D A a s im fr bY tr ln bl bo g lg x (by first | omega | (simp only [gL_8, gL_9, List.length_cons, List.length_nil] at *; omega))) rfl mw_recv (fun _ h => h) ⟨by decide, by decide⟩ rfl rfl ⟨by decide, by decide⟩ (rest := []) rfl (Nat.le_of_ble_eq_true rfl) (fun u4 => [vI (x + g 10)]) (fun _ => rfl) (fun u4 hu4 => ?_)
      have e5 : rbo bo (g 8) [1] = rbo bo (g 8) (cutL (g 9)) := by first | rfl | (simp only [cutV, cutL, gL_8, gL_9, gL_10, gL_11, gL_app, rbo_app, rbo_ap2, List.cons_append, List.nil_append, List.append_assoc, if_neg c2, if_neg c3]; done) | (simp only [cutV, cutL, gL_8, gL_9, gL_10, gL_11, gL_app, rbo_app, rbo_ap2, List.cons_append, List.nil_append, List.append_assoc, if_neg c2, if_neg c3]; rfl)
      have e6 : gL g [1] = gL g (cutL (g 9)) := by first | rfl | (simp only [cutV, cutL, gL_8, gL_9, gL_10, gL_11, gL_app, rbo_app, rbo_ap2, List.cons_append, List.nil_append, List.append_assoc, if_neg c2, if_neg c3]; done) | (simp only [cutV, cutL, gL_8, gL_9, gL_10, gL_11, gL_app, rbo_app, rbo_ap2, List.cons_append, List.nil_append, List.append_assoc, if_neg c2, if_neg c3]; rfl)
      have e7 : @Eq Int (cutV (g 9) (g 10) x) (x + g 10) := by first | rfl | (simp only [cutV, cutL, gL_8, gL_9, gL_10, gL_11, gL_app, rbo_app, rbo_ap2, List.cons_append, List.nil_append, List.append_assoc, if_neg c2, if_neg c3]; done) | (simp only [cutV, cutL, gL_8, gL_9, gL_10, gL_11, gL_app, rbo_app, rbo_ap2, List.cons_append, List.nil_append, List.append_assoc, if_neg c2, if_neg c3]; rfl)
      exact v_ireturn hG hR dX12_cutsActs_55 () (congrArg (fun z => some (vI z)) e7) (by exact cutL_len _) (fun _ hM => by rw [← e5]; rw [← e6]; exact hM)
    · skip
      refine v_aload_n hG dX12_cutsActs_33 rfl 0 rfl ?_
      refine v_bipush hG dX12_cutsActs_34 (by decide) ?_
      refine v_callV (k1' := 0) (k2' := 0) hG dX12_cutsActs_36 zc_X12_ranBody ⟨zl_X12_274, zi_X12_ranBody, zs_X12_ranBody⟩ (fun l => k_ranBody l D A a s im fr bY tr ln bl bo g lg 51 (by first | omega | (simp only [gL_8, gL_9, List.length_cons, List.length_nil] at *; omega))) rfl mw_recv (fun _ h => h) ⟨by decide, by decide⟩ rfl rfl ⟨by decide, by decide⟩ (rest := []) rfl (Nat.le_of_ble_eq_true rfl) (fun u8 => []) (fun _ => rfl) (fun u8 hu8 => ?_)
      refine v_aload_n hG dX12_cutsActs_39 rfl 0 rfl ?_
      refine v_iload_n hG dX12_cutsActs_40 rfl 1 rfl ?_
      refine v_callV (k1' := 0) (k2' := 0) hG dX12_cutsActs_41 zc_X12_plainCuts ⟨zl_X12_286, zi_X12_plainCuts, zs_X12_plainCuts⟩ (fun l => k_plainCuts l D A a s im fr bY tr ln bl (rbo bo (g 8) [51]) (gL g [51]) lg x (by first | omega | (simp only [gL_8, gL_9, List.length_cons, List.length_nil] at *; omega))) rfl mw_recv (fun _ h => h) ⟨by decide, by decide⟩ rfl rfl ⟨by decide, by decide⟩ (rest := []) rfl (Nat.le_of_ble_eq_true rfl) (fun u9 => [vI (x + (gL g [51]) 10)]) (fun _ => rfl) (fun u9 hu9 => ?_)
      refine v_aload_n hG dX12_cutsActs_44 rfl 0 rfl ?_
      refine mg_number (z := (gL (gL g [51]) [1]) 10) hG dX12_cutsActs_45 rfl ?_
      refine v_ixor hG dX12_cutsActs_48 ?_
      have e10 : rbo (rbo bo (g 8) [51]) ((gL g [51]) 8) [1] = rbo bo (g 8) (cutL (g 9)) := by first | rfl | (simp only [cutV, cutL, gL_8, gL_9, gL_10, gL_11, gL_app, rbo_app, rbo_ap2, List.cons_append, List.nil_append, List.append_assoc, if_neg c2, if_pos c3]; done) | (simp only [cutV, cutL, gL_8, gL_9, gL_10, gL_11, gL_app, rbo_app, rbo_ap2, List.cons_append, List.nil_append, List.append_assoc, if_neg c2, if_pos c3]; rfl)
      have e11 : gL (gL g [51]) [1] = gL g (cutL (g 9)) := by first | rfl | (simp only [cutV, cutL, gL_8, gL_9, gL_10, gL_11, gL_app, rbo_app, rbo_ap2, List.cons_append, List.nil_append, List.append_assoc, if_neg c2, if_pos c3]; done) | (simp only [cutV, cutL, gL_8, gL_9, gL_10, gL_11, gL_app, rbo_app, rbo_ap2, List.cons_append, List.nil_append, List.append_assoc, if_neg c2, if_pos c3]; rfl)
      have e12 : @Eq Int (cutV (g 9) (g 10) x) (ixor (x + (gL g [51]) 10) ((gL (gL g [51]) [1]) 10)) := by first | rfl | (simp only [cutV, cutL, gL_8, gL_9, gL_10, gL_11, gL_app, rbo_app, rbo_ap2, List.cons_append, List.nil_append, List.append_assoc, if_neg c2, if_pos c3]; done) | (simp only [cutV, cutL, gL_8, gL_9, gL_10, gL_11, gL_app, rbo_app, rbo_ap2, List.cons_append, List.nil_append, List.append_assoc, if_neg c2, if_pos c3]; rfl)
      exact v_ireturn hG hR dX12_cutsActs_49 () (congrArg (fun z => some (vI z)) e12) (by exact cutL_len _) (fun _ hM => by rw [← e10]; rw [← e11]; exact hM)
  · skip
    refine v_aload_n hG dX12_cutsActs_11 rfl 0 rfl ?_
    refine v_bipush hG dX12_cutsActs_12 (by decide) ?_
    refine v_callV (k1' := 0) (k2' := 0) hG dX12_cutsActs_14 zc_X12_ranBody ⟨zl_X12_274, zi_X12_ranBody, zs_X12_ranBody⟩ (fun l => k_ranBody l D A a s im fr bY tr ln bl bo g lg 11 (by first | omega | (simp only [gL_8, gL_9, List.length_cons, List.length_nil] at *; omega))) rfl mw_recv (fun _ h => h) ⟨by decide, by decide⟩ rfl rfl ⟨by decide, by decide⟩ (rest := []) rfl (Nat.le_of_ble_eq_true rfl) (fun u13 => []) (fun _ => rfl) (fun u13 hu13 => ?_)
    refine v_aload_n hG dX12_cutsActs_17 rfl 0 rfl ?_
    refine v_iload_n hG dX12_cutsActs_18 rfl 1 rfl ?_
    refine v_iconst hG dX12_cutsActs_19 ?_
    refine v_imul hG dX12_cutsActs_20 ?_
    refine v_callV (k1' := 0) (k2' := 0) hG dX12_cutsActs_21 zc_X12_plainCuts ⟨zl_X12_286, zi_X12_plainCuts, zs_X12_plainCuts⟩ (fun l => k_plainCuts l D A a s im fr bY tr ln bl (rbo bo (g 8) [11]) (gL g [11]) lg (x * 3) (by first | omega | (simp only [gL_8, gL_9, List.length_cons, List.length_nil] at *; omega))) rfl mw_recv (fun _ h => h) ⟨by decide, by decide⟩ rfl rfl ⟨by decide, by decide⟩ (rest := []) rfl (Nat.le_of_ble_eq_true rfl) (fun u14 => [vI ((x * 3) + (gL g [11]) 10)]) (fun _ => rfl) (fun u14 hu14 => ?_)
    have e15 : rbo (rbo bo (g 8) [11]) ((gL g [11]) 8) [1] = rbo bo (g 8) (cutL (g 9)) := by first | rfl | (simp only [cutV, cutL, gL_8, gL_9, gL_10, gL_11, gL_app, rbo_app, rbo_ap2, List.cons_append, List.nil_append, List.append_assoc, if_pos c2]; done) | (simp only [cutV, cutL, gL_8, gL_9, gL_10, gL_11, gL_app, rbo_app, rbo_ap2, List.cons_append, List.nil_append, List.append_assoc, if_pos c2]; rfl)
    have e16 : gL (gL g [11]) [1] = gL g (cutL (g 9)) := by first | rfl | (simp only [cutV, cutL, gL_8, gL_9, gL_10, gL_11, gL_app, rbo_app, rbo_ap2, List.cons_append, List.nil_append, List.append_assoc, if_pos c2]; done) | (simp only [cutV, cutL, gL_8, gL_9, gL_10, gL_11, gL_app, rbo_app, rbo_ap2, List.cons_append, List.nil_append, List.append_assoc, if_pos c2]; rfl)
    have e17 : @Eq Int (cutV (g 9) (g 10) x) ((x * 3) + (gL g [11]) 10) := by first | rfl | (simp only [cutV, cutL, gL_8, gL_9, gL_10, gL_11, gL_app, rbo_app, rbo_ap2, List.cons_append, List.nil_append, List.append_assoc, if_pos c2]; done) | (simp only [cutV, cutL, gL_8, gL_9, gL_10, gL_11, gL_app, rbo_app, rbo_ap2, List.cons_append, List.nil_append, List.append_assoc, if_pos c2]; rfl)
    exact v_ireturn hG hR dX12_cutsActs_24 () (congrArg (fun z => some (vI z)) e17) (by exact cutL_len _) (fun _ hM => by rw [← e15]; rw [← e16]; exact hM)
set_option maxHeartbeats 4000000 in
set_option maxRecDepth 100000 in
theorem k_plainPrints (l : Launch) (D : Dx) (A : Nat → Prop) (a : Nat → Nat) (s im fr bY tr ln bl bo g lg : Int → Int) (x : Int) (h8g : 0 ≤ g 8 ∧ g 8 ≤ 970) (h9g : 0 ≤ g 9 ∧ g 9 ≤ 6) : CT l D A yX12_plainPrints cX12_plainPrints 2 (some .int) { frames := 3, cells := 0, slots := 0, locals := 63 } [.ref (a 0), vI x] (MW D A a s im fr bY tr ln bl bo g lg) (fun _ : Unit => some (vI (cutV (g 9) (g 10) x - g 11))) (fun _ => True) (fun _ => MW D A a s im fr bY tr ln bl (rbo bo (g 8) (2 :: cutL (g 9))) (gL g (2 :: cutL (g 9))) lg) := by
  refine ct_of (lo0 := [(0, .ref (a 0)), (1, vI x)]) (by decide) (Nat.le_of_ble_eq_true rfl) rfl ?_
  intro G hG hR
  refine v_aload_n hG dX12_plainPrints_0 rfl 0 rfl ?_
  refine v_iconst hG dX12_plainPrints_1 ?_
  refine v_callV (k1' := 0) (k2' := 0) hG dX12_plainPrints_2 zc_X12_ranBody ⟨zl_X12_274, zi_X12_ranBody, zs_X12_ranBody⟩ (fun l => k_ranBody l D A a s im fr bY tr ln bl bo g lg 2 (by first | omega | (simp only [gL_8, gL_9, List.length_cons, List.length_nil] at *; omega))) rfl mw_recv (fun _ h => h) ⟨by decide, by decide⟩ rfl rfl ⟨by decide, by decide⟩ (rest := []) rfl (Nat.le_of_ble_eq_true rfl) (fun u1 => []) (fun _ => rfl) (fun u1 hu1 => ?_)
  refine v_aload_n hG dX12_plainPrints_5 rfl 0 rfl ?_
  refine v_iload_n hG dX12_plainPrints_6 rfl 1 rfl ?_
  refine v_callV (k1' := 0) (k2' := 0) hG dX12_plainPrints_7 zc_X12_cutsActs ⟨zl_X12_289, zi_X12_cutsActs, zs_X12_cutsActs⟩ (fun l => k_cutsActs l D A a s im fr bY tr ln bl (rbo bo (g 8) [2]) (gL g [2]) lg x (by first | omega | (simp only [gL_8, gL_9, List.length_cons, List.length_nil] at *; omega)) (by first | omega | (simp only [gL_9]; omega))) rfl mw_recv (fun _ h => h) ⟨by decide, by decide⟩ rfl rfl ⟨by decide, by decide⟩ (rest := []) rfl (Nat.le_of_ble_eq_true rfl) (fun u2 => [vI (cutV ((gL g [2]) 9) ((gL g [2]) 10) x)]) (fun _ => rfl) (fun u2 hu2 => ?_)
  have fu2 : ((cutL ((gL g [2]) 9)).length : Int) ≤ 2 := hu2
  refine v_aload_n hG dX12_plainPrints_10 rfl 0 rfl ?_
  refine mg_tellsV (z := (gL (gL g [2]) (cutL ((gL g [2]) 9))) 11) hG dX12_plainPrints_11 rfl ?_
  refine v_isub hG dX12_plainPrints_14 ?_
  have e3 : rbo (rbo bo (g 8) [2]) ((gL g [2]) 8) (cutL ((gL g [2]) 9)) = rbo bo (g 8) (2 :: cutL (g 9)) := by first | rfl | (simp only [Int.add_assoc, gL_8, gL_9, gL_10, gL_11, gL_app, rbo_app, rbo_ap2, List.cons_append, List.nil_append, List.append_assoc, ]; done) | (simp only [Int.add_assoc, gL_8, gL_9, gL_10, gL_11, gL_app, rbo_app, rbo_ap2, List.cons_append, List.nil_append, List.append_assoc, ]; rfl)
  have e4 : gL (gL g [2]) (cutL ((gL g [2]) 9)) = gL g (2 :: cutL (g 9)) := by first | rfl | (simp only [Int.add_assoc, gL_8, gL_9, gL_10, gL_11, gL_app, rbo_app, rbo_ap2, List.cons_append, List.nil_append, List.append_assoc, ]; done) | (simp only [Int.add_assoc, gL_8, gL_9, gL_10, gL_11, gL_app, rbo_app, rbo_ap2, List.cons_append, List.nil_append, List.append_assoc, ]; rfl)
  have e5 : @Eq Int (cutV (g 9) (g 10) x - g 11) ((cutV ((gL g [2]) 9) ((gL g [2]) 10) x) - ((gL (gL g [2]) (cutL ((gL g [2]) 9))) 11)) := by first | rfl | (simp only [Int.add_assoc, gL_8, gL_9, gL_10, gL_11, gL_app, rbo_app, rbo_ap2, List.cons_append, List.nil_append, List.append_assoc, ]; done) | (simp only [Int.add_assoc, gL_8, gL_9, gL_10, gL_11, gL_app, rbo_app, rbo_ap2, List.cons_append, List.nil_append, List.append_assoc, ]; rfl)
  exact v_ireturn hG hR dX12_plainPrints_15 () (congrArg (fun z => some (vI z)) e5) (by trivial) (fun _ hM => by rw [← e3]; rw [← e4]; exact hM)
set_option maxHeartbeats 4000000 in
set_option maxRecDepth 100000 in
theorem k_printsActs (l : Launch) (D : Dx) (A : Nat → Prop) (a : Nat → Nat) (s im fr bY tr ln bl bo g lg : Int → Int) (x : Int) (h8g : 0 ≤ g 8 ∧ g 8 ≤ 960) (h9g : 0 ≤ g 9 ∧ g 9 ≤ 6) : CT l D A yX12_printsActs cX12_printsActs 2 (some .int) { frames := 4, cells := 0, slots := 0, locals := 84 } [.ref (a 0), vI x] (MW D A a s im fr bY tr ln bl bo g lg) (fun _ : Unit => some (vI (prtV (g 9) (g 10) (g 11) x))) (fun _ => ((prtL (g 9)).length : Int) ≤ 4) (fun _ => MW D A a s im fr bY tr ln bl (rbo bo (g 8) (prtL (g 9))) (gL g (prtL (g 9))) lg) := by
  refine ct_of (lo0 := [(0, .ref (a 0)), (1, vI x)]) (by decide) (Nat.le_of_ble_eq_true rfl) rfl ?_
  intro G hG hR
  refine v_aload_n hG dX12_printsActs_0 rfl 0 rfl ?_
  refine mg_kind (z := g 9) hG dX12_printsActs_1 rfl ?_
  refine v_iconst hG dX12_printsActs_4 ?_
  refine v_callS (k1' := 0) (k2' := 0) hG dX12_printsActs_5 zc_X12_isUnder ⟨zl_X12_283, zt_X12_isUnder⟩ (fun l => k_isUnder l D A (MW D A a s im fr bY tr ln bl bo g lg) (g 9) 2 (by first | omega | (simp only [gL_9]; omega)) (by omega)) rfl (fun _ h => h) ⟨by decide, by decide⟩ rfl rfl ⟨by decide, by decide⟩ (rest := []) rfl (Nat.le_of_ble_eq_true rfl) (fun u1 => [vI (bi (isU (g 9) 2))]) (fun _ => rfl) (fun u1 hu1 => ?_)
  refine v_ifb_eq (p := isU (g 9) 2) (tgt := 24) hG dX12_printsActs_8 (by decide) (fun c2 => ?_) (fun c2 => ?_)
  · skip
    refine v_aload_n hG dX12_printsActs_24 rfl 0 rfl ?_
    refine mg_kind (z := g 9) hG dX12_printsActs_25 rfl ?_
    refine v_bipush hG dX12_printsActs_28 (by decide) ?_
    refine v_icmp_ne (tgt := 50) hG dX12_printsActs_30 (by decide) (by omega) (by omega) (fun c3 => ?_) (fun c3 => ?_)
    · skip
      refine v_aload_n hG dX12_printsActs_50 rfl 0 rfl ?_
      refine v_iload_n hG dX12_printsActs_51 rfl 1 rfl ?_
      refine v_callV (k1' := 0) (k2' := 0) hG dX12_printsActs_52 zc_X12_plainPrints ⟨zl_X12_295, zi_X12_plainPrints, zs_X12_plainPrints⟩ (fun l => k_plainPrints l D A a s im fr bY tr ln bl bo g lg x (by first | omega | (simp only [gL_8, gL_9, List.length_cons, List.length_nil] at *; omega)) (by first | omega | (simp only [gL_9]; omega))) rfl mw_recv (fun _ h => h) ⟨by decide, by decide⟩ rfl rfl ⟨by decide, by decide⟩ (rest := []) rfl (Nat.le_of_ble_eq_true rfl) (fun u4 => [vI (cutV (g 9) (g 10) x - g 11)]) (fun _ => rfl) (fun u4 hu4 => ?_)
      have e5 : rbo bo (g 8) (2 :: cutL (g 9)) = rbo bo (g 8) (prtL (g 9)) := by first | rfl | (simp only [prtV, prtL, gL_8, gL_9, gL_10, gL_11, gL_app, rbo_app, rbo_ap2, List.cons_append, List.nil_append, List.append_assoc, if_neg c2, if_neg c3]; done) | (simp only [prtV, prtL, gL_8, gL_9, gL_10, gL_11, gL_app, rbo_app, rbo_ap2, List.cons_append, List.nil_append, List.append_assoc, if_neg c2, if_neg c3]; rfl)
      have e6 : gL g (2 :: cutL (g 9)) = gL g (prtL (g 9)) := by first | rfl | (simp only [prtV, prtL, gL_8, gL_9, gL_10, gL_11, gL_app, rbo_app, rbo_ap2, List.cons_append, List.nil_append, List.append_assoc, if_neg c2, if_neg c3]; done) | (simp only [prtV, prtL, gL_8, gL_9, gL_10, gL_11, gL_app, rbo_app, rbo_ap2, List.cons_append, List.nil_append, List.append_assoc, if_neg c2, if_neg c3]; rfl)
      have e7 : @Eq Int (prtV (g 9) (g 10) (g 11) x) (cutV (g 9) (g 10) x - g 11) := by first | rfl | (simp only [prtV, prtL, gL_8, gL_9, gL_10, gL_11, gL_app, rbo_app, rbo_ap2, List.cons_append, List.nil_append, List.append_assoc, if_neg c2, if_neg c3]; done) | (simp only [prtV, prtL, gL_8, gL_9, gL_10, gL_11, gL_app, rbo_app, rbo_ap2, List.cons_append, List.nil_append, List.append_assoc, if_neg c2, if_neg c3]; rfl)
      exact v_ireturn hG hR dX12_printsActs_55 () (congrArg (fun z => some (vI z)) e7) (by exact prtL_len _) (fun _ hM => by rw [← e5]; rw [← e6]; exact hM)
    · skip
      refine v_aload_n hG dX12_printsActs_33 rfl 0 rfl ?_
      refine v_bipush hG dX12_printsActs_34 (by decide) ?_
      refine v_callV (k1' := 0) (k2' := 0) hG dX12_printsActs_36 zc_X12_ranBody ⟨zl_X12_274, zi_X12_ranBody, zs_X12_ranBody⟩ (fun l => k_ranBody l D A a s im fr bY tr ln bl bo g lg 61 (by first | omega | (simp only [gL_8, gL_9, List.length_cons, List.length_nil] at *; omega))) rfl mw_recv (fun _ h => h) ⟨by decide, by decide⟩ rfl rfl ⟨by decide, by decide⟩ (rest := []) rfl (Nat.le_of_ble_eq_true rfl) (fun u8 => []) (fun _ => rfl) (fun u8 hu8 => ?_)
      refine v_aload_n hG dX12_printsActs_39 rfl 0 rfl ?_
      refine v_iload_n hG dX12_printsActs_40 rfl 1 rfl ?_
      refine v_callV (k1' := 0) (k2' := 0) hG dX12_printsActs_41 zc_X12_plainPrints ⟨zl_X12_295, zi_X12_plainPrints, zs_X12_plainPrints⟩ (fun l => k_plainPrints l D A a s im fr bY tr ln bl (rbo bo (g 8) [61]) (gL g [61]) lg x (by first | omega | (simp only [gL_8, gL_9, List.length_cons, List.length_nil] at *; omega)) (by first | omega | (simp only [gL_9]; omega))) rfl mw_recv (fun _ h => h) ⟨by decide, by decide⟩ rfl rfl ⟨by decide, by decide⟩ (rest := []) rfl (Nat.le_of_ble_eq_true rfl) (fun u9 => [vI (cutV ((gL g [61]) 9) ((gL g [61]) 10) x - (gL g [61]) 11)]) (fun _ => rfl) (fun u9 hu9 => ?_)
      refine v_aload_n hG dX12_printsActs_44 rfl 0 rfl ?_
      refine mg_tellsV (z := (gL (gL g [61]) (2 :: cutL ((gL g [61]) 9))) 11) hG dX12_printsActs_45 rfl ?_
      refine v_iadd hG dX12_printsActs_48 ?_
      have e10 : rbo (rbo bo (g 8) [61]) ((gL g [61]) 8) (2 :: cutL ((gL g [61]) 9)) = rbo bo (g 8) (prtL (g 9)) := by first | rfl | (simp only [prtV, prtL, gL_8, gL_9, gL_10, gL_11, gL_app, rbo_app, rbo_ap2, List.cons_append, List.nil_append, List.append_assoc, if_neg c2, if_pos c3]; done) | (simp only [prtV, prtL, gL_8, gL_9, gL_10, gL_11, gL_app, rbo_app, rbo_ap2, List.cons_append, List.nil_append, List.append_assoc, if_neg c2, if_pos c3]; rfl)
      have e11 : gL (gL g [61]) (2 :: cutL ((gL g [61]) 9)) = gL g (prtL (g 9)) := by first | rfl | (simp only [prtV, prtL, gL_8, gL_9, gL_10, gL_11, gL_app, rbo_app, rbo_ap2, List.cons_append, List.nil_append, List.append_assoc, if_neg c2, if_pos c3]; done) | (simp only [prtV, prtL, gL_8, gL_9, gL_10, gL_11, gL_app, rbo_app, rbo_ap2, List.cons_append, List.nil_append, List.append_assoc, if_neg c2, if_pos c3]; rfl)
      have e12 : @Eq Int (prtV (g 9) (g 10) (g 11) x) ((cutV ((gL g [61]) 9) ((gL g [61]) 10) x - (gL g [61]) 11) + ((gL (gL g [61]) (2 :: cutL ((gL g [61]) 9))) 11)) := by first | rfl | (simp only [prtV, prtL, gL_8, gL_9, gL_10, gL_11, gL_app, rbo_app, rbo_ap2, List.cons_append, List.nil_append, List.append_assoc, if_neg c2, if_pos c3]; done) | (simp only [prtV, prtL, gL_8, gL_9, gL_10, gL_11, gL_app, rbo_app, rbo_ap2, List.cons_append, List.nil_append, List.append_assoc, if_neg c2, if_pos c3]; rfl)
      exact v_ireturn hG hR dX12_printsActs_49 () (congrArg (fun z => some (vI z)) e12) (by exact prtL_len _) (fun _ hM => by rw [← e10]; rw [← e11]; exact hM)
  · skip
    refine v_aload_n hG dX12_printsActs_11 rfl 0 rfl ?_
    refine v_bipush hG dX12_printsActs_12 (by decide) ?_
    refine v_callV (k1' := 0) (k2' := 0) hG dX12_printsActs_14 zc_X12_ranBody ⟨zl_X12_274, zi_X12_ranBody, zs_X12_ranBody⟩ (fun l => k_ranBody l D A a s im fr bY tr ln bl bo g lg 21 (by first | omega | (simp only [gL_8, gL_9, List.length_cons, List.length_nil] at *; omega))) rfl mw_recv (fun _ h => h) ⟨by decide, by decide⟩ rfl rfl ⟨by decide, by decide⟩ (rest := []) rfl (Nat.le_of_ble_eq_true rfl) (fun u13 => []) (fun _ => rfl) (fun u13 hu13 => ?_)
    refine v_aload_n hG dX12_printsActs_17 rfl 0 rfl ?_
    refine v_iload_n hG dX12_printsActs_18 rfl 1 rfl ?_
    refine v_callV (k1' := 0) (k2' := 0) hG dX12_printsActs_19 zc_X12_plainPrints ⟨zl_X12_295, zi_X12_plainPrints, zs_X12_plainPrints⟩ (fun l => k_plainPrints l D A a s im fr bY tr ln bl (rbo bo (g 8) [21]) (gL g [21]) lg x (by first | omega | (simp only [gL_8, gL_9, List.length_cons, List.length_nil] at *; omega)) (by first | omega | (simp only [gL_9]; omega))) rfl mw_recv (fun _ h => h) ⟨by decide, by decide⟩ rfl rfl ⟨by decide, by decide⟩ (rest := []) rfl (Nat.le_of_ble_eq_true rfl) (fun u14 => [vI (cutV ((gL g [21]) 9) ((gL g [21]) 10) x - (gL g [21]) 11)]) (fun _ => rfl) (fun u14 hu14 => ?_)
    refine v_ineg hG dX12_printsActs_22 ?_
    have e15 : rbo (rbo bo (g 8) [21]) ((gL g [21]) 8) (2 :: cutL ((gL g [21]) 9)) = rbo bo (g 8) (prtL (g 9)) := by first | rfl | (simp only [prtV, prtL, gL_8, gL_9, gL_10, gL_11, gL_app, rbo_app, rbo_ap2, List.cons_append, List.nil_append, List.append_assoc, if_pos c2]; done) | (simp only [prtV, prtL, gL_8, gL_9, gL_10, gL_11, gL_app, rbo_app, rbo_ap2, List.cons_append, List.nil_append, List.append_assoc, if_pos c2]; rfl)
    have e16 : gL (gL g [21]) (2 :: cutL ((gL g [21]) 9)) = gL g (prtL (g 9)) := by first | rfl | (simp only [prtV, prtL, gL_8, gL_9, gL_10, gL_11, gL_app, rbo_app, rbo_ap2, List.cons_append, List.nil_append, List.append_assoc, if_pos c2]; done) | (simp only [prtV, prtL, gL_8, gL_9, gL_10, gL_11, gL_app, rbo_app, rbo_ap2, List.cons_append, List.nil_append, List.append_assoc, if_pos c2]; rfl)
    have e17 : @Eq Int (prtV (g 9) (g 10) (g 11) x) (-(cutV ((gL g [21]) 9) ((gL g [21]) 10) x - (gL g [21]) 11)) := by first | rfl | (simp only [prtV, prtL, gL_8, gL_9, gL_10, gL_11, gL_app, rbo_app, rbo_ap2, List.cons_append, List.nil_append, List.append_assoc, if_pos c2]; done) | (simp only [prtV, prtL, gL_8, gL_9, gL_10, gL_11, gL_app, rbo_app, rbo_ap2, List.cons_append, List.nil_append, List.append_assoc, if_pos c2]; rfl)
    exact v_ireturn hG hR dX12_printsActs_23 () (congrArg (fun z => some (vI z)) e17) (by exact prtL_len _) (fun _ hM => by rw [← e15]; rw [← e16]; exact hM)
set_option maxHeartbeats 4000000 in
set_option maxRecDepth 100000 in
theorem k_plainTells (l : Launch) (D : Dx) (A : Nat → Prop) (a : Nat → Nat) (s im fr bY tr ln bl bo g lg : Int → Int) (x : Int) (h8g : 0 ≤ g 8 ∧ g 8 ≤ 950) (h9g : 0 ≤ g 9 ∧ g 9 ≤ 6) : CT l D A yX12_plainTells cX12_plainTells 2 (some .int) { frames := 5, cells := 0, slots := 0, locals := 105 } [.ref (a 0), vI x] (MW D A a s im fr bY tr ln bl bo g lg) (fun _ : Unit => some (vI (prtV (g 9) (g 10) (g 11) x * 2))) (fun _ => True) (fun _ => MW D A a s im fr bY tr ln bl (rbo bo (g 8) (3 :: prtL (g 9))) (gL g (3 :: prtL (g 9))) lg) := by
  refine ct_of (lo0 := [(0, .ref (a 0)), (1, vI x)]) (by decide) (Nat.le_of_ble_eq_true rfl) rfl ?_
  intro G hG hR
  refine v_aload_n hG dX12_plainTells_0 rfl 0 rfl ?_
  refine v_iconst hG dX12_plainTells_1 ?_
  refine v_callV (k1' := 0) (k2' := 0) hG dX12_plainTells_2 zc_X12_ranBody ⟨zl_X12_274, zi_X12_ranBody, zs_X12_ranBody⟩ (fun l => k_ranBody l D A a s im fr bY tr ln bl bo g lg 3 (by first | omega | (simp only [gL_8, gL_9, List.length_cons, List.length_nil] at *; omega))) rfl mw_recv (fun _ h => h) ⟨by decide, by decide⟩ rfl rfl ⟨by decide, by decide⟩ (rest := []) rfl (Nat.le_of_ble_eq_true rfl) (fun u1 => []) (fun _ => rfl) (fun u1 hu1 => ?_)
  refine v_aload_n hG dX12_plainTells_5 rfl 0 rfl ?_
  refine v_iload_n hG dX12_plainTells_6 rfl 1 rfl ?_
  refine v_callV (k1' := 0) (k2' := 0) hG dX12_plainTells_7 zc_X12_printsActs ⟨zl_X12_298, zi_X12_printsActs, zs_X12_printsActs⟩ (fun l => k_printsActs l D A a s im fr bY tr ln bl (rbo bo (g 8) [3]) (gL g [3]) lg x (by first | omega | (simp only [gL_8, gL_9, List.length_cons, List.length_nil] at *; omega)) (by first | omega | (simp only [gL_9]; omega))) rfl mw_recv (fun _ h => h) ⟨by decide, by decide⟩ rfl rfl ⟨by decide, by decide⟩ (rest := []) rfl (Nat.le_of_ble_eq_true rfl) (fun u2 => [vI (prtV ((gL g [3]) 9) ((gL g [3]) 10) ((gL g [3]) 11) x)]) (fun _ => rfl) (fun u2 hu2 => ?_)
  have fu2 : ((prtL ((gL g [3]) 9)).length : Int) ≤ 4 := hu2
  refine v_iconst hG dX12_plainTells_10 ?_
  refine v_imul hG dX12_plainTells_11 ?_
  have e3 : rbo (rbo bo (g 8) [3]) ((gL g [3]) 8) (prtL ((gL g [3]) 9)) = rbo bo (g 8) (3 :: prtL (g 9)) := by first | rfl | (simp only [Int.add_assoc, gL_8, gL_9, gL_10, gL_11, gL_app, rbo_app, rbo_ap2, List.cons_append, List.nil_append, List.append_assoc, ]; done) | (simp only [Int.add_assoc, gL_8, gL_9, gL_10, gL_11, gL_app, rbo_app, rbo_ap2, List.cons_append, List.nil_append, List.append_assoc, ]; rfl)
  have e4 : gL (gL g [3]) (prtL ((gL g [3]) 9)) = gL g (3 :: prtL (g 9)) := by first | rfl | (simp only [Int.add_assoc, gL_8, gL_9, gL_10, gL_11, gL_app, rbo_app, rbo_ap2, List.cons_append, List.nil_append, List.append_assoc, ]; done) | (simp only [Int.add_assoc, gL_8, gL_9, gL_10, gL_11, gL_app, rbo_app, rbo_ap2, List.cons_append, List.nil_append, List.append_assoc, ]; rfl)
  have e5 : @Eq Int (prtV (g 9) (g 10) (g 11) x * 2) ((prtV ((gL g [3]) 9) ((gL g [3]) 10) ((gL g [3]) 11) x) * 2) := by first | rfl | (simp only [Int.add_assoc, gL_8, gL_9, gL_10, gL_11, gL_app, rbo_app, rbo_ap2, List.cons_append, List.nil_append, List.append_assoc, ]; done) | (simp only [Int.add_assoc, gL_8, gL_9, gL_10, gL_11, gL_app, rbo_app, rbo_ap2, List.cons_append, List.nil_append, List.append_assoc, ]; rfl)
  exact v_ireturn hG hR dX12_plainTells_12 () (congrArg (fun z => some (vI z)) e5) (by trivial) (fun _ hM => by rw [← e3]; rw [← e4]; exact hM)
set_option maxHeartbeats 4000000 in
set_option maxRecDepth 100000 in
theorem k_tellsActs (l : Launch) (D : Dx) (A : Nat → Prop) (a : Nat → Nat) (s im fr bY tr ln bl bo g lg : Int → Int) (x : Int) (h8g : 0 ≤ g 8 ∧ g 8 ≤ 940) (h9g : 0 ≤ g 9 ∧ g 9 ≤ 6) : CT l D A yX12_tellsActs cX12_tellsActs 3 (some .int) { frames := 6, cells := 0, slots := 0, locals := 126 } [.ref (a 0), vI x] (MW D A a s im fr bY tr ln bl bo g lg) (fun _ : Unit => some (vI (telV (g 9) (g 10) (g 11) x))) (fun _ => ((telL (g 9)).length : Int) ≤ 8) (fun _ => MW D A a s im fr bY tr ln bl (rbo bo (g 8) (telL (g 9))) (gL g (telL (g 9))) lg) := by
  refine ct_of (lo0 := [(0, .ref (a 0)), (1, vI x)]) (by decide) (Nat.le_of_ble_eq_true rfl) rfl ?_
  intro G hG hR
  have hpl := prtL_len (g 9)
  refine v_aload_n hG dX12_tellsActs_0 rfl 0 rfl ?_
  refine mg_kind (z := g 9) hG dX12_tellsActs_1 rfl ?_
  refine v_iconst hG dX12_tellsActs_4 ?_
  refine v_callS (k1' := 0) (k2' := 0) hG dX12_tellsActs_5 zc_X12_isUnder ⟨zl_X12_283, zt_X12_isUnder⟩ (fun l => k_isUnder l D A (MW D A a s im fr bY tr ln bl bo g lg) (g 9) 3 (by first | omega | (simp only [gL_9]; omega)) (by omega)) rfl (fun _ h => h) ⟨by decide, by decide⟩ rfl rfl ⟨by decide, by decide⟩ (rest := []) rfl (Nat.le_of_ble_eq_true rfl) (fun u1 => [vI (bi (isU (g 9) 3))]) (fun _ => rfl) (fun u1 hu1 => ?_)
  refine v_ifb_eq (p := isU (g 9) 3) (tgt := 26) hG dX12_tellsActs_8 (by decide) (fun c2 => ?_) (fun c2 => ?_)
  · skip
    refine v_aload_n hG dX12_tellsActs_26 rfl 0 rfl ?_
    refine mg_kind (z := g 9) hG dX12_tellsActs_27 rfl ?_
    refine v_iconst hG dX12_tellsActs_30 ?_
    refine v_icmp_ne (tgt := 56) hG dX12_tellsActs_31 (by decide) (by omega) (by omega) (fun c3 => ?_) (fun c3 => ?_)
    · skip
      refine v_aload_n hG dX12_tellsActs_56 rfl 0 rfl ?_
      refine v_iload_n hG dX12_tellsActs_57 rfl 1 rfl ?_
      refine v_callV (k1' := 0) (k2' := 0) hG dX12_tellsActs_58 zc_X12_plainTells ⟨zl_X12_301, zi_X12_plainTells, zs_X12_plainTells⟩ (fun l => k_plainTells l D A a s im fr bY tr ln bl bo g lg x (by first | omega | (simp only [gL_8, gL_9, List.length_cons, List.length_nil] at *; omega)) (by first | omega | (simp only [gL_9]; omega))) rfl mw_recv (fun _ h => h) ⟨by decide, by decide⟩ rfl rfl ⟨by decide, by decide⟩ (rest := []) rfl (Nat.le_of_ble_eq_true rfl) (fun u4 => [vI (prtV (g 9) (g 10) (g 11) x * 2)]) (fun _ => rfl) (fun u4 hu4 => ?_)
      have e5 : rbo bo (g 8) (3 :: prtL (g 9)) = rbo bo (g 8) (telL (g 9)) := by first | rfl | (simp only [telV, telL, gL_8, gL_9, gL_10, gL_11, gL_app, rbo_app, rbo_ap2, List.cons_append, List.nil_append, List.append_assoc, if_neg c2, if_neg c3]; done) | (simp only [telV, telL, gL_8, gL_9, gL_10, gL_11, gL_app, rbo_app, rbo_ap2, List.cons_append, List.nil_append, List.append_assoc, if_neg c2, if_neg c3]; rfl)
      have e6 : gL g (3 :: prtL (g 9)) = gL g (telL (g 9)) := by first | rfl | (simp only [telV, telL, gL_8, gL_9, gL_10, gL_11, gL_app, rbo_app, rbo_ap2, List.cons_append, List.nil_append, List.append_assoc, if_neg c2, if_neg c3]; done) | (simp only [telV, telL, gL_8, gL_9, gL_10, gL_11, gL_app, rbo_app, rbo_ap2, List.cons_append, List.nil_append, List.append_assoc, if_neg c2, if_neg c3]; rfl)
      have e7 : @Eq Int (telV (g 9) (g 10) (g 11) x) (prtV (g 9) (g 10) (g 11) x * 2) := by first | rfl | (simp only [telV, telL, gL_8, gL_9, gL_10, gL_11, gL_app, rbo_app, rbo_ap2, List.cons_append, List.nil_append, List.append_assoc, if_neg c2, if_neg c3]; done) | (simp only [telV, telL, gL_8, gL_9, gL_10, gL_11, gL_app, rbo_app, rbo_ap2, List.cons_append, List.nil_append, List.append_assoc, if_neg c2, if_neg c3]; rfl)
      exact v_ireturn hG hR dX12_tellsActs_61 () (congrArg (fun z => some (vI z)) e7) (by exact telL_len _) (fun _ hM => by rw [← e5]; rw [← e6]; exact hM)
    · skip
      refine v_aload_n hG dX12_tellsActs_34 rfl 0 rfl ?_
      refine v_bipush hG dX12_tellsActs_35 (by decide) ?_
      refine v_callV (k1' := 0) (k2' := 0) hG dX12_tellsActs_37 zc_X12_ranBody ⟨zl_X12_274, zi_X12_ranBody, zs_X12_ranBody⟩ (fun l => k_ranBody l D A a s im fr bY tr ln bl bo g lg 41 (by first | omega | (simp only [gL_8, gL_9, List.length_cons, List.length_nil] at *; omega))) rfl mw_recv (fun _ h => h) ⟨by decide, by decide⟩ rfl rfl ⟨by decide, by decide⟩ (rest := []) rfl (Nat.le_of_ble_eq_true rfl) (fun u8 => []) (fun _ => rfl) (fun u8 hu8 => ?_)
      refine v_aload_n hG dX12_tellsActs_40 rfl 0 rfl ?_
      refine v_iload_n hG dX12_tellsActs_41 rfl 1 rfl ?_
      refine v_iconst hG dX12_tellsActs_42 ?_
      refine v_isub hG dX12_tellsActs_43 ?_
      refine v_callV (k1' := 0) (k2' := 0) hG dX12_tellsActs_44 zc_X12_plainTells ⟨zl_X12_301, zi_X12_plainTells, zs_X12_plainTells⟩ (fun l => k_plainTells l D A a s im fr bY tr ln bl (rbo bo (g 8) [41]) (gL g [41]) lg (x - 1) (by first | omega | (simp only [gL_8, gL_9, List.length_cons, List.length_nil] at *; omega)) (by first | omega | (simp only [gL_9]; omega))) rfl mw_recv (fun _ h => h) ⟨by decide, by decide⟩ rfl rfl ⟨by decide, by decide⟩ (rest := []) rfl (Nat.le_of_ble_eq_true rfl) (fun u9 => [vI (prtV ((gL g [41]) 9) ((gL g [41]) 10) ((gL g [41]) 11) (x - 1) * 2)]) (fun _ => rfl) (fun u9 hu9 => ?_)
      refine v_istore_n (lo' := [(2, vI (prtV ((gL g [41]) 9) ((gL g [41]) 10) ((gL g [41]) 11) (x - 1) * 2)), (0, .ref (a 0)), (1, vI x)]) hG dX12_tellsActs_47 rfl (by decide) rfl ?_
      refine v_iload_n hG dX12_tellsActs_48 rfl 0 rfl ?_
      refine v_aload_n hG dX12_tellsActs_49 rfl 1 rfl ?_
      refine v_iconst hG dX12_tellsActs_50 ?_
      refine v_callV (k1' := 0) (k2' := 0) hG dX12_tellsActs_51 zc_X12_cutsActs ⟨zl_X12_289, zi_X12_cutsActs, zs_X12_cutsActs⟩ (fun l => k_cutsActs l D A a s im fr bY tr ln bl (rbo (rbo bo (g 8) [41]) ((gL g [41]) 8) (3 :: prtL ((gL g [41]) 9))) (gL (gL g [41]) (3 :: prtL ((gL g [41]) 9))) lg 2 (by first | omega | (simp only [gL_8, gL_9, List.length_cons, List.length_nil] at *; omega)) (by first | omega | (simp only [gL_9]; omega))) rfl mw_recv (fun _ h => h) ⟨by decide, by decide⟩ rfl rfl ⟨by decide, by decide⟩ (rest := [vI (prtV ((gL g [41]) 9) ((gL g [41]) 10) ((gL g [41]) 11) (x - 1) * 2)]) rfl (Nat.le_of_ble_eq_true rfl) (fun u10 => [vI (cutV ((gL (gL g [41]) (3 :: prtL ((gL g [41]) 9))) 9) ((gL (gL g [41]) (3 :: prtL ((gL g [41]) 9))) 10) 2), vI (prtV ((gL g [41]) 9) ((gL g [41]) 10) ((gL g [41]) 11) (x - 1) * 2)]) (fun _ => rfl) (fun u10 hu10 => ?_)
      have fu10 : ((cutL ((gL (gL g [41]) (3 :: prtL ((gL g [41]) 9))) 9)).length : Int) ≤ 2 := hu10
      refine v_iadd hG dX12_tellsActs_54 ?_
      have e11 : rbo (rbo (rbo bo (g 8) [41]) ((gL g [41]) 8) (3 :: prtL ((gL g [41]) 9))) ((gL (gL g [41]) (3 :: prtL ((gL g [41]) 9))) 8) (cutL ((gL (gL g [41]) (3 :: prtL ((gL g [41]) 9))) 9)) = rbo bo (g 8) (telL (g 9)) := by first | rfl | (simp only [telV, telL, gL_8, gL_9, gL_10, gL_11, gL_app, rbo_app, rbo_ap2, List.cons_append, List.nil_append, List.append_assoc, if_neg c2, if_pos c3]; done) | (simp only [telV, telL, gL_8, gL_9, gL_10, gL_11, gL_app, rbo_app, rbo_ap2, List.cons_append, List.nil_append, List.append_assoc, if_neg c2, if_pos c3]; rfl)
      have e12 : gL (gL (gL g [41]) (3 :: prtL ((gL g [41]) 9))) (cutL ((gL (gL g [41]) (3 :: prtL ((gL g [41]) 9))) 9)) = gL g (telL (g 9)) := by first | rfl | (simp only [telV, telL, gL_8, gL_9, gL_10, gL_11, gL_app, rbo_app, rbo_ap2, List.cons_append, List.nil_append, List.append_assoc, if_neg c2, if_pos c3]; done) | (simp only [telV, telL, gL_8, gL_9, gL_10, gL_11, gL_app, rbo_app, rbo_ap2, List.cons_append, List.nil_append, List.append_assoc, if_neg c2, if_pos c3]; rfl)
      have e13 : @Eq Int (telV (g 9) (g 10) (g 11) x) ((prtV ((gL g [41]) 9) ((gL g [41]) 10) ((gL g [41]) 11) (x - 1) * 2) + (cutV ((gL (gL g [41]) (3 :: prtL ((gL g [41]) 9))) 9) ((gL (gL g [41]) (3 :: prtL ((gL g [41]) 9))) 10) 2)) := by first | rfl | (simp only [telV, telL, gL_8, gL_9, gL_10, gL_11, gL_app, rbo_app, rbo_ap2, List.cons_append, List.nil_append, List.append_assoc, if_neg c2, if_pos c3]; done) | (simp only [telV, telL, gL_8, gL_9, gL_10, gL_11, gL_app, rbo_app, rbo_ap2, List.cons_append, List.nil_append, List.append_assoc, if_neg c2, if_pos c3]; rfl)
      exact v_ireturn hG hR dX12_tellsActs_55 () (congrArg (fun z => some (vI z)) e13) (by exact telL_len _) (fun _ hM => by rw [← e11]; rw [← e12]; exact hM)
  · skip
    refine v_aload_n hG dX12_tellsActs_11 rfl 0 rfl ?_
    refine v_bipush hG dX12_tellsActs_12 (by decide) ?_
    refine v_callV (k1' := 0) (k2' := 0) hG dX12_tellsActs_14 zc_X12_ranBody ⟨zl_X12_274, zi_X12_ranBody, zs_X12_ranBody⟩ (fun l => k_ranBody l D A a s im fr bY tr ln bl bo g lg 31 (by first | omega | (simp only [gL_8, gL_9, List.length_cons, List.length_nil] at *; omega))) rfl mw_recv (fun _ h => h) ⟨by decide, by decide⟩ rfl rfl ⟨by decide, by decide⟩ (rest := []) rfl (Nat.le_of_ble_eq_true rfl) (fun u14 => []) (fun _ => rfl) (fun u14 hu14 => ?_)
    refine v_aload_n hG dX12_tellsActs_17 rfl 0 rfl ?_
    refine v_iload_n hG dX12_tellsActs_18 rfl 1 rfl ?_
    refine v_callV (k1' := 0) (k2' := 0) hG dX12_tellsActs_19 zc_X12_plainTells ⟨zl_X12_301, zi_X12_plainTells, zs_X12_plainTells⟩ (fun l => k_plainTells l D A a s im fr bY tr ln bl (rbo bo (g 8) [31]) (gL g [31]) lg x (by first | omega | (simp only [gL_8, gL_9, List.length_cons, List.length_nil] at *; omega)) (by first | omega | (simp only [gL_9]; omega))) rfl mw_recv (fun _ h => h) ⟨by decide, by decide⟩ rfl rfl ⟨by decide, by decide⟩ (rest := []) rfl (Nat.le_of_ble_eq_true rfl) (fun u15 => [vI (prtV ((gL g [31]) 9) ((gL g [31]) 10) ((gL g [31]) 11) x * 2)]) (fun _ => rfl) (fun u15 hu15 => ?_)
    refine v_bipush hG dX12_tellsActs_22 (by decide) ?_
    refine v_ixor hG dX12_tellsActs_24 ?_
    have e16 : rbo (rbo bo (g 8) [31]) ((gL g [31]) 8) (3 :: prtL ((gL g [31]) 9)) = rbo bo (g 8) (telL (g 9)) := by first | rfl | (simp only [telV, telL, gL_8, gL_9, gL_10, gL_11, gL_app, rbo_app, rbo_ap2, List.cons_append, List.nil_append, List.append_assoc, if_pos c2]; done) | (simp only [telV, telL, gL_8, gL_9, gL_10, gL_11, gL_app, rbo_app, rbo_ap2, List.cons_append, List.nil_append, List.append_assoc, if_pos c2]; rfl)
    have e17 : gL (gL g [31]) (3 :: prtL ((gL g [31]) 9)) = gL g (telL (g 9)) := by first | rfl | (simp only [telV, telL, gL_8, gL_9, gL_10, gL_11, gL_app, rbo_app, rbo_ap2, List.cons_append, List.nil_append, List.append_assoc, if_pos c2]; done) | (simp only [telV, telL, gL_8, gL_9, gL_10, gL_11, gL_app, rbo_app, rbo_ap2, List.cons_append, List.nil_append, List.append_assoc, if_pos c2]; rfl)
    have e18 : @Eq Int (telV (g 9) (g 10) (g 11) x) (ixor (prtV ((gL g [31]) 9) ((gL g [31]) 10) ((gL g [31]) 11) x * 2) 7) := by first | rfl | (simp only [telV, telL, gL_8, gL_9, gL_10, gL_11, gL_app, rbo_app, rbo_ap2, List.cons_append, List.nil_append, List.append_assoc, if_pos c2]; done) | (simp only [telV, telL, gL_8, gL_9, gL_10, gL_11, gL_app, rbo_app, rbo_ap2, List.cons_append, List.nil_append, List.append_assoc, if_pos c2]; rfl)
    exact v_ireturn hG hR dX12_tellsActs_25 () (congrArg (fun z => some (vI z)) e18) (by exact telL_len _) (fun _ hM => by rw [← e16]; rw [← e17]; exact hM)
set_option maxHeartbeats 4000000 in
set_option maxRecDepth 100000 in
theorem k_act (l : Launch) (D : Dx) (A : Nat → Prop) (a : Nat → Nat) (s im fr bY tr ln bl bo g lg : Int → Int) (m : Int) (ac : Int) (x : Int) (hr : -2147483648 ≤ m ∧ m < 2147483648) (hr2 : -2147483648 ≤ ac ∧ ac < 2147483648) (hN : NM s) (hM : GM s) : CT l D A yX12_act cX12_act 4 (some .int) { frames := 7, cells := 0, slots := 0, locals := 148 } [.ref (a 0), vI m, vI ac, vI x] (MW D A a s im fr bY tr ln bl bo g lg) (fun u : (Int → Int) => some (vI (a_act s m ac x))) (fun u => u 8 = ((l_act s m ac).length : Int) ∧ u 1 = g 1) (fun u => MW D A a s im fr bY tr ln bl (rbo bo 0 (l_act s m ac)) u lg) := by
  refine ct_of (lo0 := [(0, .ref (a 0)), (1, vI m), (2, vI ac), (3, vI x)]) (by decide) (Nat.le_of_ble_eq_true rfl) rfl ?_
  intro G hG hR
  have hN9 : 0 ≤ s 43 ∧ s 43 ≤ 8 := hN
  refine v_aload_n hG dX12_act_0 rfl 0 rfl ?_
  refine v_iconst hG dX12_act_1 ?_
  refine mp_ranMany hG dX12_act_2 ?_
  refine v_aload_n hG dX12_act_5 rfl 0 rfl ?_
  refine v_iload_n hG dX12_act_6 rfl 1 rfl ?_
  refine v_callV (k1' := 0) (k2' := 0) hG dX12_act_7 zc_X12_isMark ⟨zl_X12_150, zi_X12_isMark, zs_X12_isMark⟩ (fun l => k_isMark l D A a s im fr bY tr ln bl bo (sU g 8 0) lg m (by omega) (by assumption)) rfl mw_recv (fun _ h => h) ⟨by decide, by decide⟩ rfl rfl ⟨by decide, by decide⟩ (rest := []) rfl (Nat.le_of_ble_eq_true rfl) (fun u1 => [vI (bi (0 ≤ m ∧ m ≤ s 43 - 1))]) (fun _ => rfl) (fun u1 hu1 => ?_)
  refine v_ifb_eq (p := 0 ≤ m ∧ m ≤ s 43 - 1) (tgt := 22) hG dX12_act_10 (by decide) (fun c2 => ?_) (fun c2 => ?_)
  · skip
    refine v_iconst hG dX12_act_22 ?_
    have e3 : bo = rbo bo 0 (l_act s m ac) := by first | rfl | (simp only [a_act, l_act, actL, actV, rbo, sU_eq, sU_ne (show (9 : Int) ≠ 10 by omega), sU_ne (show (9 : Int) ≠ 11 by omega), sU_ne (show (8 : Int) ≠ 9 by omega), sU_ne (show (8 : Int) ≠ 10 by omega), sU_ne (show (8 : Int) ≠ 11 by omega), sU_ne (show (10 : Int) ≠ 11 by omega), sU_ne (show (1 : Int) ≠ 8 by omega), sU_ne (show (1 : Int) ≠ 9 by omega), sU_ne (show (1 : Int) ≠ 10 by omega), sU_ne (show (1 : Int) ≠ 11 by omega), gL_8, gL_1, List.length_nil, if_neg c2]; done) | (simp only [a_act, l_act, actL, actV, rbo, sU_eq, sU_ne (show (9 : Int) ≠ 10 by omega), sU_ne (show (9 : Int) ≠ 11 by omega), sU_ne (show (8 : Int) ≠ 9 by omega), sU_ne (show (8 : Int) ≠ 10 by omega), sU_ne (show (8 : Int) ≠ 11 by omega), sU_ne (show (10 : Int) ≠ 11 by omega), sU_ne (show (1 : Int) ≠ 8 by omega), sU_ne (show (1 : Int) ≠ 9 by omega), sU_ne (show (1 : Int) ≠ 10 by omega), sU_ne (show (1 : Int) ≠ 11 by omega), gL_8, gL_1, List.length_nil, if_neg c2]; omega) | (simp [a_act, l_act, actL, actV, rbo, sU_eq, sU_ne (show (9 : Int) ≠ 10 by omega), sU_ne (show (9 : Int) ≠ 11 by omega), sU_ne (show (8 : Int) ≠ 9 by omega), sU_ne (show (8 : Int) ≠ 10 by omega), sU_ne (show (8 : Int) ≠ 11 by omega), sU_ne (show (10 : Int) ≠ 11 by omega), sU_ne (show (1 : Int) ≠ 8 by omega), sU_ne (show (1 : Int) ≠ 9 by omega), sU_ne (show (1 : Int) ≠ 10 by omega), sU_ne (show (1 : Int) ≠ 11 by omega), gL_8, gL_1, c2]; done)
    have e4 : @Eq Int (a_act s m ac x) (0) := by first | rfl | (simp only [a_act, l_act, actL, actV, rbo, sU_eq, sU_ne (show (9 : Int) ≠ 10 by omega), sU_ne (show (9 : Int) ≠ 11 by omega), sU_ne (show (8 : Int) ≠ 9 by omega), sU_ne (show (8 : Int) ≠ 10 by omega), sU_ne (show (8 : Int) ≠ 11 by omega), sU_ne (show (10 : Int) ≠ 11 by omega), sU_ne (show (1 : Int) ≠ 8 by omega), sU_ne (show (1 : Int) ≠ 9 by omega), sU_ne (show (1 : Int) ≠ 10 by omega), sU_ne (show (1 : Int) ≠ 11 by omega), gL_8, gL_1, List.length_nil, if_neg c2]; done) | (simp only [a_act, l_act, actL, actV, rbo, sU_eq, sU_ne (show (9 : Int) ≠ 10 by omega), sU_ne (show (9 : Int) ≠ 11 by omega), sU_ne (show (8 : Int) ≠ 9 by omega), sU_ne (show (8 : Int) ≠ 10 by omega), sU_ne (show (8 : Int) ≠ 11 by omega), sU_ne (show (10 : Int) ≠ 11 by omega), sU_ne (show (1 : Int) ≠ 8 by omega), sU_ne (show (1 : Int) ≠ 9 by omega), sU_ne (show (1 : Int) ≠ 10 by omega), sU_ne (show (1 : Int) ≠ 11 by omega), gL_8, gL_1, List.length_nil, if_neg c2]; omega) | (simp [a_act, l_act, actL, actV, rbo, sU_eq, sU_ne (show (9 : Int) ≠ 10 by omega), sU_ne (show (9 : Int) ≠ 11 by omega), sU_ne (show (8 : Int) ≠ 9 by omega), sU_ne (show (8 : Int) ≠ 10 by omega), sU_ne (show (8 : Int) ≠ 11 by omega), sU_ne (show (10 : Int) ≠ 11 by omega), sU_ne (show (1 : Int) ≠ 8 by omega), sU_ne (show (1 : Int) ≠ 9 by omega), sU_ne (show (1 : Int) ≠ 10 by omega), sU_ne (show (1 : Int) ≠ 11 by omega), gL_8, gL_1, c2]; done)
    exact v_ireturn hG hR dX12_act_23 (sU g 8 0) (congrArg (fun z => some (vI z)) e4) (by first | (first | rfl | (simp only [a_act, l_act, actL, actV, rbo, sU_eq, sU_ne (show (9 : Int) ≠ 10 by omega), sU_ne (show (9 : Int) ≠ 11 by omega), sU_ne (show (8 : Int) ≠ 9 by omega), sU_ne (show (8 : Int) ≠ 10 by omega), sU_ne (show (8 : Int) ≠ 11 by omega), sU_ne (show (10 : Int) ≠ 11 by omega), sU_ne (show (1 : Int) ≠ 8 by omega), sU_ne (show (1 : Int) ≠ 9 by omega), sU_ne (show (1 : Int) ≠ 10 by omega), sU_ne (show (1 : Int) ≠ 11 by omega), gL_8, gL_1, List.length_nil, if_neg c2]; done) | (simp only [a_act, l_act, actL, actV, rbo, sU_eq, sU_ne (show (9 : Int) ≠ 10 by omega), sU_ne (show (9 : Int) ≠ 11 by omega), sU_ne (show (8 : Int) ≠ 9 by omega), sU_ne (show (8 : Int) ≠ 10 by omega), sU_ne (show (8 : Int) ≠ 11 by omega), sU_ne (show (10 : Int) ≠ 11 by omega), sU_ne (show (1 : Int) ≠ 8 by omega), sU_ne (show (1 : Int) ≠ 9 by omega), sU_ne (show (1 : Int) ≠ 10 by omega), sU_ne (show (1 : Int) ≠ 11 by omega), gL_8, gL_1, List.length_nil, if_neg c2]; omega) | (simp [a_act, l_act, actL, actV, rbo, sU_eq, sU_ne (show (9 : Int) ≠ 10 by omega), sU_ne (show (9 : Int) ≠ 11 by omega), sU_ne (show (8 : Int) ≠ 9 by omega), sU_ne (show (8 : Int) ≠ 10 by omega), sU_ne (show (8 : Int) ≠ 11 by omega), sU_ne (show (10 : Int) ≠ 11 by omega), sU_ne (show (1 : Int) ≠ 8 by omega), sU_ne (show (1 : Int) ≠ 9 by omega), sU_ne (show (1 : Int) ≠ 10 by omega), sU_ne (show (1 : Int) ≠ 11 by omega), gL_8, gL_1, c2]; done)) | (constructor <;> (first | rfl | (simp only [a_act, l_act, actL, actV, rbo, sU_eq, sU_ne (show (9 : Int) ≠ 10 by omega), sU_ne (show (9 : Int) ≠ 11 by omega), sU_ne (show (8 : Int) ≠ 9 by omega), sU_ne (show (8 : Int) ≠ 10 by omega), sU_ne (show (8 : Int) ≠ 11 by omega), sU_ne (show (10 : Int) ≠ 11 by omega), sU_ne (show (1 : Int) ≠ 8 by omega), sU_ne (show (1 : Int) ≠ 9 by omega), sU_ne (show (1 : Int) ≠ 10 by omega), sU_ne (show (1 : Int) ≠ 11 by omega), gL_8, gL_1, List.length_nil, if_neg c2]; done) | (simp only [a_act, l_act, actL, actV, rbo, sU_eq, sU_ne (show (9 : Int) ≠ 10 by omega), sU_ne (show (9 : Int) ≠ 11 by omega), sU_ne (show (8 : Int) ≠ 9 by omega), sU_ne (show (8 : Int) ≠ 10 by omega), sU_ne (show (8 : Int) ≠ 11 by omega), sU_ne (show (10 : Int) ≠ 11 by omega), sU_ne (show (1 : Int) ≠ 8 by omega), sU_ne (show (1 : Int) ≠ 9 by omega), sU_ne (show (1 : Int) ≠ 10 by omega), sU_ne (show (1 : Int) ≠ 11 by omega), gL_8, gL_1, List.length_nil, if_neg c2]; omega) | (simp [a_act, l_act, actL, actV, rbo, sU_eq, sU_ne (show (9 : Int) ≠ 10 by omega), sU_ne (show (9 : Int) ≠ 11 by omega), sU_ne (show (8 : Int) ≠ 9 by omega), sU_ne (show (8 : Int) ≠ 10 by omega), sU_ne (show (8 : Int) ≠ 11 by omega), sU_ne (show (10 : Int) ≠ 11 by omega), sU_ne (show (1 : Int) ≠ 8 by omega), sU_ne (show (1 : Int) ≠ 9 by omega), sU_ne (show (1 : Int) ≠ 10 by omega), sU_ne (show (1 : Int) ≠ 11 by omega), gL_8, gL_1, c2]; done)))) (fun _ hM => by rw [← e3]; exact hM)
  · skip
    refine v_iload_n hG dX12_act_13 rfl 2 rfl ?_
    refine v_iconst hG dX12_act_14 ?_
    refine v_iconst hG dX12_act_15 ?_
    refine v_callS (k1' := 0) (k2' := 0) hG dX12_act_16 zc_X12_in ⟨zl_X12_41, zt_X12_in⟩ (fun l => k_in l D A (MW D A a s im fr bY tr ln bl bo (sU g 8 0) lg) ac 0 2 (by omega) (by omega) (by omega)) rfl (fun _ h => h) ⟨by decide, by decide⟩ rfl rfl ⟨by decide, by decide⟩ (rest := []) rfl (Nat.le_of_ble_eq_true rfl) (fun u5 => [vI (bi (0 ≤ ac ∧ ac ≤ 2))]) (fun _ => rfl) (fun u5 hu5 => ?_)
    refine v_ifb_ne (p := 0 ≤ ac ∧ ac ≤ 2) (tgt := 24) hG dX12_act_19 (by decide) (fun c6 => ?_) (fun c6 => ?_)
    · skip
      refine v_aload_n hG dX12_act_24 rfl 0 rfl ?_
      refine v_aload_n hG dX12_act_25 rfl 0 rfl ?_
      refine mg_s hG dX12_act_26 ?_
      refine v_bipush hG dX12_act_29 (by decide) ?_
      refine v_iload_n hG dX12_act_31 rfl 1 rfl ?_
      refine v_iadd hG dX12_act_32 ?_
      refine ma_s (z := s (50 + m)) hG dX12_act_33 (by omega) rfl ?_
      refine mp_kind hG dX12_act_34 ?_
      refine v_aload_n hG dX12_act_37 rfl 0 rfl ?_
      refine v_iload_n hG dX12_act_38 rfl 1 rfl ?_
      refine mp_number hG dX12_act_39 ?_
      refine v_aload_n hG dX12_act_42 rfl 0 rfl ?_
      refine v_aload_n hG dX12_act_43 rfl 0 rfl ?_
      refine mg_s hG dX12_act_44 ?_
      refine v_bipush hG dX12_act_47 (by decide) ?_
      refine v_iload_n hG dX12_act_49 rfl 1 rfl ?_
      refine v_iadd hG dX12_act_50 ?_
      refine ma_s (z := s (58 + m)) hG dX12_act_51 (by omega) rfl ?_
      refine mp_tellsV hG dX12_act_52 ?_
      refine v_iload_n hG dX12_act_55 rfl 2 rfl ?_
      refine v_if_ne (tgt := 67) hG dX12_act_56 (by decide) (by omega) (fun c7 => ?_) (fun c7 => ?_)
      · skip
        refine v_iload_n hG dX12_act_67 rfl 2 rfl ?_
        refine v_iconst hG dX12_act_68 ?_
        refine v_icmp_ne (tgt := 80) hG dX12_act_69 (by decide) (by omega) (by omega) (fun c8 => ?_) (fun c8 => ?_)
        · skip
          refine v_aload_n hG dX12_act_80 rfl 0 rfl ?_
          refine v_iload_n hG dX12_act_81 rfl 3 rfl ?_
          refine v_callV (k1' := 0) (k2' := 0) hG dX12_act_82 zc_X12_tellsActs ⟨zl_X12_304, zi_X12_tellsActs, zs_X12_tellsActs⟩ (fun l => k_tellsActs l D A a s im fr bY tr ln bl bo (sU (sU (sU (sU g 8 0) 9 (s (50 + m))) 10 m) 11 (s (58 + m))) lg x (by first | omega | (simp only [sU_eq, sU_ne (show (9 : Int) ≠ 10 by omega), sU_ne (show (9 : Int) ≠ 11 by omega), sU_ne (show (8 : Int) ≠ 9 by omega), sU_ne (show (8 : Int) ≠ 10 by omega), sU_ne (show (8 : Int) ≠ 11 by omega), sU_ne (show (10 : Int) ≠ 11 by omega), sU_ne (show (1 : Int) ≠ 8 by omega), sU_ne (show (1 : Int) ≠ 9 by omega), sU_ne (show (1 : Int) ≠ 10 by omega), sU_ne (show (1 : Int) ≠ 11 by omega)]; omega) | (have := (hM m (by omega) (by omega)).1; simp only [sU_eq, sU_ne (show (9 : Int) ≠ 10 by omega), sU_ne (show (9 : Int) ≠ 11 by omega), sU_ne (show (8 : Int) ≠ 9 by omega), sU_ne (show (8 : Int) ≠ 10 by omega), sU_ne (show (8 : Int) ≠ 11 by omega), sU_ne (show (10 : Int) ≠ 11 by omega), sU_ne (show (1 : Int) ≠ 8 by omega), sU_ne (show (1 : Int) ≠ 9 by omega), sU_ne (show (1 : Int) ≠ 10 by omega), sU_ne (show (1 : Int) ≠ 11 by omega)]; omega)) (by first | omega | (simp only [sU_eq, sU_ne (show (9 : Int) ≠ 10 by omega), sU_ne (show (9 : Int) ≠ 11 by omega), sU_ne (show (8 : Int) ≠ 9 by omega), sU_ne (show (8 : Int) ≠ 10 by omega), sU_ne (show (8 : Int) ≠ 11 by omega), sU_ne (show (10 : Int) ≠ 11 by omega), sU_ne (show (1 : Int) ≠ 8 by omega), sU_ne (show (1 : Int) ≠ 9 by omega), sU_ne (show (1 : Int) ≠ 10 by omega), sU_ne (show (1 : Int) ≠ 11 by omega)]; omega) | (have := (hM m (by omega) (by omega)).1; simp only [sU_eq, sU_ne (show (9 : Int) ≠ 10 by omega), sU_ne (show (9 : Int) ≠ 11 by omega), sU_ne (show (8 : Int) ≠ 9 by omega), sU_ne (show (8 : Int) ≠ 10 by omega), sU_ne (show (8 : Int) ≠ 11 by omega), sU_ne (show (10 : Int) ≠ 11 by omega), sU_ne (show (1 : Int) ≠ 8 by omega), sU_ne (show (1 : Int) ≠ 9 by omega), sU_ne (show (1 : Int) ≠ 10 by omega), sU_ne (show (1 : Int) ≠ 11 by omega)]; omega))) rfl mw_recv (fun _ h => h) ⟨by decide, by decide⟩ rfl rfl ⟨by decide, by decide⟩ (rest := []) rfl (Nat.le_of_ble_eq_true rfl) (fun u9 => [vI (telV ((sU (sU (sU (sU g 8 0) 9 (s (50 + m))) 10 m) 11 (s (58 + m))) 9) ((sU (sU (sU (sU g 8 0) 9 (s (50 + m))) 10 m) 11 (s (58 + m))) 10) ((sU (sU (sU (sU g 8 0) 9 (s (50 + m))) 10 m) 11 (s (58 + m))) 11) x)]) (fun _ => rfl) (fun u9 hu9 => ?_)
          have fu9 : ((telL ((sU (sU (sU (sU g 8 0) 9 (s (50 + m))) 10 m) 11 (s (58 + m))) 9)).length : Int) ≤ 8 := hu9
          have e10 : rbo bo ((sU (sU (sU (sU g 8 0) 9 (s (50 + m))) 10 m) 11 (s (58 + m))) 8) (telL ((sU (sU (sU (sU g 8 0) 9 (s (50 + m))) 10 m) 11 (s (58 + m))) 9)) = rbo bo 0 (l_act s m ac) := by first | rfl | (simp only [a_act, l_act, actL, actV, rbo, sU_eq, sU_ne (show (9 : Int) ≠ 10 by omega), sU_ne (show (9 : Int) ≠ 11 by omega), sU_ne (show (8 : Int) ≠ 9 by omega), sU_ne (show (8 : Int) ≠ 10 by omega), sU_ne (show (8 : Int) ≠ 11 by omega), sU_ne (show (10 : Int) ≠ 11 by omega), sU_ne (show (1 : Int) ≠ 8 by omega), sU_ne (show (1 : Int) ≠ 9 by omega), sU_ne (show (1 : Int) ≠ 10 by omega), sU_ne (show (1 : Int) ≠ 11 by omega), gL_8, gL_1, List.length_nil, if_pos c2, if_pos c6, if_neg c7, if_neg c8]; done) | (simp only [a_act, l_act, actL, actV, rbo, sU_eq, sU_ne (show (9 : Int) ≠ 10 by omega), sU_ne (show (9 : Int) ≠ 11 by omega), sU_ne (show (8 : Int) ≠ 9 by omega), sU_ne (show (8 : Int) ≠ 10 by omega), sU_ne (show (8 : Int) ≠ 11 by omega), sU_ne (show (10 : Int) ≠ 11 by omega), sU_ne (show (1 : Int) ≠ 8 by omega), sU_ne (show (1 : Int) ≠ 9 by omega), sU_ne (show (1 : Int) ≠ 10 by omega), sU_ne (show (1 : Int) ≠ 11 by omega), gL_8, gL_1, List.length_nil, if_pos c2, if_pos c6, if_neg c7, if_neg c8]; omega) | (simp [a_act, l_act, actL, actV, rbo, sU_eq, sU_ne (show (9 : Int) ≠ 10 by omega), sU_ne (show (9 : Int) ≠ 11 by omega), sU_ne (show (8 : Int) ≠ 9 by omega), sU_ne (show (8 : Int) ≠ 10 by omega), sU_ne (show (8 : Int) ≠ 11 by omega), sU_ne (show (10 : Int) ≠ 11 by omega), sU_ne (show (1 : Int) ≠ 8 by omega), sU_ne (show (1 : Int) ≠ 9 by omega), sU_ne (show (1 : Int) ≠ 10 by omega), sU_ne (show (1 : Int) ≠ 11 by omega), gL_8, gL_1, c2, c6, c7, c8]; done)
          have e11 : @Eq Int (a_act s m ac x) (telV ((sU (sU (sU (sU g 8 0) 9 (s (50 + m))) 10 m) 11 (s (58 + m))) 9) ((sU (sU (sU (sU g 8 0) 9 (s (50 + m))) 10 m) 11 (s (58 + m))) 10) ((sU (sU (sU (sU g 8 0) 9 (s (50 + m))) 10 m) 11 (s (58 + m))) 11) x) := by first | rfl | (simp only [a_act, l_act, actL, actV, rbo, sU_eq, sU_ne (show (9 : Int) ≠ 10 by omega), sU_ne (show (9 : Int) ≠ 11 by omega), sU_ne (show (8 : Int) ≠ 9 by omega), sU_ne (show (8 : Int) ≠ 10 by omega), sU_ne (show (8 : Int) ≠ 11 by omega), sU_ne (show (10 : Int) ≠ 11 by omega), sU_ne (show (1 : Int) ≠ 8 by omega), sU_ne (show (1 : Int) ≠ 9 by omega), sU_ne (show (1 : Int) ≠ 10 by omega), sU_ne (show (1 : Int) ≠ 11 by omega), gL_8, gL_1, List.length_nil, if_pos c2, if_pos c6, if_neg c7, if_neg c8]; done) | (simp only [a_act, l_act, actL, actV, rbo, sU_eq, sU_ne (show (9 : Int) ≠ 10 by omega), sU_ne (show (9 : Int) ≠ 11 by omega), sU_ne (show (8 : Int) ≠ 9 by omega), sU_ne (show (8 : Int) ≠ 10 by omega), sU_ne (show (8 : Int) ≠ 11 by omega), sU_ne (show (10 : Int) ≠ 11 by omega), sU_ne (show (1 : Int) ≠ 8 by omega), sU_ne (show (1 : Int) ≠ 9 by omega), sU_ne (show (1 : Int) ≠ 10 by omega), sU_ne (show (1 : Int) ≠ 11 by omega), gL_8, gL_1, List.length_nil, if_pos c2, if_pos c6, if_neg c7, if_neg c8]; omega) | (simp [a_act, l_act, actL, actV, rbo, sU_eq, sU_ne (show (9 : Int) ≠ 10 by omega), sU_ne (show (9 : Int) ≠ 11 by omega), sU_ne (show (8 : Int) ≠ 9 by omega), sU_ne (show (8 : Int) ≠ 10 by omega), sU_ne (show (8 : Int) ≠ 11 by omega), sU_ne (show (10 : Int) ≠ 11 by omega), sU_ne (show (1 : Int) ≠ 8 by omega), sU_ne (show (1 : Int) ≠ 9 by omega), sU_ne (show (1 : Int) ≠ 10 by omega), sU_ne (show (1 : Int) ≠ 11 by omega), gL_8, gL_1, c2, c6, c7, c8]; done)
          exact v_ireturn hG hR dX12_act_85 (gL (sU (sU (sU (sU g 8 0) 9 (s (50 + m))) 10 m) 11 (s (58 + m))) (telL ((sU (sU (sU (sU g 8 0) 9 (s (50 + m))) 10 m) 11 (s (58 + m))) 9))) (congrArg (fun z => some (vI z)) e11) (by first | (first | rfl | (simp only [a_act, l_act, actL, actV, rbo, sU_eq, sU_ne (show (9 : Int) ≠ 10 by omega), sU_ne (show (9 : Int) ≠ 11 by omega), sU_ne (show (8 : Int) ≠ 9 by omega), sU_ne (show (8 : Int) ≠ 10 by omega), sU_ne (show (8 : Int) ≠ 11 by omega), sU_ne (show (10 : Int) ≠ 11 by omega), sU_ne (show (1 : Int) ≠ 8 by omega), sU_ne (show (1 : Int) ≠ 9 by omega), sU_ne (show (1 : Int) ≠ 10 by omega), sU_ne (show (1 : Int) ≠ 11 by omega), gL_8, gL_1, List.length_nil, if_pos c2, if_pos c6, if_neg c7, if_neg c8]; done) | (simp only [a_act, l_act, actL, actV, rbo, sU_eq, sU_ne (show (9 : Int) ≠ 10 by omega), sU_ne (show (9 : Int) ≠ 11 by omega), sU_ne (show (8 : Int) ≠ 9 by omega), sU_ne (show (8 : Int) ≠ 10 by omega), sU_ne (show (8 : Int) ≠ 11 by omega), sU_ne (show (10 : Int) ≠ 11 by omega), sU_ne (show (1 : Int) ≠ 8 by omega), sU_ne (show (1 : Int) ≠ 9 by omega), sU_ne (show (1 : Int) ≠ 10 by omega), sU_ne (show (1 : Int) ≠ 11 by omega), gL_8, gL_1, List.length_nil, if_pos c2, if_pos c6, if_neg c7, if_neg c8]; omega) | (simp [a_act, l_act, actL, actV, rbo, sU_eq, sU_ne (show (9 : Int) ≠ 10 by omega), sU_ne (show (9 : Int) ≠ 11 by omega), sU_ne (show (8 : Int) ≠ 9 by omega), sU_ne (show (8 : Int) ≠ 10 by omega), sU_ne (show (8 : Int) ≠ 11 by omega), sU_ne (show (10 : Int) ≠ 11 by omega), sU_ne (show (1 : Int) ≠ 8 by omega), sU_ne (show (1 : Int) ≠ 9 by omega), sU_ne (show (1 : Int) ≠ 10 by omega), sU_ne (show (1 : Int) ≠ 11 by omega), gL_8, gL_1, c2, c6, c7, c8]; done)) | (constructor <;> (first | rfl | (simp only [a_act, l_act, actL, actV, rbo, sU_eq, sU_ne (show (9 : Int) ≠ 10 by omega), sU_ne (show (9 : Int) ≠ 11 by omega), sU_ne (show (8 : Int) ≠ 9 by omega), sU_ne (show (8 : Int) ≠ 10 by omega), sU_ne (show (8 : Int) ≠ 11 by omega), sU_ne (show (10 : Int) ≠ 11 by omega), sU_ne (show (1 : Int) ≠ 8 by omega), sU_ne (show (1 : Int) ≠ 9 by omega), sU_ne (show (1 : Int) ≠ 10 by omega), sU_ne (show (1 : Int) ≠ 11 by omega), gL_8, gL_1, List.length_nil, if_pos c2, if_pos c6, if_neg c7, if_neg c8]; done) | (simp only [a_act, l_act, actL, actV, rbo, sU_eq, sU_ne (show (9 : Int) ≠ 10 by omega), sU_ne (show (9 : Int) ≠ 11 by omega), sU_ne (show (8 : Int) ≠ 9 by omega), sU_ne (show (8 : Int) ≠ 10 by omega), sU_ne (show (8 : Int) ≠ 11 by omega), sU_ne (show (10 : Int) ≠ 11 by omega), sU_ne (show (1 : Int) ≠ 8 by omega), sU_ne (show (1 : Int) ≠ 9 by omega), sU_ne (show (1 : Int) ≠ 10 by omega), sU_ne (show (1 : Int) ≠ 11 by omega), gL_8, gL_1, List.length_nil, if_pos c2, if_pos c6, if_neg c7, if_neg c8]; omega) | (simp [a_act, l_act, actL, actV, rbo, sU_eq, sU_ne (show (9 : Int) ≠ 10 by omega), sU_ne (show (9 : Int) ≠ 11 by omega), sU_ne (show (8 : Int) ≠ 9 by omega), sU_ne (show (8 : Int) ≠ 10 by omega), sU_ne (show (8 : Int) ≠ 11 by omega), sU_ne (show (10 : Int) ≠ 11 by omega), sU_ne (show (1 : Int) ≠ 8 by omega), sU_ne (show (1 : Int) ≠ 9 by omega), sU_ne (show (1 : Int) ≠ 10 by omega), sU_ne (show (1 : Int) ≠ 11 by omega), gL_8, gL_1, c2, c6, c7, c8]; done)))) (fun _ hM => by rw [← e10]; exact hM)
        · skip
          refine v_aload_n hG dX12_act_72 rfl 0 rfl ?_
          refine v_iload_n hG dX12_act_73 rfl 3 rfl ?_
          refine v_callV (k1' := 0) (k2' := 0) hG dX12_act_74 zc_X12_printsActs ⟨zl_X12_298, zi_X12_printsActs, zs_X12_printsActs⟩ (fun l => k_printsActs l D A a s im fr bY tr ln bl bo (sU (sU (sU (sU g 8 0) 9 (s (50 + m))) 10 m) 11 (s (58 + m))) lg x (by first | omega | (simp only [sU_eq, sU_ne (show (9 : Int) ≠ 10 by omega), sU_ne (show (9 : Int) ≠ 11 by omega), sU_ne (show (8 : Int) ≠ 9 by omega), sU_ne (show (8 : Int) ≠ 10 by omega), sU_ne (show (8 : Int) ≠ 11 by omega), sU_ne (show (10 : Int) ≠ 11 by omega), sU_ne (show (1 : Int) ≠ 8 by omega), sU_ne (show (1 : Int) ≠ 9 by omega), sU_ne (show (1 : Int) ≠ 10 by omega), sU_ne (show (1 : Int) ≠ 11 by omega)]; omega) | (have := (hM m (by omega) (by omega)).1; simp only [sU_eq, sU_ne (show (9 : Int) ≠ 10 by omega), sU_ne (show (9 : Int) ≠ 11 by omega), sU_ne (show (8 : Int) ≠ 9 by omega), sU_ne (show (8 : Int) ≠ 10 by omega), sU_ne (show (8 : Int) ≠ 11 by omega), sU_ne (show (10 : Int) ≠ 11 by omega), sU_ne (show (1 : Int) ≠ 8 by omega), sU_ne (show (1 : Int) ≠ 9 by omega), sU_ne (show (1 : Int) ≠ 10 by omega), sU_ne (show (1 : Int) ≠ 11 by omega)]; omega)) (by first | omega | (simp only [sU_eq, sU_ne (show (9 : Int) ≠ 10 by omega), sU_ne (show (9 : Int) ≠ 11 by omega), sU_ne (show (8 : Int) ≠ 9 by omega), sU_ne (show (8 : Int) ≠ 10 by omega), sU_ne (show (8 : Int) ≠ 11 by omega), sU_ne (show (10 : Int) ≠ 11 by omega), sU_ne (show (1 : Int) ≠ 8 by omega), sU_ne (show (1 : Int) ≠ 9 by omega), sU_ne (show (1 : Int) ≠ 10 by omega), sU_ne (show (1 : Int) ≠ 11 by omega)]; omega) | (have := (hM m (by omega) (by omega)).1; simp only [sU_eq, sU_ne (show (9 : Int) ≠ 10 by omega), sU_ne (show (9 : Int) ≠ 11 by omega), sU_ne (show (8 : Int) ≠ 9 by omega), sU_ne (show (8 : Int) ≠ 10 by omega), sU_ne (show (8 : Int) ≠ 11 by omega), sU_ne (show (10 : Int) ≠ 11 by omega), sU_ne (show (1 : Int) ≠ 8 by omega), sU_ne (show (1 : Int) ≠ 9 by omega), sU_ne (show (1 : Int) ≠ 10 by omega), sU_ne (show (1 : Int) ≠ 11 by omega)]; omega))) rfl mw_recv (fun _ h => h) ⟨by decide, by decide⟩ rfl rfl ⟨by decide, by decide⟩ (rest := []) rfl (Nat.le_of_ble_eq_true rfl) (fun u12 => [vI (prtV ((sU (sU (sU (sU g 8 0) 9 (s (50 + m))) 10 m) 11 (s (58 + m))) 9) ((sU (sU (sU (sU g 8 0) 9 (s (50 + m))) 10 m) 11 (s (58 + m))) 10) ((sU (sU (sU (sU g 8 0) 9 (s (50 + m))) 10 m) 11 (s (58 + m))) 11) x)]) (fun _ => rfl) (fun u12 hu12 => ?_)
          have fu12 : ((prtL ((sU (sU (sU (sU g 8 0) 9 (s (50 + m))) 10 m) 11 (s (58 + m))) 9)).length : Int) ≤ 4 := hu12
          refine v_goto (tgt := 85) hG dX12_act_77 (by decide) ?_
          have e13 : rbo bo ((sU (sU (sU (sU g 8 0) 9 (s (50 + m))) 10 m) 11 (s (58 + m))) 8) (prtL ((sU (sU (sU (sU g 8 0) 9 (s (50 + m))) 10 m) 11 (s (58 + m))) 9)) = rbo bo 0 (l_act s m ac) := by first | rfl | (simp only [a_act, l_act, actL, actV, rbo, sU_eq, sU_ne (show (9 : Int) ≠ 10 by omega), sU_ne (show (9 : Int) ≠ 11 by omega), sU_ne (show (8 : Int) ≠ 9 by omega), sU_ne (show (8 : Int) ≠ 10 by omega), sU_ne (show (8 : Int) ≠ 11 by omega), sU_ne (show (10 : Int) ≠ 11 by omega), sU_ne (show (1 : Int) ≠ 8 by omega), sU_ne (show (1 : Int) ≠ 9 by omega), sU_ne (show (1 : Int) ≠ 10 by omega), sU_ne (show (1 : Int) ≠ 11 by omega), gL_8, gL_1, List.length_nil, if_pos c2, if_pos c6, if_neg c7, if_pos c8]; done) | (simp only [a_act, l_act, actL, actV, rbo, sU_eq, sU_ne (show (9 : Int) ≠ 10 by omega), sU_ne (show (9 : Int) ≠ 11 by omega), sU_ne (show (8 : Int) ≠ 9 by omega), sU_ne (show (8 : Int) ≠ 10 by omega), sU_ne (show (8 : Int) ≠ 11 by omega), sU_ne (show (10 : Int) ≠ 11 by omega), sU_ne (show (1 : Int) ≠ 8 by omega), sU_ne (show (1 : Int) ≠ 9 by omega), sU_ne (show (1 : Int) ≠ 10 by omega), sU_ne (show (1 : Int) ≠ 11 by omega), gL_8, gL_1, List.length_nil, if_pos c2, if_pos c6, if_neg c7, if_pos c8]; omega) | (simp [a_act, l_act, actL, actV, rbo, sU_eq, sU_ne (show (9 : Int) ≠ 10 by omega), sU_ne (show (9 : Int) ≠ 11 by omega), sU_ne (show (8 : Int) ≠ 9 by omega), sU_ne (show (8 : Int) ≠ 10 by omega), sU_ne (show (8 : Int) ≠ 11 by omega), sU_ne (show (10 : Int) ≠ 11 by omega), sU_ne (show (1 : Int) ≠ 8 by omega), sU_ne (show (1 : Int) ≠ 9 by omega), sU_ne (show (1 : Int) ≠ 10 by omega), sU_ne (show (1 : Int) ≠ 11 by omega), gL_8, gL_1, c2, c6, c7, c8]; done)
          have e14 : @Eq Int (a_act s m ac x) (prtV ((sU (sU (sU (sU g 8 0) 9 (s (50 + m))) 10 m) 11 (s (58 + m))) 9) ((sU (sU (sU (sU g 8 0) 9 (s (50 + m))) 10 m) 11 (s (58 + m))) 10) ((sU (sU (sU (sU g 8 0) 9 (s (50 + m))) 10 m) 11 (s (58 + m))) 11) x) := by first | rfl | (simp only [a_act, l_act, actL, actV, rbo, sU_eq, sU_ne (show (9 : Int) ≠ 10 by omega), sU_ne (show (9 : Int) ≠ 11 by omega), sU_ne (show (8 : Int) ≠ 9 by omega), sU_ne (show (8 : Int) ≠ 10 by omega), sU_ne (show (8 : Int) ≠ 11 by omega), sU_ne (show (10 : Int) ≠ 11 by omega), sU_ne (show (1 : Int) ≠ 8 by omega), sU_ne (show (1 : Int) ≠ 9 by omega), sU_ne (show (1 : Int) ≠ 10 by omega), sU_ne (show (1 : Int) ≠ 11 by omega), gL_8, gL_1, List.length_nil, if_pos c2, if_pos c6, if_neg c7, if_pos c8]; done) | (simp only [a_act, l_act, actL, actV, rbo, sU_eq, sU_ne (show (9 : Int) ≠ 10 by omega), sU_ne (show (9 : Int) ≠ 11 by omega), sU_ne (show (8 : Int) ≠ 9 by omega), sU_ne (show (8 : Int) ≠ 10 by omega), sU_ne (show (8 : Int) ≠ 11 by omega), sU_ne (show (10 : Int) ≠ 11 by omega), sU_ne (show (1 : Int) ≠ 8 by omega), sU_ne (show (1 : Int) ≠ 9 by omega), sU_ne (show (1 : Int) ≠ 10 by omega), sU_ne (show (1 : Int) ≠ 11 by omega), gL_8, gL_1, List.length_nil, if_pos c2, if_pos c6, if_neg c7, if_pos c8]; omega) | (simp [a_act, l_act, actL, actV, rbo, sU_eq, sU_ne (show (9 : Int) ≠ 10 by omega), sU_ne (show (9 : Int) ≠ 11 by omega), sU_ne (show (8 : Int) ≠ 9 by omega), sU_ne (show (8 : Int) ≠ 10 by omega), sU_ne (show (8 : Int) ≠ 11 by omega), sU_ne (show (10 : Int) ≠ 11 by omega), sU_ne (show (1 : Int) ≠ 8 by omega), sU_ne (show (1 : Int) ≠ 9 by omega), sU_ne (show (1 : Int) ≠ 10 by omega), sU_ne (show (1 : Int) ≠ 11 by omega), gL_8, gL_1, c2, c6, c7, c8]; done)
          exact v_ireturn hG hR dX12_act_85 (gL (sU (sU (sU (sU g 8 0) 9 (s (50 + m))) 10 m) 11 (s (58 + m))) (prtL ((sU (sU (sU (sU g 8 0) 9 (s (50 + m))) 10 m) 11 (s (58 + m))) 9))) (congrArg (fun z => some (vI z)) e14) (by first | (first | rfl | (simp only [a_act, l_act, actL, actV, rbo, sU_eq, sU_ne (show (9 : Int) ≠ 10 by omega), sU_ne (show (9 : Int) ≠ 11 by omega), sU_ne (show (8 : Int) ≠ 9 by omega), sU_ne (show (8 : Int) ≠ 10 by omega), sU_ne (show (8 : Int) ≠ 11 by omega), sU_ne (show (10 : Int) ≠ 11 by omega), sU_ne (show (1 : Int) ≠ 8 by omega), sU_ne (show (1 : Int) ≠ 9 by omega), sU_ne (show (1 : Int) ≠ 10 by omega), sU_ne (show (1 : Int) ≠ 11 by omega), gL_8, gL_1, List.length_nil, if_pos c2, if_pos c6, if_neg c7, if_pos c8]; done) | (simp only [a_act, l_act, actL, actV, rbo, sU_eq, sU_ne (show (9 : Int) ≠ 10 by omega), sU_ne (show (9 : Int) ≠ 11 by omega), sU_ne (show (8 : Int) ≠ 9 by omega), sU_ne (show (8 : Int) ≠ 10 by omega), sU_ne (show (8 : Int) ≠ 11 by omega), sU_ne (show (10 : Int) ≠ 11 by omega), sU_ne (show (1 : Int) ≠ 8 by omega), sU_ne (show (1 : Int) ≠ 9 by omega), sU_ne (show (1 : Int) ≠ 10 by omega), sU_ne (show (1 : Int) ≠ 11 by omega), gL_8, gL_1, List.length_nil, if_pos c2, if_pos c6, if_neg c7, if_pos c8]; omega) | (simp [a_act, l_act, actL, actV, rbo, sU_eq, sU_ne (show (9 : Int) ≠ 10 by omega), sU_ne (show (9 : Int) ≠ 11 by omega), sU_ne (show (8 : Int) ≠ 9 by omega), sU_ne (show (8 : Int) ≠ 10 by omega), sU_ne (show (8 : Int) ≠ 11 by omega), sU_ne (show (10 : Int) ≠ 11 by omega), sU_ne (show (1 : Int) ≠ 8 by omega), sU_ne (show (1 : Int) ≠ 9 by omega), sU_ne (show (1 : Int) ≠ 10 by omega), sU_ne (show (1 : Int) ≠ 11 by omega), gL_8, gL_1, c2, c6, c7, c8]; done)) | (constructor <;> (first | rfl | (simp only [a_act, l_act, actL, actV, rbo, sU_eq, sU_ne (show (9 : Int) ≠ 10 by omega), sU_ne (show (9 : Int) ≠ 11 by omega), sU_ne (show (8 : Int) ≠ 9 by omega), sU_ne (show (8 : Int) ≠ 10 by omega), sU_ne (show (8 : Int) ≠ 11 by omega), sU_ne (show (10 : Int) ≠ 11 by omega), sU_ne (show (1 : Int) ≠ 8 by omega), sU_ne (show (1 : Int) ≠ 9 by omega), sU_ne (show (1 : Int) ≠ 10 by omega), sU_ne (show (1 : Int) ≠ 11 by omega), gL_8, gL_1, List.length_nil, if_pos c2, if_pos c6, if_neg c7, if_pos c8]; done) | (simp only [a_act, l_act, actL, actV, rbo, sU_eq, sU_ne (show (9 : Int) ≠ 10 by omega), sU_ne (show (9 : Int) ≠ 11 by omega), sU_ne (show (8 : Int) ≠ 9 by omega), sU_ne (show (8 : Int) ≠ 10 by omega), sU_ne (show (8 : Int) ≠ 11 by omega), sU_ne (show (10 : Int) ≠ 11 by omega), sU_ne (show (1 : Int) ≠ 8 by omega), sU_ne (show (1 : Int) ≠ 9 by omega), sU_ne (show (1 : Int) ≠ 10 by omega), sU_ne (show (1 : Int) ≠ 11 by omega), gL_8, gL_1, List.length_nil, if_pos c2, if_pos c6, if_neg c7, if_pos c8]; omega) | (simp [a_act, l_act, actL, actV, rbo, sU_eq, sU_ne (show (9 : Int) ≠ 10 by omega), sU_ne (show (9 : Int) ≠ 11 by omega), sU_ne (show (8 : Int) ≠ 9 by omega), sU_ne (show (8 : Int) ≠ 10 by omega), sU_ne (show (8 : Int) ≠ 11 by omega), sU_ne (show (10 : Int) ≠ 11 by omega), sU_ne (show (1 : Int) ≠ 8 by omega), sU_ne (show (1 : Int) ≠ 9 by omega), sU_ne (show (1 : Int) ≠ 10 by omega), sU_ne (show (1 : Int) ≠ 11 by omega), gL_8, gL_1, c2, c6, c7, c8]; done)))) (fun _ hM => by rw [← e13]; exact hM)
      · skip
        refine v_aload_n hG dX12_act_59 rfl 0 rfl ?_
        refine v_iload_n hG dX12_act_60 rfl 3 rfl ?_
        refine v_callV (k1' := 0) (k2' := 0) hG dX12_act_61 zc_X12_cutsActs ⟨zl_X12_289, zi_X12_cutsActs, zs_X12_cutsActs⟩ (fun l => k_cutsActs l D A a s im fr bY tr ln bl bo (sU (sU (sU (sU g 8 0) 9 (s (50 + m))) 10 m) 11 (s (58 + m))) lg x (by first | omega | (simp only [sU_eq, sU_ne (show (9 : Int) ≠ 10 by omega), sU_ne (show (9 : Int) ≠ 11 by omega), sU_ne (show (8 : Int) ≠ 9 by omega), sU_ne (show (8 : Int) ≠ 10 by omega), sU_ne (show (8 : Int) ≠ 11 by omega), sU_ne (show (10 : Int) ≠ 11 by omega), sU_ne (show (1 : Int) ≠ 8 by omega), sU_ne (show (1 : Int) ≠ 9 by omega), sU_ne (show (1 : Int) ≠ 10 by omega), sU_ne (show (1 : Int) ≠ 11 by omega)]; omega) | (have := (hM m (by omega) (by omega)).1; simp only [sU_eq, sU_ne (show (9 : Int) ≠ 10 by omega), sU_ne (show (9 : Int) ≠ 11 by omega), sU_ne (show (8 : Int) ≠ 9 by omega), sU_ne (show (8 : Int) ≠ 10 by omega), sU_ne (show (8 : Int) ≠ 11 by omega), sU_ne (show (10 : Int) ≠ 11 by omega), sU_ne (show (1 : Int) ≠ 8 by omega), sU_ne (show (1 : Int) ≠ 9 by omega), sU_ne (show (1 : Int) ≠ 10 by omega), sU_ne (show (1 : Int) ≠ 11 by omega)]; omega)) (by first | omega | (simp only [sU_eq, sU_ne (show (9 : Int) ≠ 10 by omega), sU_ne (show (9 : Int) ≠ 11 by omega), sU_ne (show (8 : Int) ≠ 9 by omega), sU_ne (show (8 : Int) ≠ 10 by omega), sU_ne (show (8 : Int) ≠ 11 by omega), sU_ne (show (10 : Int) ≠ 11 by omega), sU_ne (show (1 : Int) ≠ 8 by omega), sU_ne (show (1 : Int) ≠ 9 by omega), sU_ne (show (1 : Int) ≠ 10 by omega), sU_ne (show (1 : Int) ≠ 11 by omega)]; omega) | (have := (hM m (by omega) (by omega)).1; simp only [sU_eq, sU_ne (show (9 : Int) ≠ 10 by omega), sU_ne (show (9 : Int) ≠ 11 by omega), sU_ne (show (8 : Int) ≠ 9 by omega), sU_ne (show (8 : Int) ≠ 10 by omega), sU_ne (show (8 : Int) ≠ 11 by omega), sU_ne (show (10 : Int) ≠ 11 by omega), sU_ne (show (1 : Int) ≠ 8 by omega), sU_ne (show (1 : Int) ≠ 9 by omega), sU_ne (show (1 : Int) ≠ 10 by omega), sU_ne (show (1 : Int) ≠ 11 by omega)]; omega))) rfl mw_recv (fun _ h => h) ⟨by decide, by decide⟩ rfl rfl ⟨by decide, by decide⟩ (rest := []) rfl (Nat.le_of_ble_eq_true rfl) (fun u15 => [vI (cutV ((sU (sU (sU (sU g 8 0) 9 (s (50 + m))) 10 m) 11 (s (58 + m))) 9) ((sU (sU (sU (sU g 8 0) 9 (s (50 + m))) 10 m) 11 (s (58 + m))) 10) x)]) (fun _ => rfl) (fun u15 hu15 => ?_)
        have fu15 : ((cutL ((sU (sU (sU (sU g 8 0) 9 (s (50 + m))) 10 m) 11 (s (58 + m))) 9)).length : Int) ≤ 2 := hu15
        refine v_goto (tgt := 85) hG dX12_act_64 (by decide) ?_
        have e16 : rbo bo ((sU (sU (sU (sU g 8 0) 9 (s (50 + m))) 10 m) 11 (s (58 + m))) 8) (cutL ((sU (sU (sU (sU g 8 0) 9 (s (50 + m))) 10 m) 11 (s (58 + m))) 9)) = rbo bo 0 (l_act s m ac) := by first | rfl | (simp only [a_act, l_act, actL, actV, rbo, sU_eq, sU_ne (show (9 : Int) ≠ 10 by omega), sU_ne (show (9 : Int) ≠ 11 by omega), sU_ne (show (8 : Int) ≠ 9 by omega), sU_ne (show (8 : Int) ≠ 10 by omega), sU_ne (show (8 : Int) ≠ 11 by omega), sU_ne (show (10 : Int) ≠ 11 by omega), sU_ne (show (1 : Int) ≠ 8 by omega), sU_ne (show (1 : Int) ≠ 9 by omega), sU_ne (show (1 : Int) ≠ 10 by omega), sU_ne (show (1 : Int) ≠ 11 by omega), gL_8, gL_1, List.length_nil, if_pos c2, if_pos c6, if_pos c7]; done) | (simp only [a_act, l_act, actL, actV, rbo, sU_eq, sU_ne (show (9 : Int) ≠ 10 by omega), sU_ne (show (9 : Int) ≠ 11 by omega), sU_ne (show (8 : Int) ≠ 9 by omega), sU_ne (show (8 : Int) ≠ 10 by omega), sU_ne (show (8 : Int) ≠ 11 by omega), sU_ne (show (10 : Int) ≠ 11 by omega), sU_ne (show (1 : Int) ≠ 8 by omega), sU_ne (show (1 : Int) ≠ 9 by omega), sU_ne (show (1 : Int) ≠ 10 by omega), sU_ne (show (1 : Int) ≠ 11 by omega), gL_8, gL_1, List.length_nil, if_pos c2, if_pos c6, if_pos c7]; omega) | (simp [a_act, l_act, actL, actV, rbo, sU_eq, sU_ne (show (9 : Int) ≠ 10 by omega), sU_ne (show (9 : Int) ≠ 11 by omega), sU_ne (show (8 : Int) ≠ 9 by omega), sU_ne (show (8 : Int) ≠ 10 by omega), sU_ne (show (8 : Int) ≠ 11 by omega), sU_ne (show (10 : Int) ≠ 11 by omega), sU_ne (show (1 : Int) ≠ 8 by omega), sU_ne (show (1 : Int) ≠ 9 by omega), sU_ne (show (1 : Int) ≠ 10 by omega), sU_ne (show (1 : Int) ≠ 11 by omega), gL_8, gL_1, c2, c6, c7]; done)
        have e17 : @Eq Int (a_act s m ac x) (cutV ((sU (sU (sU (sU g 8 0) 9 (s (50 + m))) 10 m) 11 (s (58 + m))) 9) ((sU (sU (sU (sU g 8 0) 9 (s (50 + m))) 10 m) 11 (s (58 + m))) 10) x) := by first | rfl | (simp only [a_act, l_act, actL, actV, rbo, sU_eq, sU_ne (show (9 : Int) ≠ 10 by omega), sU_ne (show (9 : Int) ≠ 11 by omega), sU_ne (show (8 : Int) ≠ 9 by omega), sU_ne (show (8 : Int) ≠ 10 by omega), sU_ne (show (8 : Int) ≠ 11 by omega), sU_ne (show (10 : Int) ≠ 11 by omega), sU_ne (show (1 : Int) ≠ 8 by omega), sU_ne (show (1 : Int) ≠ 9 by omega), sU_ne (show (1 : Int) ≠ 10 by omega), sU_ne (show (1 : Int) ≠ 11 by omega), gL_8, gL_1, List.length_nil, if_pos c2, if_pos c6, if_pos c7]; done) | (simp only [a_act, l_act, actL, actV, rbo, sU_eq, sU_ne (show (9 : Int) ≠ 10 by omega), sU_ne (show (9 : Int) ≠ 11 by omega), sU_ne (show (8 : Int) ≠ 9 by omega), sU_ne (show (8 : Int) ≠ 10 by omega), sU_ne (show (8 : Int) ≠ 11 by omega), sU_ne (show (10 : Int) ≠ 11 by omega), sU_ne (show (1 : Int) ≠ 8 by omega), sU_ne (show (1 : Int) ≠ 9 by omega), sU_ne (show (1 : Int) ≠ 10 by omega), sU_ne (show (1 : Int) ≠ 11 by omega), gL_8, gL_1, List.length_nil, if_pos c2, if_pos c6, if_pos c7]; omega) | (simp [a_act, l_act, actL, actV, rbo, sU_eq, sU_ne (show (9 : Int) ≠ 10 by omega), sU_ne (show (9 : Int) ≠ 11 by omega), sU_ne (show (8 : Int) ≠ 9 by omega), sU_ne (show (8 : Int) ≠ 10 by omega), sU_ne (show (8 : Int) ≠ 11 by omega), sU_ne (show (10 : Int) ≠ 11 by omega), sU_ne (show (1 : Int) ≠ 8 by omega), sU_ne (show (1 : Int) ≠ 9 by omega), sU_ne (show (1 : Int) ≠ 10 by omega), sU_ne (show (1 : Int) ≠ 11 by omega), gL_8, gL_1, c2, c6, c7]; done)
        exact v_ireturn hG hR dX12_act_85 (gL (sU (sU (sU (sU g 8 0) 9 (s (50 + m))) 10 m) 11 (s (58 + m))) (cutL ((sU (sU (sU (sU g 8 0) 9 (s (50 + m))) 10 m) 11 (s (58 + m))) 9))) (congrArg (fun z => some (vI z)) e17) (by first | (first | rfl | (simp only [a_act, l_act, actL, actV, rbo, sU_eq, sU_ne (show (9 : Int) ≠ 10 by omega), sU_ne (show (9 : Int) ≠ 11 by omega), sU_ne (show (8 : Int) ≠ 9 by omega), sU_ne (show (8 : Int) ≠ 10 by omega), sU_ne (show (8 : Int) ≠ 11 by omega), sU_ne (show (10 : Int) ≠ 11 by omega), sU_ne (show (1 : Int) ≠ 8 by omega), sU_ne (show (1 : Int) ≠ 9 by omega), sU_ne (show (1 : Int) ≠ 10 by omega), sU_ne (show (1 : Int) ≠ 11 by omega), gL_8, gL_1, List.length_nil, if_pos c2, if_pos c6, if_pos c7]; done) | (simp only [a_act, l_act, actL, actV, rbo, sU_eq, sU_ne (show (9 : Int) ≠ 10 by omega), sU_ne (show (9 : Int) ≠ 11 by omega), sU_ne (show (8 : Int) ≠ 9 by omega), sU_ne (show (8 : Int) ≠ 10 by omega), sU_ne (show (8 : Int) ≠ 11 by omega), sU_ne (show (10 : Int) ≠ 11 by omega), sU_ne (show (1 : Int) ≠ 8 by omega), sU_ne (show (1 : Int) ≠ 9 by omega), sU_ne (show (1 : Int) ≠ 10 by omega), sU_ne (show (1 : Int) ≠ 11 by omega), gL_8, gL_1, List.length_nil, if_pos c2, if_pos c6, if_pos c7]; omega) | (simp [a_act, l_act, actL, actV, rbo, sU_eq, sU_ne (show (9 : Int) ≠ 10 by omega), sU_ne (show (9 : Int) ≠ 11 by omega), sU_ne (show (8 : Int) ≠ 9 by omega), sU_ne (show (8 : Int) ≠ 10 by omega), sU_ne (show (8 : Int) ≠ 11 by omega), sU_ne (show (10 : Int) ≠ 11 by omega), sU_ne (show (1 : Int) ≠ 8 by omega), sU_ne (show (1 : Int) ≠ 9 by omega), sU_ne (show (1 : Int) ≠ 10 by omega), sU_ne (show (1 : Int) ≠ 11 by omega), gL_8, gL_1, c2, c6, c7]; done)) | (constructor <;> (first | rfl | (simp only [a_act, l_act, actL, actV, rbo, sU_eq, sU_ne (show (9 : Int) ≠ 10 by omega), sU_ne (show (9 : Int) ≠ 11 by omega), sU_ne (show (8 : Int) ≠ 9 by omega), sU_ne (show (8 : Int) ≠ 10 by omega), sU_ne (show (8 : Int) ≠ 11 by omega), sU_ne (show (10 : Int) ≠ 11 by omega), sU_ne (show (1 : Int) ≠ 8 by omega), sU_ne (show (1 : Int) ≠ 9 by omega), sU_ne (show (1 : Int) ≠ 10 by omega), sU_ne (show (1 : Int) ≠ 11 by omega), gL_8, gL_1, List.length_nil, if_pos c2, if_pos c6, if_pos c7]; done) | (simp only [a_act, l_act, actL, actV, rbo, sU_eq, sU_ne (show (9 : Int) ≠ 10 by omega), sU_ne (show (9 : Int) ≠ 11 by omega), sU_ne (show (8 : Int) ≠ 9 by omega), sU_ne (show (8 : Int) ≠ 10 by omega), sU_ne (show (8 : Int) ≠ 11 by omega), sU_ne (show (10 : Int) ≠ 11 by omega), sU_ne (show (1 : Int) ≠ 8 by omega), sU_ne (show (1 : Int) ≠ 9 by omega), sU_ne (show (1 : Int) ≠ 10 by omega), sU_ne (show (1 : Int) ≠ 11 by omega), gL_8, gL_1, List.length_nil, if_pos c2, if_pos c6, if_pos c7]; omega) | (simp [a_act, l_act, actL, actV, rbo, sU_eq, sU_ne (show (9 : Int) ≠ 10 by omega), sU_ne (show (9 : Int) ≠ 11 by omega), sU_ne (show (8 : Int) ≠ 9 by omega), sU_ne (show (8 : Int) ≠ 10 by omega), sU_ne (show (8 : Int) ≠ 11 by omega), sU_ne (show (10 : Int) ≠ 11 by omega), sU_ne (show (1 : Int) ≠ 8 by omega), sU_ne (show (1 : Int) ≠ 9 by omega), sU_ne (show (1 : Int) ≠ 10 by omega), sU_ne (show (1 : Int) ≠ 11 by omega), gL_8, gL_1, c2, c6, c7]; done)))) (fun _ hM => by rw [← e16]; exact hM)
    · skip
      refine v_iconst hG dX12_act_22 ?_
      have e18 : bo = rbo bo 0 (l_act s m ac) := by first | rfl | (simp only [a_act, l_act, actL, actV, rbo, sU_eq, sU_ne (show (9 : Int) ≠ 10 by omega), sU_ne (show (9 : Int) ≠ 11 by omega), sU_ne (show (8 : Int) ≠ 9 by omega), sU_ne (show (8 : Int) ≠ 10 by omega), sU_ne (show (8 : Int) ≠ 11 by omega), sU_ne (show (10 : Int) ≠ 11 by omega), sU_ne (show (1 : Int) ≠ 8 by omega), sU_ne (show (1 : Int) ≠ 9 by omega), sU_ne (show (1 : Int) ≠ 10 by omega), sU_ne (show (1 : Int) ≠ 11 by omega), gL_8, gL_1, List.length_nil, if_pos c2, if_neg c6]; done) | (simp only [a_act, l_act, actL, actV, rbo, sU_eq, sU_ne (show (9 : Int) ≠ 10 by omega), sU_ne (show (9 : Int) ≠ 11 by omega), sU_ne (show (8 : Int) ≠ 9 by omega), sU_ne (show (8 : Int) ≠ 10 by omega), sU_ne (show (8 : Int) ≠ 11 by omega), sU_ne (show (10 : Int) ≠ 11 by omega), sU_ne (show (1 : Int) ≠ 8 by omega), sU_ne (show (1 : Int) ≠ 9 by omega), sU_ne (show (1 : Int) ≠ 10 by omega), sU_ne (show (1 : Int) ≠ 11 by omega), gL_8, gL_1, List.length_nil, if_pos c2, if_neg c6]; omega) | (simp [a_act, l_act, actL, actV, rbo, sU_eq, sU_ne (show (9 : Int) ≠ 10 by omega), sU_ne (show (9 : Int) ≠ 11 by omega), sU_ne (show (8 : Int) ≠ 9 by omega), sU_ne (show (8 : Int) ≠ 10 by omega), sU_ne (show (8 : Int) ≠ 11 by omega), sU_ne (show (10 : Int) ≠ 11 by omega), sU_ne (show (1 : Int) ≠ 8 by omega), sU_ne (show (1 : Int) ≠ 9 by omega), sU_ne (show (1 : Int) ≠ 10 by omega), sU_ne (show (1 : Int) ≠ 11 by omega), gL_8, gL_1, c2, c6]; done)
      have e19 : @Eq Int (a_act s m ac x) (0) := by first | rfl | (simp only [a_act, l_act, actL, actV, rbo, sU_eq, sU_ne (show (9 : Int) ≠ 10 by omega), sU_ne (show (9 : Int) ≠ 11 by omega), sU_ne (show (8 : Int) ≠ 9 by omega), sU_ne (show (8 : Int) ≠ 10 by omega), sU_ne (show (8 : Int) ≠ 11 by omega), sU_ne (show (10 : Int) ≠ 11 by omega), sU_ne (show (1 : Int) ≠ 8 by omega), sU_ne (show (1 : Int) ≠ 9 by omega), sU_ne (show (1 : Int) ≠ 10 by omega), sU_ne (show (1 : Int) ≠ 11 by omega), gL_8, gL_1, List.length_nil, if_pos c2, if_neg c6]; done) | (simp only [a_act, l_act, actL, actV, rbo, sU_eq, sU_ne (show (9 : Int) ≠ 10 by omega), sU_ne (show (9 : Int) ≠ 11 by omega), sU_ne (show (8 : Int) ≠ 9 by omega), sU_ne (show (8 : Int) ≠ 10 by omega), sU_ne (show (8 : Int) ≠ 11 by omega), sU_ne (show (10 : Int) ≠ 11 by omega), sU_ne (show (1 : Int) ≠ 8 by omega), sU_ne (show (1 : Int) ≠ 9 by omega), sU_ne (show (1 : Int) ≠ 10 by omega), sU_ne (show (1 : Int) ≠ 11 by omega), gL_8, gL_1, List.length_nil, if_pos c2, if_neg c6]; omega) | (simp [a_act, l_act, actL, actV, rbo, sU_eq, sU_ne (show (9 : Int) ≠ 10 by omega), sU_ne (show (9 : Int) ≠ 11 by omega), sU_ne (show (8 : Int) ≠ 9 by omega), sU_ne (show (8 : Int) ≠ 10 by omega), sU_ne (show (8 : Int) ≠ 11 by omega), sU_ne (show (10 : Int) ≠ 11 by omega), sU_ne (show (1 : Int) ≠ 8 by omega), sU_ne (show (1 : Int) ≠ 9 by omega), sU_ne (show (1 : Int) ≠ 10 by omega), sU_ne (show (1 : Int) ≠ 11 by omega), gL_8, gL_1, c2, c6]; done)
      exact v_ireturn hG hR dX12_act_23 (sU g 8 0) (congrArg (fun z => some (vI z)) e19) (by first | (first | rfl | (simp only [a_act, l_act, actL, actV, rbo, sU_eq, sU_ne (show (9 : Int) ≠ 10 by omega), sU_ne (show (9 : Int) ≠ 11 by omega), sU_ne (show (8 : Int) ≠ 9 by omega), sU_ne (show (8 : Int) ≠ 10 by omega), sU_ne (show (8 : Int) ≠ 11 by omega), sU_ne (show (10 : Int) ≠ 11 by omega), sU_ne (show (1 : Int) ≠ 8 by omega), sU_ne (show (1 : Int) ≠ 9 by omega), sU_ne (show (1 : Int) ≠ 10 by omega), sU_ne (show (1 : Int) ≠ 11 by omega), gL_8, gL_1, List.length_nil, if_pos c2, if_neg c6]; done) | (simp only [a_act, l_act, actL, actV, rbo, sU_eq, sU_ne (show (9 : Int) ≠ 10 by omega), sU_ne (show (9 : Int) ≠ 11 by omega), sU_ne (show (8 : Int) ≠ 9 by omega), sU_ne (show (8 : Int) ≠ 10 by omega), sU_ne (show (8 : Int) ≠ 11 by omega), sU_ne (show (10 : Int) ≠ 11 by omega), sU_ne (show (1 : Int) ≠ 8 by omega), sU_ne (show (1 : Int) ≠ 9 by omega), sU_ne (show (1 : Int) ≠ 10 by omega), sU_ne (show (1 : Int) ≠ 11 by omega), gL_8, gL_1, List.length_nil, if_pos c2, if_neg c6]; omega) | (simp [a_act, l_act, actL, actV, rbo, sU_eq, sU_ne (show (9 : Int) ≠ 10 by omega), sU_ne (show (9 : Int) ≠ 11 by omega), sU_ne (show (8 : Int) ≠ 9 by omega), sU_ne (show (8 : Int) ≠ 10 by omega), sU_ne (show (8 : Int) ≠ 11 by omega), sU_ne (show (10 : Int) ≠ 11 by omega), sU_ne (show (1 : Int) ≠ 8 by omega), sU_ne (show (1 : Int) ≠ 9 by omega), sU_ne (show (1 : Int) ≠ 10 by omega), sU_ne (show (1 : Int) ≠ 11 by omega), gL_8, gL_1, c2, c6]; done)) | (constructor <;> (first | rfl | (simp only [a_act, l_act, actL, actV, rbo, sU_eq, sU_ne (show (9 : Int) ≠ 10 by omega), sU_ne (show (9 : Int) ≠ 11 by omega), sU_ne (show (8 : Int) ≠ 9 by omega), sU_ne (show (8 : Int) ≠ 10 by omega), sU_ne (show (8 : Int) ≠ 11 by omega), sU_ne (show (10 : Int) ≠ 11 by omega), sU_ne (show (1 : Int) ≠ 8 by omega), sU_ne (show (1 : Int) ≠ 9 by omega), sU_ne (show (1 : Int) ≠ 10 by omega), sU_ne (show (1 : Int) ≠ 11 by omega), gL_8, gL_1, List.length_nil, if_pos c2, if_neg c6]; done) | (simp only [a_act, l_act, actL, actV, rbo, sU_eq, sU_ne (show (9 : Int) ≠ 10 by omega), sU_ne (show (9 : Int) ≠ 11 by omega), sU_ne (show (8 : Int) ≠ 9 by omega), sU_ne (show (8 : Int) ≠ 10 by omega), sU_ne (show (8 : Int) ≠ 11 by omega), sU_ne (show (10 : Int) ≠ 11 by omega), sU_ne (show (1 : Int) ≠ 8 by omega), sU_ne (show (1 : Int) ≠ 9 by omega), sU_ne (show (1 : Int) ≠ 10 by omega), sU_ne (show (1 : Int) ≠ 11 by omega), gL_8, gL_1, List.length_nil, if_pos c2, if_neg c6]; omega) | (simp [a_act, l_act, actL, actV, rbo, sU_eq, sU_ne (show (9 : Int) ≠ 10 by omega), sU_ne (show (9 : Int) ≠ 11 by omega), sU_ne (show (8 : Int) ≠ 9 by omega), sU_ne (show (8 : Int) ≠ 10 by omega), sU_ne (show (8 : Int) ≠ 11 by omega), sU_ne (show (10 : Int) ≠ 11 by omega), sU_ne (show (1 : Int) ≠ 8 by omega), sU_ne (show (1 : Int) ≠ 9 by omega), sU_ne (show (1 : Int) ≠ 10 by omega), sU_ne (show (1 : Int) ≠ 11 by omega), gL_8, gL_1, c2, c6]; done)))) (fun _ hM => by rw [← e18]; exact hM)
set_option maxHeartbeats 4000000 in
set_option maxRecDepth 100000 in
theorem k_trace (l : Launch) (D : Dx) (A : Nat → Prop) (a : Nat → Nat) (s im fr bY tr ln bl bo g lg : Int → Int) (i : Int) (hr : -2147483648 ≤ i ∧ i < 2147483648) (h8g : 0 ≤ g 8 ∧ g 8 ≤ 1000) : CT l D A yX12_trace cX12_trace 2 (some .int) { frames := 1, cells := 0, slots := 0, locals := 22 } [.ref (a 0), vI i] (MW D A a s im fr bY tr ln bl bo g lg) (fun _ : Unit => some (vI (a_trace bo g i))) (fun _ => True) (fun _ => MW D A a s im fr bY tr ln bl bo g lg) := by
  refine ct_of (lo0 := [(0, .ref (a 0)), (1, vI i)]) (by decide) (Nat.le_of_ble_eq_true rfl) rfl ?_
  intro G hG hR
  refine v_iload_n hG dX12_trace_0 rfl 1 rfl ?_
  refine v_iconst hG dX12_trace_1 ?_
  refine v_aload_n hG dX12_trace_2 rfl 0 rfl ?_
  refine mg_ranMany (z := g 8) hG dX12_trace_3 rfl ?_
  refine v_bipush hG dX12_trace_6 (by decide) ?_
  have J2 : ∀ z1 : Int, z1 = (if 20 ≤ g 8 then 20 else g 8) → V G 0 0 (MW D A a s im fr bY tr ln bl bo g lg) 20 [(0, .ref (a 0)), (1, vI i)] [vI z1, vI 0, vI i] := by
    intro z1 hz1
    have bz1 : 0 ≤ z1 ∧ z1 ≤ 20 := by rw [hz1]; split <;> omega
    refine v_iconst hG dX12_trace_20 ?_
    refine v_isub hG dX12_trace_21 ?_
    refine v_callS (k1' := 0) (k2' := 0) hG dX12_trace_22 zc_X12_in ⟨zl_X12_41, zt_X12_in⟩ (fun l => k_in l D A (MW D A a s im fr bY tr ln bl bo g lg) i 0 (z1 - 1) (by omega) (by omega) (by omega)) rfl (fun _ h => h) ⟨by decide, by decide⟩ rfl rfl ⟨by decide, by decide⟩ (rest := []) rfl (Nat.le_of_ble_eq_true rfl) (fun u3 => [vI (bi (0 ≤ i ∧ i ≤ (z1 - 1)))]) (fun _ => rfl) (fun u3 hu3 => ?_)
    refine v_ifb_eq (p := 0 ≤ i ∧ i ≤ (z1 - 1)) (tgt := 37) hG dX12_trace_25 (by decide) (fun c4 => ?_) (fun c4 => ?_)
    · skip
      refine v_iconst hG dX12_trace_37 ?_
      have e5 : @Eq Int (a_trace bo g i) (-1) := by first | rfl | (simp only [a_trace, if_neg c4]; done) | (subst hz1; simp only [a_trace, if_neg c4]; done) | (subst hz1; simp only [a_trace, if_neg c4]; rfl) | (subst hz1; simp only [a_trace, if_neg c4]; omega)
      exact v_ireturn hG hR dX12_trace_38 () (congrArg (fun z => some (vI z)) e5) (by trivial) (fun _ hM => hM)
    · skip
      refine v_aload_n hG dX12_trace_28 rfl 0 rfl ?_
      refine mg_bodies hG dX12_trace_29 ?_
      refine v_iload_n hG dX12_trace_32 rfl 1 rfl ?_
      refine ma_bodies (z := bo i) hG dX12_trace_33 (by omega) rfl ?_
      refine v_goto (tgt := 38) hG dX12_trace_34 (by decide) ?_
      have e6 : @Eq Int (a_trace bo g i) (bo i) := by first | rfl | (simp only [a_trace, if_pos c4]; done) | (subst hz1; simp only [a_trace, if_pos c4]; done) | (subst hz1; simp only [a_trace, if_pos c4]; rfl) | (subst hz1; simp only [a_trace, if_pos c4]; omega)
      exact v_ireturn hG hR dX12_trace_38 () (congrArg (fun z => some (vI z)) e6) (by trivial) (fun _ hM => hM)
  refine v_icmp_ge (tgt := 18) hG dX12_trace_8 (by decide) (by omega) (by omega) (fun c7 => ?_) (fun c7 => ?_)
  · skip
    refine v_bipush hG dX12_trace_18 (by decide) ?_
    exact J2 _ (by first | rfl | (simp only [if_pos c7]; done) | (simp [bi, c7]; done))
  · skip
    refine v_aload_n hG dX12_trace_11 rfl 0 rfl ?_
    refine mg_ranMany (z := g 8) hG dX12_trace_12 rfl ?_
    refine v_goto (tgt := 20) hG dX12_trace_15 (by decide) ?_
    exact J2 _ (by first | rfl | (simp only [if_neg c7]; done) | (simp [bi, c7]; done))
set_option maxHeartbeats 4000000 in
set_option maxRecDepth 100000 in
theorem k_as (l : Launch) (D : Dx) (A : Nat → Prop) (a : Nat → Nat) (s im fr bY tr ln bl bo g lg : Int → Int) (m : Int) (k : Int) (hr : -2147483648 ≤ m ∧ m < 2147483648) (hr2 : -2147483648 ≤ k ∧ k < 2147483648) (hN : NM s) (hM : GM s) : CT l D A yX12_as cX12_as 3 (some .int) { frames := 2, cells := 0, slots := 0, locals := 43 } [.ref (a 0), vI m, vI k] (MW D A a s im fr bY tr ln bl bo g lg) (fun _ : Unit => some (vI (a_as s m k))) (fun _ => True) (fun _ => MW D A a s im fr bY tr ln bl bo g lg) := by
  refine ct_of (lo0 := [(0, .ref (a 0)), (1, vI m), (2, vI k)]) (by decide) (Nat.le_of_ble_eq_true rfl) rfl ?_
  intro G hG hR
  have hN9 : 0 ≤ s 43 ∧ s 43 ≤ 8 := hN
  refine v_aload_n hG dX12_as_0 rfl 0 rfl ?_
  refine v_iload_n hG dX12_as_1 rfl 1 rfl ?_
  refine v_callV (k1' := 0) (k2' := 0) hG dX12_as_2 zc_X12_isMark ⟨zl_X12_150, zi_X12_isMark, zs_X12_isMark⟩ (fun l => k_isMark l D A a s im fr bY tr ln bl bo g lg m (by omega) (by assumption)) rfl mw_recv (fun _ h => h) ⟨by decide, by decide⟩ rfl rfl ⟨by decide, by decide⟩ (rest := []) rfl (Nat.le_of_ble_eq_true rfl) (fun u1 => [vI (bi (0 ≤ m ∧ m ≤ s 43 - 1))]) (fun _ => rfl) (fun u1 hu1 => ?_)
  refine v_ifb_eq (p := 0 ≤ m ∧ m ≤ s 43 - 1) (tgt := 18) hG dX12_as_5 (by decide) (fun c2 => ?_) (fun c2 => ?_)
  · skip
    refine v_iconst hG dX12_as_18 ?_
    have e3 : @Eq Int (a_as s m k) (-1) := by first | rfl | (simp only [a_as, if_neg c2]; done) | (simp only [a_as, if_neg c2]; done) | (simp only [a_as, if_neg c2]; rfl) | (simp only [a_as, if_neg c2]; omega)
    exact v_ireturn hG hR dX12_as_19 () (congrArg (fun z => some (vI z)) e3) (by trivial) (fun _ hM => hM)
  · skip
    refine v_iload_n hG dX12_as_8 rfl 2 rfl ?_
    refine v_iconst hG dX12_as_9 ?_
    refine v_bipush hG dX12_as_10 (by decide) ?_
    refine v_callS (k1' := 0) (k2' := 0) hG dX12_as_12 zc_X12_in ⟨zl_X12_41, zt_X12_in⟩ (fun l => k_in l D A (MW D A a s im fr bY tr ln bl bo g lg) k 0 6 (by omega) (by omega) (by omega)) rfl (fun _ h => h) ⟨by decide, by decide⟩ rfl rfl ⟨by decide, by decide⟩ (rest := []) rfl (Nat.le_of_ble_eq_true rfl) (fun u4 => [vI (bi (0 ≤ k ∧ k ≤ 6))]) (fun _ => rfl) (fun u4 hu4 => ?_)
    refine v_ifb_ne (p := 0 ≤ k ∧ k ≤ 6) (tgt := 20) hG dX12_as_15 (by decide) (fun c5 => ?_) (fun c5 => ?_)
    · skip
      refine v_aload_n hG dX12_as_20 rfl 0 rfl ?_
      refine mg_s hG dX12_as_21 ?_
      refine v_bipush hG dX12_as_24 (by decide) ?_
      refine v_iload_n hG dX12_as_26 rfl 1 rfl ?_
      refine v_iadd hG dX12_as_27 ?_
      refine ma_s (z := s (50 + m)) hG dX12_as_28 (by omega) rfl ?_
      refine v_iload_n hG dX12_as_29 rfl 2 rfl ?_
      refine v_callS (k1' := 0) (k2' := 0) hG dX12_as_30 zc_X12_isUnder ⟨zl_X12_283, zt_X12_isUnder⟩ (fun l => k_isUnder l D A (MW D A a s im fr bY tr ln bl bo g lg) (s (50 + m)) k (by exact (hM m (by omega) (by omega)).1) (by omega)) rfl (fun _ h => h) ⟨by decide, by decide⟩ rfl rfl ⟨by decide, by decide⟩ (rest := []) rfl (Nat.le_of_ble_eq_true rfl) (fun u6 => [vI (bi (isU (s (50 + m)) k))]) (fun _ => rfl) (fun u6 hu6 => ?_)
      refine v_ifb_eq (p := isU (s (50 + m)) k) (tgt := 48) hG dX12_as_33 (by decide) (fun c7 => ?_) (fun c7 => ?_)
      · skip
        refine v_bipush hG dX12_as_48 (by decide) ?_
        have e8 : @Eq Int (a_as s m k) (-6) := by first | rfl | (simp only [a_as, if_pos c2, if_pos c5, if_neg c7]; done) | (simp only [a_as, if_pos c2, if_pos c5, if_neg c7]; done) | (simp only [a_as, if_pos c2, if_pos c5, if_neg c7]; rfl) | (simp only [a_as, if_pos c2, if_pos c5, if_neg c7]; omega)
        exact v_ireturn hG hR dX12_as_50 () (congrArg (fun z => some (vI z)) e8) (by trivial) (fun _ hM => hM)
      · skip
        refine v_aload_n hG dX12_as_36 rfl 0 rfl ?_
        refine mg_s hG dX12_as_37 ?_
        refine v_bipush hG dX12_as_40 (by decide) ?_
        refine v_iload_n hG dX12_as_42 rfl 1 rfl ?_
        refine v_iadd hG dX12_as_43 ?_
        refine ma_s (z := s (58 + m)) hG dX12_as_44 (by omega) rfl ?_
        refine v_goto (tgt := 50) hG dX12_as_45 (by decide) ?_
        have e9 : @Eq Int (a_as s m k) (s (58 + m)) := by first | rfl | (simp only [a_as, if_pos c2, if_pos c5, if_pos c7]; done) | (simp only [a_as, if_pos c2, if_pos c5, if_pos c7]; done) | (simp only [a_as, if_pos c2, if_pos c5, if_pos c7]; rfl) | (simp only [a_as, if_pos c2, if_pos c5, if_pos c7]; omega)
        exact v_ireturn hG hR dX12_as_50 () (congrArg (fun z => some (vI z)) e9) (by trivial) (fun _ hM => hM)
    · skip
      refine v_iconst hG dX12_as_18 ?_
      have e10 : @Eq Int (a_as s m k) (-1) := by first | rfl | (simp only [a_as, if_pos c2, if_neg c5]; done) | (simp only [a_as, if_pos c2, if_neg c5]; done) | (simp only [a_as, if_pos c2, if_neg c5]; rfl) | (simp only [a_as, if_pos c2, if_neg c5]; omega)
      exact v_ireturn hG hR dX12_as_19 () (congrArg (fun z => some (vI z)) e10) (by trivial) (fun _ hM => hM)
set_option maxHeartbeats 4000000 in
set_option maxRecDepth 100000 in
theorem k_image (l : Launch) (D : Dx) (A : Nat → Prop) (a : Nat → Nat) (s im fr bY tr ln bl bo g lg : Int → Int) : CT l D A yX12_image cX12_image 2 (some .int) { frames := 0, cells := 0, slots := 0, locals := 0 } [.ref (a 0)] (MW D A a s im fr bY tr ln bl bo g lg) (fun _ : Unit => some (vI (s 43))) (fun _ => True) (fun _ => MW D A a s (cpy 973 s im) fr bY tr ln bl bo (sU g 1 1) lg) := by
  refine ct_of (lo0 := [(0, .ref (a 0))]) (by decide) (Nat.le_of_ble_eq_true rfl) rfl ?_
  intro G hG hR
  refine v_iconst hG dX12_image_0 ?_
  refine v_istore_n (lo' := [(1, vI 0), (0, .ref (a 0))]) hG dX12_image_1 rfl (by decide) rfl ?_
  refine v_lo [1, 0] (lo' := [(0, .ref (a 0)), (1, vI 0)]) rfl ?_
  have L3 : ∀ mz : Nat, ∀ (k : Nat), ((k : Int) ≤ 973) → (973 - (k : Int)).toNat = mz → ∀ x1 : Int, x1 = ((k : Int)) → ∀ x2 : Int → Int, x2 = (cpy k s im) → V G 0 0 (MW D A a s x2 fr bY tr ln bl bo g lg) 2 [(0, .ref (a 0)), (1, vI x1)] [] := by
    intro dL3
    induction dL3 using Nat.strongRecOn with
    | ind dL3 ihL3 =>
      intro k h4 h5
      intro x1 hx1
      subst hx1
      intro x2 hx2
      subst hx2
      refine v_iload_n hG dX12_image_2 rfl 1 rfl ?_
      refine v_sipush hG dX12_image_3 (by decide) ?_
      refine v_icmp_ge (tgt := 27) hG dX12_image_6 (by decide) (by omega) (by omega) (fun c6 => ?_) (fun c6 => ?_)
      · skip
        refine v_aload_n hG dX12_image_27 rfl 0 rfl ?_
        refine v_iconst hG dX12_image_28 ?_
        refine mp_hasImage hG dX12_image_29 (Or.inr rfl) ?_
        refine v_aload_n hG dX12_image_32 rfl 0 rfl ?_
        refine mg_s hG dX12_image_33 ?_
        refine v_bipush hG dX12_image_36 (by decide) ?_
        refine ma_s (z := s 43) hG dX12_image_38 (by omega) rfl ?_
        have e7 : cpy k s im = cpy 973 s im := by first | rfl | (rw [show (k : Int) = 973 by omega])
        exact v_ireturn hG hR dX12_image_39 () rfl (by trivial) (fun _ hM => by rw [← e7]; exact hM)
      · skip
        refine v_aload_n hG dX12_image_9 rfl 0 rfl ?_
        refine mg_image hG dX12_image_10 ?_
        refine v_iload_n hG dX12_image_13 rfl 1 rfl ?_
        refine v_aload_n hG dX12_image_14 rfl 0 rfl ?_
        refine mg_s hG dX12_image_15 ?_
        refine v_iload_n hG dX12_image_18 rfl 1 rfl ?_
        refine ma_s (z := s (k : Int)) hG dX12_image_19 (by omega) rfl ?_
        refine ms_image hG dX12_image_20 (by omega) ?_
        refine v_iinc (lo' := [(1, vI ((k : Int) + 1)), (0, .ref (a 0))]) hG dX12_image_21 1 rfl (by decide) rfl ?_
        refine v_goto (tgt := 2) hG dX12_image_24 (by decide) ?_
        refine v_lo [1, 0] (lo' := [(0, .ref (a 0)), (1, vI ((k : Int) + 1))]) rfl ?_
        exact ihL3 _ (by omega) (k + 1) (by omega) rfl _ (by first | omega | rfl | (simp [c6]; done)) _ (by exact cpy_step)
  exact L3 _ 0 (by omega) rfl _ (by first | omega | rfl | (simp []; done)) _ (by exact cpy_0.symm)
set_option maxHeartbeats 4000000 in
set_option maxRecDepth 100000 in
theorem k_undo (l : Launch) (D : Dx) (A : Nat → Prop) (a : Nat → Nat) (s im fr bY tr ln bl bo g lg : Int → Int) (hg : g 1 = 0 ∨ g 1 = 1) : CT l D A yX12_undo cX12_undo 2 (some .int) { frames := 0, cells := 0, slots := 0, locals := 0 } [.ref (a 0)] (MW D A a s im fr bY tr ln bl bo g lg) (fun _ : Unit => some (vI (if g 1 = 0 then -3 else cpy 973 im s 43))) (fun _ => True) (fun _ => MW D A a (if g 1 = 0 then s else cpy 973 im s) im fr bY tr ln bl bo g lg) := by
  refine ct_of (lo0 := [(0, .ref (a 0))]) (by decide) (Nat.le_of_ble_eq_true rfl) rfl ?_
  intro G hG hR
  refine v_aload_n hG dX12_undo_0 rfl 0 rfl ?_
  refine mg_hasImage (z := g 1) hG dX12_undo_1 rfl ?_
  refine v_if_ne (tgt := 10) hG dX12_undo_4 (by decide) (by omega) (fun c1 => ?_) (fun c1 => ?_)
  · skip
    refine v_iconst hG dX12_undo_10 ?_
    refine v_istore_n (lo' := [(1, vI 0), (0, .ref (a 0))]) hG dX12_undo_11 rfl (by decide) rfl ?_
    refine v_lo [1, 0] (lo' := [(0, .ref (a 0)), (1, vI 0)]) rfl ?_
    have L4 : ∀ mz : Nat, ∀ (k : Nat), ((k : Int) ≤ 973) → (973 - (k : Int)).toNat = mz → ∀ x2 : Int, x2 = ((k : Int)) → ∀ x3 : Int → Int, x3 = (cpy k im s) → V G 0 0 (MW D A a x3 im fr bY tr ln bl bo g lg) 12 [(0, .ref (a 0)), (1, vI x2)] [] := by
      intro dL4
      induction dL4 using Nat.strongRecOn with
      | ind dL4 ihL4 =>
        intro k h5 h6
        intro x2 hx2
        subst hx2
        intro x3 hx3
        subst hx3
        refine v_iload_n hG dX12_undo_12 rfl 1 rfl ?_
        refine v_sipush hG dX12_undo_13 (by decide) ?_
        refine v_icmp_ge (tgt := 37) hG dX12_undo_16 (by decide) (by omega) (by omega) (fun c7 => ?_) (fun c7 => ?_)
        · skip
          refine v_aload_n hG dX12_undo_37 rfl 0 rfl ?_
          refine mg_s hG dX12_undo_38 ?_
          refine v_bipush hG dX12_undo_41 (by decide) ?_
          refine ma_s (z := (cpy k im s) 43) hG dX12_undo_43 (by omega) rfl ?_
          have e8 : cpy k im s = if g 1 = 0 then s else cpy 973 im s := by first | (rw [if_pos (by omega)]; done) | (rw [if_neg (by omega), show (k : Int) = 973 by omega])
          have e9 : @Eq Int (if g 1 = 0 then -3 else cpy 973 im s 43) ((cpy k im s) 43) := by first | (rw [if_pos (by omega)]; done) | (rw [if_neg (by omega), show (k : Int) = 973 by omega])
          exact v_ireturn hG hR dX12_undo_44 () (congrArg (fun z => some (vI z)) e9) (by trivial) (fun _ hM => by rw [← e8]; exact hM)
        · skip
          refine v_aload_n hG dX12_undo_19 rfl 0 rfl ?_
          refine mg_s hG dX12_undo_20 ?_
          refine v_iload_n hG dX12_undo_23 rfl 1 rfl ?_
          refine v_aload_n hG dX12_undo_24 rfl 0 rfl ?_
          refine mg_image hG dX12_undo_25 ?_
          refine v_iload_n hG dX12_undo_28 rfl 1 rfl ?_
          refine ma_image (z := im (k : Int)) hG dX12_undo_29 (by omega) rfl ?_
          refine ms_s hG dX12_undo_30 (by omega) ?_
          refine v_iinc (lo' := [(1, vI ((k : Int) + 1)), (0, .ref (a 0))]) hG dX12_undo_31 1 rfl (by decide) rfl ?_
          refine v_goto (tgt := 12) hG dX12_undo_34 (by decide) ?_
          refine v_lo [1, 0] (lo' := [(0, .ref (a 0)), (1, vI ((k : Int) + 1))]) rfl ?_
          exact ihL4 _ (by omega) (k + 1) (by omega) rfl _ (by first | omega | rfl | (simp [c1, c7]; done)) _ (by exact cpy_step)
    exact L4 _ 0 (by omega) rfl _ (by first | omega | rfl | (simp [c1]; done)) _ (by exact cpy_0.symm)
  · skip
    refine v_bipush hG dX12_undo_7 (by decide) ?_
    have e10 : s = if g 1 = 0 then s else cpy 973 im s := by first | (rw [if_pos (by omega)]; done) | (rw [if_neg (by omega), show (k : Int) = 973 by omega])
    have e11 : @Eq Int (if g 1 = 0 then -3 else cpy 973 im s 43) (-3) := by first | (rw [if_pos (by omega)]; done) | (rw [if_neg (by omega), show (k : Int) = 973 by omega])
    exact v_ireturn hG hR dX12_undo_9 () (congrArg (fun z => some (vI z)) e11) (by trivial) (fun _ hM => by rw [← e10]; exact hM)
set_option maxHeartbeats 4000000 in
set_option maxRecDepth 100000 in
theorem k_count (l : Launch) (D : Dx) (A : Nat → Prop) (a : Nat → Nat) (s im fr bY tr ln bl bo g lg : Int → Int) (w : Int) (hr : -2147483648 ≤ w ∧ w < 2147483648) (h8g : 0 ≤ g 8 ∧ g 8 ≤ 1000) : CT l D A yX12_count cX12_count 2 (some .int) { frames := 1, cells := 0, slots := 0, locals := 22 } [.ref (a 0), vI w] (MW D A a s im fr bY tr ln bl bo g lg) (fun _ : Unit => some (vI (a_count s g w))) (fun _ => True) (fun _ => MW D A a s im fr bY tr ln bl bo g lg) := by
  refine ct_of (lo0 := [(0, .ref (a 0)), (1, vI w)]) (by decide) (Nat.le_of_ble_eq_true rfl) rfl ?_
  intro G hG hR
  refine v_iload_n hG dX12_count_0 rfl 1 rfl ?_
  refine v_bipush hG dX12_count_1 (by decide) ?_
  refine v_icmp_ne (tgt := 13) hG dX12_count_3 (by decide) (by omega) (by omega) (fun c1 => ?_) (fun c1 => ?_)
  · skip
    refine v_iload_n hG dX12_count_13 rfl 1 rfl ?_
    refine v_iconst hG dX12_count_14 ?_
    refine v_iconst hG dX12_count_15 ?_
    refine v_callS (k1' := 0) (k2' := 0) hG dX12_count_16 zc_X12_in ⟨zl_X12_41, zt_X12_in⟩ (fun l => k_in l D A (MW D A a s im fr bY tr ln bl bo g lg) w 0 5 (by omega) (by omega) (by omega)) rfl (fun _ h => h) ⟨by decide, by decide⟩ rfl rfl ⟨by decide, by decide⟩ (rest := []) rfl (Nat.le_of_ble_eq_true rfl) (fun u2 => [vI (bi (0 ≤ w ∧ w ≤ 5))]) (fun _ => rfl) (fun u2 hu2 => ?_)
    refine v_ifb_eq (p := 0 ≤ w ∧ w ≤ 5) (tgt := 34) hG dX12_count_19 (by decide) (fun c3 => ?_) (fun c3 => ?_)
    · skip
      refine v_iconst hG dX12_count_34 ?_
      have e4 : @Eq Int (a_count s g w) (-1) := by first | rfl | (simp only [a_count, if_neg c1, if_neg c3]; done) | (simp only [a_count, if_neg c1, if_neg c3]; done) | (simp only [a_count, if_neg c1, if_neg c3]; rfl) | (simp only [a_count, if_neg c1, if_neg c3]; omega)
      exact v_ireturn hG hR dX12_count_35 () (congrArg (fun z => some (vI z)) e4) (by trivial) (fun _ hM => hM)
    · skip
      refine v_aload_n hG dX12_count_22 rfl 0 rfl ?_
      refine mg_s hG dX12_count_23 ?_
      refine v_bipush hG dX12_count_26 (by decide) ?_
      refine v_iload_n hG dX12_count_28 rfl 1 rfl ?_
      refine v_iadd hG dX12_count_29 ?_
      refine ma_s (z := s (43 + w)) hG dX12_count_30 (by omega) rfl ?_
      refine v_goto (tgt := 35) hG dX12_count_31 (by decide) ?_
      have e5 : @Eq Int (a_count s g w) (s (43 + w)) := by first | rfl | (simp only [a_count, if_neg c1, if_pos c3]; done) | (simp only [a_count, if_neg c1, if_pos c3]; done) | (simp only [a_count, if_neg c1, if_pos c3]; rfl) | (simp only [a_count, if_neg c1, if_pos c3]; omega)
      exact v_ireturn hG hR dX12_count_35 () (congrArg (fun z => some (vI z)) e5) (by trivial) (fun _ hM => hM)
  · skip
    refine v_aload_n hG dX12_count_6 rfl 0 rfl ?_
    refine mg_ranMany (z := g 8) hG dX12_count_7 rfl ?_
    refine v_goto (tgt := 35) hG dX12_count_10 (by decide) ?_
    have e6 : @Eq Int (a_count s g w) (g 8) := by first | rfl | (simp only [a_count, if_pos c1]; done) | (simp only [a_count, if_pos c1]; done) | (simp only [a_count, if_pos c1]; rfl) | (simp only [a_count, if_pos c1]; omega)
    exact v_ireturn hG hR dX12_count_35 () (congrArg (fun z => some (vI z)) e6) (by trivial) (fun _ hM => hM)
set_option maxHeartbeats 4000000 in
set_option maxRecDepth 100000 in
theorem k_mark (l : Launch) (D : Dx) (A : Nat → Prop) (a : Nat → Nat) (s im fr bY tr ln bl bo g lg : Int → Int) (kind : Int) (v : Int) (place : Int) (depth : Int) (hr : -2147483648 ≤ kind ∧ kind < 2147483648) (hr2 : -2147483648 ≤ v ∧ v < 2147483648) (hr3 : -2147483648 ≤ place ∧ place < 2147483648) (hr4 : -2147483648 ≤ depth ∧ depth < 2147483648) (hN : NM s) : CT l D A yX12_mark cX12_mark 7 (some .int) { frames := 1, cells := 0, slots := 0, locals := 22 } [.ref (a 0), vI kind, vI v, vI place, vI depth] (MW D A a s im fr bY tr ln bl bo g lg) (fun _ : Unit => some (vI (a_mark s kind v place depth))) (fun _ => True) (fun _ => MW D A a (f_mark s kind v place depth) im fr bY tr ln bl bo g lg) := by
  refine ct_of (lo0 := [(0, .ref (a 0)), (1, vI kind), (2, vI v), (3, vI place), (4, vI depth)]) (by decide) (Nat.le_of_ble_eq_true rfl) rfl ?_
  intro G hG hR
  have hN9 : 0 ≤ s 43 ∧ s 43 ≤ 8 := hN
  refine v_iload_n hG dX12_mark_0 rfl 1 rfl ?_
  refine v_iconst hG dX12_mark_1 ?_
  refine v_bipush hG dX12_mark_2 (by decide) ?_
  refine v_callS (k1' := 0) (k2' := 0) hG dX12_mark_4 zc_X12_in ⟨zl_X12_41, zt_X12_in⟩ (fun l => k_in l D A (MW D A a s im fr bY tr ln bl bo g lg) kind 0 6 (by omega) (by omega) (by omega)) rfl (fun _ h => h) ⟨by decide, by decide⟩ rfl rfl ⟨by decide, by decide⟩ (rest := []) rfl (Nat.le_of_ble_eq_true rfl) (fun u1 => [vI (bi (0 ≤ kind ∧ kind ≤ 6))]) (fun _ => rfl) (fun u1 hu1 => ?_)
  refine v_ifb_ne (p := 0 ≤ kind ∧ kind ≤ 6) (tgt := 12) hG dX12_mark_7 (by decide) (fun c2 => ?_) (fun c2 => ?_)
  · skip
    refine v_iload_n hG dX12_mark_12 rfl 2 rfl ?_
    refine v_iconst hG dX12_mark_13 ?_
    refine v_bipush hG dX12_mark_14 (by decide) ?_
    refine v_callS (k1' := 0) (k2' := 0) hG dX12_mark_16 zc_X12_in ⟨zl_X12_41, zt_X12_in⟩ (fun l => k_in l D A (MW D A a s im fr bY tr ln bl bo g lg) v 0 9 (by omega) (by omega) (by omega)) rfl (fun _ h => h) ⟨by decide, by decide⟩ rfl rfl ⟨by decide, by decide⟩ (rest := []) rfl (Nat.le_of_ble_eq_true rfl) (fun u3 => [vI (bi (0 ≤ v ∧ v ≤ 9))]) (fun _ => rfl) (fun u3 hu3 => ?_)
    refine v_ifb_eq (p := 0 ≤ v ∧ v ≤ 9) (tgt := 43) hG dX12_mark_19 (by decide) (fun c4 => ?_) (fun c4 => ?_)
    · skip
      refine v_bipush hG dX12_mark_43 (by decide) ?_
      have e5 : s = f_mark s kind v place depth := by first | (simp only [a_mark, f_mark, if_pos c2, if_neg c4]; done) | (simp only [a_mark, f_mark, if_pos c2, if_neg c4]; rw [q43, show (k : Int) = 4 by omega]; rfl)
      have e6 : @Eq Int (a_mark s kind v place depth) (-2) := by first | (simp only [a_mark, f_mark, if_pos c2, if_neg c4]; done) | (simp only [a_mark, f_mark, if_pos c2, if_neg c4]; rw [q43, show (k : Int) = 4 by omega]; rfl)
      exact v_ireturn hG hR dX12_mark_45 () (congrArg (fun z => some (vI z)) e6) (by trivial) (fun _ hM => by rw [← e5]; exact hM)
    · skip
      refine v_iload_n hG dX12_mark_22 rfl 3 rfl ?_
      refine v_iconst hG dX12_mark_23 ?_
      refine v_bipush hG dX12_mark_24 (by decide) ?_
      refine v_callS (k1' := 0) (k2' := 0) hG dX12_mark_26 zc_X12_in ⟨zl_X12_41, zt_X12_in⟩ (fun l => k_in l D A (MW D A a s im fr bY tr ln bl bo g lg) place 0 99 (by omega) (by omega) (by omega)) rfl (fun _ h => h) ⟨by decide, by decide⟩ rfl rfl ⟨by decide, by decide⟩ (rest := []) rfl (Nat.le_of_ble_eq_true rfl) (fun u7 => [vI (bi (0 ≤ place ∧ place ≤ 99))]) (fun _ => rfl) (fun u7 hu7 => ?_)
      refine v_ifb_eq (p := 0 ≤ place ∧ place ≤ 99) (tgt := 43) hG dX12_mark_29 (by decide) (fun c8 => ?_) (fun c8 => ?_)
      · skip
        refine v_bipush hG dX12_mark_43 (by decide) ?_
        have e9 : s = f_mark s kind v place depth := by first | (simp only [a_mark, f_mark, if_pos c2, if_pos c4, if_neg c8]; done) | (simp only [a_mark, f_mark, if_pos c2, if_pos c4, if_neg c8]; rw [q43, show (k : Int) = 4 by omega]; rfl)
        have e10 : @Eq Int (a_mark s kind v place depth) (-2) := by first | (simp only [a_mark, f_mark, if_pos c2, if_pos c4, if_neg c8]; done) | (simp only [a_mark, f_mark, if_pos c2, if_pos c4, if_neg c8]; rw [q43, show (k : Int) = 4 by omega]; rfl)
        exact v_ireturn hG hR dX12_mark_45 () (congrArg (fun z => some (vI z)) e10) (by trivial) (fun _ hM => by rw [← e9]; exact hM)
      · skip
        refine v_iload hG dX12_mark_32 4 rfl ?_
        refine v_iconst hG dX12_mark_34 ?_
        refine v_bipush hG dX12_mark_35 (by decide) ?_
        refine v_callS (k1' := 0) (k2' := 0) hG dX12_mark_37 zc_X12_in ⟨zl_X12_41, zt_X12_in⟩ (fun l => k_in l D A (MW D A a s im fr bY tr ln bl bo g lg) depth 1 9 (by omega) (by omega) (by omega)) rfl (fun _ h => h) ⟨by decide, by decide⟩ rfl rfl ⟨by decide, by decide⟩ (rest := []) rfl (Nat.le_of_ble_eq_true rfl) (fun u11 => [vI (bi (1 ≤ depth ∧ depth ≤ 9))]) (fun _ => rfl) (fun u11 hu11 => ?_)
        refine v_ifb_ne (p := 1 ≤ depth ∧ depth ≤ 9) (tgt := 46) hG dX12_mark_40 (by decide) (fun c12 => ?_) (fun c12 => ?_)
        · skip
          refine v_aload_n hG dX12_mark_46 rfl 0 rfl ?_
          refine mg_s hG dX12_mark_47 ?_
          refine v_bipush hG dX12_mark_50 (by decide) ?_
          refine ma_s (z := s 43) hG dX12_mark_52 (by omega) rfl ?_
          refine v_bipush hG dX12_mark_53 (by decide) ?_
          refine v_icmp_ne (tgt := 61) hG dX12_mark_55 (by decide) (by omega) (by omega) (fun c13 => ?_) (fun c13 => ?_)
          · skip
            refine v_aload_n hG dX12_mark_61 rfl 0 rfl ?_
            refine mg_s hG dX12_mark_62 ?_
            refine v_bipush hG dX12_mark_65 (by decide) ?_
            refine ma_s (z := s 43) hG dX12_mark_67 (by omega) rfl ?_
            refine v_istore (lo' := [(5, vI (s 43)), (0, .ref (a 0)), (1, vI kind), (2, vI v), (3, vI place), (4, vI depth)]) hG dX12_mark_68 (by decide) rfl ?_
            refine v_aload_n hG dX12_mark_70 rfl 1 rfl ?_
            refine mg_s hG dX12_mark_71 ?_
            refine v_bipush hG dX12_mark_74 (by decide) ?_
            refine v_iload hG dX12_mark_76 0 rfl ?_
            refine v_iadd hG dX12_mark_78 ?_
            refine v_iload_n hG dX12_mark_79 rfl 2 rfl ?_
            refine ms_s hG dX12_mark_80 (by omega) ?_
            refine v_aload_n hG dX12_mark_81 rfl 1 rfl ?_
            refine mg_s hG dX12_mark_82 ?_
            refine v_bipush hG dX12_mark_85 (by decide) ?_
            refine v_iload hG dX12_mark_87 0 rfl ?_
            refine v_iadd hG dX12_mark_89 ?_
            refine v_iload_n hG dX12_mark_90 rfl 3 rfl ?_
            refine ms_s hG dX12_mark_91 (by omega) ?_
            refine v_aload_n hG dX12_mark_92 rfl 1 rfl ?_
            refine mg_s hG dX12_mark_93 ?_
            refine v_bipush hG dX12_mark_96 (by decide) ?_
            refine v_iload hG dX12_mark_98 0 rfl ?_
            refine v_iadd hG dX12_mark_100 ?_
            refine v_iload_n hG dX12_mark_101 rfl 4 rfl ?_
            refine ms_s hG dX12_mark_102 (by omega) ?_
            refine v_aload_n hG dX12_mark_103 rfl 1 rfl ?_
            refine mg_s hG dX12_mark_104 ?_
            refine v_iconst hG dX12_mark_107 ?_
            refine v_iload hG dX12_mark_108 0 rfl ?_
            refine v_iadd hG dX12_mark_110 ?_
            refine v_iload hG dX12_mark_111 5 rfl ?_
            refine ms_s hG dX12_mark_113 (by omega) ?_
            refine v_aload_n hG dX12_mark_114 rfl 1 rfl ?_
            refine mg_s hG dX12_mark_115 ?_
            refine v_bipush hG dX12_mark_118 (by decide) ?_
            refine v_iload hG dX12_mark_120 0 rfl ?_
            refine v_iadd hG dX12_mark_122 ?_
            refine v_iconst hG dX12_mark_123 ?_
            refine ms_s hG dX12_mark_124 (by omega) ?_
            refine v_aload_n hG dX12_mark_125 rfl 1 rfl ?_
            refine mg_s hG dX12_mark_126 ?_
            refine v_bipush hG dX12_mark_129 (by decide) ?_
            refine v_iload hG dX12_mark_131 0 rfl ?_
            refine v_iadd hG dX12_mark_133 ?_
            refine v_iconst hG dX12_mark_134 ?_
            refine ms_s hG dX12_mark_135 (by omega) ?_
            refine v_aload_n hG dX12_mark_136 rfl 1 rfl ?_
            refine mg_s hG dX12_mark_137 ?_
            refine v_bipush hG dX12_mark_140 (by decide) ?_
            refine v_iload hG dX12_mark_142 0 rfl ?_
            refine v_iadd hG dX12_mark_144 ?_
            refine v_iconst hG dX12_mark_145 ?_
            refine ms_s hG dX12_mark_146 (by omega) ?_
            refine v_aload_n hG dX12_mark_147 rfl 1 rfl ?_
            refine mg_s hG dX12_mark_148 ?_
            refine v_bipush hG dX12_mark_151 (by decide) ?_
            refine v_iload hG dX12_mark_153 0 rfl ?_
            refine v_iadd hG dX12_mark_155 ?_
            refine v_iconst hG dX12_mark_156 ?_
            refine ms_s hG dX12_mark_157 (by omega) ?_
            refine v_iconst hG dX12_mark_158 ?_
            refine v_istore (lo' := [(6, vI 0), (5, vI (s 43)), (0, .ref (a 0)), (1, vI kind), (2, vI v), (3, vI place), (4, vI depth)]) hG dX12_mark_159 (by decide) rfl ?_
            refine v_lo [2, 3, 4, 5, 6, 1, 0] (lo' := [(0, .ref (a 0)), (1, vI kind), (2, vI v), (3, vI place), (4, vI depth), (5, vI (s 43)), (6, vI 0)]) rfl ?_
            have L16 : ∀ mz : Nat, ∀ (k : Nat), ((k : Int) ≤ 4) → (4 - (k : Int)).toNat = mz → ∀ x14 : Int, x14 = ((k : Int)) → ∀ x15 : Int → Int, x15 = (rowk (mk8 s (s 43) kind v place depth) (s 43) (k : Int)) → V G 0 0 (MW D A a x15 im fr bY tr ln bl bo g lg) 161 [(0, .ref (a 0)), (1, vI kind), (2, vI v), (3, vI place), (4, vI depth), (5, vI (s 43)), (6, vI x14)] [] := by
              intro dL16
              induction dL16 using Nat.strongRecOn with
              | ind dL16 ihL16 =>
                intro k h17 h18
                intro x14 hx14
                subst hx14
                intro x15 hx15
                subst hx15
                have q43 : rowk (mk8 s (s 43) kind v place depth) (s 43) (k : Int) 43 = s 43 := (if_neg (by omega)).trans (mk8_43 (by omega))
                refine v_iload hG dX12_mark_161 6 rfl ?_
                refine v_iconst hG dX12_mark_163 ?_
                refine v_icmp_ge (tgt := 189) hG dX12_mark_164 (by decide) (by omega) (by omega) (fun c19 => ?_) (fun c19 => ?_)
                · skip
                  refine v_aload_n hG dX12_mark_189 rfl 0 rfl ?_
                  refine mg_s hG dX12_mark_190 ?_
                  refine v_bipush hG dX12_mark_193 (by decide) ?_
                  refine v_dup2 hG dX12_mark_195 rfl rfl ?_
                  refine ma_s (z := (rowk (mk8 s (s 43) kind v place depth) (s 43) (k : Int)) 43) hG dX12_mark_196 (by omega) rfl ?_
                  refine v_iconst hG dX12_mark_197 ?_
                  refine v_iadd hG dX12_mark_198 ?_
                  refine ms_s hG dX12_mark_199 (by omega) ?_
                  refine v_iload hG dX12_mark_200 5 rfl ?_
                  have e20 : sU (rowk (mk8 s (s 43) kind v place depth) (s 43) (k : Int)) 43 (((rowk (mk8 s (s 43) kind v place depth) (s 43) (k : Int)) 43) + 1) = f_mark s kind v place depth := by first | (simp only [a_mark, f_mark, if_pos c2, if_pos c4, if_pos c8, if_pos c12, if_neg c13, if_pos c19]; done) | (simp only [a_mark, f_mark, if_pos c2, if_pos c4, if_pos c8, if_pos c12, if_neg c13, if_pos c19]; rw [q43, show (k : Int) = 4 by omega]; rfl)
                  have e21 : @Eq Int (a_mark s kind v place depth) (s 43) := by first | (simp only [a_mark, f_mark, if_pos c2, if_pos c4, if_pos c8, if_pos c12, if_neg c13, if_pos c19]; done) | (simp only [a_mark, f_mark, if_pos c2, if_pos c4, if_pos c8, if_pos c12, if_neg c13, if_pos c19]; rw [q43, show (k : Int) = 4 by omega]; rfl)
                  exact v_ireturn hG hR dX12_mark_202 () (congrArg (fun z => some (vI z)) e21) (by trivial) (fun _ hM => by rw [← e20]; exact hM)
                · skip
                  refine v_aload_n hG dX12_mark_167 rfl 0 rfl ?_
                  refine mg_s hG dX12_mark_168 ?_
                  refine v_bipush hG dX12_mark_171 (by decide) ?_
                  refine v_iconst hG dX12_mark_173 ?_
                  refine v_iload hG dX12_mark_174 5 rfl ?_
                  refine v_imul hG dX12_mark_176 ?_
                  refine v_iadd hG dX12_mark_177 ?_
                  refine v_iload hG dX12_mark_178 6 rfl ?_
                  refine v_iadd hG dX12_mark_180 ?_
                  refine v_iconst hG dX12_mark_181 ?_
                  refine ms_s hG dX12_mark_182 (by omega) ?_
                  refine v_iinc (lo' := [(6, vI ((k : Int) + 1)), (0, .ref (a 0)), (1, vI kind), (2, vI v), (3, vI place), (4, vI depth), (5, vI (s 43))]) hG dX12_mark_183 6 rfl (by decide) rfl ?_
                  refine v_goto (tgt := 161) hG dX12_mark_186 (by decide) ?_
                  refine v_lo [1, 2, 3, 4, 5, 6, 0] (lo' := [(0, .ref (a 0)), (1, vI kind), (2, vI v), (3, vI place), (4, vI depth), (5, vI (s 43)), (6, vI ((k : Int) + 1))]) rfl ?_
                  exact ihL16 _ (by omega) (k + 1) (by omega) rfl _ (by first | omega | rfl | (simp [c2, c4, c8, c12, c13, c19]; done)) _ (by exact rowk_step)
            exact L16 _ 0 (by omega) rfl _ (by first | omega | rfl | (simp [c2, c4, c8, c12, c13]; done)) _ (by exact rowk_0.symm)
          · skip
            refine v_bipush hG dX12_mark_58 (by decide) ?_
            have e22 : s = f_mark s kind v place depth := by first | (simp only [a_mark, f_mark, if_pos c2, if_pos c4, if_pos c8, if_pos c12, if_pos c13]; done) | (simp only [a_mark, f_mark, if_pos c2, if_pos c4, if_pos c8, if_pos c12, if_pos c13]; rw [q43, show (k : Int) = 4 by omega]; rfl)
            have e23 : @Eq Int (a_mark s kind v place depth) (-4) := by first | (simp only [a_mark, f_mark, if_pos c2, if_pos c4, if_pos c8, if_pos c12, if_pos c13]; done) | (simp only [a_mark, f_mark, if_pos c2, if_pos c4, if_pos c8, if_pos c12, if_pos c13]; rw [q43, show (k : Int) = 4 by omega]; rfl)
            exact v_ireturn hG hR dX12_mark_60 () (congrArg (fun z => some (vI z)) e23) (by trivial) (fun _ hM => by rw [← e22]; exact hM)
        · skip
          refine v_bipush hG dX12_mark_43 (by decide) ?_
          have e24 : s = f_mark s kind v place depth := by first | (simp only [a_mark, f_mark, if_pos c2, if_pos c4, if_pos c8, if_neg c12]; done) | (simp only [a_mark, f_mark, if_pos c2, if_pos c4, if_pos c8, if_neg c12]; rw [q43, show (k : Int) = 4 by omega]; rfl)
          have e25 : @Eq Int (a_mark s kind v place depth) (-2) := by first | (simp only [a_mark, f_mark, if_pos c2, if_pos c4, if_pos c8, if_neg c12]; done) | (simp only [a_mark, f_mark, if_pos c2, if_pos c4, if_pos c8, if_neg c12]; rw [q43, show (k : Int) = 4 by omega]; rfl)
          exact v_ireturn hG hR dX12_mark_45 () (congrArg (fun z => some (vI z)) e25) (by trivial) (fun _ hM => by rw [← e24]; exact hM)
  · skip
    refine v_iconst hG dX12_mark_10 ?_
    have e26 : s = f_mark s kind v place depth := by first | (simp only [a_mark, f_mark, if_neg c2]; done) | (simp only [a_mark, f_mark, if_neg c2]; rw [q43, show (k : Int) = 4 by omega]; rfl)
    have e27 : @Eq Int (a_mark s kind v place depth) (-1) := by first | (simp only [a_mark, f_mark, if_neg c2]; done) | (simp only [a_mark, f_mark, if_neg c2]; rw [q43, show (k : Int) = 4 by omega]; rfl)
    exact v_ireturn hG hR dX12_mark_11 () (congrArg (fun z => some (vI z)) e27) (by trivial) (fun _ hM => by rw [← e26]; exact hM)
set_option maxHeartbeats 4000000 in
set_option maxRecDepth 100000 in
theorem k_of (l : Launch) (D : Dx) (A : Nat → Prop) (a : Nat → Nat) (s im fr bY tr ln bl bo g lg : Int → Int) (m : Int) (w : Int) (SL : List Int) (hr : -2147483648 ≤ m ∧ m < 2147483648) (hr2 : -2147483648 ≤ w ∧ w < 2147483648) (hN : NM s) (hM : GM s) (hP : PL s) (hE : HE s SL) (hT : TI s) : CT l D A yX12_of cX12_of 3 (some .int) { frames := 4, cells := 0, slots := 0, locals := 96 } [.ref (a 0), vI m, vI w] (MW D A a s im fr bY tr ln bl bo g lg) (fun u : (Int → Int) × (Int → Int) => some (vI (a_of s SL m w))) (fun _ => True) (fun u => MW D A a s im fr u.1 u.2 ln bl bo g lg) := by
  refine ct_of (lo0 := [(0, .ref (a 0)), (1, vI m), (2, vI w)]) (by decide) (Nat.le_of_ble_eq_true rfl) rfl ?_
  intro G hG hR
  have hN9 : 0 ≤ s 43 ∧ s 43 ≤ 8 := hN
  refine v_aload_n hG dX12_of_0 rfl 0 rfl ?_
  refine v_iload_n hG dX12_of_1 rfl 1 rfl ?_
  refine v_callV (k1' := 0) (k2' := 0) hG dX12_of_2 zc_X12_isMark ⟨zl_X12_150, zi_X12_isMark, zs_X12_isMark⟩ (fun l => k_isMark l D A a s im fr bY tr ln bl bo g lg m (by omega) (by assumption)) rfl mw_recv (fun _ h => h) ⟨by decide, by decide⟩ rfl rfl ⟨by decide, by decide⟩ (rest := []) rfl (Nat.le_of_ble_eq_true rfl) (fun u1 => [vI (bi (0 ≤ m ∧ m ≤ s 43 - 1))]) (fun _ => rfl) (fun u1 hu1 => ?_)
  refine v_ifb_eq (p := 0 ≤ m ∧ m ≤ s 43 - 1) (tgt := 18) hG dX12_of_5 (by decide) (fun c2 => ?_) (fun c2 => ?_)
  · skip
    refine v_iconst hG dX12_of_18 ?_
    have e3 : @Eq Int (a_of s SL m w) (-1) := by first | (simp only [a_of, if_neg c2]; done) | (simp [a_of, c2]; done) | (exfalso; omega)
    exact v_ireturn hG hR dX12_of_19 (bY, tr) (congrArg (fun z => some (vI z)) e3) (by trivial) (fun _ hM => hM)
  · skip
    refine v_iload_n hG dX12_of_8 rfl 2 rfl ?_
    refine v_iconst hG dX12_of_9 ?_
    refine v_bipush hG dX12_of_10 (by decide) ?_
    refine v_callS (k1' := 0) (k2' := 0) hG dX12_of_12 zc_X12_in ⟨zl_X12_41, zt_X12_in⟩ (fun l => k_in l D A (MW D A a s im fr bY tr ln bl bo g lg) w 0 10 (by omega) (by omega) (by omega)) rfl (fun _ h => h) ⟨by decide, by decide⟩ rfl rfl ⟨by decide, by decide⟩ (rest := []) rfl (Nat.le_of_ble_eq_true rfl) (fun u4 => [vI (bi (0 ≤ w ∧ w ≤ 10))]) (fun _ => rfl) (fun u4 hu4 => ?_)
    refine v_ifb_ne (p := 0 ≤ w ∧ w ≤ 10) (tgt := 20) hG dX12_of_15 (by decide) (fun c5 => ?_) (fun c5 => ?_)
    · skip
      refine v_iload_n hG dX12_of_20 rfl 2 rfl ?_
      by_cases c6 : w = 0
      · refine v_tabIn (tgt := 80) hG dX12_of_21 0 c6 (by decide) (by decide) (by decide) rfl (by decide) ?_
        refine v_aload_n hG dX12_of_80 rfl 0 rfl ?_
        refine mg_s hG dX12_of_81 ?_
        refine v_bipush hG dX12_of_84 (by decide) ?_
        refine v_iload_n hG dX12_of_86 rfl 1 rfl ?_
        refine v_iadd hG dX12_of_87 ?_
        refine ma_s (z := s (50 + m)) hG dX12_of_88 (by omega) rfl ?_
        have e7 : @Eq Int (a_of s SL m w) (s (50 + m)) := by first | (simp only [a_of, if_pos c2, if_pos c5, if_pos c6]; done) | (simp [a_of, c2, c5, c6]; done) | (exfalso; omega)
        exact v_ireturn hG hR dX12_of_89 (bY, tr) (congrArg (fun z => some (vI z)) e7) (by trivial) (fun _ hM => hM)
      by_cases c8 : w = 1
      · refine v_tabIn (tgt := 90) hG dX12_of_21 1 c8 (by decide) (by decide) (by decide) rfl (by decide) ?_
        refine v_aload_n hG dX12_of_90 rfl 0 rfl ?_
        refine mg_s hG dX12_of_91 ?_
        refine v_bipush hG dX12_of_94 (by decide) ?_
        refine v_iload_n hG dX12_of_96 rfl 1 rfl ?_
        refine v_iadd hG dX12_of_97 ?_
        refine ma_s (z := s (58 + m)) hG dX12_of_98 (by omega) rfl ?_
        have e9 : @Eq Int (a_of s SL m w) (s (58 + m)) := by first | (simp only [a_of, if_pos c2, if_pos c5, if_neg c6, if_pos c8]; done) | (simp [a_of, c2, c5, c6, c8]; done) | (exfalso; omega)
        exact v_ireturn hG hR dX12_of_99 (bY, tr) (congrArg (fun z => some (vI z)) e9) (by trivial) (fun _ hM => hM)
      by_cases c10 : w = 2
      · refine v_tabIn (tgt := 100) hG dX12_of_21 2 c10 (by decide) (by decide) (by decide) rfl (by decide) ?_
        refine v_aload_n hG dX12_of_100 rfl 0 rfl ?_
        refine mg_s hG dX12_of_101 ?_
        refine v_bipush hG dX12_of_104 (by decide) ?_
        refine v_iload_n hG dX12_of_106 rfl 1 rfl ?_
        refine v_iadd hG dX12_of_107 ?_
        refine ma_s (z := s (66 + m)) hG dX12_of_108 (by omega) rfl ?_
        have e11 : @Eq Int (a_of s SL m w) (s (66 + m)) := by first | (simp only [a_of, if_pos c2, if_pos c5, if_neg c6, if_neg c8, if_pos c10]; done) | (simp [a_of, c2, c5, c6, c8, c10]; done) | (exfalso; omega)
        exact v_ireturn hG hR dX12_of_109 (bY, tr) (congrArg (fun z => some (vI z)) e11) (by trivial) (fun _ hM => hM)
      by_cases c12 : w = 8
      · refine v_tabIn (tgt := 110) hG dX12_of_21 8 c12 (by decide) (by decide) (by decide) rfl (by decide) ?_
        refine v_aload_n hG dX12_of_110 rfl 0 rfl ?_
        refine v_iload_n hG dX12_of_111 rfl 1 rfl ?_
        refine v_callV (k1' := 0) (k2' := 0) hG dX12_of_112 zc_X12_riskOf ⟨zl_X12_153, zi_X12_riskOf, zs_X12_riskOf⟩ (fun l => k_riskOf l D A a s im fr bY tr ln bl bo g lg m SL (by omega) (by first | assumption | (exact hM _ (by omega) (by omega))) (by assumption) (by exact hT)) rfl mw_recv (fun _ h => h) ⟨by decide, by decide⟩ rfl rfl ⟨by decide, by decide⟩ (rest := []) rfl (Nat.le_of_ble_eq_true rfl) (fun u13 => [vI (q_risk s SL m (s 2))]) (fun _ => rfl) (fun u13 hu13 => ?_)
        have fu13 : 0 ≤ q_risk s SL m (s 2) ∧ q_risk s SL m (s 2) ≤ 99 := hu13
        have e14 : @Eq Int (a_of s SL m w) (q_risk s SL m (s 2)) := by first | (simp only [a_of, if_pos c2, if_pos c5, if_neg c6, if_neg c8, if_neg c10, if_pos c12]; done) | (simp [a_of, c2, c5, c6, c8, c10, c12]; done) | (exfalso; omega)
        exact v_ireturn hG hR dX12_of_115 (u13.1, u13.2) (congrArg (fun z => some (vI z)) e14) (by trivial) (fun _ hM => hM)
      by_cases c15 : w = 9
      · refine v_tabIn (tgt := 116) hG dX12_of_21 9 c15 (by decide) (by decide) (by decide) rfl (by decide) ?_
        refine v_aload_n hG dX12_of_116 rfl 0 rfl ?_
        refine v_iload_n hG dX12_of_117 rfl 1 rfl ?_
        refine v_callV (k1' := 0) (k2' := 0) hG dX12_of_118 zc_X12_needsOf ⟨zl_X12_157, zi_X12_needsOf, zs_X12_needsOf⟩ (fun l => k_needsOf l D A a s im fr bY tr ln bl bo g lg m (by omega) (by first | assumption | (exact hM _ (by omega) (by omega)))) rfl mw_recv (fun _ h => h) ⟨by decide, by decide⟩ rfl rfl ⟨by decide, by decide⟩ (rest := []) rfl (Nat.le_of_ble_eq_true rfl) (fun u16 => [vI (q_needs s m)]) (fun _ => rfl) (fun u16 hu16 => ?_)
        have fu16 : 0 ≤ q_needs s m ∧ q_needs s m ≤ 180 := hu16
        have e17 : @Eq Int (a_of s SL m w) (q_needs s m) := by first | (simp only [a_of, if_pos c2, if_pos c5, if_neg c6, if_neg c8, if_neg c10, if_neg c12, if_pos c15]; done) | (simp [a_of, c2, c5, c6, c8, c10, c12, c15]; done) | (exfalso; omega)
        exact v_ireturn hG hR dX12_of_121 (bY, tr) (congrArg (fun z => some (vI z)) e17) (by trivial) (fun _ hM => hM)
      by_cases c18 : w = 10
      · refine v_tabIn (tgt := 122) hG dX12_of_21 10 c18 (by decide) (by decide) (by decide) rfl (by decide) ?_
        refine v_aload_n hG dX12_of_122 rfl 0 rfl ?_
        refine v_iload_n hG dX12_of_123 rfl 1 rfl ?_
        refine v_iconst hG dX12_of_124 ?_
        refine v_callV (k1' := 0) (k2' := 0) hG dX12_of_125 zc_X12_darkBy ⟨zl_X12_147, zi_X12_darkBy, zs_X12_darkBy⟩ (fun l => k_darkBy l D A a s im fr bY tr ln bl bo g lg m 0 (by omega) (by first | assumption | (exact hM _ (by omega) (by omega))) (by assumption) (by omega)) rfl mw_recv (fun _ h => h) ⟨by decide, by decide⟩ rfl rfl ⟨by decide, by decide⟩ (rest := []) rfl (Nat.le_of_ble_eq_true rfl) (fun u19 => [vI (q_dk s m 0)]) (fun _ => rfl) (fun u19 hu19 => ?_)
        have fu19 : 0 ≤ q_dk s m 0 ∧ q_dk s m 0 ≤ 30 := hu19
        have e20 : @Eq Int (a_of s SL m w) (q_dk s m 0) := by first | (simp only [a_of, if_pos c2, if_pos c5, if_neg c6, if_neg c8, if_neg c10, if_neg c12, if_neg c15, if_pos c18]; done) | (simp [a_of, c2, c5, c6, c8, c10, c12, c15, c18]; done) | (exfalso; omega)
        exact v_ireturn hG hR dX12_of_128 (bY, tr) (congrArg (fun z => some (vI z)) e20) (by trivial) (fun _ hM => hM)
      by_cases c21 : w = 3
      · refine v_tabIn (tgt := 129) hG dX12_of_21 3 c21 (by decide) (by decide) (by decide) rfl (by decide) ?_
        refine v_aload_n hG dX12_of_129 rfl 0 rfl ?_
        refine mg_s hG dX12_of_130 ?_
        refine v_iconst hG dX12_of_133 ?_
        refine v_bipush hG dX12_of_134 (by decide) ?_
        refine v_iload_n hG dX12_of_136 rfl 2 rfl ?_
        refine v_iconst hG dX12_of_137 ?_
        refine v_isub hG dX12_of_138 ?_
        refine v_imul hG dX12_of_139 ?_
        refine v_iadd hG dX12_of_140 ?_
        refine v_iload_n hG dX12_of_141 rfl 1 rfl ?_
        refine v_iadd hG dX12_of_142 ?_
        refine ma_s (z := s ((3 + (8 * (w - 3))) + m)) hG dX12_of_143 (by omega) rfl ?_
        have e22 : @Eq Int (a_of s SL m w) (s ((3 + (8 * (w - 3))) + m)) := by first | (simp only [a_of, if_pos c2, if_pos c5, if_neg c6, if_neg c8, if_neg c10, if_neg c12, if_neg c15, if_neg c18, if_pos c21]; done) | (simp [a_of, c2, c5, c6, c8, c10, c12, c15, c18, c21]; done) | (exfalso; omega)
        exact v_ireturn hG hR dX12_of_144 (bY, tr) (congrArg (fun z => some (vI z)) e22) (by trivial) (fun _ hM => hM)
      by_cases c23 : w = 4
      · refine v_tabIn (tgt := 129) hG dX12_of_21 4 c23 (by decide) (by decide) (by decide) rfl (by decide) ?_
        refine v_aload_n hG dX12_of_129 rfl 0 rfl ?_
        refine mg_s hG dX12_of_130 ?_
        refine v_iconst hG dX12_of_133 ?_
        refine v_bipush hG dX12_of_134 (by decide) ?_
        refine v_iload_n hG dX12_of_136 rfl 2 rfl ?_
        refine v_iconst hG dX12_of_137 ?_
        refine v_isub hG dX12_of_138 ?_
        refine v_imul hG dX12_of_139 ?_
        refine v_iadd hG dX12_of_140 ?_
        refine v_iload_n hG dX12_of_141 rfl 1 rfl ?_
        refine v_iadd hG dX12_of_142 ?_
        refine ma_s (z := s ((3 + (8 * (w - 3))) + m)) hG dX12_of_143 (by omega) rfl ?_
        have e24 : @Eq Int (a_of s SL m w) (s ((3 + (8 * (w - 3))) + m)) := by first | (simp only [a_of, if_pos c2, if_pos c5, if_neg c6, if_neg c8, if_neg c10, if_neg c12, if_neg c15, if_neg c18, if_neg c21, if_pos c23]; done) | (simp [a_of, c2, c5, c6, c8, c10, c12, c15, c18, c21, c23]; done) | (exfalso; omega)
        exact v_ireturn hG hR dX12_of_144 (bY, tr) (congrArg (fun z => some (vI z)) e24) (by trivial) (fun _ hM => hM)
      by_cases c25 : w = 5
      · refine v_tabIn (tgt := 129) hG dX12_of_21 5 c25 (by decide) (by decide) (by decide) rfl (by decide) ?_
        refine v_aload_n hG dX12_of_129 rfl 0 rfl ?_
        refine mg_s hG dX12_of_130 ?_
        refine v_iconst hG dX12_of_133 ?_
        refine v_bipush hG dX12_of_134 (by decide) ?_
        refine v_iload_n hG dX12_of_136 rfl 2 rfl ?_
        refine v_iconst hG dX12_of_137 ?_
        refine v_isub hG dX12_of_138 ?_
        refine v_imul hG dX12_of_139 ?_
        refine v_iadd hG dX12_of_140 ?_
        refine v_iload_n hG dX12_of_141 rfl 1 rfl ?_
        refine v_iadd hG dX12_of_142 ?_
        refine ma_s (z := s ((3 + (8 * (w - 3))) + m)) hG dX12_of_143 (by omega) rfl ?_
        have e26 : @Eq Int (a_of s SL m w) (s ((3 + (8 * (w - 3))) + m)) := by first | (simp only [a_of, if_pos c2, if_pos c5, if_neg c6, if_neg c8, if_neg c10, if_neg c12, if_neg c15, if_neg c18, if_neg c21, if_neg c23, if_pos c25]; done) | (simp [a_of, c2, c5, c6, c8, c10, c12, c15, c18, c21, c23, c25]; done) | (exfalso; omega)
        exact v_ireturn hG hR dX12_of_144 (bY, tr) (congrArg (fun z => some (vI z)) e26) (by trivial) (fun _ hM => hM)
      by_cases c27 : w = 6
      · refine v_tabIn (tgt := 129) hG dX12_of_21 6 c27 (by decide) (by decide) (by decide) rfl (by decide) ?_
        refine v_aload_n hG dX12_of_129 rfl 0 rfl ?_
        refine mg_s hG dX12_of_130 ?_
        refine v_iconst hG dX12_of_133 ?_
        refine v_bipush hG dX12_of_134 (by decide) ?_
        refine v_iload_n hG dX12_of_136 rfl 2 rfl ?_
        refine v_iconst hG dX12_of_137 ?_
        refine v_isub hG dX12_of_138 ?_
        refine v_imul hG dX12_of_139 ?_
        refine v_iadd hG dX12_of_140 ?_
        refine v_iload_n hG dX12_of_141 rfl 1 rfl ?_
        refine v_iadd hG dX12_of_142 ?_
        refine ma_s (z := s ((3 + (8 * (w - 3))) + m)) hG dX12_of_143 (by omega) rfl ?_
        have e28 : @Eq Int (a_of s SL m w) (s ((3 + (8 * (w - 3))) + m)) := by first | (simp only [a_of, if_pos c2, if_pos c5, if_neg c6, if_neg c8, if_neg c10, if_neg c12, if_neg c15, if_neg c18, if_neg c21, if_neg c23, if_neg c25, if_pos c27]; done) | (simp [a_of, c2, c5, c6, c8, c10, c12, c15, c18, c21, c23, c25, c27]; done) | (exfalso; omega)
        exact v_ireturn hG hR dX12_of_144 (bY, tr) (congrArg (fun z => some (vI z)) e28) (by trivial) (fun _ hM => hM)
      by_cases c29 : w = 7
      · refine v_tabIn (tgt := 129) hG dX12_of_21 7 c29 (by decide) (by decide) (by decide) rfl (by decide) ?_
        refine v_aload_n hG dX12_of_129 rfl 0 rfl ?_
        refine mg_s hG dX12_of_130 ?_
        refine v_iconst hG dX12_of_133 ?_
        refine v_bipush hG dX12_of_134 (by decide) ?_
        refine v_iload_n hG dX12_of_136 rfl 2 rfl ?_
        refine v_iconst hG dX12_of_137 ?_
        refine v_isub hG dX12_of_138 ?_
        refine v_imul hG dX12_of_139 ?_
        refine v_iadd hG dX12_of_140 ?_
        refine v_iload_n hG dX12_of_141 rfl 1 rfl ?_
        refine v_iadd hG dX12_of_142 ?_
        refine ma_s (z := s ((3 + (8 * (w - 3))) + m)) hG dX12_of_143 (by omega) rfl ?_
        have e30 : @Eq Int (a_of s SL m w) (s ((3 + (8 * (w - 3))) + m)) := by first | (simp only [a_of, if_pos c2, if_pos c5, if_neg c6, if_neg c8, if_neg c10, if_neg c12, if_neg c15, if_neg c18, if_neg c21, if_neg c23, if_neg c25, if_neg c27, if_pos c29]; done) | (simp [a_of, c2, c5, c6, c8, c10, c12, c15, c18, c21, c23, c25, c27, c29]; done) | (exfalso; omega)
        exact v_ireturn hG hR dX12_of_144 (bY, tr) (congrArg (fun z => some (vI z)) e30) (by trivial) (fun _ hM => hM)
      refine v_tabOut (tgt := 129) hG dX12_of_21 (by omega) (by omega) (by decide) ?_
      refine v_aload_n hG dX12_of_129 rfl 0 rfl ?_
      refine mg_s hG dX12_of_130 ?_
      refine v_iconst hG dX12_of_133 ?_
      refine v_bipush hG dX12_of_134 (by decide) ?_
      refine v_iload_n hG dX12_of_136 rfl 2 rfl ?_
      refine v_iconst hG dX12_of_137 ?_
      refine v_isub hG dX12_of_138 ?_
      refine v_imul hG dX12_of_139 ?_
      refine v_iadd hG dX12_of_140 ?_
      refine v_iload_n hG dX12_of_141 rfl 1 rfl ?_
      refine v_iadd hG dX12_of_142 ?_
      refine ma_s (z := s ((3 + (8 * (w - 3))) + m)) hG dX12_of_143 (by omega) rfl ?_
      have e32 : @Eq Int (a_of s SL m w) (s ((3 + (8 * (w - 3))) + m)) := by first | (simp only [a_of, if_pos c2, if_pos c5, if_neg c6, if_neg c8, if_neg c10, if_neg c12, if_neg c15, if_neg c18, if_neg c21, if_neg c23, if_neg c25, if_neg c27, if_neg c29]; done) | (simp [a_of, c2, c5, c6, c8, c10, c12, c15, c18, c21, c23, c25, c27, c29]; done) | (exfalso; omega)
      exact v_ireturn hG hR dX12_of_144 (bY, tr) (congrArg (fun z => some (vI z)) e32) (by trivial) (fun _ hM => hM)
    · skip
      refine v_iconst hG dX12_of_18 ?_
      have e33 : @Eq Int (a_of s SL m w) (-1) := by first | (simp only [a_of, if_pos c2, if_neg c5]; done) | (simp [a_of, c2, c5]; done) | (exfalso; omega)
      exact v_ireturn hG hR dX12_of_19 (bY, tr) (congrArg (fun z => some (vI z)) e33) (by trivial) (fun _ hM => hM)
set_option maxHeartbeats 4000000 in
set_option maxRecDepth 100000 in
theorem k_row (l : Launch) (D : Dx) (A : Nat → Prop) (a : Nat → Nat) (s im fr bY tr ln bl bo g lg : Int → Int) (m : Int) (k : Int) (n : Int) (hr : -2147483648 ≤ m ∧ m < 2147483648) (hr2 : -2147483648 ≤ k ∧ k < 2147483648) (hr3 : -2147483648 ≤ n ∧ n < 2147483648) (hN : NM s) (hM : GM s) : CT l D A yX12_row cX12_row 5 (some .int) { frames := 2, cells := 0, slots := 0, locals := 43 } [.ref (a 0), vI m, vI k, vI n] (MW D A a s im fr bY tr ln bl bo g lg) (fun _ : Unit => some (vI (a_row s m k n))) (fun _ => True) (fun _ => MW D A a (f_row s m k n) im fr bY tr ln bl bo g lg) := by
  refine ct_of (lo0 := [(0, .ref (a 0)), (1, vI m), (2, vI k), (3, vI n)]) (by decide) (Nat.le_of_ble_eq_true rfl) rfl ?_
  intro G hG hR
  have hN9 : 0 ≤ s 43 ∧ s 43 ≤ 8 := hN
  refine v_aload_n hG dX12_row_0 rfl 0 rfl ?_
  refine v_iload_n hG dX12_row_1 rfl 1 rfl ?_
  refine v_callV (k1' := 0) (k2' := 0) hG dX12_row_2 zc_X12_isMark ⟨zl_X12_150, zi_X12_isMark, zs_X12_isMark⟩ (fun l => k_isMark l D A a s im fr bY tr ln bl bo g lg m (by omega) (by assumption)) rfl mw_recv (fun _ h => h) ⟨by decide, by decide⟩ rfl rfl ⟨by decide, by decide⟩ (rest := []) rfl (Nat.le_of_ble_eq_true rfl) (fun u1 => [vI (bi (0 ≤ m ∧ m ≤ s 43 - 1))]) (fun _ => rfl) (fun u1 hu1 => ?_)
  refine v_ifb_eq (p := 0 ≤ m ∧ m ≤ s 43 - 1) (tgt := 17) hG dX12_row_5 (by decide) (fun c2 => ?_) (fun c2 => ?_)
  · skip
    refine v_iconst hG dX12_row_17 ?_
    have e3 : s = f_row s m k n := by first | rfl | (simp only [a_row, f_row, if_neg c2]; done) | (simp only [a_row, f_row, if_neg c2]; done) | (simp only [a_row, f_row, if_neg c2]; rfl) | (simp only [a_row, f_row, if_neg c2]; omega)
    have e4 : @Eq Int (a_row s m k n) (-1) := by first | rfl | (simp only [a_row, f_row, if_neg c2]; done) | (simp only [a_row, f_row, if_neg c2]; done) | (simp only [a_row, f_row, if_neg c2]; rfl) | (simp only [a_row, f_row, if_neg c2]; omega)
    exact v_ireturn hG hR dX12_row_18 () (congrArg (fun z => some (vI z)) e4) (by trivial) (fun _ hM => by rw [← e3]; exact hM)
  · skip
    refine v_iload_n hG dX12_row_8 rfl 2 rfl ?_
    refine v_iconst hG dX12_row_9 ?_
    refine v_iconst hG dX12_row_10 ?_
    refine v_callS (k1' := 0) (k2' := 0) hG dX12_row_11 zc_X12_in ⟨zl_X12_41, zt_X12_in⟩ (fun l => k_in l D A (MW D A a s im fr bY tr ln bl bo g lg) k 0 3 (by omega) (by omega) (by omega)) rfl (fun _ h => h) ⟨by decide, by decide⟩ rfl rfl ⟨by decide, by decide⟩ (rest := []) rfl (Nat.le_of_ble_eq_true rfl) (fun u5 => [vI (bi (0 ≤ k ∧ k ≤ 3))]) (fun _ => rfl) (fun u5 hu5 => ?_)
    refine v_ifb_ne (p := 0 ≤ k ∧ k ≤ 3) (tgt := 19) hG dX12_row_14 (by decide) (fun c6 => ?_) (fun c6 => ?_)
    · skip
      refine v_iload_n hG dX12_row_19 rfl 3 rfl ?_
      refine v_iconst hG dX12_row_20 ?_
      refine v_bipush hG dX12_row_21 (by decide) ?_
      refine v_callS (k1' := 0) (k2' := 0) hG dX12_row_23 zc_X12_in ⟨zl_X12_41, zt_X12_in⟩ (fun l => k_in l D A (MW D A a s im fr bY tr ln bl bo g lg) n 0 9 (by omega) (by omega) (by omega)) rfl (fun _ h => h) ⟨by decide, by decide⟩ rfl rfl ⟨by decide, by decide⟩ (rest := []) rfl (Nat.le_of_ble_eq_true rfl) (fun u7 => [vI (bi (0 ≤ n ∧ n ≤ 9))]) (fun _ => rfl) (fun u7 hu7 => ?_)
      refine v_ifb_ne (p := 0 ≤ n ∧ n ≤ 9) (tgt := 32) hG dX12_row_26 (by decide) (fun c8 => ?_) (fun c8 => ?_)
      · skip
        refine v_aload_n hG dX12_row_32 rfl 0 rfl ?_
        refine mg_s hG dX12_row_33 ?_
        have hm1 := (hM m (by omega) (by omega)).1
        refine v_bipush hG dX12_row_36 (by decide) ?_
        refine v_iload_n hG dX12_row_38 rfl 1 rfl ?_
        refine v_iadd hG dX12_row_39 ?_
        refine ma_s (z := s (50 + m)) hG dX12_row_40 (by omega) rfl ?_
        refine v_bipush hG dX12_row_41 (by decide) ?_
        refine v_icmp_eq (tgt := 49) hG dX12_row_43 (by decide) (by omega) (by omega) (fun c9 => ?_) (fun c9 => ?_)
        · skip
          refine v_aload_n hG dX12_row_49 rfl 0 rfl ?_
          refine mg_s hG dX12_row_50 ?_
          refine v_bipush hG dX12_row_53 (by decide) ?_
          refine v_iconst hG dX12_row_55 ?_
          refine v_iload_n hG dX12_row_56 rfl 1 rfl ?_
          refine v_imul hG dX12_row_57 ?_
          refine v_iadd hG dX12_row_58 ?_
          refine v_iload_n hG dX12_row_59 rfl 2 rfl ?_
          refine v_iadd hG dX12_row_60 ?_
          refine ma_s (z := s ((74 + (4 * m)) + k)) hG dX12_row_61 (by omega) rfl ?_
          refine v_istore (lo' := [(4, vI (s ((74 + (4 * m)) + k))), (0, .ref (a 0)), (1, vI m), (2, vI k), (3, vI n)]) hG dX12_row_62 (by decide) rfl ?_
          refine v_aload_n hG dX12_row_64 rfl 1 rfl ?_
          refine mg_s hG dX12_row_65 ?_
          refine v_bipush hG dX12_row_68 (by decide) ?_
          refine v_iconst hG dX12_row_70 ?_
          refine v_iload_n hG dX12_row_71 rfl 2 rfl ?_
          refine v_imul hG dX12_row_72 ?_
          refine v_iadd hG dX12_row_73 ?_
          refine v_iload_n hG dX12_row_74 rfl 3 rfl ?_
          refine v_iadd hG dX12_row_75 ?_
          refine v_iload_n hG dX12_row_76 rfl 4 rfl ?_
          refine ms_s hG dX12_row_77 (by omega) ?_
          refine v_iload hG dX12_row_78 0 rfl ?_
          have e10 : sU s ((74 + (4 * m)) + k) n = f_row s m k n := by first | rfl | (simp only [a_row, f_row, if_pos c2, if_pos c6, if_pos c8, if_pos c9]; done) | (simp only [a_row, f_row, if_pos c2, if_pos c6, if_pos c8, if_pos c9]; done) | (simp only [a_row, f_row, if_pos c2, if_pos c6, if_pos c8, if_pos c9]; rfl) | (simp only [a_row, f_row, if_pos c2, if_pos c6, if_pos c8, if_pos c9]; omega)
          have e11 : @Eq Int (a_row s m k n) (s ((74 + (4 * m)) + k)) := by first | rfl | (simp only [a_row, f_row, if_pos c2, if_pos c6, if_pos c8, if_pos c9]; done) | (simp only [a_row, f_row, if_pos c2, if_pos c6, if_pos c8, if_pos c9]; done) | (simp only [a_row, f_row, if_pos c2, if_pos c6, if_pos c8, if_pos c9]; rfl) | (simp only [a_row, f_row, if_pos c2, if_pos c6, if_pos c8, if_pos c9]; omega)
          exact v_ireturn hG hR dX12_row_80 () (congrArg (fun z => some (vI z)) e11) (by trivial) (fun _ hM => by rw [← e10]; exact hM)
        · skip
          refine v_bipush hG dX12_row_46 (by decide) ?_
          have e12 : s = f_row s m k n := by first | rfl | (simp only [a_row, f_row, if_pos c2, if_pos c6, if_pos c8, if_neg c9]; done) | (simp only [a_row, f_row, if_pos c2, if_pos c6, if_pos c8, if_neg c9]; done) | (simp only [a_row, f_row, if_pos c2, if_pos c6, if_pos c8, if_neg c9]; rfl) | (simp only [a_row, f_row, if_pos c2, if_pos c6, if_pos c8, if_neg c9]; omega)
          have e13 : @Eq Int (a_row s m k n) (-3) := by first | rfl | (simp only [a_row, f_row, if_pos c2, if_pos c6, if_pos c8, if_neg c9]; done) | (simp only [a_row, f_row, if_pos c2, if_pos c6, if_pos c8, if_neg c9]; done) | (simp only [a_row, f_row, if_pos c2, if_pos c6, if_pos c8, if_neg c9]; rfl) | (simp only [a_row, f_row, if_pos c2, if_pos c6, if_pos c8, if_neg c9]; omega)
          exact v_ireturn hG hR dX12_row_48 () (congrArg (fun z => some (vI z)) e13) (by trivial) (fun _ hM => by rw [← e12]; exact hM)
      · skip
        refine v_bipush hG dX12_row_29 (by decide) ?_
        have e14 : s = f_row s m k n := by first | rfl | (simp only [a_row, f_row, if_pos c2, if_pos c6, if_neg c8]; done) | (simp only [a_row, f_row, if_pos c2, if_pos c6, if_neg c8]; done) | (simp only [a_row, f_row, if_pos c2, if_pos c6, if_neg c8]; rfl) | (simp only [a_row, f_row, if_pos c2, if_pos c6, if_neg c8]; omega)
        have e15 : @Eq Int (a_row s m k n) (-2) := by first | rfl | (simp only [a_row, f_row, if_pos c2, if_pos c6, if_neg c8]; done) | (simp only [a_row, f_row, if_pos c2, if_pos c6, if_neg c8]; done) | (simp only [a_row, f_row, if_pos c2, if_pos c6, if_neg c8]; rfl) | (simp only [a_row, f_row, if_pos c2, if_pos c6, if_neg c8]; omega)
        exact v_ireturn hG hR dX12_row_31 () (congrArg (fun z => some (vI z)) e15) (by trivial) (fun _ hM => by rw [← e14]; exact hM)
    · skip
      refine v_iconst hG dX12_row_17 ?_
      have e16 : s = f_row s m k n := by first | rfl | (simp only [a_row, f_row, if_pos c2, if_neg c6]; done) | (simp only [a_row, f_row, if_pos c2, if_neg c6]; done) | (simp only [a_row, f_row, if_pos c2, if_neg c6]; rfl) | (simp only [a_row, f_row, if_pos c2, if_neg c6]; omega)
      have e17 : @Eq Int (a_row s m k n) (-1) := by first | rfl | (simp only [a_row, f_row, if_pos c2, if_neg c6]; done) | (simp only [a_row, f_row, if_pos c2, if_neg c6]; done) | (simp only [a_row, f_row, if_pos c2, if_neg c6]; rfl) | (simp only [a_row, f_row, if_pos c2, if_neg c6]; omega)
      exact v_ireturn hG hR dX12_row_18 () (congrArg (fun z => some (vI z)) e17) (by trivial) (fun _ hM => by rw [← e16]; exact hM)
set_option maxHeartbeats 4000000 in
set_option maxRecDepth 100000 in
theorem k_told (l : Launch) (D : Dx) (A : Nat → Prop) (a : Nat → Nat) (s im fr bY tr ln bl bo g lg : Int → Int) (w : Int) (hr : -2147483648 ≤ w ∧ w < 2147483648) (hP : PL s) : CT l D A yX12_told cX12_told 2 (some .int) { frames := 2, cells := 0, slots := 0, locals := 43 } [.ref (a 0), vI w] (MW D A a s im fr bY tr ln bl bo g lg) (fun _ : Unit => some (vI (a_told s w))) (fun _ => True) (fun _ => MW D A a s im fr bY tr ln bl bo g lg) := by
  refine ct_of (lo0 := [(0, .ref (a 0)), (1, vI w)]) (by decide) (Nat.le_of_ble_eq_true rfl) rfl ?_
  intro G hG hR
  refine v_iload_n hG dX12_told_0 rfl 1 rfl ?_
  refine v_iconst hG dX12_told_1 ?_
  refine v_iconst hG dX12_told_2 ?_
  refine v_callS (k1' := 0) (k2' := 0) hG dX12_told_3 zc_X12_in ⟨zl_X12_41, zt_X12_in⟩ (fun l => k_in l D A (MW D A a s im fr bY tr ln bl bo g lg) w 0 2 (by omega) (by omega) (by omega)) rfl (fun _ h => h) ⟨by decide, by decide⟩ rfl rfl ⟨by decide, by decide⟩ (rest := []) rfl (Nat.le_of_ble_eq_true rfl) (fun u1 => [vI (bi (0 ≤ w ∧ w ≤ 2))]) (fun _ => rfl) (fun u1 hu1 => ?_)
  refine v_ifb_eq (p := 0 ≤ w ∧ w ≤ 2) (tgt := 18) hG dX12_told_6 (by decide) (fun c2 => ?_) (fun c2 => ?_)
  · skip
    refine v_iload_n hG dX12_told_18 rfl 1 rfl ?_
    refine v_iconst hG dX12_told_19 ?_
    refine v_icmp_ne (tgt := 30) hG dX12_told_20 (by decide) (by omega) (by omega) (fun c3 => ?_) (fun c3 => ?_)
    · skip
      refine v_iload_n hG dX12_told_30 rfl 1 rfl ?_
      refine v_iconst hG dX12_told_31 ?_
      refine v_icmp_ne (tgt := 42) hG dX12_told_32 (by decide) (by omega) (by omega) (fun c4 => ?_) (fun c4 => ?_)
      · skip
        refine v_iconst hG dX12_told_42 ?_
        have e5 : @Eq Int (a_told s w) (-1) := by first | rfl | (simp only [a_told, if_neg c2, if_neg c3, if_neg c4]; done) | (simp only [a_told, if_neg c2, if_neg c3, if_neg c4]; done) | (simp only [a_told, if_neg c2, if_neg c3, if_neg c4]; rfl) | (simp only [a_told, if_neg c2, if_neg c3, if_neg c4]; omega)
        exact v_ireturn hG hR dX12_told_43 () (congrArg (fun z => some (vI z)) e5) (by trivial) (fun _ hM => hM)
      · skip
        refine v_aload_n hG dX12_told_35 rfl 0 rfl ?_
        refine v_callV (k1' := 0) (k2' := 0) hG dX12_told_36 zc_X12_mendNow ⟨zl_X12_160, zi_X12_mendNow, zs_X12_mendNow⟩ (fun l => k_mendNow l D A a s im fr bY tr ln bl bo g lg (by assumption)) rfl mw_recv (fun _ h => h) ⟨by decide, by decide⟩ rfl rfl ⟨by decide, by decide⟩ (rest := []) rfl (Nat.le_of_ble_eq_true rfl) (fun u6 => [vI (q_mend s)]) (fun _ => rfl) (fun u6 hu6 => ?_)
        have fu6 : 0 ≤ q_mend s ∧ q_mend s ≤ 99 := hu6
        refine v_goto (tgt := 43) hG dX12_told_39 (by decide) ?_
        have e7 : @Eq Int (a_told s w) (q_mend s) := by first | rfl | (simp only [a_told, if_neg c2, if_neg c3, if_pos c4]; done) | (simp only [a_told, if_neg c2, if_neg c3, if_pos c4]; done) | (simp only [a_told, if_neg c2, if_neg c3, if_pos c4]; rfl) | (simp only [a_told, if_neg c2, if_neg c3, if_pos c4]; omega)
        exact v_ireturn hG hR dX12_told_43 () (congrArg (fun z => some (vI z)) e7) (by trivial) (fun _ hM => hM)
    · skip
      refine v_aload_n hG dX12_told_23 rfl 0 rfl ?_
      refine v_callV (k1' := 0) (k2' := 0) hG dX12_told_24 zc_X12_wearNow ⟨zl_X12_141, zi_X12_wearNow, zs_X12_wearNow⟩ (fun l => k_wearNow l D A a s im fr bY tr ln bl bo g lg (by assumption)) rfl mw_recv (fun _ h => h) ⟨by decide, by decide⟩ rfl rfl ⟨by decide, by decide⟩ (rest := []) rfl (Nat.le_of_ble_eq_true rfl) (fun u8 => [vI (q_wear s)]) (fun _ => rfl) (fun u8 hu8 => ?_)
      have fu8 : 1 ≤ q_wear s ∧ q_wear s ≤ 99 := hu8
      refine v_goto (tgt := 43) hG dX12_told_27 (by decide) ?_
      have e9 : @Eq Int (a_told s w) (q_wear s) := by first | rfl | (simp only [a_told, if_neg c2, if_pos c3]; done) | (simp only [a_told, if_neg c2, if_pos c3]; done) | (simp only [a_told, if_neg c2, if_pos c3]; rfl) | (simp only [a_told, if_neg c2, if_pos c3]; omega)
      exact v_ireturn hG hR dX12_told_43 () (congrArg (fun z => some (vI z)) e9) (by trivial) (fun _ hM => hM)
  · skip
    refine v_aload_n hG dX12_told_9 rfl 0 rfl ?_
    refine mg_s hG dX12_told_10 ?_
    refine v_iload_n hG dX12_told_13 rfl 1 rfl ?_
    refine ma_s (z := s w) hG dX12_told_14 (by omega) rfl ?_
    refine v_goto (tgt := 43) hG dX12_told_15 (by decide) ?_
    have e10 : @Eq Int (a_told s w) (s w) := by first | rfl | (simp only [a_told, if_pos c2]; done) | (simp only [a_told, if_pos c2]; done) | (simp only [a_told, if_pos c2]; rfl) | (simp only [a_told, if_pos c2]; omega)
    exact v_ireturn hG hR dX12_told_43 () (congrArg (fun z => some (vI z)) e10) (by trivial) (fun _ hM => hM)
