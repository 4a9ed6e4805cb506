/-! THE MODEL: the parser -/
def TP (s g : Int → Int) (c : Nat → Int) : Prop := (0 ≤ g 4 ∧ g 4 ≤ 100) ∧ (∀ p : Nat, c p = if (p : Int) < g 4 then s (158 + p) else -1) ∧ CE c (g 4).toNat
theorem TP_g {s g g' : Int → Int} {c : Nat → Int} (h : TP s g c) (e : g' 4 = g 4) : TP s g' c := by
  unfold TP at *
  rw [e]; exact h
def gS (g : Int → Int) (p : Nat) (ok : Bool) : Int → Int := sU (sU g 5 (if ok then 0 else 1)) 3 (p : Int)
theorem gS_3 {g : Int → Int} {p : Nat} {ok : Bool} : gS g p ok 3 = p := sU_eq
theorem gS_5 {g : Int → Int} {p : Nat} {ok : Bool} : gS g p ok 5 = (if ok then 0 else 1) := (sU_ne (by omega)).trans sU_eq
theorem gS_q {g : Int → Int} {p : Nat} {ok : Bool} {q : Int} (h : q ≠ 3) (h2 : q ≠ 5) : gS g p ok q = g q := (sU_ne h).trans (sU_ne h2)
theorem TP_gS {s g : Int → Int} {c : Nat → Int} {p : Nat} {ok : Bool} (h : TP s g c) : TP s (gS g p ok) c := TP_g h (gS_q (by omega) (by omega))
theorem gS_gS {g : Int → Int} {p p' : Nat} {ok ok' : Bool} : gS (gS g p ok) p' ok' = gS g p' ok' := by
  funext q
  simp only [gS, sU]
  (repeat' split) <;> rfl
theorem gS_id {g : Int → Int} {p : Nat} {ok : Bool} (h3 : g 3 = p) (h5 : g 5 = (if ok then 0 else 1)) : gS g p ok = g := by
  funext q
  simp only [gS, sU]
  (repeat' split) <;> simp_all
theorem gS_of {g f : Int → Int} {p : Nat} {ok : Bool} (h3 : f 3 = p) (h5 : f 5 = (if ok then 0 else 1)) (h : ∀ q, q ≠ 3 → q ≠ 5 → f q = g q) : f = gS g p ok := by
  funext q
  by_cases e3 : q = 3
  · rw [e3, gS_3, h3]
  · by_cases e5 : q = 5
    · rw [e5, gS_5, h5]
    · rw [gS_q e3 e5, h q e3 e5]
theorem ok_f {x : Int} {ok : Bool} (h5 : x = (if ok then 0 else 1)) (h : ¬ x = 0) : ok = false := by
  cases ok
  · rfl
  · exact absurd h5 h
theorem ok_t {x : Int} {ok : Bool} (h5 : x = (if ok then 0 else 1)) (h : x = 0) : ok = true := by
  cases ok
  · rw [h] at h5; exact absurd h5 (by decide)
  · rfl
theorem must_n {g : Int → Int} {c : Nat → Int} {x : Int} {p : Nat} {ok : Bool} (h3 : g 3 = p) (h : ok = false ∨ ¬ c p = x) : sU (sU g 5 1) 3 (g 3 + 0) = gS g (mustF c x (p, ok)).1 (mustF c x (p, ok)).2 := by
  have e : mustF c x (p, ok) = (p, false) := if_neg (fun q => by rcases h with h | h; exact absurd (q.1.symm.trans h) (by decide); exact h q.2)
  rw [e]
  refine gS_of ?_ ?_ ?_
  · rw [sU_eq]; show g 3 + 0 = p; omega
  · rw [sU_ne (by omega), sU_eq]; rfl
  · intro q a b; rw [sU_ne a, sU_ne b]
theorem must_y {g : Int → Int} {c : Nat → Int} {x : Int} {p : Nat} {ok : Bool} (h3 : g 3 = p) (h : ok = true) (h2 : c p = x) : sU (sU g 5 0) 3 (g 3 + 1) = gS g (mustF c x (p, ok)).1 (mustF c x (p, ok)).2 := by
  have e : mustF c x (p, ok) = (p + 1, true) := if_pos ⟨h, h2⟩
  rw [e]
  refine gS_of ?_ ?_ ?_
  · rw [sU_eq]; show g 3 + 1 = ((p + 1 : Nat) : Int); omega
  · rw [sU_ne (by omega), sU_eq]; rfl
  · intro q a b; rw [sU_ne a, sU_ne b]
theorem spF_le (c : Nat → Int) (w : Nat) : ∀ (k : Nat) (u : Nat × Bool), (spF c w k u).1 ≤ u.1 + k
  | 0, u => Nat.le_refl _
  | k + 1, u => by
    have ih := spF_le c w k u
    show (mustF c _ (spF c w k u)).1 ≤ _
    unfold mustF
    split <;> (show _ ≤ u.1 + (k + 1)) <;> dsimp only <;> omega
def FI (c : Nat → Int) (p k q : Nat) (v : Int) : Prop := (k = 0 ∧ q = p ∧ v = 0) ∨ (k = 1 ∧ q = p + 1 ∧ v = c p - 48 ∧ isDp (c p)) ∨ (k = 2 ∧ q = p + 2 ∧ v = 10 * (c p - 48) + c (p + 1) - 48 ∧ isDp (c p) ∧ isDp (c (p + 1)) ∧ 0 < c p - 48)
theorem FI_step {c : Nat → Int} {p k q : Nat} {v : Int} (h : FI c p k q v) (hk : (k : Int) < 2) (hd : isDp (c q)) (hv : (k : Int) = 0 ∨ 0 < v) : FI c p (k + 1) (q + 1) (10 * v + c q - 48) := by
  rcases h with ⟨rfl, rfl, rfl⟩ | ⟨rfl, rfl, rfl, h4⟩ | ⟨rfl, -⟩
  · exact Or.inr (Or.inl ⟨rfl, rfl, by omega, hd⟩)
  · exact Or.inr (Or.inr ⟨rfl, rfl, rfl, h4, hd, by omega⟩)
  · omega
theorem fi_v {c : Nat → Int} {p k q : Nat} {v : Int} (h : FI c p k q v) : 0 ≤ v ∧ v ≤ 99 := by
  rcases h with h | ⟨-, -, h, h2, h3⟩ | ⟨-, -, h, ⟨h2, h3⟩, ⟨h4, h5⟩, h6⟩ <;> omega
theorem fi_0 {c : Nat → Int} {p k q : Nat} {v : Int} (h : FI c p k q v) (hk : k = 0) : q = p ∧ v = 0 := by
  rcases h with h | h | h
  · exact h.2
  · omega
  · omega
theorem fig_n {c : Nat → Int} {p : Nat} {ok : Bool} (h : ok = false ∨ ¬ isDp (c p)) : figF c (p, ok) = ((p, false), 0) := if_neg (fun z => by rcases h with h | h; exact absurd (z.1.symm.trans h) (by decide); exact h z.2)
theorem fig_y {c : Nat → Int} {p k q : Nat} {v : Int} {ok : Bool} (ho : ok = true) (hd : isDp (c p)) (h : FI c p k q v) (hx : ¬ (k : Int) < 2 ∨ ¬ isDp (c q) ∨ (¬ (k : Int) = 0 ∧ ¬ 0 < v)) : figF c (p, ok) = ((q, true), v) := by
  unfold figF
  rw [if_pos ⟨ho, hd⟩]
  rcases h with ⟨rfl, rfl, rfl⟩ | ⟨rfl, rfl, rfl, h4⟩ | ⟨rfl, rfl, rfl, h4, h5, h6⟩
  · rcases hx with hx | hx | hx
    · omega
    · exact absurd hd hx
    · exact absurd rfl hx.1
  · refine if_neg (fun z => ?_)
    rcases hx with hx | hx | hx
    · omega
    · exact hx z.1
    · exact hx.2 z.2
  · exact if_pos ⟨h5, h6⟩
def em1 (s : Int → Int) (a x : Int) : Int → Int := sU (sU s (273 + 140 * a + s (268 + a)) x) (268 + a) (s (268 + a) + 1)
theorem sU_same {f : Int → Int} {j v : Int} (h : f j = v) : sU f j v = f := by
  funext q
  unfold sU
  split
  · rename_i e; rw [e, h]
  · rfl
theorem sU_sU {f : Int → Int} {j v w : Int} : sU (sU f j v) j w = sU f j w := by
  funext q
  unfold sU
  split <;> rfl
theorem fig_g {g : Int → Int} {p q : Nat} {ok b : Bool} {c : Nat → Int} {v : Int} {w : Int} (h : figF c (p, ok) = ((q, b), v)) (hw : w = (if b then 0 else 1)) : sU (sU g 5 w) 3 (q : Int) = gS g (figF c (p, ok)).1.1 (figF c (p, ok)).1.2 := by
  rw [h, hw]; rfl
def amG (g : Int → Int) (p : Nat) (z : Int) : Int → Int := if z = -1 then g else sU g 3 ((p : Int) + 1)
theorem am_hit {w k n : Nat} {x : Int} (h : leastM (fun k => decide (zch w (k : Int) = x)) k = -1) (h2 : x = zch w (k : Int)) (hk : k < n) (hn : n = (zn w).toNat) : zix w x = k := by
  subst hn
  exact leastM_hit h (decide_eq_true h2.symm) hk
theorem am_stay {w k : Nat} {x : Int} (h : leastM (fun k => decide (zch w (k : Int) = x)) k = -1) (h2 : ¬ x = zch w (k : Int)) : leastM (fun k => decide (zch w (k : Int) = x)) (k + 1) = -1 := leastM_stay h (decide_eq_false (fun q => h2 q.symm))
theorem am_none {w k : Nat} {x : Int} (h : leastM (fun k => decide (zch w (k : Int) = x)) k = -1) (hk : k = (zn w).toNat) : zix w x = -1 := by
  subst hk; exact h
set_option maxHeartbeats 4000000 in
set_option maxRecDepth 100000 in
theorem k_here (l : Launch) (D : Dx) (A : Nat → Prop) (a : Nat → Nat) (s im fr bY tr ln bl bo g lg : Int → Int) (c : Nat → Int) (p : Nat) (hTP : TP s g c) (h3 : g 3 = (p : Int)) (hpb : (p : Int) ≤ 1000) : CT l D A yX12_here cX12_here 1 (some .int) { frames := 0, cells := 0, slots := 0, locals := 0 } [.ref (a 0)] (MW D A a s im fr bY tr ln bl bo g lg) (fun _ : Unit => some (vI (c p))) (fun _ => -1 ≤ c p ∧ c p ≤ 127) (fun _ => MW D A a s im fr bY tr ln bl bo g lg) := by
  refine ct_of (lo0 := [(0, .ref (a 0))]) (by decide) (Nat.le_of_ble_eq_true rfl) rfl ?_
  intro G hG hR
  have hT1 := hTP.1
  refine v_aload_n hG dX12_here_0 rfl 0 rfl ?_
  refine mg_spot (z := g 3) hG dX12_here_1 rfl ?_
  refine v_aload_n hG dX12_here_4 rfl 0 rfl ?_
  refine mg_end (z := g 4) hG dX12_here_5 rfl ?_
  refine v_icmp_ge (tgt := 27) hG dX12_here_8 (by decide) (by omega) (by omega) (fun c1 => ?_) (fun c1 => ?_)
  · skip
    refine v_iconst hG dX12_here_27 ?_
    have e2 : @Eq Int (c p) (-1) := by rw [hTP.2.1 p, ← h3]; first | rw [if_pos (by omega)] | rw [if_neg (by omega)]
    exact v_ireturn hG hR dX12_here_28 () (congrArg (fun z => some (vI z)) e2) (by exact (hTP.2.2 p).2) (fun _ hM => hM)
  · skip
    refine v_aload_n hG dX12_here_11 rfl 0 rfl ?_
    refine mg_s hG dX12_here_12 ?_
    refine v_sipush hG dX12_here_15 (by decide) ?_
    refine v_aload_n hG dX12_here_18 rfl 0 rfl ?_
    refine mg_spot (z := g 3) hG dX12_here_19 rfl ?_
    refine v_iadd hG dX12_here_22 ?_
    refine ma_s (z := s (158 + (g 3))) hG dX12_here_23 (by omega) rfl ?_
    refine v_goto (tgt := 28) hG dX12_here_24 (by decide) ?_
    have e3 : @Eq Int (c p) (s (158 + (g 3))) := by rw [hTP.2.1 p, ← h3]; first | rw [if_pos (by omega)] | rw [if_neg (by omega)]
    exact v_ireturn hG hR dX12_here_28 () (congrArg (fun z => some (vI z)) e3) (by exact (hTP.2.2 p).2) (fun _ hM => hM)
set_option maxHeartbeats 4000000 in
set_option maxRecDepth 100000 in
theorem k_must (l : Launch) (D : Dx) (A : Nat → Prop) (a : Nat → Nat) (s im fr bY tr ln bl bo g lg : Int → Int) (x : Int) (c : Nat → Int) (p : Nat) (ok : Bool) (hTP : TP s g c) (h3 : g 3 = (p : Int)) (h5 : g 5 = (if ok then 0 else 1)) (hpb : (p : Int) ≤ 1000) (hx : 0 ≤ x ∧ x ≤ 127) : CT l D A yX12_must cX12_must 2 none { frames := 1, cells := 0, slots := 0, locals := 20 } [.ref (a 0), vI x] (MW D A a s im fr bY tr ln bl bo g lg) (fun _ : Unit => none) (fun _ => True) (fun _ => MW D A a s im fr bY tr ln bl bo (gS g (mustF c x (p, ok)).1 (mustF c x (p, ok)).2) lg) := by
  refine ct_of (lo0 := [(0, .ref (a 0)), (1, vI x)]) (by decide) (Nat.le_of_ble_eq_true rfl) rfl ?_
  intro G hG hR
  have h55 : g 5 = 0 ∨ g 5 = 1 := by rw [h5]; cases ok <;> simp
  refine v_aload_n hG dX12_must_0 rfl 0 rfl ?_
  refine v_aload_n hG dX12_must_1 rfl 0 rfl ?_
  refine mg_isWrong (z := g 5) hG dX12_must_2 rfl ?_
  refine v_if_ne (tgt := 16) hG dX12_must_5 (by decide) (by omega) (fun c1 => ?_) (fun c1 => ?_)
  · skip
    refine v_iconst hG dX12_must_16 ?_
    refine v_goto (tgt := 21) hG dX12_must_17 (by decide) ?_
    refine mp_isWrong hG dX12_must_21 (Or.inr rfl) ?_
    refine v_aload_n hG dX12_must_24 rfl 0 rfl ?_
    refine v_dup hG dX12_must_25 rfl ?_
    refine mg_spot (z := g 3) hG dX12_must_26 rfl ?_
    refine v_aload_n hG dX12_must_29 rfl 0 rfl ?_
    refine mg_isWrong (z := 1) hG dX12_must_30 rfl ?_
    refine v_if_eq (tgt := 40) hG dX12_must_33 (by decide) (by omega) (fun c2 => ?_) (fun c2 => ?_)
    · skip
      refine v_iconst hG dX12_must_40 ?_
      refine v_iadd hG dX12_must_41 ?_
      refine mp_spot hG dX12_must_42 ?_
      have e3 : sU (sU g 5 1) 3 ((g 3) + 1) = gS g (mustF c x (p, ok)).1 (mustF c x (p, ok)).2 := by first | (exfalso; omega) | exact must_n h3 (Or.inl (ok_f h5 (by assumption))) | exact must_n h3 (Or.inr (by assumption)) | exact must_y h3 (ok_t h5 (by omega)) (by assumption)
      exact v_return hG hR dX12_must_45 () rfl (by trivial) (fun _ hM => by rw [← e3]; exact hM)
    · skip
      refine v_iconst hG dX12_must_36 ?_
      refine v_goto (tgt := 41) hG dX12_must_37 (by decide) ?_
      refine v_iadd hG dX12_must_41 ?_
      refine mp_spot hG dX12_must_42 ?_
      have e4 : sU (sU g 5 1) 3 ((g 3) + 0) = gS g (mustF c x (p, ok)).1 (mustF c x (p, ok)).2 := by first | (exfalso; omega) | exact must_n h3 (Or.inl (ok_f h5 (by assumption))) | exact must_n h3 (Or.inr (by assumption)) | exact must_y h3 (ok_t h5 (by omega)) (by assumption)
      exact v_return hG hR dX12_must_45 () rfl (by trivial) (fun _ hM => by rw [← e4]; exact hM)
  · skip
    refine v_aload_n hG dX12_must_8 rfl 0 rfl ?_
    refine v_callV (k1' := 0) (k2' := 0) hG dX12_must_9 zc_X12_here ⟨zl_X12_55, zi_X12_here, zs_X12_here⟩ (fun l => k_here l D A a s im fr bY tr ln bl bo g lg c p (by first | assumption | exact TP_gS hTP) (by first | assumption | exact gS_3) (by omega)) rfl mw_recv (fun _ h => h) ⟨by decide, by decide⟩ rfl rfl ⟨by decide, by decide⟩ (rest := [.ref (a 0)]) rfl (Nat.le_of_ble_eq_true rfl) (fun u5 => [vI (c p), .ref (a 0)]) (fun _ => rfl) (fun u5 hu5 => ?_)
    have fu5 : -1 ≤ c p ∧ c p ≤ 127 := hu5
    refine v_iload_n hG dX12_must_12 rfl 1 rfl ?_
    refine v_icmp_eq (tgt := 20) hG dX12_must_13 (by decide) (by omega) (by omega) (fun c6 => ?_) (fun c6 => ?_)
    · skip
      refine v_iconst hG dX12_must_20 ?_
      refine mp_isWrong hG dX12_must_21 (Or.inl rfl) ?_
      refine v_aload_n hG dX12_must_24 rfl 0 rfl ?_
      refine v_dup hG dX12_must_25 rfl ?_
      refine mg_spot (z := g 3) hG dX12_must_26 rfl ?_
      refine v_aload_n hG dX12_must_29 rfl 0 rfl ?_
      refine mg_isWrong (z := 0) hG dX12_must_30 rfl ?_
      refine v_if_eq (tgt := 40) hG dX12_must_33 (by decide) (by omega) (fun c7 => ?_) (fun c7 => ?_)
      · skip
        refine v_iconst hG dX12_must_40 ?_
        refine v_iadd hG dX12_must_41 ?_
        refine mp_spot hG dX12_must_42 ?_
        have e8 : sU (sU g 5 0) 3 ((g 3) + 1) = gS g (mustF c x (p, ok)).1 (mustF c x (p, ok)).2 := by first | (exfalso; omega) | exact must_n h3 (Or.inl (ok_f h5 (by assumption))) | exact must_n h3 (Or.inr (by assumption)) | exact must_y h3 (ok_t h5 (by omega)) (by assumption)
        exact v_return hG hR dX12_must_45 () rfl (by trivial) (fun _ hM => by rw [← e8]; exact hM)
      · skip
        refine v_iconst hG dX12_must_36 ?_
        refine v_goto (tgt := 41) hG dX12_must_37 (by decide) ?_
        refine v_iadd hG dX12_must_41 ?_
        refine mp_spot hG dX12_must_42 ?_
        have e9 : sU (sU g 5 0) 3 ((g 3) + 0) = gS g (mustF c x (p, ok)).1 (mustF c x (p, ok)).2 := by first | (exfalso; omega) | exact must_n h3 (Or.inl (ok_f h5 (by assumption))) | exact must_n h3 (Or.inr (by assumption)) | exact must_y h3 (ok_t h5 (by omega)) (by assumption)
        exact v_return hG hR dX12_must_45 () rfl (by trivial) (fun _ hM => by rw [← e9]; exact hM)
    · skip
      refine v_iconst hG dX12_must_16 ?_
      refine v_goto (tgt := 21) hG dX12_must_17 (by decide) ?_
      refine mp_isWrong hG dX12_must_21 (Or.inr rfl) ?_
      refine v_aload_n hG dX12_must_24 rfl 0 rfl ?_
      refine v_dup hG dX12_must_25 rfl ?_
      refine mg_spot (z := g 3) hG dX12_must_26 rfl ?_
      refine v_aload_n hG dX12_must_29 rfl 0 rfl ?_
      refine mg_isWrong (z := 1) hG dX12_must_30 rfl ?_
      refine v_if_eq (tgt := 40) hG dX12_must_33 (by decide) (by omega) (fun c10 => ?_) (fun c10 => ?_)
      · skip
        refine v_iconst hG dX12_must_40 ?_
        refine v_iadd hG dX12_must_41 ?_
        refine mp_spot hG dX12_must_42 ?_
        have e11 : sU (sU g 5 1) 3 ((g 3) + 1) = gS g (mustF c x (p, ok)).1 (mustF c x (p, ok)).2 := by first | (exfalso; omega) | exact must_n h3 (Or.inl (ok_f h5 (by assumption))) | exact must_n h3 (Or.inr (by assumption)) | exact must_y h3 (ok_t h5 (by omega)) (by assumption)
        exact v_return hG hR dX12_must_45 () rfl (by trivial) (fun _ hM => by rw [← e11]; exact hM)
      · skip
        refine v_iconst hG dX12_must_36 ?_
        refine v_goto (tgt := 41) hG dX12_must_37 (by decide) ?_
        refine v_iadd hG dX12_must_41 ?_
        refine mp_spot hG dX12_must_42 ?_
        have e12 : sU (sU g 5 1) 3 ((g 3) + 0) = gS g (mustF c x (p, ok)).1 (mustF c x (p, ok)).2 := by first | (exfalso; omega) | exact must_n h3 (Or.inl (ok_f h5 (by assumption))) | exact must_n h3 (Or.inr (by assumption)) | exact must_y h3 (ok_t h5 (by omega)) (by assumption)
        exact v_return hG hR dX12_must_45 () rfl (by trivial) (fun _ hM => by rw [← e12]; exact hM)
set_option maxHeartbeats 4000000 in
set_option maxRecDepth 100000 in
theorem k_spells (l : Launch) (D : Dx) (A : Nat → Prop) (a : Nat → Nat) (s im fr bY tr ln bl bo g lg : Int → Int) (i : Nat) (hi : i < 7) (c : Nat → Int) (p : Nat) (ok : Bool) (hTP : TP s g c) (h3 : g 3 = (p : Int)) (h5 : g 5 = (if ok then 0 else 1)) (hpb : (p : Int) ≤ 900) : CT l D A yX12_spells cX12_spells 3 none { frames := 4, cells := 0, slots := 0, locals := 101 } [.ref (a 0), .ref (zK D i)] (MW D A a s im fr bY tr ln bl bo g lg) (fun _ : Unit => none) (fun _ => True) (fun _ => MW D A a s im fr bY tr ln bl bo (gS g (spF c i (zn i).toNat (p, ok)).1 (spF c i (zn i).toNat (p, ok)).2) lg) := by
  refine ct_of (lo0 := [(0, .ref (a 0)), (1, .ref (zK D i))]) (by decide) (Nat.le_of_ble_eq_true rfl) rfl ?_
  intro G hG hR
  have hz := zn_rng i hi
  refine v_iconst hG dX12_spells_0 ?_
  refine v_istore_n (lo' := [(2, vI 0), (0, .ref (a 0)), (1, .ref (zK D i))]) hG dX12_spells_1 rfl (by decide) rfl ?_
  refine v_lo [1, 2, 0] (lo' := [(0, .ref (a 0)), (1, .ref (zK D i)), (2, vI 0)]) rfl ?_
  have L3 : ∀ mz : Nat, ∀ (k : Nat), ((k : Int) ≤ zn i) → (zn i - (k : Int)).toNat = mz → ∀ x1 : Int, x1 = ((k : Int)) → ∀ x2 : Int → Int, x2 = (gS g (spF c i k (p, ok)).1 (spF c i k (p, ok)).2) → V G 0 0 (MW D A a s im fr bY tr ln bl bo x2 lg) 2 [(0, .ref (a 0)), (1, .ref (zK D i)), (2, vI x1)] [] := by
    intro dL3
    induction dL3 using Nat.strongRecOn with
    | ind dL3 ihL3 =>
      intro k hq4 hq5
      intro x1 hx1
      subst hx1
      intro x2 hx2
      subst hx2
      have hsl := spF_le c i k (p, ok)
      refine v_iload_n hG dX12_spells_2 rfl 2 rfl ?_
      refine v_aload_n hG dX12_spells_3 rfl 1 rfl ?_
      refine v_callK hi rfl (k1' := 0) (k2' := 0) hG dX12_spells_4 zc_J0_length_8abf5 ⟨zl_X12_59, zi_J0_length_8abf5, zs_J0_length_8abf5⟩ (fun l => k_length_8abf5 l D A (MW D A a s im fr bY tr ln bl bo (gS g (spF c i k (p, ok)).1 (spF c i k (p, ok)).2) lg) i (by first | assumption | decide)) rfl (fun _ h => h) ⟨by decide, by decide⟩ rfl rfl ⟨by decide, by decide⟩ (rest := [vI (k : Int)]) rfl (Nat.le_of_ble_eq_true rfl) (fun u6 => [vI (zn i), vI (k : Int)]) (fun _ => rfl) (fun u6 hu6 => ?_)
      refine v_icmp_ge (tgt := 25) hG dX12_spells_7 (by decide) (by omega) (by omega) (fun c7 => ?_) (fun c7 => ?_)
      · skip
        have e8 : gS g (spF c i k (p, ok)).1 (spF c i k (p, ok)).2 = gS g (spF c i (zn i).toNat (p, ok)).1 (spF c i (zn i).toNat (p, ok)).2 := by rw [show k = (zn i).toNat by omega]
        exact v_return hG hR dX12_spells_25 () rfl (by trivial) (fun _ hM => by rw [← e8]; exact hM)
      · skip
        refine v_aload_n hG dX12_spells_10 rfl 0 rfl ?_
        refine v_aload_n hG dX12_spells_11 rfl 1 rfl ?_
        refine v_iload_n hG dX12_spells_12 rfl 2 rfl ?_
        have hch := zch_rng i hi (k := (k : Int)) (by omega)
        refine v_callK hi rfl (k1' := 0) (k2' := 0) hG dX12_spells_13 zc_J0_charAt_5068e ⟨zl_X12_64, zi_J0_charAt_5068e, zs_J0_charAt_5068e⟩ (fun l => k_charAt_5068e l D A (MW D A a s im fr bY tr ln bl bo (gS g (spF c i k (p, ok)).1 (spF c i k (p, ok)).2) lg) (k : Int) i (by first | assumption | decide) (by omega)) rfl (fun _ h => h) ⟨by decide, by decide⟩ rfl rfl ⟨by decide, by decide⟩ (rest := [.ref (a 0)]) rfl (Nat.le_of_ble_eq_true rfl) (fun u9 => [vI (zch i (k : Int)), .ref (a 0)]) (fun _ => rfl) (fun u9 hu9 => ?_)
        refine v_callV (k1' := 0) (k2' := 0) hG dX12_spells_16 zc_X12_must ⟨zl_X12_68, zi_X12_must, zs_X12_must⟩ (fun l => k_must l D A a s im fr bY tr ln bl bo (gS g (spF c i k (p, ok)).1 (spF c i k (p, ok)).2) lg (zch i (k : Int)) c ((spF c i k (p, ok)).1) ((spF c i k (p, ok)).2) (by first | assumption | exact TP_gS hTP) (by first | assumption | exact gS_3) (by first | assumption | exact gS_5) (by omega) (by omega)) rfl mw_recv (fun _ h => h) ⟨by decide, by decide⟩ rfl rfl ⟨by decide, by decide⟩ (rest := []) rfl (Nat.le_of_ble_eq_true rfl) (fun u10 => []) (fun _ => rfl) (fun u10 hu10 => ?_)
        refine v_iinc (lo' := [(2, vI ((k : Int) + 1)), (0, .ref (a 0)), (1, .ref (zK D i))]) hG dX12_spells_19 2 rfl (by decide) rfl ?_
        refine v_goto (tgt := 2) hG dX12_spells_22 (by decide) ?_
        refine v_lo [1, 2, 0] (lo' := [(0, .ref (a 0)), (1, .ref (zK D i)), (2, vI ((k : Int) + 1))]) rfl ?_
        exact ihL3 _ (by omega) (k + 1) (by omega) rfl _ (by first | omega | rfl | (simp [c7]; done)) _ (by exact gS_gS)
  exact L3 _ 0 (by omega) rfl _ (by first | omega | rfl | (simp []; done)) _ (by exact (gS_id h3 h5).symm)
set_option maxHeartbeats 4000000 in
set_option maxRecDepth 100000 in
theorem k_figures (l : Launch) (D : Dx) (A : Nat → Prop) (a : Nat → Nat) (s im fr bY tr ln bl bo g lg : Int → Int) (c : Nat → Int) (p : Nat) (ok : Bool) (hTP : TP s g c) (h3 : g 3 = (p : Int)) (h5 : g 5 = (if ok then 0 else 1)) (hpb : (p : Int) ≤ 900) : CT l D A yX12_figures cX12_figures 3 (some .int) { frames := 1, cells := 0, slots := 0, locals := 22 } [.ref (a 0)] (MW D A a s im fr bY tr ln bl bo g lg) (fun _ : Unit => some (vI ((figF c (p, ok)).2))) (fun _ => True) (fun _ => MW D A a s im fr bY tr ln bl bo (gS g (figF c (p, ok)).1.1 (figF c (p, ok)).1.2) lg) := by
  refine ct_of (lo0 := [(0, .ref (a 0))]) (by decide) (Nat.le_of_ble_eq_true rfl) rfl ?_
  intro G hG hR
  have h55 : g 5 = 0 ∨ g 5 = 1 := by rw [h5]; cases ok <;> simp
  refine v_aload_n hG dX12_figures_0 rfl 0 rfl ?_
  refine v_aload_n hG dX12_figures_1 rfl 0 rfl ?_
  refine mg_isWrong (z := g 5) hG dX12_figures_2 rfl ?_
  refine v_if_ne (tgt := 22) hG dX12_figures_5 (by decide) (by omega) (fun c1 => ?_) (fun c1 => ?_)
  · skip
    refine v_iconst hG dX12_figures_22 ?_
    refine v_goto (tgt := 27) hG dX12_figures_23 (by decide) ?_
    refine mp_isWrong hG dX12_figures_27 (Or.inr rfl) ?_
    refine v_iconst hG dX12_figures_30 ?_
    refine v_istore_n (lo' := [(1, vI 0), (0, .ref (a 0))]) hG dX12_figures_31 rfl (by decide) rfl ?_
    refine v_iconst hG dX12_figures_32 ?_
    refine v_istore_n (lo' := [(2, vI 0), (1, vI 0), (0, .ref (a 0))]) hG dX12_figures_33 rfl (by decide) rfl ?_
    refine v_lo [2, 1, 0] (lo' := [(0, .ref (a 0)), (1, vI 0), (2, vI 0)]) rfl ?_
    have L5 : ∀ mz : Nat, ∀ (k q : Nat) (v : Int), ((k : Int) ≤ 2) → (FI c p k q v) → ((1 : Int) = 1 → k = 0) → (q ≤ p + k) → 2 - k = mz → ∀ x2 : Int, x2 = ((k : Int)) → ∀ x3 : Int, x3 = (v) → ∀ x4 : Int → Int, x4 = (sU (sU g 5 1) 3 (q : Int)) → V G 0 0 (MW D A a s im fr bY tr ln bl bo x4 lg) 34 [(0, .ref (a 0)), (1, vI x3), (2, vI x2)] [] := by
      intro dL5
      induction dL5 using Nat.strongRecOn with
      | ind dL5 ihL5 =>
        intro k q v hq6 hq7 hq8 hq9 hq10
        intro x2 hx2
        subst hx2
        intro x3 hx3
        replace hx3 := hx3.symm
        subst hx3
        intro x4 hx4
        subst hx4
        have hfv := fi_v ‹FI c p k q v›
        refine v_iload_n hG dX12_figures_34 rfl 2 rfl ?_
        refine v_iconst hG dX12_figures_35 ?_
        refine v_icmp_ge (tgt := 97) hG dX12_figures_36 (by decide) (by omega) (by omega) (fun c11 => ?_) (fun c11 => ?_)
        · skip
          refine v_iload_n hG dX12_figures_97 rfl 1 rfl ?_
          obtain ⟨b9, hb9, hfg⟩ : ∃ b : Bool, (1 : Int) = (if b then 0 else 1) ∧ figF c (p, ok) = ((q, b), v) := by first | exact ⟨true, rfl, fig_y (ok_t h5 (by omega)) (by assumption) (by assumption) (by (first | exact Or.inl (by omega) | exact Or.inr (Or.inl (by assumption)) | exact Or.inr (Or.inr ⟨by omega, by omega⟩)))⟩ | exact ⟨false, rfl, by obtain ⟨e1, e2⟩ := fi_0 (by assumption) (by omega); rw [e1, e2]; (first | exact fig_n (Or.inl (ok_f h5 (by assumption))) | exact fig_n (Or.inr (by assumption)))⟩
          have e12 : sU (sU g 5 1) 3 (q : Int) = gS g (figF c (p, ok)).1.1 (figF c (p, ok)).1.2 := by exact fig_g hfg hb9
          have e13 : @Eq Int ((figF c (p, ok)).2) (v) := by rw [hfg]
          exact v_ireturn hG hR dX12_figures_98 () (congrArg (fun z => some (vI z)) e13) (by trivial) (fun _ hM => by rw [← e12]; exact hM)
        · skip
          refine v_aload_n hG dX12_figures_39 rfl 0 rfl ?_
          refine mg_isWrong (z := 1) hG dX12_figures_40 rfl ?_
          refine v_if_ne (tgt := 97) hG dX12_figures_43 (by decide) (by omega) (fun c14 => ?_) (fun c14 => ?_)
          · skip
            refine v_iload_n hG dX12_figures_97 rfl 1 rfl ?_
            obtain ⟨b9, hb9, hfg⟩ : ∃ b : Bool, (1 : Int) = (if b then 0 else 1) ∧ figF c (p, ok) = ((q, b), v) := by first | exact ⟨true, rfl, fig_y (ok_t h5 (by omega)) (by assumption) (by assumption) (by (first | exact Or.inl (by omega) | exact Or.inr (Or.inl (by assumption)) | exact Or.inr (Or.inr ⟨by omega, by omega⟩)))⟩ | exact ⟨false, rfl, by obtain ⟨e1, e2⟩ := fi_0 (by assumption) (by omega); rw [e1, e2]; (first | exact fig_n (Or.inl (ok_f h5 (by assumption))) | exact fig_n (Or.inr (by assumption)))⟩
            have e15 : sU (sU g 5 1) 3 (q : Int) = gS g (figF c (p, ok)).1.1 (figF c (p, ok)).1.2 := by exact fig_g hfg hb9
            have e16 : @Eq Int ((figF c (p, ok)).2) (v) := by rw [hfg]
            exact v_ireturn hG hR dX12_figures_98 () (congrArg (fun z => some (vI z)) e16) (by trivial) (fun _ hM => by rw [← e15]; exact hM)
          · skip
            refine v_aload_n hG dX12_figures_46 rfl 0 rfl ?_
            refine v_callV (k1' := 0) (k2' := 0) hG dX12_figures_47 zc_X12_here ⟨zl_X12_55, zi_X12_here, zs_X12_here⟩ (fun l => k_here l D A a s im fr bY tr ln bl bo (sU (sU g 5 1) 3 (q : Int)) lg c q (by exact TP_g hTP (by rw [sU_ne (by omega), sU_ne (by omega)])) (by exact sU_eq) (by omega)) rfl mw_recv (fun _ h => h) ⟨by decide, by decide⟩ rfl rfl ⟨by decide, by decide⟩ (rest := []) rfl (Nat.le_of_ble_eq_true rfl) (fun u17 => [vI (c q)]) (fun _ => rfl) (fun u17 hu17 => ?_)
            have fu17 : -1 ≤ c q ∧ c q ≤ 127 := hu17
            refine v_bipush hG dX12_figures_50 (by decide) ?_
            refine v_bipush hG dX12_figures_52 (by decide) ?_
            refine v_callS (k1' := 0) (k2' := 0) hG dX12_figures_54 zc_X12_in ⟨zl_X12_41, zt_X12_in⟩ (fun l => k_in l D A (MW D A a s im fr bY tr ln bl bo (sU (sU g 5 1) 3 (q : Int)) lg) (c q) 48 57 (by omega) (by omega) (by omega)) rfl (fun _ h => h) ⟨by decide, by decide⟩ rfl rfl ⟨by decide, by decide⟩ (rest := []) rfl (Nat.le_of_ble_eq_true rfl) (fun u18 => [vI (bi (48 ≤ (c q) ∧ (c q) ≤ 57))]) (fun _ => rfl) (fun u18 hu18 => ?_)
            refine v_ifb_eq (p := 48 ≤ (c q) ∧ (c q) ≤ 57) (tgt := 97) hG dX12_figures_57 (by decide) (fun c19 => ?_) (fun c19 => ?_)
            · skip
              refine v_iload_n hG dX12_figures_97 rfl 1 rfl ?_
              obtain ⟨b9, hb9, hfg⟩ : ∃ b : Bool, (1 : Int) = (if b then 0 else 1) ∧ figF c (p, ok) = ((q, b), v) := by first | exact ⟨true, rfl, fig_y (ok_t h5 (by omega)) (by assumption) (by assumption) (by (first | exact Or.inl (by omega) | exact Or.inr (Or.inl (by assumption)) | exact Or.inr (Or.inr ⟨by omega, by omega⟩)))⟩ | exact ⟨false, rfl, by obtain ⟨e1, e2⟩ := fi_0 (by assumption) (by omega); rw [e1, e2]; (first | exact fig_n (Or.inl (ok_f h5 (by assumption))) | exact fig_n (Or.inr (by assumption)))⟩
              have e20 : sU (sU g 5 1) 3 (q : Int) = gS g (figF c (p, ok)).1.1 (figF c (p, ok)).1.2 := by exact fig_g hfg hb9
              have e21 : @Eq Int ((figF c (p, ok)).2) (v) := by rw [hfg]
              exact v_ireturn hG hR dX12_figures_98 () (congrArg (fun z => some (vI z)) e21) (by trivial) (fun _ hM => by rw [← e20]; exact hM)
            · skip
              refine v_iload_n hG dX12_figures_60 rfl 2 rfl ?_
              refine v_if_eq (tgt := 68) hG dX12_figures_61 (by decide) (by omega) (fun c22 => ?_) (fun c22 => ?_)
              · skip
                refine v_bipush hG dX12_figures_68 (by decide) ?_
                refine v_iload_n hG dX12_figures_70 rfl 1 rfl ?_
                refine v_imul hG dX12_figures_71 ?_
                refine v_aload_n hG dX12_figures_72 rfl 0 rfl ?_
                refine v_callV (k1' := 0) (k2' := 0) hG dX12_figures_73 zc_X12_here ⟨zl_X12_55, zi_X12_here, zs_X12_here⟩ (fun l => k_here l D A a s im fr bY tr ln bl bo (sU (sU g 5 1) 3 (q : Int)) lg c q (by exact TP_g hTP (by rw [sU_ne (by omega), sU_ne (by omega)])) (by exact sU_eq) (by omega)) rfl mw_recv (fun _ h => h) ⟨by decide, by decide⟩ rfl rfl ⟨by decide, by decide⟩ (rest := [vI (10 * v)]) rfl (Nat.le_of_ble_eq_true rfl) (fun u23 => [vI (c q), vI (10 * v)]) (fun _ => rfl) (fun u23 hu23 => ?_)
                have fu23 : -1 ≤ c q ∧ c q ≤ 127 := hu23
                refine v_iadd hG dX12_figures_76 ?_
                refine v_bipush hG dX12_figures_77 (by decide) ?_
                refine v_isub hG dX12_figures_79 ?_
                refine v_istore_n (lo' := [(1, vI (((10 * v) + (c q)) - 48)), (0, .ref (a 0)), (2, vI (k : Int))]) hG dX12_figures_80 rfl (by decide) rfl ?_
                refine v_aload_n hG dX12_figures_81 rfl 1 rfl ?_
                refine v_dup hG dX12_figures_82 rfl ?_
                refine mg_spot (z := (q : Int)) hG dX12_figures_83 rfl ?_
                refine v_iconst hG dX12_figures_86 ?_
                refine v_iadd hG dX12_figures_87 ?_
                refine mp_spot hG dX12_figures_88 ?_
                refine v_iinc (lo' := [(2, vI ((k : Int) + 1)), (1, vI (((10 * v) + (c q)) - 48)), (0, .ref (a 0))]) hG dX12_figures_91 2 rfl (by decide) rfl ?_
                refine v_goto (tgt := 34) hG dX12_figures_94 (by decide) ?_
                refine v_lo [2, 1, 0] (lo' := [(0, .ref (a 0)), (1, vI (((10 * v) + (c q)) - 48)), (2, vI ((k : Int) + 1))]) rfl ?_
                exact ihL5 _ (by omega) (k + 1) (q + 1) (((10 * v) + (c q)) - 48) (by omega) (by exact FI_step (by assumption) (by omega) (by assumption) (by omega)) (by omega) (by omega) rfl _ (by first | omega | rfl | (simp [c1, c11, c14, c19, c22]; done)) _ (by rfl) _ (by rw [sU_sU]; congr 1)
              · skip
                refine v_iload_n hG dX12_figures_64 rfl 1 rfl ?_
                refine v_if_le (tgt := 97) hG dX12_figures_65 (by decide) (by omega) (fun c24 => ?_) (fun c24 => ?_)
                · skip
                  refine v_iload_n hG dX12_figures_97 rfl 1 rfl ?_
                  obtain ⟨b9, hb9, hfg⟩ : ∃ b : Bool, (1 : Int) = (if b then 0 else 1) ∧ figF c (p, ok) = ((q, b), v) := by first | exact ⟨true, rfl, fig_y (ok_t h5 (by omega)) (by assumption) (by assumption) (by (first | exact Or.inl (by omega) | exact Or.inr (Or.inl (by assumption)) | exact Or.inr (Or.inr ⟨by omega, by omega⟩)))⟩ | exact ⟨false, rfl, by obtain ⟨e1, e2⟩ := fi_0 (by assumption) (by omega); rw [e1, e2]; (first | exact fig_n (Or.inl (ok_f h5 (by assumption))) | exact fig_n (Or.inr (by assumption)))⟩
                  have e25 : sU (sU g 5 1) 3 (q : Int) = gS g (figF c (p, ok)).1.1 (figF c (p, ok)).1.2 := by exact fig_g hfg hb9
                  have e26 : @Eq Int ((figF c (p, ok)).2) (v) := by rw [hfg]
                  exact v_ireturn hG hR dX12_figures_98 () (congrArg (fun z => some (vI z)) e26) (by trivial) (fun _ hM => by rw [← e25]; exact hM)
                · skip
                  refine v_bipush hG dX12_figures_68 (by decide) ?_
                  refine v_iload_n hG dX12_figures_70 rfl 1 rfl ?_
                  refine v_imul hG dX12_figures_71 ?_
                  refine v_aload_n hG dX12_figures_72 rfl 0 rfl ?_
                  refine v_callV (k1' := 0) (k2' := 0) hG dX12_figures_73 zc_X12_here ⟨zl_X12_55, zi_X12_here, zs_X12_here⟩ (fun l => k_here l D A a s im fr bY tr ln bl bo (sU (sU g 5 1) 3 (q : Int)) lg c q (by exact TP_g hTP (by rw [sU_ne (by omega), sU_ne (by omega)])) (by exact sU_eq) (by omega)) rfl mw_recv (fun _ h => h) ⟨by decide, by decide⟩ rfl rfl ⟨by decide, by decide⟩ (rest := [vI (10 * v)]) rfl (Nat.le_of_ble_eq_true rfl) (fun u27 => [vI (c q), vI (10 * v)]) (fun _ => rfl) (fun u27 hu27 => ?_)
                  have fu27 : -1 ≤ c q ∧ c q ≤ 127 := hu27
                  refine v_iadd hG dX12_figures_76 ?_
                  refine v_bipush hG dX12_figures_77 (by decide) ?_
                  refine v_isub hG dX12_figures_79 ?_
                  refine v_istore_n (lo' := [(1, vI (((10 * v) + (c q)) - 48)), (0, .ref (a 0)), (2, vI (k : Int))]) hG dX12_figures_80 rfl (by decide) rfl ?_
                  refine v_aload_n hG dX12_figures_81 rfl 1 rfl ?_
                  refine v_dup hG dX12_figures_82 rfl ?_
                  refine mg_spot (z := (q : Int)) hG dX12_figures_83 rfl ?_
                  refine v_iconst hG dX12_figures_86 ?_
                  refine v_iadd hG dX12_figures_87 ?_
                  refine mp_spot hG dX12_figures_88 ?_
                  refine v_iinc (lo' := [(2, vI ((k : Int) + 1)), (1, vI (((10 * v) + (c q)) - 48)), (0, .ref (a 0))]) hG dX12_figures_91 2 rfl (by decide) rfl ?_
                  refine v_goto (tgt := 34) hG dX12_figures_94 (by decide) ?_
                  refine v_lo [2, 1, 0] (lo' := [(0, .ref (a 0)), (1, vI (((10 * v) + (c q)) - 48)), (2, vI ((k : Int) + 1))]) rfl ?_
                  exact ihL5 _ (by omega) (k + 1) (q + 1) (((10 * v) + (c q)) - 48) (by omega) (by exact FI_step (by assumption) (by omega) (by assumption) (by omega)) (by omega) (by omega) rfl _ (by first | omega | rfl | (simp [c1, c11, c14, c19, c22, c24]; done)) _ (by rfl) _ (by rw [sU_sU]; congr 1)
    exact L5 _ 0 p 0 (by omega) (by exact Or.inl ⟨rfl, rfl, rfl⟩) (by omega) (by omega) rfl _ (by first | omega | rfl | (simp [c1]; done)) _ (by rfl) _ (by exact (sU_same (by rw [sU_ne (by omega)]; exact h3)).symm)
  · skip
    refine v_aload_n hG dX12_figures_8 rfl 0 rfl ?_
    refine v_callV (k1' := 0) (k2' := 0) hG dX12_figures_9 zc_X12_here ⟨zl_X12_55, zi_X12_here, zs_X12_here⟩ (fun l => k_here l D A a s im fr bY tr ln bl bo g lg c p (by first | assumption | exact TP_gS hTP) (by first | assumption | exact gS_3) (by omega)) rfl mw_recv (fun _ h => h) ⟨by decide, by decide⟩ rfl rfl ⟨by decide, by decide⟩ (rest := [.ref (a 0)]) rfl (Nat.le_of_ble_eq_true rfl) (fun u28 => [vI (c p), .ref (a 0)]) (fun _ => rfl) (fun u28 hu28 => ?_)
    have fu28 : -1 ≤ c p ∧ c p ≤ 127 := hu28
    refine v_bipush hG dX12_figures_12 (by decide) ?_
    refine v_bipush hG dX12_figures_14 (by decide) ?_
    refine v_callS (k1' := 0) (k2' := 0) hG dX12_figures_16 zc_X12_in ⟨zl_X12_41, zt_X12_in⟩ (fun l => k_in l D A (MW D A a s im fr bY tr ln bl bo g lg) (c p) 48 57 (by omega) (by omega) (by omega)) rfl (fun _ h => h) ⟨by decide, by decide⟩ rfl rfl ⟨by decide, by decide⟩ (rest := [.ref (a 0)]) rfl (Nat.le_of_ble_eq_true rfl) (fun u29 => [vI (bi (48 ≤ (c p) ∧ (c p) ≤ 57)), .ref (a 0)]) (fun _ => rfl) (fun u29 hu29 => ?_)
    refine v_ifb_ne (p := 48 ≤ (c p) ∧ (c p) ≤ 57) (tgt := 26) hG dX12_figures_19 (by decide) (fun c30 => ?_) (fun c30 => ?_)
    · skip
      refine v_iconst hG dX12_figures_26 ?_
      refine mp_isWrong hG dX12_figures_27 (Or.inl rfl) ?_
      refine v_iconst hG dX12_figures_30 ?_
      refine v_istore_n (lo' := [(1, vI 0), (0, .ref (a 0))]) hG dX12_figures_31 rfl (by decide) rfl ?_
      refine v_iconst hG dX12_figures_32 ?_
      refine v_istore_n (lo' := [(2, vI 0), (1, vI 0), (0, .ref (a 0))]) hG dX12_figures_33 rfl (by decide) rfl ?_
      refine v_lo [2, 1, 0] (lo' := [(0, .ref (a 0)), (1, vI 0), (2, vI 0)]) rfl ?_
      have L34 : ∀ mz : Nat, ∀ (k q : Nat) (v : Int), ((k : Int) ≤ 2) → (FI c p k q v) → ((0 : Int) = 1 → k = 0) → (q ≤ p + k) → 2 - k = mz → ∀ x31 : Int, x31 = ((k : Int)) → ∀ x32 : Int, x32 = (v) → ∀ x33 : Int → Int, x33 = (sU (sU g 5 0) 3 (q : Int)) → V G 0 0 (MW D A a s im fr bY tr ln bl bo x33 lg) 34 [(0, .ref (a 0)), (1, vI x32), (2, vI x31)] [] := by
        intro dL34
        induction dL34 using Nat.strongRecOn with
        | ind dL34 ihL34 =>
          intro k q v hq35 hq36 hq37 hq38 hq39
          intro x31 hx31
          subst hx31
          intro x32 hx32
          replace hx32 := hx32.symm
          subst hx32
          intro x33 hx33
          subst hx33
          have hfv := fi_v ‹FI c p k q v›
          refine v_iload_n hG dX12_figures_34 rfl 2 rfl ?_
          refine v_iconst hG dX12_figures_35 ?_
          refine v_icmp_ge (tgt := 97) hG dX12_figures_36 (by decide) (by omega) (by omega) (fun c40 => ?_) (fun c40 => ?_)
          · skip
            refine v_iload_n hG dX12_figures_97 rfl 1 rfl ?_
            obtain ⟨b9, hb9, hfg⟩ : ∃ b : Bool, (0 : Int) = (if b then 0 else 1) ∧ figF c (p, ok) = ((q, b), v) := by first | exact ⟨true, rfl, fig_y (ok_t h5 (by omega)) (by assumption) (by assumption) (by (first | exact Or.inl (by omega) | exact Or.inr (Or.inl (by assumption)) | exact Or.inr (Or.inr ⟨by omega, by omega⟩)))⟩ | exact ⟨false, rfl, by obtain ⟨e1, e2⟩ := fi_0 (by assumption) (by omega); rw [e1, e2]; (first | exact fig_n (Or.inl (ok_f h5 (by assumption))) | exact fig_n (Or.inr (by assumption)))⟩
            have e41 : sU (sU g 5 0) 3 (q : Int) = gS g (figF c (p, ok)).1.1 (figF c (p, ok)).1.2 := by exact fig_g hfg hb9
            have e42 : @Eq Int ((figF c (p, ok)).2) (v) := by rw [hfg]
            exact v_ireturn hG hR dX12_figures_98 () (congrArg (fun z => some (vI z)) e42) (by trivial) (fun _ hM => by rw [← e41]; exact hM)
          · skip
            refine v_aload_n hG dX12_figures_39 rfl 0 rfl ?_
            refine mg_isWrong (z := 0) hG dX12_figures_40 rfl ?_
            refine v_if_ne (tgt := 97) hG dX12_figures_43 (by decide) (by omega) (fun c43 => ?_) (fun c43 => ?_)
            · skip
              refine v_iload_n hG dX12_figures_97 rfl 1 rfl ?_
              obtain ⟨b9, hb9, hfg⟩ : ∃ b : Bool, (0 : Int) = (if b then 0 else 1) ∧ figF c (p, ok) = ((q, b), v) := by first | exact ⟨true, rfl, fig_y (ok_t h5 (by omega)) (by assumption) (by assumption) (by (first | exact Or.inl (by omega) | exact Or.inr (Or.inl (by assumption)) | exact Or.inr (Or.inr ⟨by omega, by omega⟩)))⟩ | exact ⟨false, rfl, by obtain ⟨e1, e2⟩ := fi_0 (by assumption) (by omega); rw [e1, e2]; (first | exact fig_n (Or.inl (ok_f h5 (by assumption))) | exact fig_n (Or.inr (by assumption)))⟩
              have e44 : sU (sU g 5 0) 3 (q : Int) = gS g (figF c (p, ok)).1.1 (figF c (p, ok)).1.2 := by exact fig_g hfg hb9
              have e45 : @Eq Int ((figF c (p, ok)).2) (v) := by rw [hfg]
              exact v_ireturn hG hR dX12_figures_98 () (congrArg (fun z => some (vI z)) e45) (by trivial) (fun _ hM => by rw [← e44]; exact hM)
            · skip
              refine v_aload_n hG dX12_figures_46 rfl 0 rfl ?_
              refine v_callV (k1' := 0) (k2' := 0) hG dX12_figures_47 zc_X12_here ⟨zl_X12_55, zi_X12_here, zs_X12_here⟩ (fun l => k_here l D A a s im fr bY tr ln bl bo (sU (sU g 5 0) 3 (q : Int)) lg c q (by exact TP_g hTP (by rw [sU_ne (by omega), sU_ne (by omega)])) (by exact sU_eq) (by omega)) rfl mw_recv (fun _ h => h) ⟨by decide, by decide⟩ rfl rfl ⟨by decide, by decide⟩ (rest := []) rfl (Nat.le_of_ble_eq_true rfl) (fun u46 => [vI (c q)]) (fun _ => rfl) (fun u46 hu46 => ?_)
              have fu46 : -1 ≤ c q ∧ c q ≤ 127 := hu46
              refine v_bipush hG dX12_figures_50 (by decide) ?_
              refine v_bipush hG dX12_figures_52 (by decide) ?_
              refine v_callS (k1' := 0) (k2' := 0) hG dX12_figures_54 zc_X12_in ⟨zl_X12_41, zt_X12_in⟩ (fun l => k_in l D A (MW D A a s im fr bY tr ln bl bo (sU (sU g 5 0) 3 (q : Int)) lg) (c q) 48 57 (by omega) (by omega) (by omega)) rfl (fun _ h => h) ⟨by decide, by decide⟩ rfl rfl ⟨by decide, by decide⟩ (rest := []) rfl (Nat.le_of_ble_eq_true rfl) (fun u47 => [vI (bi (48 ≤ (c q) ∧ (c q) ≤ 57))]) (fun _ => rfl) (fun u47 hu47 => ?_)
              refine v_ifb_eq (p := 48 ≤ (c q) ∧ (c q) ≤ 57) (tgt := 97) hG dX12_figures_57 (by decide) (fun c48 => ?_) (fun c48 => ?_)
              · skip
                refine v_iload_n hG dX12_figures_97 rfl 1 rfl ?_
                obtain ⟨b9, hb9, hfg⟩ : ∃ b : Bool, (0 : Int) = (if b then 0 else 1) ∧ figF c (p, ok) = ((q, b), v) := by first | exact ⟨true, rfl, fig_y (ok_t h5 (by omega)) (by assumption) (by assumption) (by (first | exact Or.inl (by omega) | exact Or.inr (Or.inl (by assumption)) | exact Or.inr (Or.inr ⟨by omega, by omega⟩)))⟩ | exact ⟨false, rfl, by obtain ⟨e1, e2⟩ := fi_0 (by assumption) (by omega); rw [e1, e2]; (first | exact fig_n (Or.inl (ok_f h5 (by assumption))) | exact fig_n (Or.inr (by assumption)))⟩
                have e49 : sU (sU g 5 0) 3 (q : Int) = gS g (figF c (p, ok)).1.1 (figF c (p, ok)).1.2 := by exact fig_g hfg hb9
                have e50 : @Eq Int ((figF c (p, ok)).2) (v) := by rw [hfg]
                exact v_ireturn hG hR dX12_figures_98 () (congrArg (fun z => some (vI z)) e50) (by trivial) (fun _ hM => by rw [← e49]; exact hM)
              · skip
                refine v_iload_n hG dX12_figures_60 rfl 2 rfl ?_
                refine v_if_eq (tgt := 68) hG dX12_figures_61 (by decide) (by omega) (fun c51 => ?_) (fun c51 => ?_)
                · skip
                  refine v_bipush hG dX12_figures_68 (by decide) ?_
                  refine v_iload_n hG dX12_figures_70 rfl 1 rfl ?_
                  refine v_imul hG dX12_figures_71 ?_
                  refine v_aload_n hG dX12_figures_72 rfl 0 rfl ?_
                  refine v_callV (k1' := 0) (k2' := 0) hG dX12_figures_73 zc_X12_here ⟨zl_X12_55, zi_X12_here, zs_X12_here⟩ (fun l => k_here l D A a s im fr bY tr ln bl bo (sU (sU g 5 0) 3 (q : Int)) lg c q (by exact TP_g hTP (by rw [sU_ne (by omega), sU_ne (by omega)])) (by exact sU_eq) (by omega)) rfl mw_recv (fun _ h => h) ⟨by decide, by decide⟩ rfl rfl ⟨by decide, by decide⟩ (rest := [vI (10 * v)]) rfl (Nat.le_of_ble_eq_true rfl) (fun u52 => [vI (c q), vI (10 * v)]) (fun _ => rfl) (fun u52 hu52 => ?_)
                  have fu52 : -1 ≤ c q ∧ c q ≤ 127 := hu52
                  refine v_iadd hG dX12_figures_76 ?_
                  refine v_bipush hG dX12_figures_77 (by decide) ?_
                  refine v_isub hG dX12_figures_79 ?_
                  refine v_istore_n (lo' := [(1, vI (((10 * v) + (c q)) - 48)), (0, .ref (a 0)), (2, vI (k : Int))]) hG dX12_figures_80 rfl (by decide) rfl ?_
                  refine v_aload_n hG dX12_figures_81 rfl 1 rfl ?_
                  refine v_dup hG dX12_figures_82 rfl ?_
                  refine mg_spot (z := (q : Int)) hG dX12_figures_83 rfl ?_
                  refine v_iconst hG dX12_figures_86 ?_
                  refine v_iadd hG dX12_figures_87 ?_
                  refine mp_spot hG dX12_figures_88 ?_
                  refine v_iinc (lo' := [(2, vI ((k : Int) + 1)), (1, vI (((10 * v) + (c q)) - 48)), (0, .ref (a 0))]) hG dX12_figures_91 2 rfl (by decide) rfl ?_
                  refine v_goto (tgt := 34) hG dX12_figures_94 (by decide) ?_
                  refine v_lo [2, 1, 0] (lo' := [(0, .ref (a 0)), (1, vI (((10 * v) + (c q)) - 48)), (2, vI ((k : Int) + 1))]) rfl ?_
                  exact ihL34 _ (by omega) (k + 1) (q + 1) (((10 * v) + (c q)) - 48) (by omega) (by exact FI_step (by assumption) (by omega) (by assumption) (by omega)) (by omega) (by omega) rfl _ (by first | omega | rfl | (simp [c1, c30, c40, c43, c48, c51]; done)) _ (by rfl) _ (by rw [sU_sU]; congr 1)
                · skip
                  refine v_iload_n hG dX12_figures_64 rfl 1 rfl ?_
                  refine v_if_le (tgt := 97) hG dX12_figures_65 (by decide) (by omega) (fun c53 => ?_) (fun c53 => ?_)
                  · skip
                    refine v_iload_n hG dX12_figures_97 rfl 1 rfl ?_
                    obtain ⟨b9, hb9, hfg⟩ : ∃ b : Bool, (0 : Int) = (if b then 0 else 1) ∧ figF c (p, ok) = ((q, b), v) := by first | exact ⟨true, rfl, fig_y (ok_t h5 (by omega)) (by assumption) (by assumption) (by (first | exact Or.inl (by omega) | exact Or.inr (Or.inl (by assumption)) | exact Or.inr (Or.inr ⟨by omega, by omega⟩)))⟩ | exact ⟨false, rfl, by obtain ⟨e1, e2⟩ := fi_0 (by assumption) (by omega); rw [e1, e2]; (first | exact fig_n (Or.inl (ok_f h5 (by assumption))) | exact fig_n (Or.inr (by assumption)))⟩
                    have e54 : sU (sU g 5 0) 3 (q : Int) = gS g (figF c (p, ok)).1.1 (figF c (p, ok)).1.2 := by exact fig_g hfg hb9
                    have e55 : @Eq Int ((figF c (p, ok)).2) (v) := by rw [hfg]
                    exact v_ireturn hG hR dX12_figures_98 () (congrArg (fun z => some (vI z)) e55) (by trivial) (fun _ hM => by rw [← e54]; exact hM)
                  · skip
                    refine v_bipush hG dX12_figures_68 (by decide) ?_
                    refine v_iload_n hG dX12_figures_70 rfl 1 rfl ?_
                    refine v_imul hG dX12_figures_71 ?_
                    refine v_aload_n hG dX12_figures_72 rfl 0 rfl ?_
                    refine v_callV (k1' := 0) (k2' := 0) hG dX12_figures_73 zc_X12_here ⟨zl_X12_55, zi_X12_here, zs_X12_here⟩ (fun l => k_here l D A a s im fr bY tr ln bl bo (sU (sU g 5 0) 3 (q : Int)) lg c q (by exact TP_g hTP (by rw [sU_ne (by omega), sU_ne (by omega)])) (by exact sU_eq) (by omega)) rfl mw_recv (fun _ h => h) ⟨by decide, by decide⟩ rfl rfl ⟨by decide, by decide⟩ (rest := [vI (10 * v)]) rfl (Nat.le_of_ble_eq_true rfl) (fun u56 => [vI (c q), vI (10 * v)]) (fun _ => rfl) (fun u56 hu56 => ?_)
                    have fu56 : -1 ≤ c q ∧ c q ≤ 127 := hu56
                    refine v_iadd hG dX12_figures_76 ?_
                    refine v_bipush hG dX12_figures_77 (by decide) ?_
                    refine v_isub hG dX12_figures_79 ?_
                    refine v_istore_n (lo' := [(1, vI (((10 * v) + (c q)) - 48)), (0, .ref (a 0)), (2, vI (k : Int))]) hG dX12_figures_80 rfl (by decide) rfl ?_
                    refine v_aload_n hG dX12_figures_81 rfl 1 rfl ?_
                    refine v_dup hG dX12_figures_82 rfl ?_
                    refine mg_spot (z := (q : Int)) hG dX12_figures_83 rfl ?_
                    refine v_iconst hG dX12_figures_86 ?_
                    refine v_iadd hG dX12_figures_87 ?_
                    refine mp_spot hG dX12_figures_88 ?_
                    refine v_iinc (lo' := [(2, vI ((k : Int) + 1)), (1, vI (((10 * v) + (c q)) - 48)), (0, .ref (a 0))]) hG dX12_figures_91 2 rfl (by decide) rfl ?_
                    refine v_goto (tgt := 34) hG dX12_figures_94 (by decide) ?_
                    refine v_lo [2, 1, 0] (lo' := [(0, .ref (a 0)), (1, vI (((10 * v) + (c q)) - 48)), (2, vI ((k : Int) + 1))]) rfl ?_
                    exact ihL34 _ (by omega) (k + 1) (q + 1) (((10 * v) + (c q)) - 48) (by omega) (by exact FI_step (by assumption) (by omega) (by assumption) (by omega)) (by omega) (by omega) rfl _ (by first | omega | rfl | (simp [c1, c30, c40, c43, c48, c51, c53]; done)) _ (by rfl) _ (by rw [sU_sU]; congr 1)
      exact L34 _ 0 p 0 (by omega) (by exact Or.inl ⟨rfl, rfl, rfl⟩) (by omega) (by omega) rfl _ (by first | omega | rfl | (simp [c1, c30]; done)) _ (by rfl) _ (by exact (sU_same (by rw [sU_ne (by omega)]; exact h3)).symm)
    · skip
      refine v_iconst hG dX12_figures_22 ?_
      refine v_goto (tgt := 27) hG dX12_figures_23 (by decide) ?_
      refine mp_isWrong hG dX12_figures_27 (Or.inr rfl) ?_
      refine v_iconst hG dX12_figures_30 ?_
      refine v_istore_n (lo' := [(1, vI 0), (0, .ref (a 0))]) hG dX12_figures_31 rfl (by decide) rfl ?_
      refine v_iconst hG dX12_figures_32 ?_
      refine v_istore_n (lo' := [(2, vI 0), (1, vI 0), (0, .ref (a 0))]) hG dX12_figures_33 rfl (by decide) rfl ?_
      refine v_lo [2, 1, 0] (lo' := [(0, .ref (a 0)), (1, vI 0), (2, vI 0)]) rfl ?_
      have L60 : ∀ mz : Nat, ∀ (k q : Nat) (v : Int), ((k : Int) ≤ 2) → (FI c p k q v) → ((1 : Int) = 1 → k = 0) → (q ≤ p + k) → 2 - k = mz → ∀ x57 : Int, x57 = ((k : Int)) → ∀ x58 : Int, x58 = (v) → ∀ x59 : Int → Int, x59 = (sU (sU g 5 1) 3 (q : Int)) → V G 0 0 (MW D A a s im fr bY tr ln bl bo x59 lg) 34 [(0, .ref (a 0)), (1, vI x58), (2, vI x57)] [] := by
        intro dL60
        induction dL60 using Nat.strongRecOn with
        | ind dL60 ihL60 =>
          intro k q v hq61 hq62 hq63 hq64 hq65
          intro x57 hx57
          subst hx57
          intro x58 hx58
          replace hx58 := hx58.symm
          subst hx58
          intro x59 hx59
          subst hx59
          have hfv := fi_v ‹FI c p k q v›
          refine v_iload_n hG dX12_figures_34 rfl 2 rfl ?_
          refine v_iconst hG dX12_figures_35 ?_
          refine v_icmp_ge (tgt := 97) hG dX12_figures_36 (by decide) (by omega) (by omega) (fun c66 => ?_) (fun c66 => ?_)
          · skip
            refine v_iload_n hG dX12_figures_97 rfl 1 rfl ?_
            obtain ⟨b9, hb9, hfg⟩ : ∃ b : Bool, (1 : Int) = (if b then 0 else 1) ∧ figF c (p, ok) = ((q, b), v) := by first | exact ⟨true, rfl, fig_y (ok_t h5 (by omega)) (by assumption) (by assumption) (by (first | exact Or.inl (by omega) | exact Or.inr (Or.inl (by assumption)) | exact Or.inr (Or.inr ⟨by omega, by omega⟩)))⟩ | exact ⟨false, rfl, by obtain ⟨e1, e2⟩ := fi_0 (by assumption) (by omega); rw [e1, e2]; (first | exact fig_n (Or.inl (ok_f h5 (by assumption))) | exact fig_n (Or.inr (by assumption)))⟩
            have e67 : sU (sU g 5 1) 3 (q : Int) = gS g (figF c (p, ok)).1.1 (figF c (p, ok)).1.2 := by exact fig_g hfg hb9
            have e68 : @Eq Int ((figF c (p, ok)).2) (v) := by rw [hfg]
            exact v_ireturn hG hR dX12_figures_98 () (congrArg (fun z => some (vI z)) e68) (by trivial) (fun _ hM => by rw [← e67]; exact hM)
          · skip
            refine v_aload_n hG dX12_figures_39 rfl 0 rfl ?_
            refine mg_isWrong (z := 1) hG dX12_figures_40 rfl ?_
            refine v_if_ne (tgt := 97) hG dX12_figures_43 (by decide) (by omega) (fun c69 => ?_) (fun c69 => ?_)
            · skip
              refine v_iload_n hG dX12_figures_97 rfl 1 rfl ?_
              obtain ⟨b9, hb9, hfg⟩ : ∃ b : Bool, (1 : Int) = (if b then 0 else 1) ∧ figF c (p, ok) = ((q, b), v) := by first | exact ⟨true, rfl, fig_y (ok_t h5 (by omega)) (by assumption) (by assumption) (by (first | exact Or.inl (by omega) | exact Or.inr (Or.inl (by assumption)) | exact Or.inr (Or.inr ⟨by omega, by omega⟩)))⟩ | exact ⟨false, rfl, by obtain ⟨e1, e2⟩ := fi_0 (by assumption) (by omega); rw [e1, e2]; (first | exact fig_n (Or.inl (ok_f h5 (by assumption))) | exact fig_n (Or.inr (by assumption)))⟩
              have e70 : sU (sU g 5 1) 3 (q : Int) = gS g (figF c (p, ok)).1.1 (figF c (p, ok)).1.2 := by exact fig_g hfg hb9
              have e71 : @Eq Int ((figF c (p, ok)).2) (v) := by rw [hfg]
              exact v_ireturn hG hR dX12_figures_98 () (congrArg (fun z => some (vI z)) e71) (by trivial) (fun _ hM => by rw [← e70]; exact hM)
            · skip
              refine v_aload_n hG dX12_figures_46 rfl 0 rfl ?_
              refine v_callV (k1' := 0) (k2' := 0) hG dX12_figures_47 zc_X12_here ⟨zl_X12_55, zi_X12_here, zs_X12_here⟩ (fun l => k_here l D A a s im fr bY tr ln bl bo (sU (sU g 5 1) 3 (q : Int)) lg c q (by exact TP_g hTP (by rw [sU_ne (by omega), sU_ne (by omega)])) (by exact sU_eq) (by omega)) rfl mw_recv (fun _ h => h) ⟨by decide, by decide⟩ rfl rfl ⟨by decide, by decide⟩ (rest := []) rfl (Nat.le_of_ble_eq_true rfl) (fun u72 => [vI (c q)]) (fun _ => rfl) (fun u72 hu72 => ?_)
              have fu72 : -1 ≤ c q ∧ c q ≤ 127 := hu72
              refine v_bipush hG dX12_figures_50 (by decide) ?_
              refine v_bipush hG dX12_figures_52 (by decide) ?_
              refine v_callS (k1' := 0) (k2' := 0) hG dX12_figures_54 zc_X12_in ⟨zl_X12_41, zt_X12_in⟩ (fun l => k_in l D A (MW D A a s im fr bY tr ln bl bo (sU (sU g 5 1) 3 (q : Int)) lg) (c q) 48 57 (by omega) (by omega) (by omega)) rfl (fun _ h => h) ⟨by decide, by decide⟩ rfl rfl ⟨by decide, by decide⟩ (rest := []) rfl (Nat.le_of_ble_eq_true rfl) (fun u73 => [vI (bi (48 ≤ (c q) ∧ (c q) ≤ 57))]) (fun _ => rfl) (fun u73 hu73 => ?_)
              refine v_ifb_eq (p := 48 ≤ (c q) ∧ (c q) ≤ 57) (tgt := 97) hG dX12_figures_57 (by decide) (fun c74 => ?_) (fun c74 => ?_)
              · skip
                refine v_iload_n hG dX12_figures_97 rfl 1 rfl ?_
                obtain ⟨b9, hb9, hfg⟩ : ∃ b : Bool, (1 : Int) = (if b then 0 else 1) ∧ figF c (p, ok) = ((q, b), v) := by first | exact ⟨true, rfl, fig_y (ok_t h5 (by omega)) (by assumption) (by assumption) (by (first | exact Or.inl (by omega) | exact Or.inr (Or.inl (by assumption)) | exact Or.inr (Or.inr ⟨by omega, by omega⟩)))⟩ | exact ⟨false, rfl, by obtain ⟨e1, e2⟩ := fi_0 (by assumption) (by omega); rw [e1, e2]; (first | exact fig_n (Or.inl (ok_f h5 (by assumption))) | exact fig_n (Or.inr (by assumption)))⟩
                have e75 : sU (sU g 5 1) 3 (q : Int) = gS g (figF c (p, ok)).1.1 (figF c (p, ok)).1.2 := by exact fig_g hfg hb9
                have e76 : @Eq Int ((figF c (p, ok)).2) (v) := by rw [hfg]
                exact v_ireturn hG hR dX12_figures_98 () (congrArg (fun z => some (vI z)) e76) (by trivial) (fun _ hM => by rw [← e75]; exact hM)
              · skip
                refine v_iload_n hG dX12_figures_60 rfl 2 rfl ?_
                refine v_if_eq (tgt := 68) hG dX12_figures_61 (by decide) (by omega) (fun c77 => ?_) (fun c77 => ?_)
                · skip
                  refine v_bipush hG dX12_figures_68 (by decide) ?_
                  refine v_iload_n hG dX12_figures_70 rfl 1 rfl ?_
                  refine v_imul hG dX12_figures_71 ?_
                  refine v_aload_n hG dX12_figures_72 rfl 0 rfl ?_
                  refine v_callV (k1' := 0) (k2' := 0) hG dX12_figures_73 zc_X12_here ⟨zl_X12_55, zi_X12_here, zs_X12_here⟩ (fun l => k_here l D A a s im fr bY tr ln bl bo (sU (sU g 5 1) 3 (q : Int)) lg c q (by exact TP_g hTP (by rw [sU_ne (by omega), sU_ne (by omega)])) (by exact sU_eq) (by omega)) rfl mw_recv (fun _ h => h) ⟨by decide, by decide⟩ rfl rfl ⟨by decide, by decide⟩ (rest := [vI (10 * v)]) rfl (Nat.le_of_ble_eq_true rfl) (fun u78 => [vI (c q), vI (10 * v)]) (fun _ => rfl) (fun u78 hu78 => ?_)
                  have fu78 : -1 ≤ c q ∧ c q ≤ 127 := hu78
                  refine v_iadd hG dX12_figures_76 ?_
                  refine v_bipush hG dX12_figures_77 (by decide) ?_
                  refine v_isub hG dX12_figures_79 ?_
                  refine v_istore_n (lo' := [(1, vI (((10 * v) + (c q)) - 48)), (0, .ref (a 0)), (2, vI (k : Int))]) hG dX12_figures_80 rfl (by decide) rfl ?_
                  refine v_aload_n hG dX12_figures_81 rfl 1 rfl ?_
                  refine v_dup hG dX12_figures_82 rfl ?_
                  refine mg_spot (z := (q : Int)) hG dX12_figures_83 rfl ?_
                  refine v_iconst hG dX12_figures_86 ?_
                  refine v_iadd hG dX12_figures_87 ?_
                  refine mp_spot hG dX12_figures_88 ?_
                  refine v_iinc (lo' := [(2, vI ((k : Int) + 1)), (1, vI (((10 * v) + (c q)) - 48)), (0, .ref (a 0))]) hG dX12_figures_91 2 rfl (by decide) rfl ?_
                  refine v_goto (tgt := 34) hG dX12_figures_94 (by decide) ?_
                  refine v_lo [2, 1, 0] (lo' := [(0, .ref (a 0)), (1, vI (((10 * v) + (c q)) - 48)), (2, vI ((k : Int) + 1))]) rfl ?_
                  exact ihL60 _ (by omega) (k + 1) (q + 1) (((10 * v) + (c q)) - 48) (by omega) (by exact FI_step (by assumption) (by omega) (by assumption) (by omega)) (by omega) (by omega) rfl _ (by first | omega | rfl | (simp [c1, c30, c66, c69, c74, c77]; done)) _ (by rfl) _ (by rw [sU_sU]; congr 1)
                · skip
                  refine v_iload_n hG dX12_figures_64 rfl 1 rfl ?_
                  refine v_if_le (tgt := 97) hG dX12_figures_65 (by decide) (by omega) (fun c79 => ?_) (fun c79 => ?_)
                  · skip
                    refine v_iload_n hG dX12_figures_97 rfl 1 rfl ?_
                    obtain ⟨b9, hb9, hfg⟩ : ∃ b : Bool, (1 : Int) = (if b then 0 else 1) ∧ figF c (p, ok) = ((q, b), v) := by first | exact ⟨true, rfl, fig_y (ok_t h5 (by omega)) (by assumption) (by assumption) (by (first | exact Or.inl (by omega) | exact Or.inr (Or.inl (by assumption)) | exact Or.inr (Or.inr ⟨by omega, by omega⟩)))⟩ | exact ⟨false, rfl, by obtain ⟨e1, e2⟩ := fi_0 (by assumption) (by omega); rw [e1, e2]; (first | exact fig_n (Or.inl (ok_f h5 (by assumption))) | exact fig_n (Or.inr (by assumption)))⟩
                    have e80 : sU (sU g 5 1) 3 (q : Int) = gS g (figF c (p, ok)).1.1 (figF c (p, ok)).1.2 := by exact fig_g hfg hb9
                    have e81 : @Eq Int ((figF c (p, ok)).2) (v) := by rw [hfg]
                    exact v_ireturn hG hR dX12_figures_98 () (congrArg (fun z => some (vI z)) e81) (by trivial) (fun _ hM => by rw [← e80]; exact hM)
                  · skip
                    refine v_bipush hG dX12_figures_68 (by decide) ?_
                    refine v_iload_n hG dX12_figures_70 rfl 1 rfl ?_
                    refine v_imul hG dX12_figures_71 ?_
                    refine v_aload_n hG dX12_figures_72 rfl 0 rfl ?_
                    refine v_callV (k1' := 0) (k2' := 0) hG dX12_figures_73 zc_X12_here ⟨zl_X12_55, zi_X12_here, zs_X12_here⟩ (fun l => k_here l D A a s im fr bY tr ln bl bo (sU (sU g 5 1) 3 (q : Int)) lg c q (by exact TP_g hTP (by rw [sU_ne (by omega), sU_ne (by omega)])) (by exact sU_eq) (by omega)) rfl mw_recv (fun _ h => h) ⟨by decide, by decide⟩ rfl rfl ⟨by decide, by decide⟩ (rest := [vI (10 * v)]) rfl (Nat.le_of_ble_eq_true rfl) (fun u82 => [vI (c q), vI (10 * v)]) (fun _ => rfl) (fun u82 hu82 => ?_)
                    have fu82 : -1 ≤ c q ∧ c q ≤ 127 := hu82
                    refine v_iadd hG dX12_figures_76 ?_
                    refine v_bipush hG dX12_figures_77 (by decide) ?_
                    refine v_isub hG dX12_figures_79 ?_
                    refine v_istore_n (lo' := [(1, vI (((10 * v) + (c q)) - 48)), (0, .ref (a 0)), (2, vI (k : Int))]) hG dX12_figures_80 rfl (by decide) rfl ?_
                    refine v_aload_n hG dX12_figures_81 rfl 1 rfl ?_
                    refine v_dup hG dX12_figures_82 rfl ?_
                    refine mg_spot (z := (q : Int)) hG dX12_figures_83 rfl ?_
                    refine v_iconst hG dX12_figures_86 ?_
                    refine v_iadd hG dX12_figures_87 ?_
                    refine mp_spot hG dX12_figures_88 ?_
                    refine v_iinc (lo' := [(2, vI ((k : Int) + 1)), (1, vI (((10 * v) + (c q)) - 48)), (0, .ref (a 0))]) hG dX12_figures_91 2 rfl (by decide) rfl ?_
                    refine v_goto (tgt := 34) hG dX12_figures_94 (by decide) ?_
                    refine v_lo [2, 1, 0] (lo' := [(0, .ref (a 0)), (1, vI (((10 * v) + (c q)) - 48)), (2, vI ((k : Int) + 1))]) rfl ?_
                    exact ihL60 _ (by omega) (k + 1) (q + 1) (((10 * v) + (c q)) - 48) (by omega) (by exact FI_step (by assumption) (by omega) (by assumption) (by omega)) (by omega) (by omega) rfl _ (by first | omega | rfl | (simp [c1, c30, c66, c69, c74, c77, c79]; done)) _ (by rfl) _ (by rw [sU_sU]; congr 1)
      exact L60 _ 0 p 0 (by omega) (by exact Or.inl ⟨rfl, rfl, rfl⟩) (by omega) (by omega) rfl _ (by first | omega | rfl | (simp [c1, c30]; done)) _ (by rfl) _ (by exact (sU_same (by rw [sU_ne (by omega)]; exact h3)).symm)
set_option maxHeartbeats 4000000 in
set_option maxRecDepth 100000 in
theorem k_among (l : Launch) (D : Dx) (A : Nat → Prop) (a : Nat → Nat) (s im fr bY tr ln bl bo g lg : Int → Int) (i : Nat) (hi : i < 7) (c : Nat → Int) (p : Nat) (hTP : TP s g c) (h3 : g 3 = (p : Int)) (hpb : (p : Int) ≤ 900) : CT l D A yX12_among cX12_among 3 (some .int) { frames := 4, cells := 0, slots := 0, locals := 101 } [.ref (a 0), .ref (zK D i)] (MW D A a s im fr bY tr ln bl bo g lg) (fun _ : Unit => some (vI (zix i (c p)))) (fun _ => -1 ≤ zix i (c p) ∧ zix i (c p) ≤ 16) (fun _ => MW D A a s im fr bY tr ln bl bo (amG g p (zix i (c p))) lg) := by
  refine ct_of (lo0 := [(0, .ref (a 0)), (1, .ref (zK D i))]) (by decide) (Nat.le_of_ble_eq_true rfl) rfl ?_
  intro G hG hR
  have hz := zn_rng i hi
  refine v_iconst hG dX12_among_0 ?_
  refine v_istore_n (lo' := [(2, vI 0), (0, .ref (a 0)), (1, .ref (zK D i))]) hG dX12_among_1 rfl (by decide) rfl ?_
  refine v_lo [1, 2, 0] (lo' := [(0, .ref (a 0)), (1, .ref (zK D i)), (2, vI 0)]) rfl ?_
  have L2 : ∀ mz : Nat, ∀ (k : Nat), ((k : Int) ≤ zn i) → (leastM (fun k => decide (zch i (k : Int) = c p)) k = -1) → (zn i - (k : Int)).toNat = mz → ∀ x1 : Int, x1 = ((k : Int)) → V G 0 0 (MW D A a s im fr bY tr ln bl bo g lg) 2 [(0, .ref (a 0)), (1, .ref (zK D i)), (2, vI x1)] [] := by
    intro dL2
    induction dL2 using Nat.strongRecOn with
    | ind dL2 ihL2 =>
      intro k hq3 hq4 hq5
      intro x1 hx1
      subst hx1
      refine v_iload_n hG dX12_among_2 rfl 2 rfl ?_
      refine v_aload_n hG dX12_among_3 rfl 1 rfl ?_
      refine v_callK hi rfl (k1' := 0) (k2' := 0) hG dX12_among_4 zc_J0_length_8abf5 ⟨zl_X12_59, zi_J0_length_8abf5, zs_J0_length_8abf5⟩ (fun l => k_length_8abf5 l D A (MW D A a s im fr bY tr ln bl bo g lg) i (by first | assumption | decide)) rfl (fun _ h => h) ⟨by decide, by decide⟩ rfl rfl ⟨by decide, by decide⟩ (rest := [vI (k : Int)]) rfl (Nat.le_of_ble_eq_true rfl) (fun u6 => [vI (zn i), vI (k : Int)]) (fun _ => rfl) (fun u6 hu6 => ?_)
      refine v_icmp_ge (tgt := 40) hG dX12_among_7 (by decide) (by omega) (by omega) (fun c7 => ?_) (fun c7 => ?_)
      · skip
        refine v_iconst hG dX12_among_40 ?_
        have hix : zix i (c p) = -1 := am_none (by assumption) (by omega)
        have e8 : g = amG g p (zix i (c p)) := by unfold amG; rw [hix, if_pos rfl]
        have e9 : @Eq Int (zix i (c p)) (-1) := by exact hix
        exact v_ireturn hG hR dX12_among_41 () (congrArg (fun z => some (vI z)) e9) (by have hz9 := zix_rng i (c p); omega) (fun _ hM => by rw [← e8]; exact hM)
      · skip
        have hch := zch_rng i hi (k := (k : Int)) (by omega)
        refine v_aload_n hG dX12_among_10 rfl 0 rfl ?_
        refine v_callV (k1' := 0) (k2' := 0) hG dX12_among_11 zc_X12_here ⟨zl_X12_55, zi_X12_here, zs_X12_here⟩ (fun l => k_here l D A a s im fr bY tr ln bl bo g lg c p (by first | assumption | exact TP_gS hTP) (by first | assumption | exact gS_3) (by omega)) rfl mw_recv (fun _ h => h) ⟨by decide, by decide⟩ rfl rfl ⟨by decide, by decide⟩ (rest := []) rfl (Nat.le_of_ble_eq_true rfl) (fun u10 => [vI (c p)]) (fun _ => rfl) (fun u10 hu10 => ?_)
        have fu10 : -1 ≤ c p ∧ c p ≤ 127 := hu10
        refine v_aload_n hG dX12_among_14 rfl 1 rfl ?_
        refine v_iload_n hG dX12_among_15 rfl 2 rfl ?_
        refine v_callK hi rfl (k1' := 0) (k2' := 0) hG dX12_among_16 zc_J0_charAt_5068e ⟨zl_X12_64, zi_J0_charAt_5068e, zs_J0_charAt_5068e⟩ (fun l => k_charAt_5068e l D A (MW D A a s im fr bY tr ln bl bo g lg) (k : Int) i (by first | assumption | decide) (by omega)) rfl (fun _ h => h) ⟨by decide, by decide⟩ rfl rfl ⟨by decide, by decide⟩ (rest := [vI (c p)]) rfl (Nat.le_of_ble_eq_true rfl) (fun u11 => [vI (zch i (k : Int)), vI (c p)]) (fun _ => rfl) (fun u11 hu11 => ?_)
        refine v_icmp_ne (tgt := 34) hG dX12_among_19 (by decide) (by omega) (by omega) (fun c12 => ?_) (fun c12 => ?_)
        · skip
          refine v_iinc (lo' := [(2, vI ((k : Int) + 1)), (0, .ref (a 0)), (1, .ref (zK D i))]) hG dX12_among_34 2 rfl (by decide) rfl ?_
          refine v_goto (tgt := 2) hG dX12_among_37 (by decide) ?_
          refine v_lo [1, 2, 0] (lo' := [(0, .ref (a 0)), (1, .ref (zK D i)), (2, vI ((k : Int) + 1))]) rfl ?_
          exact ihL2 _ (by omega) (k + 1) (by omega) (by exact am_stay (by assumption) (by assumption)) rfl _ (by first | omega | rfl | (simp [c7, c12]; done))
        · skip
          refine v_aload_n hG dX12_among_22 rfl 0 rfl ?_
          refine v_dup hG dX12_among_23 rfl ?_
          refine mg_spot (z := g 3) hG dX12_among_24 rfl ?_
          refine v_iconst hG dX12_among_27 ?_
          refine v_iadd hG dX12_among_28 ?_
          refine mp_spot hG dX12_among_29 ?_
          refine v_iload_n hG dX12_among_32 rfl 2 rfl ?_
          have hix : zix i (c p) = k := am_hit (by assumption) (by assumption) (show k < (zn i).toNat by omega) rfl
          have e13 : sU g 3 ((g 3) + 1) = amG g p (zix i (c p)) := by unfold amG; rw [hix, if_neg (by omega), h3]
          have e14 : @Eq Int (zix i (c p)) ((k : Int)) := by exact hix
          exact v_ireturn hG hR dX12_among_33 () (congrArg (fun z => some (vI z)) e14) (by have hz9 := zix_rng i (c p); omega) (fun _ hM => by rw [← e13]; exact hM)
  exact L2 _ 0 (by omega) (by rfl) rfl _ (by first | omega | rfl | (simp []; done))
set_option maxHeartbeats 4000000 in
set_option maxRecDepth 100000 in
theorem k_emits (l : Launch) (D : Dx) (A : Nat → Prop) (a : Nat → Nat) (s im fr bY tr ln bl bo g lg : Int → Int) (x : Int) (hA : 0 ≤ g 2 ∧ g 2 ≤ 4) (hs : 0 ≤ s (268 + g 2) ∧ s (268 + g 2) ≤ 139) (h55 : g 5 = 0 ∨ g 5 = 1) : CT l D A yX12_emits cX12_emits 2 none { frames := 0, cells := 0, slots := 0, locals := 0 } [.ref (a 0), vI x] (MW D A a s im fr bY tr ln bl bo g lg) (fun _ : Unit => none) (fun _ => True) (fun _ => MW D A a (if g 5 = 0 then em1 s (g 2) x else s) im fr bY tr ln bl bo g lg) := by
  refine ct_of (lo0 := [(0, .ref (a 0)), (1, vI x)]) (by decide) (Nat.le_of_ble_eq_true rfl) rfl ?_
  intro G hG hR
  refine v_aload_n hG dX12_emits_0 rfl 0 rfl ?_
  refine mg_isWrong (z := g 5) hG dX12_emits_1 rfl ?_
  refine v_if_ne (tgt := 56) hG dX12_emits_4 (by decide) (by omega) (fun c1 => ?_) (fun c1 => ?_)
  · skip
    have e2 : s = if g 5 = 0 then em1 s (g 2) x else s := by first | rfl | (simp only [em1, if_neg c1]; done) | (simp only [em1, if_neg c1]; done) | (simp only [em1, if_neg c1]; rfl) | (simp only [em1, if_neg c1]; omega)
    exact v_return hG hR dX12_emits_56 () rfl (by trivial) (fun _ hM => by rw [← e2]; exact hM)
  · skip
    refine v_aload_n hG dX12_emits_7 rfl 0 rfl ?_
    refine mg_s hG dX12_emits_8 ?_
    refine v_sipush hG dX12_emits_11 (by decide) ?_
    refine v_sipush hG dX12_emits_14 (by decide) ?_
    refine v_aload_n hG dX12_emits_17 rfl 0 rfl ?_
    refine mg_act (z := g 2) hG dX12_emits_18 rfl ?_
    refine v_imul hG dX12_emits_21 ?_
    refine v_iadd hG dX12_emits_22 ?_
    refine v_aload_n hG dX12_emits_23 rfl 0 rfl ?_
    refine mg_s hG dX12_emits_24 ?_
    refine v_sipush hG dX12_emits_27 (by decide) ?_
    refine v_aload_n hG dX12_emits_30 rfl 0 rfl ?_
    refine mg_act (z := g 2) hG dX12_emits_31 rfl ?_
    refine v_iadd hG dX12_emits_34 ?_
    refine ma_s (z := s (268 + (g 2))) hG dX12_emits_35 (by omega) rfl ?_
    refine v_iadd hG dX12_emits_36 ?_
    refine v_iload_n hG dX12_emits_37 rfl 1 rfl ?_
    refine ms_s hG dX12_emits_38 (by omega) ?_
    refine v_aload_n hG dX12_emits_39 rfl 0 rfl ?_
    refine mg_s hG dX12_emits_40 ?_
    refine v_sipush hG dX12_emits_43 (by decide) ?_
    refine v_aload_n hG dX12_emits_46 rfl 0 rfl ?_
    refine mg_act (z := g 2) hG dX12_emits_47 rfl ?_
    refine v_iadd hG dX12_emits_50 ?_
    refine v_dup2 hG dX12_emits_51 rfl rfl ?_
    refine ma_s (z := s (268 + (g 2))) hG dX12_emits_52 (by omega) (by rw [sU_ne (by omega)]) ?_
    refine v_iconst hG dX12_emits_53 ?_
    refine v_iadd hG dX12_emits_54 ?_
    refine ms_s hG dX12_emits_55 (by omega) ?_
    have e3 : sU (sU s ((273 + (140 * (g 2))) + (s (268 + (g 2)))) x) (268 + (g 2)) ((s (268 + (g 2))) + 1) = if g 5 = 0 then em1 s (g 2) x else s := by first | rfl | (simp only [em1, if_pos c1]; done) | (simp only [em1, if_pos c1]; done) | (simp only [em1, if_pos c1]; rfl) | (simp only [em1, if_pos c1]; omega)
    exact v_return hG hR dX12_emits_56 () rfl (by trivial) (fun _ hM => by rw [← e3]; exact hM)
set_option maxHeartbeats 4000000 in
set_option maxRecDepth 100000 in
theorem k_factorW (l : Launch) (D : Dx) (A : Nat → Prop) (a : Nat → Nat) (s im fr bY tr ln bl bo g lg : Int → Int) (h5w : g 5 = 1) : CT l D A yX12_factor cX12_factor 5 none { frames := 5, cells := 0, slots := 0, locals := 123 } [.ref (a 0)] (MW D A a s im fr bY tr ln bl bo g lg) (fun _ : Unit => none) (fun _ => True) (fun _ => MW D A a s im fr bY tr ln bl bo g lg) := by
  refine ct_of (lo0 := [(0, .ref (a 0))]) (by decide) (Nat.le_of_ble_eq_true rfl) rfl ?_
  intro G hG hR
  refine v_aload_n hG dX12_factor_0 rfl 0 rfl ?_
  refine mg_isWrong (z := g 5) hG dX12_factor_1 rfl ?_
  refine v_if_eq (tgt := 8) hG dX12_factor_4 (by decide) (by omega) (fun c1 => ?_) (fun c1 => ?_)
  · skip
    exfalso; omega
  · skip
    exact v_return hG hR dX12_factor_7 () rfl (by trivial) (fun _ hM => hM)
set_option maxHeartbeats 4000000 in
set_option maxRecDepth 100000 in
theorem k_everyW (l : Launch) (D : Dx) (A : Nat → Prop) (a : Nat → Nat) (s im fr bY tr ln bl bo g lg : Int → Int) (h5w : g 5 = 1) : CT l D A yX12_every cX12_every 1 none { frames := 6, cells := 0, slots := 0, locals := 147 } [.ref (a 0)] (MW D A a s im fr bY tr ln bl bo g lg) (fun _ : Unit => none) (fun _ => True) (fun _ => MW D A a s im fr bY tr ln bl bo g lg) := by
  refine ct_of (lo0 := [(0, .ref (a 0))]) (by decide) (Nat.le_of_ble_eq_true rfl) rfl ?_
  intro G hG hR
  refine v_aload_n hG dX12_every_0 rfl 0 rfl ?_
  refine v_callV (k1' := 0) (k2' := 0) hG dX12_every_1 zc_X12_factor ⟨zl_X12_78, zi_X12_factor, zs_X12_factor⟩ (fun l => k_factorW l D A a s im fr bY tr ln bl bo g lg (by omega)) rfl mw_recv (fun _ h => h) ⟨by decide, by decide⟩ rfl rfl ⟨by decide, by decide⟩ (rest := []) rfl (Nat.le_of_ble_eq_true rfl) (fun u1 => []) (fun _ => rfl) (fun u1 hu1 => ?_)
  refine v_aload_n hG dX12_every_4 rfl 0 rfl ?_
  refine mg_isWrong (z := g 5) hG dX12_every_5 rfl ?_
  refine v_if_ne (tgt := 43) hG dX12_every_8 (by decide) (by omega) (fun c2 => ?_) (fun c2 => ?_)
  · skip
    exact v_return hG hR dX12_every_43 () rfl (by trivial) (fun _ hM => hM)
  · skip
    exfalso; omega
set_option maxHeartbeats 4000000 in
set_option maxRecDepth 100000 in
theorem k_someW (l : Launch) (D : Dx) (A : Nat → Prop) (a : Nat → Nat) (s im fr bY tr ln bl bo g lg : Int → Int) (h5w : g 5 = 1) : CT l D A yX12_some cX12_some 1 none { frames := 7, cells := 0, slots := 0, locals := 167 } [.ref (a 0)] (MW D A a s im fr bY tr ln bl bo g lg) (fun _ : Unit => none) (fun _ => True) (fun _ => MW D A a s im fr bY tr ln bl bo g lg) := by
  refine ct_of (lo0 := [(0, .ref (a 0))]) (by decide) (Nat.le_of_ble_eq_true rfl) rfl ?_
  intro G hG hR
  refine v_aload_n hG dX12_some_0 rfl 0 rfl ?_
  refine v_callV (k1' := 0) (k2' := 0) hG dX12_some_1 zc_X12_every ⟨zl_X12_98, zi_X12_every, zs_X12_every⟩ (fun l => k_everyW l D A a s im fr bY tr ln bl bo g lg (by omega)) rfl mw_recv (fun _ h => h) ⟨by decide, by decide⟩ rfl rfl ⟨by decide, by decide⟩ (rest := []) rfl (Nat.le_of_ble_eq_true rfl) (fun u1 => []) (fun _ => rfl) (fun u1 hu1 => ?_)
  refine v_aload_n hG dX12_some_4 rfl 0 rfl ?_
  refine mg_isWrong (z := g 5) hG dX12_some_5 rfl ?_
  refine v_if_ne (tgt := 43) hG dX12_some_8 (by decide) (by omega) (fun c2 => ?_) (fun c2 => ?_)
  · skip
    exact v_return hG hR dX12_some_43 () rfl (by trivial) (fun _ hM => hM)
  · skip
    exfalso; omega
