/-! THE MODEL: the parser by levels -/
theorem gS_2 {g : Int → Int} {p : Nat} {ok : Bool} : gS g p ok 2 = g 2 := gS_q (by omega) (by omega)
theorem gS_4 {g : Int → Int} {p : Nat} {ok : Bool} : gS g p ok 4 = g 4 := gS_q (by omega) (by omega)
theorem gS_6 {g : Int → Int} {p : Nat} {ok : Bool} : gS g p ok 6 = g 6 := gS_q (by omega) (by omega)
theorem gS_50 {g : Int → Int} {p : Nat} : gS g p true 5 = 0 := gS_5
theorem gS_51 {g : Int → Int} {p : Nat} : gS g p false 5 = 1 := gS_5
theorem gS_01 {g : Int → Int} {p : Nat} {ok : Bool} : gS g p ok 5 = 0 ∨ gS g p ok 5 = 1 := by rw [gS_5]; cases ok <;> simp
def emS (s : Int → Int) (a : Int) : List Int → Int → Int
  | [] => s
  | x :: r => emS (em1 s a x) a r
theorem emS_268 {a : Int} : ∀ {L : List Int} {s : Int → Int}, emS s a L (268 + a) = s (268 + a) + (L.length : Int)
  | [], s => by show s (268 + a) = s (268 + a) + ((0 : Nat) : Int); omega
  | x :: r, s => by
    show emS (em1 s a x) a r (268 + a) = _
    rw [emS_268 (L := r), show em1 s a x (268 + a) = s (268 + a) + 1 from sU_eq, List.length_cons]
    omega
theorem emS_out {a q : Int} (h0 : q < 268 ∨ (q < 273 ∧ q ≠ 268 + a)) (ha : 0 ≤ a) : ∀ {L : List Int} {s : Int → Int}, 0 ≤ s (268 + a) → emS s a L q = s q
  | [], _, _ => rfl
  | x :: r, s, hs => by
    show emS (em1 s a x) a r q = _
    have e1 : em1 s a x (268 + a) = s (268 + a) + 1 := sU_eq
    rw [emS_out h0 ha (L := r) (by rw [e1]; omega)]
    unfold em1
    rw [sU_ne (by omega), sU_ne (by omega)]
theorem emS_app {a : Int} : ∀ {x y : List Int} {s : Int → Int}, emS (emS s a x) a y = emS s a (x ++ y)
  | [], _, _ => rfl
  | _ :: r, y, s => emS_app (x := r) (y := y)
theorem TP_emS {s g : Int → Int} {c : Nat → Int} {a : Int} {L : List Int} (h : TP s g c) (ha : 0 ≤ a) (hs : 0 ≤ s (268 + a)) : TP (emS s a L) g c := by
  refine ⟨h.1, fun p => ?_, h.2.2⟩
  rw [h.2.1 p]
  have := h.1
  by_cases q : (p : Int) < g 4
  · rw [if_pos q, if_pos q, emS_out (by omega) ha hs]
  · rw [if_neg q, if_neg q]
theorem emit_l {s g : Int → Int} {p : Nat} {ok : Bool} {L : List Int} {x : Int} : (if gS g p ok 5 = 0 then em1 (emS s (g 2) L) (gS g p ok 2) x else emS s (g 2) L) = emS s (g 2) (L ++ (if ok = true then [x] else [])) := by
  rw [gS_2]
  cases ok
  · rw [gS_51, if_neg (by omega)]; simp
  · rw [gS_50, if_pos rfl, ← emS_app]; rfl
theorem evL_stop {f : Nat → R3} {c : Nat → Int} {sep op : Int} {F : Nat} {r : R3} (h : r.2.1 = false ∨ ¬ c r.1 = sep) : evL f c sep op F r = r := by
  cases F with
  | zero => rfl
  | succ F => exact if_neg (fun z => by rcases h with h | h; exact absurd (z.1.symm.trans h) (by decide); exact h z.2)
theorem evL_go {f : Nat → R3} {c : Nat → Int} {sep op : Int} {F : Nat} {r : R3} (hF : 1 ≤ F) (h : r.2.1 = true) (h2 : c r.1 = sep) : evL f c sep op F r = evL f c sep op (F - 1) ((f (r.1 + 1)).1, (f (r.1 + 1)).2.1, r.2.2 ++ (f (r.1 + 1)).2.2 ++ (if (f (r.1 + 1)).2.1 = true then [op] else [])) := by
  obtain ⟨F, rfl⟩ : ∃ G, F = G + 1 := ⟨F - 1, by omega⟩
  exact if_pos ⟨h, h2⟩
theorem RB_go {f : Nat → R3} {n p : Nat} {r : R3} {op : Int} (hr : RB n p r) (hf : RB n (r.1 + 1) (f (r.1 + 1))) : RB n p ((f (r.1 + 1)).1, (f (r.1 + 1)).2.1, r.2.2 ++ (f (r.1 + 1)).2.2 ++ (if (f (r.1 + 1)).2.1 = true then [op] else [])) := by
  obtain ⟨a1, a2, a3⟩ := hf
  obtain ⟨b1, b2, b3⟩ := hr
  refine ⟨by show p ≤ (f (r.1 + 1)).1; omega, a2, ?_⟩
  show List.length (r.2.2 ++ (f (r.1 + 1)).2.2 ++ (if (f (r.1 + 1)).2.1 = true then [op] else [])) + p ≤ (f (r.1 + 1)).1
  rw [List.length_append, List.length_append]
  have : List.length (if (f (r.1 + 1)).2.1 = true then [op] else []) ≤ 1 := by split <;> simp
  omega
theorem sp1 {g : Int → Int} {p : Nat} {ok : Bool} (h : ok = true) : sU (gS g p ok) 3 (gS g p ok 3 + 1) = gS g (p + 1) true := by
  subst h
  rw [gS_3]
  unfold gS
  rw [sU_sU]
  rfl
theorem in6 {g : Int → Int} {p : Nat} {x : Int} (h3 : g 3 = p) : sU (sU (sU g 5 0) 6 x) 3 (g 3 + 1) = sU (gS g (p + 1) true) 6 x := by
  rw [h3]; funext q; simp only [gS, sU]; (repeat' split) <;> first | rfl | omega | simp_all
theorem in6w {g : Int → Int} {p : Nat} {x : Int} (h3 : g 3 = p) : sU (sU (sU g 5 1) 6 x) 3 (g 3 + 0) = sU (gS g p false) 6 x := by
  rw [h3]; funext q; simp only [gS, sU]; (repeat' split) <;> first | rfl | omega | simp_all
theorem gS_s6 {g : Int → Int} {p p' : Nat} {ok ok' : Bool} {x : Int} : gS (sU (gS g p ok) 6 x) p' ok' = sU (gS g p' ok') 6 x := by
  funext q; simp only [gS, sU]; (repeat' split) <;> first | rfl | omega
theorem out6 {g : Int → Int} {p : Nat} {ok : Bool} {x y : Int} (h : y = g 6) : sU (sU (gS g p ok) 6 x) 6 y = gS g p ok := by
  subst h; funext q; simp only [gS, sU]; (repeat' split) <;> first | rfl | omega | simp_all
theorem s6_2 {g : Int → Int} {x : Int} : sU g 6 x 2 = g 2 := sU_ne (by omega)
theorem s6_3 {g : Int → Int} {x : Int} : sU g 6 x 3 = g 3 := sU_ne (by omega)
theorem s6_4 {g : Int → Int} {x : Int} : sU g 6 x 4 = g 4 := sU_ne (by omega)
theorem s6_5 {g : Int → Int} {x : Int} : sU g 6 x 5 = g 5 := sU_ne (by omega)
theorem emit_6 {s g : Int → Int} {p : Nat} {ok : Bool} {L : List Int} {x y : Int} : (if sU (gS g p ok) 6 y 5 = 0 then em1 (emS s (g 2) L) (sU (gS g p ok) 6 y 2) x else emS s (g 2) L) = emS s (g 2) (L ++ (if ok = true then [x] else [])) := by
  rw [s6_5, s6_2]; exact emit_l
theorem am_n {g : Int → Int} {p : Nat} {z : Int} (h3 : g 3 = p) (h : z = -1) : sU (amG g p z) 5 1 = gS g p false := by
  unfold amG; rw [if_pos h]
  refine gS_of ?_ sU_eq ?_
  · rw [sU_ne (by omega)]; exact h3
  · intro q a b; exact sU_ne b
theorem am_y {g : Int → Int} {p : Nat} {z : Int} (h : ¬ z = -1) : sU (amG g p z) 5 0 = gS g (p + 1) true := by
  unfold amG; rw [if_neg h]
  refine gS_of ?_ sU_eq ?_
  · rw [sU_ne (by omega), sU_eq]; omega
  · intro q a b; rw [sU_ne b, sU_ne a]
theorem gS_s5 {g : Int → Int} {p : Nat} : sU (gS g p false) 5 1 = gS g p false := by
  refine (sU_same ?_); exact gS_51
theorem am_5 {g : Int → Int} {p : Nat} {z : Int} : amG g p z 5 = g 5 := by
  unfold amG; split
  · rfl
  · exact sU_ne (by omega)
theorem fac_at {c : Nat → Int} {o p : Nat} (h : ¬ c p = 33) (h2 : ¬ c p = 40) : facF c o p = atomF c p := by
  cases o with
  | zero => exact if_neg (fun z => by rcases z with z | z; exact h z; exact h2 z)
  | succ o => unfold facF; rw [if_neg h, if_neg h2]
theorem fac_o {c : Nat → Int} {p : Nat} (h : c p = 33 ∨ c p = 40) : facF c 0 p = (p, false, []) := if_pos h
theorem fac_n {c : Nat → Int} {o p : Nat} (h : c p = 33) : facF c (o + 1) p = ((facF c o (p + 1)).1, (facF c o (p + 1)).2.1, (facF c o (p + 1)).2.2 ++ (if (facF c o (p + 1)).2.1 = true then [-1] else [])) := if_pos h
theorem fac_p {c : Nat → Int} {o p : Nat} (h : c p = 40) : facF c (o + 1) p = ((mustF c 41 ((someF (facF c o) c (p + 1)).1, (someF (facF c o) c (p + 1)).2.1)).1, (mustF c 41 ((someF (facF c o) c (p + 1)).1, (someF (facF c o) c (p + 1)).2.1)).2, (someF (facF c o) c (p + 1)).2.2) := by
  unfold facF; rw [if_neg (by omega), if_pos h]
theorem figF_f {c : Nat → Int} {p : Nat} : figF c (p, false) = ((p, false), 0) := fig_n (Or.inl rfl)
theorem at_A {c : Nat → Int} {p : Nat} (h : zix 1 (c p) = -1) : atomF c p = (p, false, []) := if_pos h
theorem at_B {c : Nat → Int} {p : Nat} (h : ¬ zix 1 (c p) = -1) (h2 : zix 2 (c (p + 1)) = -1) : atomF c p = (p + 1, false, []) := by
  unfold atomF; rw [if_neg h, if_pos h2]
theorem at_C {c : Nat → Int} {p : Nat} (h : ¬ zix 1 (c p) = -1) (h2 : ¬ zix 2 (c (p + 1)) = -1) : atomF c p = ((figF c (p + 2, true)).1.1, (figF c (p + 2, true)).1.2, if (figF c (p + 2, true)).1.2 = true then [zix 1 (c p) + 8 * zix 2 (c (p + 1)) + 32 * (figF c (p + 2, true)).2] else []) := by
  unfold atomF; rw [if_neg h, if_neg h2]
theorem emit_n {s g : Int → Int} {p : Nat} {x : Int} : (if gS g p false 5 = 0 then em1 s (gS g p false 2) x else s) = s := by
  rw [gS_51, if_neg (by omega)]
theorem emit_1 {s g : Int → Int} {p : Nat} {ok : Bool} {x : Int} : (if gS g p ok 5 = 0 then em1 s (gS g p ok 2) x else s) = emS s (g 2) (if ok = true then [x] else []) := by
  have := emit_l (s := s) (g := g) (p := p) (ok := ok) (L := []) (x := x)
  exact this
set_option maxHeartbeats 4000000 in
set_option maxRecDepth 100000 in
theorem k_factor0 (l : Launch) (D : Dx) (A : Nat → Prop) (a : Nat → Nat) (s im fr bY tr ln bl bo g lg : Int → Int) (c : Nat → Int) (p : Nat) (hTP : TP s g c) (h3 : g 3 = (p : Int)) (h5z : g 5 = 0) (hpe : (p : Int) ≤ g 4) (hA : 0 ≤ g 2 ∧ g 2 ≤ 4) (hs : 0 ≤ s (268 + g 2) ∧ s (268 + g 2) ≤ (p : Int)) (h6 : g 6 = 5) : CT l D A yX12_factor cX12_factor 5 none { frames := 8, cells := 0, slots := 0, locals := 187 } [.ref (a 0)] (MW D A a s im fr bY tr ln bl bo g lg) (fun _ : Unit => none) (fun _ => True) (fun _ => MW D A a (emS s (g 2) (facF c 0 p).2.2) im fr bY tr ln bl bo (gS g (facF c 0 p).1 (facF c 0 p).2.1) lg) := by
  refine ct_of (lo0 := [(0, .ref (a 0))]) (by decide) (Nat.le_of_ble_eq_true rfl) rfl ?_
  intro G hG hR
  have hT1 := hTP.1
  have hrb := facF_rng hTP.2.2 0 p (by omega)
  refine v_aload_n hG dX12_factor_0 rfl 0 rfl ?_
  refine mg_isWrong (z := g 5) hG dX12_factor_1 rfl ?_
  refine v_if_eq (tgt := 8) hG dX12_factor_4 (by decide) (by omega) (fun c1 => ?_) (fun c1 => ?_)
  · skip
    refine v_aload_n hG dX12_factor_8 rfl 0 rfl ?_
    refine v_callV (k1' := 0) (k2' := 0) hG dX12_factor_9 zc_X12_here ⟨zl_X12_55, zi_X12_here, zs_X12_here⟩ (fun l => k_here l D A a s im fr bY tr ln bl bo g lg c p (by first | exact hTP | exact TP_gS hTP | exact TP_g (TP_gS hTP) s6_4 | exact TP_gS (TP_emS hTP (by omega) (by omega)) | exact TP_g (TP_gS (TP_emS hTP (by omega) (by omega))) s6_4) (by first | exact h3 | exact gS_3 | (rw [s6_3]; exact gS_3)) (by first | omega | (simp only [gS_2, gS_4, gS_6, s6_2, s6_4, emS_268, sU_eq, List.length_append]; omega))) rfl mw_recv (fun _ h => h) ⟨by decide, by decide⟩ rfl rfl ⟨by decide, by decide⟩ (rest := []) rfl (Nat.le_of_ble_eq_true rfl) (fun u2 => [vI (c p)]) (fun _ => rfl) (fun u2 hu2 => ?_)
    have fu2 : -1 ≤ c p ∧ c p ≤ 127 := hu2
    refine v_istore_n (lo' := [(1, vI (c p)), (0, .ref (a 0))]) hG dX12_factor_12 rfl (by decide) rfl ?_
    refine v_iload_n hG dX12_factor_13 rfl 0 rfl ?_
    refine v_bipush hG dX12_factor_14 (by decide) ?_
    refine v_icmp_eq (tgt := 25) hG dX12_factor_16 (by decide) (by omega) (by omega) (fun c3 => ?_) (fun c3 => ?_)
    · skip
      have hlt := hTP.2.2.lt (p := p) (by omega)
      refine v_aload_n hG dX12_factor_25 rfl 1 rfl ?_
      refine v_aload_n hG dX12_factor_26 rfl 1 rfl ?_
      refine mg_open (z := g 6) hG dX12_factor_27 rfl ?_
      refine v_iconst hG dX12_factor_30 ?_
      refine v_icmp_ne (tgt := 38) hG dX12_factor_31 (by decide) (by omega) (by omega) (fun c4 => ?_) (fun c4 => ?_)
      · skip
        exfalso; omega
      · skip
        refine v_iconst hG dX12_factor_34 ?_
        refine v_goto (tgt := 39) hG dX12_factor_35 (by decide) ?_
        refine mp_isWrong hG dX12_factor_39 (Or.inr rfl) ?_
        refine v_aload_n hG dX12_factor_42 rfl 1 rfl ?_
        refine v_dup hG dX12_factor_43 rfl ?_
        refine mg_open (z := g 6) hG dX12_factor_44 rfl ?_
        refine v_iconst hG dX12_factor_47 ?_
        refine v_iadd hG dX12_factor_48 ?_
        refine mp_open hG dX12_factor_49 ?_
        refine v_aload_n hG dX12_factor_52 rfl 1 rfl ?_
        refine v_dup hG dX12_factor_53 rfl ?_
        refine mg_spot (z := g 3) hG dX12_factor_54 rfl ?_
        refine v_aload_n hG dX12_factor_57 rfl 1 rfl ?_
        refine mg_isWrong (z := 1) hG dX12_factor_58 rfl ?_
        refine v_if_eq (tgt := 68) hG dX12_factor_61 (by decide) (by omega) (fun c5 => ?_) (fun c5 => ?_)
        · skip
          exfalso; omega
        · skip
          refine v_iconst hG dX12_factor_64 ?_
          refine v_goto (tgt := 69) hG dX12_factor_65 (by decide) ?_
          refine v_iadd hG dX12_factor_69 ?_
          refine mp_spot hG dX12_factor_70 ?_
          rw [show (sU (sU (sU g 5 1) 6 ((g 6) + 1)) 3 ((g 3) + 0)) = sU (gS g p false) 6 (g 6 + 1) from by exact in6w h3]
          refine v_iload_n hG dX12_factor_73 rfl 0 rfl ?_
          refine v_bipush hG dX12_factor_74 (by decide) ?_
          refine v_icmp_ne (tgt := 91) hG dX12_factor_76 (by decide) (by omega) (by omega) (fun c6 => ?_) (fun c6 => ?_)
          · skip
            exfalso; omega
          · skip
            refine v_aload_n hG dX12_factor_79 rfl 1 rfl ?_
            refine v_callV (k1' := 0) (k2' := 0) hG dX12_factor_80 zc_X12_factor ⟨zl_X12_78, zi_X12_factor, zs_X12_factor⟩ (fun l => k_factorW l D A a s im fr bY tr ln bl bo (sU (gS g p false) 6 (g 6 + 1)) lg (by rw [s6_5]; exact gS_51)) rfl mw_recv (fun _ h => h) ⟨by decide, by decide⟩ rfl rfl ⟨by decide, by decide⟩ (rest := []) rfl (Nat.le_of_ble_eq_true rfl) (fun u7 => []) (fun _ => rfl) (fun u7 hu7 => ?_)
            refine v_aload_n hG dX12_factor_83 rfl 1 rfl ?_
            refine v_iconst hG dX12_factor_84 ?_
            refine v_callV (k1' := 0) (k2' := 0) hG dX12_factor_85 zc_X12_emits ⟨zl_X12_81, zi_X12_emits, zs_X12_emits⟩ (fun l => k_emits l D A a s im fr bY tr ln bl bo (sU (gS g p false) 6 (g 6 + 1)) lg (-1) (by first | omega | (simp only [gS_2, gS_4, gS_6, s6_2, s6_4, emS_268, sU_eq, List.length_append]; omega)) (by first | omega | (simp only [gS_2, gS_4, gS_6, s6_2, s6_4, emS_268, sU_eq, List.length_append]; omega)) (by rw [s6_5]; exact gS_01)) rfl mw_recv (fun _ h => h) ⟨by decide, by decide⟩ rfl rfl ⟨by decide, by decide⟩ (rest := []) rfl (Nat.le_of_ble_eq_true rfl) (fun u8 => []) (fun _ => rfl) (fun u8 hu8 => ?_)
            rw [show (if (sU (gS g p false) 6 (g 6 + 1)) 5 = 0 then em1 s ((sU (gS g p false) 6 (g 6 + 1)) 2) (-1) else s) = s from by rw [s6_5]; exact if_neg (by rw [gS_51]; omega)]
            refine v_goto (tgt := 101) hG dX12_factor_88 (by decide) ?_
            refine v_aload_n hG dX12_factor_101 rfl 1 rfl ?_
            refine v_dup hG dX12_factor_102 rfl ?_
            refine mg_open (z := g 6 + 1) hG dX12_factor_103 rfl ?_
            refine v_iconst hG dX12_factor_106 ?_
            refine v_isub hG dX12_factor_107 ?_
            refine mp_open hG dX12_factor_108 ?_
            have hfc := fac_o (c := c) (p := p) (by omega)
            have e9 : s = emS s (g 2) (facF c 0 p).2.2 := by first | (rw [hfc]; exact out6 (by first | omega | (rw [sU_eq]; omega))) | (rw [hfc]; rfl)
            have e10 : sU (sU (gS g p false) 6 (g 6 + 1)) 6 ((g 6 + 1) - 1) = gS g (facF c 0 p).1 (facF c 0 p).2.1 := by first | (rw [hfc]; exact out6 (by first | omega | (rw [sU_eq]; omega))) | (rw [hfc]; rfl)
            exact v_return hG hR dX12_factor_111 () rfl (by trivial) (fun _ hM => by rw [← e9]; rw [← e10]; exact hM)
    · skip
      refine v_iload_n hG dX12_factor_19 rfl 0 rfl ?_
      refine v_bipush hG dX12_factor_20 (by decide) ?_
      refine v_icmp_ne (tgt := 112) hG dX12_factor_22 (by decide) (by omega) (by omega) (fun c11 => ?_) (fun c11 => ?_)
      · skip
        refine v_aload_n hG dX12_factor_112 rfl 1 rfl ?_
        refine v_ldcS (i := 1) (tx := "mkdxtv") hG dX12_factor_113 (by decide) ?_
        refine v_callV (k1' := 0) (k2' := 0) hG dX12_factor_115 zc_X12_among ⟨zl_X12_89, zi_X12_among, zs_X12_among⟩ (fun l => k_among l D A a s im fr bY tr ln bl bo g lg 1 (by first | assumption | decide) c p (by first | exact hTP | exact TP_gS hTP | exact TP_g (TP_gS hTP) s6_4 | exact TP_gS (TP_emS hTP (by omega) (by omega)) | exact TP_g (TP_gS (TP_emS hTP (by omega) (by omega))) s6_4) (by first | exact h3 | exact gS_3 | (rw [s6_3]; exact gS_3)) (by first | omega | (simp only [gS_2, gS_4, gS_6, s6_2, s6_4, emS_268, sU_eq, List.length_append]; omega))) rfl mw_recv (fun _ h => h) ⟨by decide, by decide⟩ rfl rfl ⟨by decide, by decide⟩ (rest := []) rfl (Nat.le_of_ble_eq_true rfl) (fun u12 => [vI (zix 1 (c p))]) (fun _ => rfl) (fun u12 hu12 => ?_)
        have fu12 : -1 ≤ zix 1 (c p) ∧ zix 1 (c p) ≤ 16 := hu12
        refine v_istore_n (lo' := [(2, vI (zix 1 (c p))), (1, vI (c p)), (0, .ref (a 0))]) hG dX12_factor_118 rfl (by decide) rfl ?_
        refine v_aload_n hG dX12_factor_119 rfl 2 rfl ?_
        refine v_iload_n hG dX12_factor_120 rfl 0 rfl ?_
        refine v_iconst hG dX12_factor_121 ?_
        refine v_icmp_ne (tgt := 129) hG dX12_factor_122 (by decide) (by omega) (by omega) (fun c13 => ?_) (fun c13 => ?_)
        · skip
          refine v_iconst hG dX12_factor_129 ?_
          refine mp_isWrong hG dX12_factor_130 (Or.inl rfl) ?_
          rw [show (sU (amG g p (zix 1 (c p))) 5 0) = gS g (p + 1) true from by exact am_y (by assumption)]
          have hg5 : gS g (p + 1) true 5 = 0 := gS_50
          have hlt := hTP.2.2.lt (p := p) (fun e => (by assumption : ¬ zix 1 (c p) = -1) (by rw [e]; exact zix_end (by decide)))
          refine v_aload_n hG dX12_factor_133 rfl 2 rfl ?_
          refine mg_isWrong (z := (gS g (p + 1) true) 5) hG dX12_factor_134 rfl ?_
          refine v_if_eq (tgt := 144) hG dX12_factor_137 (by decide) (by omega) (fun c14 => ?_) (fun c14 => ?_)
          · skip
            refine v_aload_n hG dX12_factor_144 rfl 2 rfl ?_
            refine v_ldcS (i := 2) (tx := "<=>") hG dX12_factor_145 (by decide) ?_
            refine v_callV (k1' := 0) (k2' := 0) hG dX12_factor_147 zc_X12_among ⟨zl_X12_89, zi_X12_among, zs_X12_among⟩ (fun l => k_among l D A a s im fr bY tr ln bl bo (gS g (p + 1) true) lg 2 (by first | assumption | decide) c (p + 1) (by first | exact hTP | exact TP_gS hTP | exact TP_g (TP_gS hTP) s6_4 | exact TP_gS (TP_emS hTP (by omega) (by omega)) | exact TP_g (TP_gS (TP_emS hTP (by omega) (by omega))) s6_4) (by first | exact h3 | exact gS_3 | (rw [s6_3]; exact gS_3)) (by first | omega | (simp only [gS_2, gS_4, gS_6, s6_2, s6_4, emS_268, sU_eq, List.length_append]; omega))) rfl mw_recv (fun _ h => h) ⟨by decide, by decide⟩ rfl rfl ⟨by decide, by decide⟩ (rest := []) rfl (Nat.le_of_ble_eq_true rfl) (fun u15 => [vI (zix 2 (c (p + 1)))]) (fun _ => rfl) (fun u15 hu15 => ?_)
            have fu15 : -1 ≤ zix 2 (c (p + 1)) ∧ zix 2 (c (p + 1)) ≤ 16 := hu15
            refine v_istore_n (lo' := [(3, vI (zix 2 (c (p + 1)))), (2, vI (zix 1 (c p))), (1, vI (c p)), (0, .ref (a 0))]) hG dX12_factor_150 rfl (by decide) rfl ?_
            have hg6 : (amG (gS g (p + 1) true) (p + 1) (zix 2 (c (p + 1)))) 5 = 0 := am_5.trans gS_50
            refine v_aload_n hG dX12_factor_151 rfl 3 rfl ?_
            refine v_aload_n hG dX12_factor_152 rfl 3 rfl ?_
            refine mg_isWrong (z := (amG (gS g (p + 1) true) (p + 1) (zix 2 (c (p + 1)))) 5) hG dX12_factor_153 rfl ?_
            refine v_if_ne (tgt := 164) hG dX12_factor_156 (by decide) (by omega) (fun c16 => ?_) (fun c16 => ?_)
            · skip
              exfalso; omega
            · skip
              refine v_iload_n hG dX12_factor_159 rfl 0 rfl ?_
              refine v_iconst hG dX12_factor_160 ?_
              refine v_icmp_ne (tgt := 168) hG dX12_factor_161 (by decide) (by omega) (by omega) (fun c17 => ?_) (fun c17 => ?_)
              · skip
                refine v_iconst hG dX12_factor_168 ?_
                refine mp_isWrong hG dX12_factor_169 (Or.inl rfl) ?_
                rw [show (sU (amG (gS g (p + 1) true) (p + 1) (zix 2 (c (p + 1)))) 5 0) = gS g (p + 2) true from by exact (am_y (by assumption)).trans gS_gS]
                have hlt2 := hTP.2.2.lt (p := p + 1) (fun e => (by assumption : ¬ zix 2 (c (p + 1)) = -1) (by rw [e]; exact zix_end (by decide)))
                refine v_aload_n hG dX12_factor_172 rfl 3 rfl ?_
                refine v_callV (k1' := 0) (k2' := 0) hG dX12_factor_173 zc_X12_figures ⟨zl_X12_95, zi_X12_figures, zs_X12_figures⟩ (fun l => k_figures l D A a s im fr bY tr ln bl bo (gS g (p + 2) true) lg c (p + 2) true (by first | exact hTP | exact TP_gS hTP | exact TP_g (TP_gS hTP) s6_4 | exact TP_gS (TP_emS hTP (by omega) (by omega)) | exact TP_g (TP_gS (TP_emS hTP (by omega) (by omega))) s6_4) (by first | exact h3 | exact gS_3 | (rw [s6_3]; exact gS_3)) (by first | exact gS_5 | (rw [s6_5]; exact gS_5)) (by first | omega | (simp only [gS_2, gS_4, gS_6, s6_2, s6_4, emS_268, sU_eq, List.length_append]; omega))) rfl mw_recv (fun _ h => h) ⟨by decide, by decide⟩ rfl rfl ⟨by decide, by decide⟩ (rest := []) rfl (Nat.le_of_ble_eq_true rfl) (fun u18 => [vI ((figF c ((p + 2), true)).2)]) (fun _ => rfl) (fun u18 hu18 => ?_)
                rw [show (gS (gS g (p + 2) true) (figF c ((p + 2), true)).1.1 (figF c ((p + 2), true)).1.2) = gS g (figF c ((p + 2), true)).1.1 (figF c ((p + 2), true)).1.2 from by exact gS_gS]
                refine v_istore (lo' := [(4, vI ((figF c ((p + 2), true)).2)), (3, vI (zix 2 (c (p + 1)))), (2, vI (zix 1 (c p))), (1, vI (c p)), (0, .ref (a 0))]) hG dX12_factor_176 (by decide) rfl ?_
                refine v_aload_n hG dX12_factor_178 rfl 4 rfl ?_
                refine v_iload_n hG dX12_factor_179 rfl 2 rfl ?_
                refine v_bipush hG dX12_factor_180 (by decide) ?_
                refine v_iload_n hG dX12_factor_182 rfl 1 rfl ?_
                refine v_imul hG dX12_factor_183 ?_
                refine v_iadd hG dX12_factor_184 ?_
                refine v_bipush hG dX12_factor_185 (by decide) ?_
                refine v_iload hG dX12_factor_187 0 rfl ?_
                refine v_imul hG dX12_factor_189 ?_
                refine v_iadd hG dX12_factor_190 ?_
                refine v_callV (k1' := 0) (k2' := 0) hG dX12_factor_191 zc_X12_emits ⟨zl_X12_81, zi_X12_emits, zs_X12_emits⟩ (fun l => k_emits l D A a s im fr bY tr ln bl bo (gS g (figF c ((p + 2), true)).1.1 (figF c ((p + 2), true)).1.2) lg (((zix 1 (c p)) + (8 * (zix 2 (c (p + 1))))) + (32 * ((figF c ((p + 2), true)).2))) (by first | omega | (simp only [gS_2, gS_4, gS_6, s6_2, s6_4, emS_268, sU_eq, List.length_append]; omega)) (by first | omega | (simp only [gS_2, gS_4, gS_6, s6_2, s6_4, emS_268, sU_eq, List.length_append]; omega)) (by exact gS_01)) rfl mw_recv (fun _ h => h) ⟨by decide, by decide⟩ rfl rfl ⟨by decide, by decide⟩ (rest := []) rfl (Nat.le_of_ble_eq_true rfl) (fun u19 => []) (fun _ => rfl) (fun u19 hu19 => ?_)
                rw [show (if (gS g (figF c ((p + 2), true)).1.1 (figF c ((p + 2), true)).1.2) 5 = 0 then em1 s ((gS g (figF c ((p + 2), true)).1.1 (figF c ((p + 2), true)).1.2) 2) (((zix 1 (c p)) + (8 * (zix 2 (c (p + 1))))) + (32 * ((figF c ((p + 2), true)).2))) else s) = emS s (g 2) (if (figF c (p + 2, true)).1.2 = true then [zix 1 (c p) + 8 * zix 2 (c (p + 1)) + 32 * (figF c (p + 2, true)).2] else []) from by exact emit_1]
                have hfc : facF c 0 p = atomF c p := fac_at (by assumption) (by assumption)
                have e20 : emS s (g 2) (if (figF c (p + 2, true)).1.2 = true then [zix 1 (c p) + 8 * zix 2 (c (p + 1)) + 32 * (figF c (p + 2, true)).2] else []) = emS s (g 2) (facF c 0 p).2.2 := by rw [hfc]; first | (rw [at_A (by assumption)]; done) | (rw [at_B (by assumption) (by assumption)]; done) | (rw [at_C (by assumption) (by assumption)]; done) | (rw [at_A (by assumption)]; rfl) | (rw [at_B (by assumption) (by assumption)]; rfl)
                have e21 : gS g (figF c ((p + 2), true)).1.1 (figF c ((p + 2), true)).1.2 = gS g (facF c 0 p).1 (facF c 0 p).2.1 := by rw [hfc]; first | (rw [at_A (by assumption)]; done) | (rw [at_B (by assumption) (by assumption)]; done) | (rw [at_C (by assumption) (by assumption)]; done) | (rw [at_A (by assumption)]; rfl) | (rw [at_B (by assumption) (by assumption)]; rfl)
                exact v_return hG hR dX12_factor_194 () rfl (by trivial) (fun _ hM => by rw [← e20]; rw [← e21]; exact hM)
              · skip
                refine v_iconst hG dX12_factor_164 ?_
                refine v_goto (tgt := 169) hG dX12_factor_165 (by decide) ?_
                refine mp_isWrong hG dX12_factor_169 (Or.inr rfl) ?_
                rw [show (sU (amG (gS g (p + 1) true) (p + 1) (zix 2 (c (p + 1)))) 5 1) = gS g (p + 1) false from by exact (am_n gS_3 (by assumption)).trans gS_gS]
                refine v_aload_n hG dX12_factor_172 rfl 3 rfl ?_
                refine v_callV (k1' := 0) (k2' := 0) hG dX12_factor_173 zc_X12_figures ⟨zl_X12_95, zi_X12_figures, zs_X12_figures⟩ (fun l => k_figures l D A a s im fr bY tr ln bl bo (gS g (p + 1) false) lg c (p + 1) false (by first | exact hTP | exact TP_gS hTP | exact TP_g (TP_gS hTP) s6_4 | exact TP_gS (TP_emS hTP (by omega) (by omega)) | exact TP_g (TP_gS (TP_emS hTP (by omega) (by omega))) s6_4) (by first | exact h3 | exact gS_3 | (rw [s6_3]; exact gS_3)) (by first | exact gS_5 | (rw [s6_5]; exact gS_5)) (by first | omega | (simp only [gS_2, gS_4, gS_6, s6_2, s6_4, emS_268, sU_eq, List.length_append]; omega))) rfl mw_recv (fun _ h => h) ⟨by decide, by decide⟩ rfl rfl ⟨by decide, by decide⟩ (rest := []) rfl (Nat.le_of_ble_eq_true rfl) (fun u22 => [vI ((figF c ((p + 1), false)).2)]) (fun _ => rfl) (fun u22 hu22 => ?_)
                rw [show (gS (gS g (p + 1) false) (figF c ((p + 1), false)).1.1 (figF c ((p + 1), false)).1.2) = gS g (figF c ((p + 1), false)).1.1 (figF c ((p + 1), false)).1.2 from by exact gS_gS]
                rw [figF_f]
                refine v_istore (lo' := [(4, vI 0), (3, vI (zix 2 (c (p + 1)))), (2, vI (zix 1 (c p))), (1, vI (c p)), (0, .ref (a 0))]) hG dX12_factor_176 (by decide) rfl ?_
                refine v_aload_n hG dX12_factor_178 rfl 4 rfl ?_
                refine v_iload_n hG dX12_factor_179 rfl 2 rfl ?_
                refine v_bipush hG dX12_factor_180 (by decide) ?_
                refine v_iload_n hG dX12_factor_182 rfl 1 rfl ?_
                refine v_imul hG dX12_factor_183 ?_
                refine v_iadd hG dX12_factor_184 ?_
                refine v_bipush hG dX12_factor_185 (by decide) ?_
                refine v_iload hG dX12_factor_187 0 rfl ?_
                refine v_imul hG dX12_factor_189 ?_
                refine v_iadd hG dX12_factor_190 ?_
                refine v_callV (k1' := 0) (k2' := 0) hG dX12_factor_191 zc_X12_emits ⟨zl_X12_81, zi_X12_emits, zs_X12_emits⟩ (fun l => k_emits l D A a s im fr bY tr ln bl bo (gS g (p + 1) false) lg (((zix 1 (c p)) + (8 * (zix 2 (c (p + 1))))) + (32 * 0)) (by first | omega | (simp only [gS_2, gS_4, gS_6, s6_2, s6_4, emS_268, sU_eq, List.length_append]; omega)) (by first | omega | (simp only [gS_2, gS_4, gS_6, s6_2, s6_4, emS_268, sU_eq, List.length_append]; omega)) (by exact gS_01)) rfl mw_recv (fun _ h => h) ⟨by decide, by decide⟩ rfl rfl ⟨by decide, by decide⟩ (rest := []) rfl (Nat.le_of_ble_eq_true rfl) (fun u23 => []) (fun _ => rfl) (fun u23 hu23 => ?_)
                rw [show (if (gS g (p + 1) false) 5 = 0 then em1 s ((gS g (p + 1) false) 2) (((zix 1 (c p)) + (8 * (zix 2 (c (p + 1))))) + (32 * 0)) else s) = s from by exact emit_n]
                have hfc : facF c 0 p = atomF c p := fac_at (by assumption) (by assumption)
                have e24 : s = emS s (g 2) (facF c 0 p).2.2 := by rw [hfc]; first | (rw [at_A (by assumption)]; done) | (rw [at_B (by assumption) (by assumption)]; done) | (rw [at_C (by assumption) (by assumption)]; done) | (rw [at_A (by assumption)]; rfl) | (rw [at_B (by assumption) (by assumption)]; rfl)
                have e25 : gS g (p + 1) false = gS g (facF c 0 p).1 (facF c 0 p).2.1 := by rw [hfc]; first | (rw [at_A (by assumption)]; done) | (rw [at_B (by assumption) (by assumption)]; done) | (rw [at_C (by assumption) (by assumption)]; done) | (rw [at_A (by assumption)]; rfl) | (rw [at_B (by assumption) (by assumption)]; rfl)
                exact v_return hG hR dX12_factor_194 () rfl (by trivial) (fun _ hM => by rw [← e24]; rw [← e25]; exact hM)
          · skip
            exfalso; omega
        · skip
          refine v_iconst hG dX12_factor_125 ?_
          refine v_goto (tgt := 130) hG dX12_factor_126 (by decide) ?_
          refine mp_isWrong hG dX12_factor_130 (Or.inr rfl) ?_
          rw [show (sU (amG g p (zix 1 (c p))) 5 1) = gS g p false from by exact am_n h3 (by assumption)]
          have hg5 : gS g p false 5 = 1 := gS_51
          refine v_aload_n hG dX12_factor_133 rfl 2 rfl ?_
          refine mg_isWrong (z := (gS g p false) 5) hG dX12_factor_134 rfl ?_
          refine v_if_eq (tgt := 144) hG dX12_factor_137 (by decide) (by omega) (fun c26 => ?_) (fun c26 => ?_)
          · skip
            exfalso; omega
          · skip
            refine v_iconst hG dX12_factor_140 ?_
            refine v_goto (tgt := 150) hG dX12_factor_141 (by decide) ?_
            refine v_istore_n (lo' := [(3, vI 0), (2, vI (zix 1 (c p))), (1, vI (c p)), (0, .ref (a 0))]) hG dX12_factor_150 rfl (by decide) rfl ?_
            refine v_aload_n hG dX12_factor_151 rfl 3 rfl ?_
            refine v_aload_n hG dX12_factor_152 rfl 3 rfl ?_
            refine mg_isWrong (z := (gS g p false) 5) hG dX12_factor_153 rfl ?_
            refine v_if_ne (tgt := 164) hG dX12_factor_156 (by decide) (by omega) (fun c27 => ?_) (fun c27 => ?_)
            · skip
              refine v_iconst hG dX12_factor_164 ?_
              refine v_goto (tgt := 169) hG dX12_factor_165 (by decide) ?_
              refine mp_isWrong hG dX12_factor_169 (Or.inr rfl) ?_
              rw [show (sU (gS g p false) 5 1) = gS g p false from by exact gS_s5]
              refine v_aload_n hG dX12_factor_172 rfl 3 rfl ?_
              refine v_callV (k1' := 0) (k2' := 0) hG dX12_factor_173 zc_X12_figures ⟨zl_X12_95, zi_X12_figures, zs_X12_figures⟩ (fun l => k_figures l D A a s im fr bY tr ln bl bo (gS g p false) lg c p false (by first | exact hTP | exact TP_gS hTP | exact TP_g (TP_gS hTP) s6_4 | exact TP_gS (TP_emS hTP (by omega) (by omega)) | exact TP_g (TP_gS (TP_emS hTP (by omega) (by omega))) s6_4) (by first | exact h3 | exact gS_3 | (rw [s6_3]; exact gS_3)) (by first | exact gS_5 | (rw [s6_5]; exact gS_5)) (by first | omega | (simp only [gS_2, gS_4, gS_6, s6_2, s6_4, emS_268, sU_eq, List.length_append]; omega))) rfl mw_recv (fun _ h => h) ⟨by decide, by decide⟩ rfl rfl ⟨by decide, by decide⟩ (rest := []) rfl (Nat.le_of_ble_eq_true rfl) (fun u28 => [vI ((figF c (p, false)).2)]) (fun _ => rfl) (fun u28 hu28 => ?_)
              rw [show (gS (gS g p false) (figF c (p, false)).1.1 (figF c (p, false)).1.2) = gS g (figF c (p, false)).1.1 (figF c (p, false)).1.2 from by exact gS_gS]
              rw [figF_f]
              refine v_istore (lo' := [(4, vI 0), (3, vI 0), (2, vI (zix 1 (c p))), (1, vI (c p)), (0, .ref (a 0))]) hG dX12_factor_176 (by decide) rfl ?_
              refine v_aload_n hG dX12_factor_178 rfl 4 rfl ?_
              refine v_iload_n hG dX12_factor_179 rfl 2 rfl ?_
              refine v_bipush hG dX12_factor_180 (by decide) ?_
              refine v_iload_n hG dX12_factor_182 rfl 1 rfl ?_
              refine v_imul hG dX12_factor_183 ?_
              refine v_iadd hG dX12_factor_184 ?_
              refine v_bipush hG dX12_factor_185 (by decide) ?_
              refine v_iload hG dX12_factor_187 0 rfl ?_
              refine v_imul hG dX12_factor_189 ?_
              refine v_iadd hG dX12_factor_190 ?_
              refine v_callV (k1' := 0) (k2' := 0) hG dX12_factor_191 zc_X12_emits ⟨zl_X12_81, zi_X12_emits, zs_X12_emits⟩ (fun l => k_emits l D A a s im fr bY tr ln bl bo (gS g p false) lg (((zix 1 (c p)) + (8 * 0)) + (32 * 0)) (by first | omega | (simp only [gS_2, gS_4, gS_6, s6_2, s6_4, emS_268, sU_eq, List.length_append]; omega)) (by first | omega | (simp only [gS_2, gS_4, gS_6, s6_2, s6_4, emS_268, sU_eq, List.length_append]; omega)) (by exact gS_01)) rfl mw_recv (fun _ h => h) ⟨by decide, by decide⟩ rfl rfl ⟨by decide, by decide⟩ (rest := []) rfl (Nat.le_of_ble_eq_true rfl) (fun u29 => []) (fun _ => rfl) (fun u29 hu29 => ?_)
              rw [show (if (gS g p false) 5 = 0 then em1 s ((gS g p false) 2) (((zix 1 (c p)) + (8 * 0)) + (32 * 0)) else s) = s from by exact emit_n]
              have hfc : facF c 0 p = atomF c p := fac_at (by assumption) (by assumption)
              have e30 : s = emS s (g 2) (facF c 0 p).2.2 := by rw [hfc]; first | (rw [at_A (by assumption)]; done) | (rw [at_B (by assumption) (by assumption)]; done) | (rw [at_C (by assumption) (by assumption)]; done) | (rw [at_A (by assumption)]; rfl) | (rw [at_B (by assumption) (by assumption)]; rfl)
              have e31 : gS g p false = gS g (facF c 0 p).1 (facF c 0 p).2.1 := by rw [hfc]; first | (rw [at_A (by assumption)]; done) | (rw [at_B (by assumption) (by assumption)]; done) | (rw [at_C (by assumption) (by assumption)]; done) | (rw [at_A (by assumption)]; rfl) | (rw [at_B (by assumption) (by assumption)]; rfl)
              exact v_return hG hR dX12_factor_194 () rfl (by trivial) (fun _ hM => by rw [← e30]; rw [← e31]; exact hM)
            · skip
              exfalso; omega
      · skip
        have hlt := hTP.2.2.lt (p := p) (by omega)
        refine v_aload_n hG dX12_factor_25 rfl 1 rfl ?_
        refine v_aload_n hG dX12_factor_26 rfl 1 rfl ?_
        refine mg_open (z := g 6) hG dX12_factor_27 rfl ?_
        refine v_iconst hG dX12_factor_30 ?_
        refine v_icmp_ne (tgt := 38) hG dX12_factor_31 (by decide) (by omega) (by omega) (fun c32 => ?_) (fun c32 => ?_)
        · skip
          exfalso; omega
        · skip
          refine v_iconst hG dX12_factor_34 ?_
          refine v_goto (tgt := 39) hG dX12_factor_35 (by decide) ?_
          refine mp_isWrong hG dX12_factor_39 (Or.inr rfl) ?_
          refine v_aload_n hG dX12_factor_42 rfl 1 rfl ?_
          refine v_dup hG dX12_factor_43 rfl ?_
          refine mg_open (z := g 6) hG dX12_factor_44 rfl ?_
          refine v_iconst hG dX12_factor_47 ?_
          refine v_iadd hG dX12_factor_48 ?_
          refine mp_open hG dX12_factor_49 ?_
          refine v_aload_n hG dX12_factor_52 rfl 1 rfl ?_
          refine v_dup hG dX12_factor_53 rfl ?_
          refine mg_spot (z := g 3) hG dX12_factor_54 rfl ?_
          refine v_aload_n hG dX12_factor_57 rfl 1 rfl ?_
          refine mg_isWrong (z := 1) hG dX12_factor_58 rfl ?_
          refine v_if_eq (tgt := 68) hG dX12_factor_61 (by decide) (by omega) (fun c33 => ?_) (fun c33 => ?_)
          · skip
            exfalso; omega
          · skip
            refine v_iconst hG dX12_factor_64 ?_
            refine v_goto (tgt := 69) hG dX12_factor_65 (by decide) ?_
            refine v_iadd hG dX12_factor_69 ?_
            refine mp_spot hG dX12_factor_70 ?_
            rw [show (sU (sU (sU g 5 1) 6 ((g 6) + 1)) 3 ((g 3) + 0)) = sU (gS g p false) 6 (g 6 + 1) from by exact in6w h3]
            refine v_iload_n hG dX12_factor_73 rfl 0 rfl ?_
            refine v_bipush hG dX12_factor_74 (by decide) ?_
            refine v_icmp_ne (tgt := 91) hG dX12_factor_76 (by decide) (by omega) (by omega) (fun c34 => ?_) (fun c34 => ?_)
            · skip
              refine v_aload_n hG dX12_factor_91 rfl 1 rfl ?_
              refine v_callV (k1' := 0) (k2' := 0) hG dX12_factor_92 zc_X12_some ⟨zl_X12_84, zi_X12_some, zs_X12_some⟩ (fun l => k_someW l D A a s im fr bY tr ln bl bo (sU (gS g p false) 6 (g 6 + 1)) lg (by rw [s6_5]; exact gS_51)) rfl mw_recv (fun _ h => h) ⟨by decide, by decide⟩ rfl rfl ⟨by decide, by decide⟩ (rest := []) rfl (Nat.le_of_ble_eq_true rfl) (fun u35 => []) (fun _ => rfl) (fun u35 hu35 => ?_)
              refine v_aload_n hG dX12_factor_95 rfl 1 rfl ?_
              refine v_bipush hG dX12_factor_96 (by decide) ?_
              refine v_callV (k1' := 0) (k2' := 0) hG dX12_factor_98 zc_X12_must ⟨zl_X12_68, zi_X12_must, zs_X12_must⟩ (fun l => k_must l D A a s im fr bY tr ln bl bo (sU (gS g p false) 6 (g 6 + 1)) lg 41 c p false (by first | exact hTP | exact TP_gS hTP | exact TP_g (TP_gS hTP) s6_4 | exact TP_gS (TP_emS hTP (by omega) (by omega)) | exact TP_g (TP_gS (TP_emS hTP (by omega) (by omega))) s6_4) (by first | exact h3 | exact gS_3 | (rw [s6_3]; exact gS_3)) (by first | exact gS_5 | (rw [s6_5]; exact gS_5)) (by first | omega | (simp only [gS_2, gS_4, gS_6, s6_2, s6_4, emS_268, sU_eq, List.length_append]; omega)) (by omega)) rfl mw_recv (fun _ h => h) ⟨by decide, by decide⟩ rfl rfl ⟨by decide, by decide⟩ (rest := []) rfl (Nat.le_of_ble_eq_true rfl) (fun u36 => []) (fun _ => rfl) (fun u36 hu36 => ?_)
              rw [show (gS (sU (gS g p false) 6 (g 6 + 1)) (mustF c 41 (p, false)).1 (mustF c 41 (p, false)).2) = sU (gS g p false) 6 (g 6 + 1) from by exact gS_s6]
              refine v_aload_n hG dX12_factor_101 rfl 1 rfl ?_
              refine v_dup hG dX12_factor_102 rfl ?_
              refine mg_open (z := g 6 + 1) hG dX12_factor_103 rfl ?_
              refine v_iconst hG dX12_factor_106 ?_
              refine v_isub hG dX12_factor_107 ?_
              refine mp_open hG dX12_factor_108 ?_
              have hfc := fac_o (c := c) (p := p) (by omega)
              have e37 : s = emS s (g 2) (facF c 0 p).2.2 := by first | (rw [hfc]; exact out6 (by first | omega | (rw [sU_eq]; omega))) | (rw [hfc]; rfl)
              have e38 : sU (sU (gS g p false) 6 (g 6 + 1)) 6 ((g 6 + 1) - 1) = gS g (facF c 0 p).1 (facF c 0 p).2.1 := by first | (rw [hfc]; exact out6 (by first | omega | (rw [sU_eq]; omega))) | (rw [hfc]; rfl)
              exact v_return hG hR dX12_factor_111 () rfl (by trivial) (fun _ hM => by rw [← e37]; rw [← e38]; exact hM)
            · skip
              refine v_aload_n hG dX12_factor_79 rfl 1 rfl ?_
              refine v_callV (k1' := 0) (k2' := 0) hG dX12_factor_80 zc_X12_factor ⟨zl_X12_78, zi_X12_factor, zs_X12_factor⟩ (fun l => k_factorW l D A a s im fr bY tr ln bl bo (sU (gS g p false) 6 (g 6 + 1)) lg (by rw [s6_5]; exact gS_51)) rfl mw_recv (fun _ h => h) ⟨by decide, by decide⟩ rfl rfl ⟨by decide, by decide⟩ (rest := []) rfl (Nat.le_of_ble_eq_true rfl) (fun u39 => []) (fun _ => rfl) (fun u39 hu39 => ?_)
              refine v_aload_n hG dX12_factor_83 rfl 1 rfl ?_
              refine v_iconst hG dX12_factor_84 ?_
              refine v_callV (k1' := 0) (k2' := 0) hG dX12_factor_85 zc_X12_emits ⟨zl_X12_81, zi_X12_emits, zs_X12_emits⟩ (fun l => k_emits l D A a s im fr bY tr ln bl bo (sU (gS g p false) 6 (g 6 + 1)) lg (-1) (by first | omega | (simp only [gS_2, gS_4, gS_6, s6_2, s6_4, emS_268, sU_eq, List.length_append]; omega)) (by first | omega | (simp only [gS_2, gS_4, gS_6, s6_2, s6_4, emS_268, sU_eq, List.length_append]; omega)) (by rw [s6_5]; exact gS_01)) rfl mw_recv (fun _ h => h) ⟨by decide, by decide⟩ rfl rfl ⟨by decide, by decide⟩ (rest := []) rfl (Nat.le_of_ble_eq_true rfl) (fun u40 => []) (fun _ => rfl) (fun u40 hu40 => ?_)
              rw [show (if (sU (gS g p false) 6 (g 6 + 1)) 5 = 0 then em1 s ((sU (gS g p false) 6 (g 6 + 1)) 2) (-1) else s) = s from by rw [s6_5]; exact if_neg (by rw [gS_51]; omega)]
              refine v_goto (tgt := 101) hG dX12_factor_88 (by decide) ?_
              refine v_aload_n hG dX12_factor_101 rfl 1 rfl ?_
              refine v_dup hG dX12_factor_102 rfl ?_
              refine mg_open (z := g 6 + 1) hG dX12_factor_103 rfl ?_
              refine v_iconst hG dX12_factor_106 ?_
              refine v_isub hG dX12_factor_107 ?_
              refine mp_open hG dX12_factor_108 ?_
              have hfc := fac_o (c := c) (p := p) (by omega)
              have e41 : s = emS s (g 2) (facF c 0 p).2.2 := by first | (rw [hfc]; exact out6 (by first | omega | (rw [sU_eq]; omega))) | (rw [hfc]; rfl)
              have e42 : sU (sU (gS g p false) 6 (g 6 + 1)) 6 ((g 6 + 1) - 1) = gS g (facF c 0 p).1 (facF c 0 p).2.1 := by first | (rw [hfc]; exact out6 (by first | omega | (rw [sU_eq]; omega))) | (rw [hfc]; rfl)
              exact v_return hG hR dX12_factor_111 () rfl (by trivial) (fun _ hM => by rw [← e41]; rw [← e42]; exact hM)
  · skip
    exfalso; omega
set_option maxHeartbeats 4000000 in
set_option maxRecDepth 100000 in
theorem k_every0 (l : Launch) (D : Dx) (A : Nat → Prop) (a : Nat → Nat) (s im fr bY tr ln bl bo g lg : Int → Int) (c : Nat → Int) (p : Nat) (hTP : TP s g c) (h3 : g 3 = (p : Int)) (h5z : g 5 = 0) (hpe : (p : Int) ≤ g 4) (hA : 0 ≤ g 2 ∧ g 2 ≤ 4) (hs : 0 ≤ s (268 + g 2) ∧ s (268 + g 2) ≤ (p : Int)) (h6 : g 6 = 5) : CT l D A yX12_every cX12_every 1 none { frames := 9, cells := 0, slots := 0, locals := 211 } [.ref (a 0)] (MW D A a s im fr bY tr ln bl bo g lg) (fun _ : Unit => none) (fun _ => True) (fun _ => MW D A a (emS s (g 2) (everyF (facF c 0) c p).2.2) im fr bY tr ln bl bo (gS g (everyF (facF c 0) c p).1 (everyF (facF c 0) c p).2.1) lg) := by
  refine ct_of (lo0 := [(0, .ref (a 0))]) (by decide) (Nat.le_of_ble_eq_true rfl) rfl ?_
  intro G hG hR
  have hT1 := hTP.1
  have hrb := everyF_rng hTP.2.2 (fun x hx => facF_rng hTP.2.2 0 x hx) (p := p) (by omega)
  refine v_aload_n hG dX12_every_0 rfl 0 rfl ?_
  refine v_callV (k1' := 0) (k2' := 0) hG dX12_every_1 zc_X12_factor ⟨zl_X12_78, zi_X12_factor, zs_X12_factor⟩ (fun l => k_factor0 l D A a s im fr bY tr ln bl bo g lg c p (by first | exact hTP | exact TP_gS hTP | exact TP_g (TP_gS hTP) s6_4 | exact TP_gS (TP_emS hTP (by omega) (by omega)) | exact TP_g (TP_gS (TP_emS hTP (by omega) (by omega))) s6_4) (by first | exact h3 | exact gS_3 | (rw [s6_3]; exact gS_3)) (by first | assumption | exact gS_50 | (rw [s6_5]; exact gS_50)) (by first | omega | (simp only [gS_2, gS_4, gS_6, s6_2, s6_4, emS_268, sU_eq, List.length_append]; omega)) (by first | omega | (simp only [gS_2, gS_4, gS_6, s6_2, s6_4, emS_268, sU_eq, List.length_append]; omega)) (by first | omega | (simp only [gS_2, gS_4, gS_6, s6_2, s6_4, emS_268, sU_eq, List.length_append]; omega)) (by first | omega | (simp only [gS_2, gS_4, gS_6, s6_2, s6_4, emS_268, sU_eq, List.length_append]; omega))) rfl mw_recv (fun _ h => h) ⟨by decide, by decide⟩ rfl rfl ⟨by decide, by decide⟩ (rest := []) rfl (Nat.le_of_ble_eq_true rfl) (fun u1 => []) (fun _ => rfl) (fun u1 hu1 => ?_)
  have hfp := facF_rng hTP.2.2 0 p (by omega)
  have L4 : ∀ mz : Nat, ∀ (F : Nat) (r : R3), (everyF (facF c 0) c p = evL (facF c 0) c 38 (-2) F r) → (RB (g 4).toNat p r) → (101 ≤ F + r.1) → F = mz → ∀ x2 : Int → Int, x2 = (emS s (g 2) r.2.2) → ∀ x3 : Int → Int, x3 = (gS g r.1 r.2.1) → V G 0 0 (MW D A a x2 im fr bY tr ln bl bo x3 lg) 4 [(0, .ref (a 0))] [] := by
    intro dL4
    induction dL4 using Nat.strongRecOn with
    | ind dL4 ihL4 =>
      intro F r hq5 hq6 hq7 hq8
      intro x2 hx2
      subst hx2
      intro x3 hx3
      subst hx3
      have hg5 : gS g r.1 r.2.1 5 = (if r.2.1 then 0 else 1) := gS_5
      have hg01 := gS_01 (g := g) (p := r.1) (ok := r.2.1)
      obtain ⟨hr1, hr2, hr3⟩ := id ‹RB (g 4).toNat p r›
      refine v_aload_n hG dX12_every_4 rfl 0 rfl ?_
      refine mg_isWrong (z := (gS g r.1 r.2.1) 5) hG dX12_every_5 rfl ?_
      refine v_if_ne (tgt := 43) hG dX12_every_8 (by decide) (by omega) (fun c9 => ?_) (fun c9 => ?_)
      · skip
        have hst : everyF (facF c 0) c p = r := ‹everyF (facF c 0) c p = evL (facF c 0) c 38 (-2) F r›.trans (evL_stop (by first | exact Or.inl (ok_f hg5 (by assumption)) | exact Or.inr (by assumption)))
        have e10 : emS s (g 2) r.2.2 = emS s (g 2) (everyF (facF c 0) c p).2.2 := by rw [hst]
        have e11 : gS g r.1 r.2.1 = gS g (everyF (facF c 0) c p).1 (everyF (facF c 0) c p).2.1 := by rw [hst]
        exact v_return hG hR dX12_every_43 () rfl (by trivial) (fun _ hM => by rw [← e10]; rw [← e11]; exact hM)
      · skip
        refine v_aload_n hG dX12_every_11 rfl 0 rfl ?_
        refine v_callV (k1' := 0) (k2' := 0) hG dX12_every_12 zc_X12_here ⟨zl_X12_55, zi_X12_here, zs_X12_here⟩ (fun l => k_here l D A a (emS s (g 2) r.2.2) im fr bY tr ln bl bo (gS g r.1 r.2.1) lg c r.1 (by first | exact hTP | exact TP_gS hTP | exact TP_g (TP_gS hTP) s6_4 | exact TP_gS (TP_emS hTP (by omega) (by omega)) | exact TP_g (TP_gS (TP_emS hTP (by omega) (by omega))) s6_4) (by first | exact h3 | exact gS_3 | (rw [s6_3]; exact gS_3)) (by first | omega | (simp only [gS_2, gS_4, gS_6, s6_2, s6_4, emS_268, sU_eq, List.length_append]; omega))) rfl mw_recv (fun _ h => h) ⟨by decide, by decide⟩ rfl rfl ⟨by decide, by decide⟩ (rest := []) rfl (Nat.le_of_ble_eq_true rfl) (fun u12 => [vI (c r.1)]) (fun _ => rfl) (fun u12 hu12 => ?_)
        have fu12 : -1 ≤ c r.1 ∧ c r.1 ≤ 127 := hu12
        refine v_bipush hG dX12_every_15 (by decide) ?_
        refine v_icmp_ne (tgt := 43) hG dX12_every_17 (by decide) (by omega) (by omega) (fun c13 => ?_) (fun c13 => ?_)
        · skip
          have hst : everyF (facF c 0) c p = r := ‹everyF (facF c 0) c p = evL (facF c 0) c 38 (-2) F r›.trans (evL_stop (by first | exact Or.inl (ok_f hg5 (by assumption)) | exact Or.inr (by assumption)))
          have e14 : emS s (g 2) r.2.2 = emS s (g 2) (everyF (facF c 0) c p).2.2 := by rw [hst]
          have e15 : gS g r.1 r.2.1 = gS g (everyF (facF c 0) c p).1 (everyF (facF c 0) c p).2.1 := by rw [hst]
          exact v_return hG hR dX12_every_43 () rfl (by trivial) (fun _ hM => by rw [← e14]; rw [← e15]; exact hM)
        · skip
          have hok : r.2.1 = true := ok_t hg5 (by omega)
          have hlt := hTP.2.2.lt (p := r.1) (by omega)
          have hf1 := facF_rng hTP.2.2 0 (r.1 + 1) (by omega)
          obtain ⟨hf11, hf12, hf13⟩ := id hf1
          refine v_aload_n hG dX12_every_20 rfl 0 rfl ?_
          refine v_dup hG dX12_every_21 rfl ?_
          refine mg_spot (z := (gS g r.1 r.2.1) 3) hG dX12_every_22 rfl ?_
          refine v_iconst hG dX12_every_25 ?_
          refine v_iadd hG dX12_every_26 ?_
          refine mp_spot hG dX12_every_27 ?_
          rw [show (sU (gS g r.1 r.2.1) 3 (((gS g r.1 r.2.1) 3) + 1)) = gS g (r.1 + 1) true from by exact sp1 hok]
          refine v_aload_n hG dX12_every_30 rfl 0 rfl ?_
          refine v_callV (k1' := 0) (k2' := 0) hG dX12_every_31 zc_X12_factor ⟨zl_X12_78, zi_X12_factor, zs_X12_factor⟩ (fun l => k_factor0 l D A a (emS s (g 2) r.2.2) im fr bY tr ln bl bo (gS g (r.1 + 1) true) lg c (r.1 + 1) (by first | exact hTP | exact TP_gS hTP | exact TP_g (TP_gS hTP) s6_4 | exact TP_gS (TP_emS hTP (by omega) (by omega)) | exact TP_g (TP_gS (TP_emS hTP (by omega) (by omega))) s6_4) (by first | exact h3 | exact gS_3 | (rw [s6_3]; exact gS_3)) (by first | assumption | exact gS_50 | (rw [s6_5]; exact gS_50)) (by first | omega | (simp only [gS_2, gS_4, gS_6, s6_2, s6_4, emS_268, sU_eq, List.length_append]; omega)) (by first | omega | (simp only [gS_2, gS_4, gS_6, s6_2, s6_4, emS_268, sU_eq, List.length_append]; omega)) (by first | omega | (simp only [gS_2, gS_4, gS_6, s6_2, s6_4, emS_268, sU_eq, List.length_append]; omega)) (by first | omega | (simp only [gS_2, gS_4, gS_6, s6_2, s6_4, emS_268, sU_eq, List.length_append]; omega))) rfl mw_recv (fun _ h => h) ⟨by decide, by decide⟩ rfl rfl ⟨by decide, by decide⟩ (rest := []) rfl (Nat.le_of_ble_eq_true rfl) (fun u16 => []) (fun _ => rfl) (fun u16 hu16 => ?_)
          rw [show (emS (emS s (g 2) r.2.2) ((gS g (r.1 + 1) true) 2) (facF c 0 (r.1 + 1)).2.2) = emS s (g 2) (r.2.2 ++ ((facF c 0) (r.1 + 1)).2.2) from by rw [gS_2]; exact emS_app]
          rw [show (gS (gS g (r.1 + 1) true) (facF c 0 (r.1 + 1)).1 (facF c 0 (r.1 + 1)).2.1) = gS g ((facF c 0) (r.1 + 1)).1 ((facF c 0) (r.1 + 1)).2.1 from by exact gS_gS]
          refine v_aload_n hG dX12_every_34 rfl 0 rfl ?_
          refine v_bipush hG dX12_every_35 (by decide) ?_
          refine v_callV (k1' := 0) (k2' := 0) hG dX12_every_37 zc_X12_emits ⟨zl_X12_81, zi_X12_emits, zs_X12_emits⟩ (fun l => k_emits l D A a (emS s (g 2) (r.2.2 ++ ((facF c 0) (r.1 + 1)).2.2)) im fr bY tr ln bl bo (gS g ((facF c 0) (r.1 + 1)).1 ((facF c 0) (r.1 + 1)).2.1) lg (-2) (by first | omega | (simp only [gS_2, gS_4, gS_6, s6_2, s6_4, emS_268, sU_eq, List.length_append]; omega)) (by first | omega | (simp only [gS_2, gS_4, gS_6, s6_2, s6_4, emS_268, sU_eq, List.length_append]; omega)) (by exact gS_01)) rfl mw_recv (fun _ h => h) ⟨by decide, by decide⟩ rfl rfl ⟨by decide, by decide⟩ (rest := []) rfl (Nat.le_of_ble_eq_true rfl) (fun u17 => []) (fun _ => rfl) (fun u17 hu17 => ?_)
          rw [show (if (gS g ((facF c 0) (r.1 + 1)).1 ((facF c 0) (r.1 + 1)).2.1) 5 = 0 then em1 (emS s (g 2) (r.2.2 ++ ((facF c 0) (r.1 + 1)).2.2)) ((gS g ((facF c 0) (r.1 + 1)).1 ((facF c 0) (r.1 + 1)).2.1) 2) (-2) else (emS s (g 2) (r.2.2 ++ ((facF c 0) (r.1 + 1)).2.2))) = emS s (g 2) ((((facF c 0) (r.1 + 1)).1, ((facF c 0) (r.1 + 1)).2.1, r.2.2 ++ ((facF c 0) (r.1 + 1)).2.2 ++ (if ((facF c 0) (r.1 + 1)).2.1 = true then [(-2)] else []))).2.2 from by exact emit_l]
          refine v_goto (tgt := 4) hG dX12_every_40 (by decide) ?_
          exact ihL4 _ (by omega) (F - 1) (((facF c 0) (r.1 + 1)).1, ((facF c 0) (r.1 + 1)).2.1, r.2.2 ++ ((facF c 0) (r.1 + 1)).2.2 ++ (if ((facF c 0) (r.1 + 1)).2.1 = true then [(-2)] else [])) (by exact ‹everyF (facF c 0) c p = evL (facF c 0) c 38 (-2) F r›.trans (evL_go (by omega) hok (by assumption))) (by exact RB_go (by assumption) hf1) (by show 101 ≤ F - 1 + ((facF c 0) (r.1 + 1)).1; omega) rfl _ (by rfl) _ (by rfl)
  exact L4 _ 101 ((facF c 0) p) (by rfl) (by exact hfp) (by omega) rfl _ (by rfl) _ (by rfl)
set_option maxHeartbeats 4000000 in
set_option maxRecDepth 100000 in
theorem k_some0 (l : Launch) (D : Dx) (A : Nat → Prop) (a : Nat → Nat) (s im fr bY tr ln bl bo g lg : Int → Int) (c : Nat → Int) (p : Nat) (hTP : TP s g c) (h3 : g 3 = (p : Int)) (h5z : g 5 = 0) (hpe : (p : Int) ≤ g 4) (hA : 0 ≤ g 2 ∧ g 2 ≤ 4) (hs : 0 ≤ s (268 + g 2) ∧ s (268 + g 2) ≤ (p : Int)) (h6 : g 6 = 5) : CT l D A yX12_some cX12_some 1 none { frames := 10, cells := 0, slots := 0, locals := 231 } [.ref (a 0)] (MW D A a s im fr bY tr ln bl bo g lg) (fun _ : Unit => none) (fun _ => True) (fun _ => MW D A a (emS s (g 2) (someF (facF c 0) c p).2.2) im fr bY tr ln bl bo (gS g (someF (facF c 0) c p).1 (someF (facF c 0) c p).2.1) lg) := by
  refine ct_of (lo0 := [(0, .ref (a 0))]) (by decide) (Nat.le_of_ble_eq_true rfl) rfl ?_
  intro G hG hR
  have hT1 := hTP.1
  have hrb := someF_rng hTP.2.2 (fun x hx => facF_rng hTP.2.2 0 x hx) (p := p) (by omega)
  refine v_aload_n hG dX12_some_0 rfl 0 rfl ?_
  refine v_callV (k1' := 0) (k2' := 0) hG dX12_some_1 zc_X12_every ⟨zl_X12_98, zi_X12_every, zs_X12_every⟩ (fun l => k_every0 l D A a s im fr bY tr ln bl bo g lg c p (by first | exact hTP | exact TP_gS hTP | exact TP_g (TP_gS hTP) s6_4 | exact TP_gS (TP_emS hTP (by omega) (by omega)) | exact TP_g (TP_gS (TP_emS hTP (by omega) (by omega))) s6_4) (by first | exact h3 | exact gS_3 | (rw [s6_3]; exact gS_3)) (by first | assumption | exact gS_50 | (rw [s6_5]; exact gS_50)) (by first | omega | (simp only [gS_2, gS_4, gS_6, s6_2, s6_4, emS_268, sU_eq, List.length_append]; omega)) (by first | omega | (simp only [gS_2, gS_4, gS_6, s6_2, s6_4, emS_268, sU_eq, List.length_append]; omega)) (by first | omega | (simp only [gS_2, gS_4, gS_6, s6_2, s6_4, emS_268, sU_eq, List.length_append]; omega)) (by first | omega | (simp only [gS_2, gS_4, gS_6, s6_2, s6_4, emS_268, sU_eq, List.length_append]; omega))) rfl mw_recv (fun _ h => h) ⟨by decide, by decide⟩ rfl rfl ⟨by decide, by decide⟩ (rest := []) rfl (Nat.le_of_ble_eq_true rfl) (fun u1 => []) (fun _ => rfl) (fun u1 hu1 => ?_)
  have hfp := everyF_rng hTP.2.2 (fun x hx => facF_rng hTP.2.2 0 x hx) (p := p) (by omega)
  have L4 : ∀ mz : Nat, ∀ (F : Nat) (r : R3), (someF (facF c 0) c p = evL (everyF (facF c 0) c) c 124 (-3) F r) → (RB (g 4).toNat p r) → (101 ≤ F + r.1) → F = mz → ∀ x2 : Int → Int, x2 = (emS s (g 2) r.2.2) → ∀ x3 : Int → Int, x3 = (gS g r.1 r.2.1) → V G 0 0 (MW D A a x2 im fr bY tr ln bl bo x3 lg) 4 [(0, .ref (a 0))] [] := by
    intro dL4
    induction dL4 using Nat.strongRecOn with
    | ind dL4 ihL4 =>
      intro F r hq5 hq6 hq7 hq8
      intro x2 hx2
      subst hx2
      intro x3 hx3
      subst hx3
      have hg5 : gS g r.1 r.2.1 5 = (if r.2.1 then 0 else 1) := gS_5
      have hg01 := gS_01 (g := g) (p := r.1) (ok := r.2.1)
      obtain ⟨hr1, hr2, hr3⟩ := id ‹RB (g 4).toNat p r›
      refine v_aload_n hG dX12_some_4 rfl 0 rfl ?_
      refine mg_isWrong (z := (gS g r.1 r.2.1) 5) hG dX12_some_5 rfl ?_
      refine v_if_ne (tgt := 43) hG dX12_some_8 (by decide) (by omega) (fun c9 => ?_) (fun c9 => ?_)
      · skip
        have hst : someF (facF c 0) c p = r := ‹someF (facF c 0) c p = evL (everyF (facF c 0) c) c 124 (-3) F r›.trans (evL_stop (by first | exact Or.inl (ok_f hg5 (by assumption)) | exact Or.inr (by assumption)))
        have e10 : emS s (g 2) r.2.2 = emS s (g 2) (someF (facF c 0) c p).2.2 := by rw [hst]
        have e11 : gS g r.1 r.2.1 = gS g (someF (facF c 0) c p).1 (someF (facF c 0) c p).2.1 := by rw [hst]
        exact v_return hG hR dX12_some_43 () rfl (by trivial) (fun _ hM => by rw [← e10]; rw [← e11]; exact hM)
      · skip
        refine v_aload_n hG dX12_some_11 rfl 0 rfl ?_
        refine v_callV (k1' := 0) (k2' := 0) hG dX12_some_12 zc_X12_here ⟨zl_X12_55, zi_X12_here, zs_X12_here⟩ (fun l => k_here l D A a (emS s (g 2) r.2.2) im fr bY tr ln bl bo (gS g r.1 r.2.1) lg c r.1 (by first | exact hTP | exact TP_gS hTP | exact TP_g (TP_gS hTP) s6_4 | exact TP_gS (TP_emS hTP (by omega) (by omega)) | exact TP_g (TP_gS (TP_emS hTP (by omega) (by omega))) s6_4) (by first | exact h3 | exact gS_3 | (rw [s6_3]; exact gS_3)) (by first | omega | (simp only [gS_2, gS_4, gS_6, s6_2, s6_4, emS_268, sU_eq, List.length_append]; omega))) rfl mw_recv (fun _ h => h) ⟨by decide, by decide⟩ rfl rfl ⟨by decide, by decide⟩ (rest := []) rfl (Nat.le_of_ble_eq_true rfl) (fun u12 => [vI (c r.1)]) (fun _ => rfl) (fun u12 hu12 => ?_)
        have fu12 : -1 ≤ c r.1 ∧ c r.1 ≤ 127 := hu12
        refine v_bipush hG dX12_some_15 (by decide) ?_
        refine v_icmp_ne (tgt := 43) hG dX12_some_17 (by decide) (by omega) (by omega) (fun c13 => ?_) (fun c13 => ?_)
        · skip
          have hst : someF (facF c 0) c p = r := ‹someF (facF c 0) c p = evL (everyF (facF c 0) c) c 124 (-3) F r›.trans (evL_stop (by first | exact Or.inl (ok_f hg5 (by assumption)) | exact Or.inr (by assumption)))
          have e14 : emS s (g 2) r.2.2 = emS s (g 2) (someF (facF c 0) c p).2.2 := by rw [hst]
          have e15 : gS g r.1 r.2.1 = gS g (someF (facF c 0) c p).1 (someF (facF c 0) c p).2.1 := by rw [hst]
          exact v_return hG hR dX12_some_43 () rfl (by trivial) (fun _ hM => by rw [← e14]; rw [← e15]; exact hM)
        · skip
          have hok : r.2.1 = true := ok_t hg5 (by omega)
          have hlt := hTP.2.2.lt (p := r.1) (by omega)
          have hf1 := everyF_rng hTP.2.2 (fun x hx => facF_rng hTP.2.2 0 x hx) (p := (r.1 + 1)) (by omega)
          obtain ⟨hf11, hf12, hf13⟩ := id hf1
          refine v_aload_n hG dX12_some_20 rfl 0 rfl ?_
          refine v_dup hG dX12_some_21 rfl ?_
          refine mg_spot (z := (gS g r.1 r.2.1) 3) hG dX12_some_22 rfl ?_
          refine v_iconst hG dX12_some_25 ?_
          refine v_iadd hG dX12_some_26 ?_
          refine mp_spot hG dX12_some_27 ?_
          rw [show (sU (gS g r.1 r.2.1) 3 (((gS g r.1 r.2.1) 3) + 1)) = gS g (r.1 + 1) true from by exact sp1 hok]
          refine v_aload_n hG dX12_some_30 rfl 0 rfl ?_
          refine v_callV (k1' := 0) (k2' := 0) hG dX12_some_31 zc_X12_every ⟨zl_X12_98, zi_X12_every, zs_X12_every⟩ (fun l => k_every0 l D A a (emS s (g 2) r.2.2) im fr bY tr ln bl bo (gS g (r.1 + 1) true) lg c (r.1 + 1) (by first | exact hTP | exact TP_gS hTP | exact TP_g (TP_gS hTP) s6_4 | exact TP_gS (TP_emS hTP (by omega) (by omega)) | exact TP_g (TP_gS (TP_emS hTP (by omega) (by omega))) s6_4) (by first | exact h3 | exact gS_3 | (rw [s6_3]; exact gS_3)) (by first | assumption | exact gS_50 | (rw [s6_5]; exact gS_50)) (by first | omega | (simp only [gS_2, gS_4, gS_6, s6_2, s6_4, emS_268, sU_eq, List.length_append]; omega)) (by first | omega | (simp only [gS_2, gS_4, gS_6, s6_2, s6_4, emS_268, sU_eq, List.length_append]; omega)) (by first | omega | (simp only [gS_2, gS_4, gS_6, s6_2, s6_4, emS_268, sU_eq, List.length_append]; omega)) (by first | omega | (simp only [gS_2, gS_4, gS_6, s6_2, s6_4, emS_268, sU_eq, List.length_append]; omega))) rfl mw_recv (fun _ h => h) ⟨by decide, by decide⟩ rfl rfl ⟨by decide, by decide⟩ (rest := []) rfl (Nat.le_of_ble_eq_true rfl) (fun u16 => []) (fun _ => rfl) (fun u16 hu16 => ?_)
          rw [show (emS (emS s (g 2) r.2.2) ((gS g (r.1 + 1) true) 2) (everyF (facF c 0) c (r.1 + 1)).2.2) = emS s (g 2) (r.2.2 ++ ((everyF (facF c 0) c) (r.1 + 1)).2.2) from by rw [gS_2]; exact emS_app]
          rw [show (gS (gS g (r.1 + 1) true) (everyF (facF c 0) c (r.1 + 1)).1 (everyF (facF c 0) c (r.1 + 1)).2.1) = gS g ((everyF (facF c 0) c) (r.1 + 1)).1 ((everyF (facF c 0) c) (r.1 + 1)).2.1 from by exact gS_gS]
          refine v_aload_n hG dX12_some_34 rfl 0 rfl ?_
          refine v_bipush hG dX12_some_35 (by decide) ?_
          refine v_callV (k1' := 0) (k2' := 0) hG dX12_some_37 zc_X12_emits ⟨zl_X12_81, zi_X12_emits, zs_X12_emits⟩ (fun l => k_emits l D A a (emS s (g 2) (r.2.2 ++ ((everyF (facF c 0) c) (r.1 + 1)).2.2)) im fr bY tr ln bl bo (gS g ((everyF (facF c 0) c) (r.1 + 1)).1 ((everyF (facF c 0) c) (r.1 + 1)).2.1) lg (-3) (by first | omega | (simp only [gS_2, gS_4, gS_6, s6_2, s6_4, emS_268, sU_eq, List.length_append]; omega)) (by first | omega | (simp only [gS_2, gS_4, gS_6, s6_2, s6_4, emS_268, sU_eq, List.length_append]; omega)) (by exact gS_01)) rfl mw_recv (fun _ h => h) ⟨by decide, by decide⟩ rfl rfl ⟨by decide, by decide⟩ (rest := []) rfl (Nat.le_of_ble_eq_true rfl) (fun u17 => []) (fun _ => rfl) (fun u17 hu17 => ?_)
          rw [show (if (gS g ((everyF (facF c 0) c) (r.1 + 1)).1 ((everyF (facF c 0) c) (r.1 + 1)).2.1) 5 = 0 then em1 (emS s (g 2) (r.2.2 ++ ((everyF (facF c 0) c) (r.1 + 1)).2.2)) ((gS g ((everyF (facF c 0) c) (r.1 + 1)).1 ((everyF (facF c 0) c) (r.1 + 1)).2.1) 2) (-3) else (emS s (g 2) (r.2.2 ++ ((everyF (facF c 0) c) (r.1 + 1)).2.2))) = emS s (g 2) ((((everyF (facF c 0) c) (r.1 + 1)).1, ((everyF (facF c 0) c) (r.1 + 1)).2.1, r.2.2 ++ ((everyF (facF c 0) c) (r.1 + 1)).2.2 ++ (if ((everyF (facF c 0) c) (r.1 + 1)).2.1 = true then [(-3)] else []))).2.2 from by exact emit_l]
          refine v_goto (tgt := 4) hG dX12_some_40 (by decide) ?_
          exact ihL4 _ (by omega) (F - 1) (((everyF (facF c 0) c) (r.1 + 1)).1, ((everyF (facF c 0) c) (r.1 + 1)).2.1, r.2.2 ++ ((everyF (facF c 0) c) (r.1 + 1)).2.2 ++ (if ((everyF (facF c 0) c) (r.1 + 1)).2.1 = true then [(-3)] else [])) (by exact ‹someF (facF c 0) c p = evL (everyF (facF c 0) c) c 124 (-3) F r›.trans (evL_go (by omega) hok (by assumption))) (by exact RB_go (by assumption) hf1) (by show 101 ≤ F - 1 + ((everyF (facF c 0) c) (r.1 + 1)).1; omega) rfl _ (by rfl) _ (by rfl)
  exact L4 _ 101 ((everyF (facF c 0) c) p) (by rfl) (by exact hfp) (by omega) rfl _ (by rfl) _ (by rfl)
set_option maxHeartbeats 4000000 in
set_option maxRecDepth 100000 in
theorem k_factor1 (l : Launch) (D : Dx) (A : Nat → Prop) (a : Nat → Nat) (s im fr bY tr ln bl bo g lg : Int → Int) (c : Nat → Int) (p : Nat) (hTP : TP s g c) (h3 : g 3 = (p : Int)) (h5z : g 5 = 0) (hpe : (p : Int) ≤ g 4) (hA : 0 ≤ g 2 ∧ g 2 ≤ 4) (hs : 0 ≤ s (268 + g 2) ∧ s (268 + g 2) ≤ (p : Int)) (h6 : g 6 = 4) : CT l D A yX12_factor cX12_factor 5 none { frames := 11, cells := 0, slots := 0, locals := 251 } [.ref (a 0)] (MW D A a s im fr bY tr ln bl bo g lg) (fun _ : Unit => none) (fun _ => True) (fun _ => MW D A a (emS s (g 2) (facF c 1 p).2.2) im fr bY tr ln bl bo (gS g (facF c 1 p).1 (facF c 1 p).2.1) lg) := by
  refine ct_of (lo0 := [(0, .ref (a 0))]) (by decide) (Nat.le_of_ble_eq_true rfl) rfl ?_
  intro G hG hR
  have hT1 := hTP.1
  have hrb := facF_rng hTP.2.2 1 p (by omega)
  refine v_aload_n hG dX12_factor_0 rfl 0 rfl ?_
  refine mg_isWrong (z := g 5) hG dX12_factor_1 rfl ?_
  refine v_if_eq (tgt := 8) hG dX12_factor_4 (by decide) (by omega) (fun c1 => ?_) (fun c1 => ?_)
  · skip
    refine v_aload_n hG dX12_factor_8 rfl 0 rfl ?_
    refine v_callV (k1' := 0) (k2' := 0) hG dX12_factor_9 zc_X12_here ⟨zl_X12_55, zi_X12_here, zs_X12_here⟩ (fun l => k_here l D A a s im fr bY tr ln bl bo g lg c p (by first | exact hTP | exact TP_gS hTP | exact TP_g (TP_gS hTP) s6_4 | exact TP_gS (TP_emS hTP (by omega) (by omega)) | exact TP_g (TP_gS (TP_emS hTP (by omega) (by omega))) s6_4) (by first | exact h3 | exact gS_3 | (rw [s6_3]; exact gS_3)) (by first | omega | (simp only [gS_2, gS_4, gS_6, s6_2, s6_4, emS_268, sU_eq, List.length_append]; omega))) rfl mw_recv (fun _ h => h) ⟨by decide, by decide⟩ rfl rfl ⟨by decide, by decide⟩ (rest := []) rfl (Nat.le_of_ble_eq_true rfl) (fun u2 => [vI (c p)]) (fun _ => rfl) (fun u2 hu2 => ?_)
    have fu2 : -1 ≤ c p ∧ c p ≤ 127 := hu2
    refine v_istore_n (lo' := [(1, vI (c p)), (0, .ref (a 0))]) hG dX12_factor_12 rfl (by decide) rfl ?_
    refine v_iload_n hG dX12_factor_13 rfl 0 rfl ?_
    refine v_bipush hG dX12_factor_14 (by decide) ?_
    refine v_icmp_eq (tgt := 25) hG dX12_factor_16 (by decide) (by omega) (by omega) (fun c3 => ?_) (fun c3 => ?_)
    · skip
      have hlt := hTP.2.2.lt (p := p) (by omega)
      refine v_aload_n hG dX12_factor_25 rfl 1 rfl ?_
      refine v_aload_n hG dX12_factor_26 rfl 1 rfl ?_
      refine mg_open (z := g 6) hG dX12_factor_27 rfl ?_
      refine v_iconst hG dX12_factor_30 ?_
      refine v_icmp_ne (tgt := 38) hG dX12_factor_31 (by decide) (by omega) (by omega) (fun c4 => ?_) (fun c4 => ?_)
      · skip
        refine v_iconst hG dX12_factor_38 ?_
        refine mp_isWrong hG dX12_factor_39 (Or.inl rfl) ?_
        refine v_aload_n hG dX12_factor_42 rfl 1 rfl ?_
        refine v_dup hG dX12_factor_43 rfl ?_
        refine mg_open (z := g 6) hG dX12_factor_44 rfl ?_
        refine v_iconst hG dX12_factor_47 ?_
        refine v_iadd hG dX12_factor_48 ?_
        refine mp_open hG dX12_factor_49 ?_
        refine v_aload_n hG dX12_factor_52 rfl 1 rfl ?_
        refine v_dup hG dX12_factor_53 rfl ?_
        refine mg_spot (z := g 3) hG dX12_factor_54 rfl ?_
        refine v_aload_n hG dX12_factor_57 rfl 1 rfl ?_
        refine mg_isWrong (z := 0) hG dX12_factor_58 rfl ?_
        refine v_if_eq (tgt := 68) hG dX12_factor_61 (by decide) (by omega) (fun c5 => ?_) (fun c5 => ?_)
        · skip
          refine v_iconst hG dX12_factor_68 ?_
          refine v_iadd hG dX12_factor_69 ?_
          refine mp_spot hG dX12_factor_70 ?_
          rw [show (sU (sU (sU g 5 0) 6 ((g 6) + 1)) 3 ((g 3) + 1)) = sU (gS g (p + 1) true) 6 (g 6 + 1) from by exact in6 h3]
          refine v_iload_n hG dX12_factor_73 rfl 0 rfl ?_
          refine v_bipush hG dX12_factor_74 (by decide) ?_
          refine v_icmp_ne (tgt := 91) hG dX12_factor_76 (by decide) (by omega) (by omega) (fun c6 => ?_) (fun c6 => ?_)
          · skip
            exfalso; omega
          · skip
            have hf1 := facF_rng hTP.2.2 0 (p + 1) (by omega)
            obtain ⟨hf11, hf12, hf13⟩ := id hf1
            refine v_aload_n hG dX12_factor_79 rfl 1 rfl ?_
            refine v_callV (k1' := 0) (k2' := 0) hG dX12_factor_80 zc_X12_factor ⟨zl_X12_78, zi_X12_factor, zs_X12_factor⟩ (fun l => k_factor0 l D A a s im fr bY tr ln bl bo (sU (gS g (p + 1) true) 6 (g 6 + 1)) lg c (p + 1) (by first | exact hTP | exact TP_gS hTP | exact TP_g (TP_gS hTP) s6_4 | exact TP_gS (TP_emS hTP (by omega) (by omega)) | exact TP_g (TP_gS (TP_emS hTP (by omega) (by omega))) s6_4) (by first | exact h3 | exact gS_3 | (rw [s6_3]; exact gS_3)) (by first | assumption | exact gS_50 | (rw [s6_5]; exact gS_50)) (by first | omega | (simp only [gS_2, gS_4, gS_6, s6_2, s6_4, emS_268, sU_eq, List.length_append]; omega)) (by first | omega | (simp only [gS_2, gS_4, gS_6, s6_2, s6_4, emS_268, sU_eq, List.length_append]; omega)) (by first | omega | (simp only [gS_2, gS_4, gS_6, s6_2, s6_4, emS_268, sU_eq, List.length_append]; omega)) (by first | omega | (simp only [gS_2, gS_4, gS_6, s6_2, s6_4, emS_268, sU_eq, List.length_append]; omega))) rfl mw_recv (fun _ h => h) ⟨by decide, by decide⟩ rfl rfl ⟨by decide, by decide⟩ (rest := []) rfl (Nat.le_of_ble_eq_true rfl) (fun u7 => []) (fun _ => rfl) (fun u7 hu7 => ?_)
            rw [show (emS s ((sU (gS g (p + 1) true) 6 (g 6 + 1)) 2) (facF c 0 (p + 1)).2.2) = emS s (g 2) (facF c 0 (p + 1)).2.2 from by rw [s6_2, gS_2]]
            rw [show (gS (sU (gS g (p + 1) true) 6 (g 6 + 1)) (facF c 0 (p + 1)).1 (facF c 0 (p + 1)).2.1) = sU (gS g (facF c 0 (p + 1)).1 (facF c 0 (p + 1)).2.1) 6 (g 6 + 1) from by exact gS_s6]
            refine v_aload_n hG dX12_factor_83 rfl 1 rfl ?_
            refine v_iconst hG dX12_factor_84 ?_
            refine v_callV (k1' := 0) (k2' := 0) hG dX12_factor_85 zc_X12_emits ⟨zl_X12_81, zi_X12_emits, zs_X12_emits⟩ (fun l => k_emits l D A a (emS s (g 2) (facF c 0 (p + 1)).2.2) im fr bY tr ln bl bo (sU (gS g (facF c 0 (p + 1)).1 (facF c 0 (p + 1)).2.1) 6 (g 6 + 1)) lg (-1) (by first | omega | (simp only [gS_2, gS_4, gS_6, s6_2, s6_4, emS_268, sU_eq, List.length_append]; omega)) (by first | omega | (simp only [gS_2, gS_4, gS_6, s6_2, s6_4, emS_268, sU_eq, List.length_append]; omega)) (by rw [s6_5]; exact gS_01)) rfl mw_recv (fun _ h => h) ⟨by decide, by decide⟩ rfl rfl ⟨by decide, by decide⟩ (rest := []) rfl (Nat.le_of_ble_eq_true rfl) (fun u8 => []) (fun _ => rfl) (fun u8 hu8 => ?_)
            rw [show (if (sU (gS g (facF c 0 (p + 1)).1 (facF c 0 (p + 1)).2.1) 6 (g 6 + 1)) 5 = 0 then em1 (emS s (g 2) (facF c 0 (p + 1)).2.2) ((sU (gS g (facF c 0 (p + 1)).1 (facF c 0 (p + 1)).2.1) 6 (g 6 + 1)) 2) (-1) else (emS s (g 2) (facF c 0 (p + 1)).2.2)) = emS s (g 2) ((facF c 0 (p + 1)).2.2 ++ (if (facF c 0 (p + 1)).2.1 = true then [-1] else [])) from by exact emit_6]
            refine v_goto (tgt := 101) hG dX12_factor_88 (by decide) ?_
            refine v_aload_n hG dX12_factor_101 rfl 1 rfl ?_
            refine v_dup hG dX12_factor_102 rfl ?_
            refine mg_open (z := g 6 + 1) hG dX12_factor_103 rfl ?_
            refine v_iconst hG dX12_factor_106 ?_
            refine v_isub hG dX12_factor_107 ?_
            refine mp_open hG dX12_factor_108 ?_
            have hfc := fac_n (c := c) (o := 0) (p := p) (by assumption)
            have e9 : emS s (g 2) ((facF c 0 (p + 1)).2.2 ++ (if (facF c 0 (p + 1)).2.1 = true then [-1] else [])) = emS s (g 2) (facF c 1 p).2.2 := by first | (rw [hfc]; exact out6 (by first | omega | (rw [sU_eq]; omega))) | (rw [hfc]; rfl) | (rw [hfc])
            have e10 : sU (sU (gS g (facF c 0 (p + 1)).1 (facF c 0 (p + 1)).2.1) 6 (g 6 + 1)) 6 ((g 6 + 1) - 1) = gS g (facF c 1 p).1 (facF c 1 p).2.1 := by first | (rw [hfc]; exact out6 (by first | omega | (rw [sU_eq]; omega))) | (rw [hfc]; rfl) | (rw [hfc])
            exact v_return hG hR dX12_factor_111 () rfl (by trivial) (fun _ hM => by rw [← e9]; rw [← e10]; exact hM)
        · skip
          exfalso; omega
      · skip
        exfalso; omega
    · skip
      refine v_iload_n hG dX12_factor_19 rfl 0 rfl ?_
      refine v_bipush hG dX12_factor_20 (by decide) ?_
      refine v_icmp_ne (tgt := 112) hG dX12_factor_22 (by decide) (by omega) (by omega) (fun c11 => ?_) (fun c11 => ?_)
      · skip
        refine v_aload_n hG dX12_factor_112 rfl 1 rfl ?_
        refine v_ldcS (i := 1) (tx := "mkdxtv") hG dX12_factor_113 (by decide) ?_
        refine v_callV (k1' := 0) (k2' := 0) hG dX12_factor_115 zc_X12_among ⟨zl_X12_89, zi_X12_among, zs_X12_among⟩ (fun l => k_among l D A a s im fr bY tr ln bl bo g lg 1 (by first | assumption | decide) c p (by first | exact hTP | exact TP_gS hTP | exact TP_g (TP_gS hTP) s6_4 | exact TP_gS (TP_emS hTP (by omega) (by omega)) | exact TP_g (TP_gS (TP_emS hTP (by omega) (by omega))) s6_4) (by first | exact h3 | exact gS_3 | (rw [s6_3]; exact gS_3)) (by first | omega | (simp only [gS_2, gS_4, gS_6, s6_2, s6_4, emS_268, sU_eq, List.length_append]; omega))) rfl mw_recv (fun _ h => h) ⟨by decide, by decide⟩ rfl rfl ⟨by decide, by decide⟩ (rest := []) rfl (Nat.le_of_ble_eq_true rfl) (fun u12 => [vI (zix 1 (c p))]) (fun _ => rfl) (fun u12 hu12 => ?_)
        have fu12 : -1 ≤ zix 1 (c p) ∧ zix 1 (c p) ≤ 16 := hu12
        refine v_istore_n (lo' := [(2, vI (zix 1 (c p))), (1, vI (c p)), (0, .ref (a 0))]) hG dX12_factor_118 rfl (by decide) rfl ?_
        refine v_aload_n hG dX12_factor_119 rfl 2 rfl ?_
        refine v_iload_n hG dX12_factor_120 rfl 0 rfl ?_
        refine v_iconst hG dX12_factor_121 ?_
        refine v_icmp_ne (tgt := 129) hG dX12_factor_122 (by decide) (by omega) (by omega) (fun c13 => ?_) (fun c13 => ?_)
        · skip
          refine v_iconst hG dX12_factor_129 ?_
          refine mp_isWrong hG dX12_factor_130 (Or.inl rfl) ?_
          rw [show (sU (amG g p (zix 1 (c p))) 5 0) = gS g (p + 1) true from by exact am_y (by assumption)]
          have hg5 : gS g (p + 1) true 5 = 0 := gS_50
          have hlt := hTP.2.2.lt (p := p) (fun e => (by assumption : ¬ zix 1 (c p) = -1) (by rw [e]; exact zix_end (by decide)))
          refine v_aload_n hG dX12_factor_133 rfl 2 rfl ?_
          refine mg_isWrong (z := (gS g (p + 1) true) 5) hG dX12_factor_134 rfl ?_
          refine v_if_eq (tgt := 144) hG dX12_factor_137 (by decide) (by omega) (fun c14 => ?_) (fun c14 => ?_)
          · skip
            refine v_aload_n hG dX12_factor_144 rfl 2 rfl ?_
            refine v_ldcS (i := 2) (tx := "<=>") hG dX12_factor_145 (by decide) ?_
            refine v_callV (k1' := 0) (k2' := 0) hG dX12_factor_147 zc_X12_among ⟨zl_X12_89, zi_X12_among, zs_X12_among⟩ (fun l => k_among l D A a s im fr bY tr ln bl bo (gS g (p + 1) true) lg 2 (by first | assumption | decide) c (p + 1) (by first | exact hTP | exact TP_gS hTP | exact TP_g (TP_gS hTP) s6_4 | exact TP_gS (TP_emS hTP (by omega) (by omega)) | exact TP_g (TP_gS (TP_emS hTP (by omega) (by omega))) s6_4) (by first | exact h3 | exact gS_3 | (rw [s6_3]; exact gS_3)) (by first | omega | (simp only [gS_2, gS_4, gS_6, s6_2, s6_4, emS_268, sU_eq, List.length_append]; omega))) rfl mw_recv (fun _ h => h) ⟨by decide, by decide⟩ rfl rfl ⟨by decide, by decide⟩ (rest := []) rfl (Nat.le_of_ble_eq_true rfl) (fun u15 => [vI (zix 2 (c (p + 1)))]) (fun _ => rfl) (fun u15 hu15 => ?_)
            have fu15 : -1 ≤ zix 2 (c (p + 1)) ∧ zix 2 (c (p + 1)) ≤ 16 := hu15
            refine v_istore_n (lo' := [(3, vI (zix 2 (c (p + 1)))), (2, vI (zix 1 (c p))), (1, vI (c p)), (0, .ref (a 0))]) hG dX12_factor_150 rfl (by decide) rfl ?_
            have hg6 : (amG (gS g (p + 1) true) (p + 1) (zix 2 (c (p + 1)))) 5 = 0 := am_5.trans gS_50
            refine v_aload_n hG dX12_factor_151 rfl 3 rfl ?_
            refine v_aload_n hG dX12_factor_152 rfl 3 rfl ?_
            refine mg_isWrong (z := (amG (gS g (p + 1) true) (p + 1) (zix 2 (c (p + 1)))) 5) hG dX12_factor_153 rfl ?_
            refine v_if_ne (tgt := 164) hG dX12_factor_156 (by decide) (by omega) (fun c16 => ?_) (fun c16 => ?_)
            · skip
              exfalso; omega
            · skip
              refine v_iload_n hG dX12_factor_159 rfl 0 rfl ?_
              refine v_iconst hG dX12_factor_160 ?_
              refine v_icmp_ne (tgt := 168) hG dX12_factor_161 (by decide) (by omega) (by omega) (fun c17 => ?_) (fun c17 => ?_)
              · skip
                refine v_iconst hG dX12_factor_168 ?_
                refine mp_isWrong hG dX12_factor_169 (Or.inl rfl) ?_
                rw [show (sU (amG (gS g (p + 1) true) (p + 1) (zix 2 (c (p + 1)))) 5 0) = gS g (p + 2) true from by exact (am_y (by assumption)).trans gS_gS]
                have hlt2 := hTP.2.2.lt (p := p + 1) (fun e => (by assumption : ¬ zix 2 (c (p + 1)) = -1) (by rw [e]; exact zix_end (by decide)))
                refine v_aload_n hG dX12_factor_172 rfl 3 rfl ?_
                refine v_callV (k1' := 0) (k2' := 0) hG dX12_factor_173 zc_X12_figures ⟨zl_X12_95, zi_X12_figures, zs_X12_figures⟩ (fun l => k_figures l D A a s im fr bY tr ln bl bo (gS g (p + 2) true) lg c (p + 2) true (by first | exact hTP | exact TP_gS hTP | exact TP_g (TP_gS hTP) s6_4 | exact TP_gS (TP_emS hTP (by omega) (by omega)) | exact TP_g (TP_gS (TP_emS hTP (by omega) (by omega))) s6_4) (by first | exact h3 | exact gS_3 | (rw [s6_3]; exact gS_3)) (by first | exact gS_5 | (rw [s6_5]; exact gS_5)) (by first | omega | (simp only [gS_2, gS_4, gS_6, s6_2, s6_4, emS_268, sU_eq, List.length_append]; omega))) rfl mw_recv (fun _ h => h) ⟨by decide, by decide⟩ rfl rfl ⟨by decide, by decide⟩ (rest := []) rfl (Nat.le_of_ble_eq_true rfl) (fun u18 => [vI ((figF c ((p + 2), true)).2)]) (fun _ => rfl) (fun u18 hu18 => ?_)
                rw [show (gS (gS g (p + 2) true) (figF c ((p + 2), true)).1.1 (figF c ((p + 2), true)).1.2) = gS g (figF c ((p + 2), true)).1.1 (figF c ((p + 2), true)).1.2 from by exact gS_gS]
                refine v_istore (lo' := [(4, vI ((figF c ((p + 2), true)).2)), (3, vI (zix 2 (c (p + 1)))), (2, vI (zix 1 (c p))), (1, vI (c p)), (0, .ref (a 0))]) hG dX12_factor_176 (by decide) rfl ?_
                refine v_aload_n hG dX12_factor_178 rfl 4 rfl ?_
                refine v_iload_n hG dX12_factor_179 rfl 2 rfl ?_
                refine v_bipush hG dX12_factor_180 (by decide) ?_
                refine v_iload_n hG dX12_factor_182 rfl 1 rfl ?_
                refine v_imul hG dX12_factor_183 ?_
                refine v_iadd hG dX12_factor_184 ?_
                refine v_bipush hG dX12_factor_185 (by decide) ?_
                refine v_iload hG dX12_factor_187 0 rfl ?_
                refine v_imul hG dX12_factor_189 ?_
                refine v_iadd hG dX12_factor_190 ?_
                refine v_callV (k1' := 0) (k2' := 0) hG dX12_factor_191 zc_X12_emits ⟨zl_X12_81, zi_X12_emits, zs_X12_emits⟩ (fun l => k_emits l D A a s im fr bY tr ln bl bo (gS g (figF c ((p + 2), true)).1.1 (figF c ((p + 2), true)).1.2) lg (((zix 1 (c p)) + (8 * (zix 2 (c (p + 1))))) + (32 * ((figF c ((p + 2), true)).2))) (by first | omega | (simp only [gS_2, gS_4, gS_6, s6_2, s6_4, emS_268, sU_eq, List.length_append]; omega)) (by first | omega | (simp only [gS_2, gS_4, gS_6, s6_2, s6_4, emS_268, sU_eq, List.length_append]; omega)) (by exact gS_01)) rfl mw_recv (fun _ h => h) ⟨by decide, by decide⟩ rfl rfl ⟨by decide, by decide⟩ (rest := []) rfl (Nat.le_of_ble_eq_true rfl) (fun u19 => []) (fun _ => rfl) (fun u19 hu19 => ?_)
                rw [show (if (gS g (figF c ((p + 2), true)).1.1 (figF c ((p + 2), true)).1.2) 5 = 0 then em1 s ((gS g (figF c ((p + 2), true)).1.1 (figF c ((p + 2), true)).1.2) 2) (((zix 1 (c p)) + (8 * (zix 2 (c (p + 1))))) + (32 * ((figF c ((p + 2), true)).2))) else s) = emS s (g 2) (if (figF c (p + 2, true)).1.2 = true then [zix 1 (c p) + 8 * zix 2 (c (p + 1)) + 32 * (figF c (p + 2, true)).2] else []) from by exact emit_1]
                have hfc : facF c 1 p = atomF c p := fac_at (by assumption) (by assumption)
                have e20 : emS s (g 2) (if (figF c (p + 2, true)).1.2 = true then [zix 1 (c p) + 8 * zix 2 (c (p + 1)) + 32 * (figF c (p + 2, true)).2] else []) = emS s (g 2) (facF c 1 p).2.2 := by rw [hfc]; first | (rw [at_A (by assumption)]; done) | (rw [at_B (by assumption) (by assumption)]; done) | (rw [at_C (by assumption) (by assumption)]; done) | (rw [at_A (by assumption)]; rfl) | (rw [at_B (by assumption) (by assumption)]; rfl)
                have e21 : gS g (figF c ((p + 2), true)).1.1 (figF c ((p + 2), true)).1.2 = gS g (facF c 1 p).1 (facF c 1 p).2.1 := by rw [hfc]; first | (rw [at_A (by assumption)]; done) | (rw [at_B (by assumption) (by assumption)]; done) | (rw [at_C (by assumption) (by assumption)]; done) | (rw [at_A (by assumption)]; rfl) | (rw [at_B (by assumption) (by assumption)]; rfl)
                exact v_return hG hR dX12_factor_194 () rfl (by trivial) (fun _ hM => by rw [← e20]; rw [← e21]; exact hM)
              · skip
                refine v_iconst hG dX12_factor_164 ?_
                refine v_goto (tgt := 169) hG dX12_factor_165 (by decide) ?_
                refine mp_isWrong hG dX12_factor_169 (Or.inr rfl) ?_
                rw [show (sU (amG (gS g (p + 1) true) (p + 1) (zix 2 (c (p + 1)))) 5 1) = gS g (p + 1) false from by exact (am_n gS_3 (by assumption)).trans gS_gS]
                refine v_aload_n hG dX12_factor_172 rfl 3 rfl ?_
                refine v_callV (k1' := 0) (k2' := 0) hG dX12_factor_173 zc_X12_figures ⟨zl_X12_95, zi_X12_figures, zs_X12_figures⟩ (fun l => k_figures l D A a s im fr bY tr ln bl bo (gS g (p + 1) false) lg c (p + 1) false (by first | exact hTP | exact TP_gS hTP | exact TP_g (TP_gS hTP) s6_4 | exact TP_gS (TP_emS hTP (by omega) (by omega)) | exact TP_g (TP_gS (TP_emS hTP (by omega) (by omega))) s6_4) (by first | exact h3 | exact gS_3 | (rw [s6_3]; exact gS_3)) (by first | exact gS_5 | (rw [s6_5]; exact gS_5)) (by first | omega | (simp only [gS_2, gS_4, gS_6, s6_2, s6_4, emS_268, sU_eq, List.length_append]; omega))) rfl mw_recv (fun _ h => h) ⟨by decide, by decide⟩ rfl rfl ⟨by decide, by decide⟩ (rest := []) rfl (Nat.le_of_ble_eq_true rfl) (fun u22 => [vI ((figF c ((p + 1), false)).2)]) (fun _ => rfl) (fun u22 hu22 => ?_)
                rw [show (gS (gS g (p + 1) false) (figF c ((p + 1), false)).1.1 (figF c ((p + 1), false)).1.2) = gS g (figF c ((p + 1), false)).1.1 (figF c ((p + 1), false)).1.2 from by exact gS_gS]
                rw [figF_f]
                refine v_istore (lo' := [(4, vI 0), (3, vI (zix 2 (c (p + 1)))), (2, vI (zix 1 (c p))), (1, vI (c p)), (0, .ref (a 0))]) hG dX12_factor_176 (by decide) rfl ?_
                refine v_aload_n hG dX12_factor_178 rfl 4 rfl ?_
                refine v_iload_n hG dX12_factor_179 rfl 2 rfl ?_
                refine v_bipush hG dX12_factor_180 (by decide) ?_
                refine v_iload_n hG dX12_factor_182 rfl 1 rfl ?_
                refine v_imul hG dX12_factor_183 ?_
                refine v_iadd hG dX12_factor_184 ?_
                refine v_bipush hG dX12_factor_185 (by decide) ?_
                refine v_iload hG dX12_factor_187 0 rfl ?_
                refine v_imul hG dX12_factor_189 ?_
                refine v_iadd hG dX12_factor_190 ?_
                refine v_callV (k1' := 0) (k2' := 0) hG dX12_factor_191 zc_X12_emits ⟨zl_X12_81, zi_X12_emits, zs_X12_emits⟩ (fun l => k_emits l D A a s im fr bY tr ln bl bo (gS g (p + 1) false) lg (((zix 1 (c p)) + (8 * (zix 2 (c (p + 1))))) + (32 * 0)) (by first | omega | (simp only [gS_2, gS_4, gS_6, s6_2, s6_4, emS_268, sU_eq, List.length_append]; omega)) (by first | omega | (simp only [gS_2, gS_4, gS_6, s6_2, s6_4, emS_268, sU_eq, List.length_append]; omega)) (by exact gS_01)) rfl mw_recv (fun _ h => h) ⟨by decide, by decide⟩ rfl rfl ⟨by decide, by decide⟩ (rest := []) rfl (Nat.le_of_ble_eq_true rfl) (fun u23 => []) (fun _ => rfl) (fun u23 hu23 => ?_)
                rw [show (if (gS g (p + 1) false) 5 = 0 then em1 s ((gS g (p + 1) false) 2) (((zix 1 (c p)) + (8 * (zix 2 (c (p + 1))))) + (32 * 0)) else s) = s from by exact emit_n]
                have hfc : facF c 1 p = atomF c p := fac_at (by assumption) (by assumption)
                have e24 : s = emS s (g 2) (facF c 1 p).2.2 := by rw [hfc]; first | (rw [at_A (by assumption)]; done) | (rw [at_B (by assumption) (by assumption)]; done) | (rw [at_C (by assumption) (by assumption)]; done) | (rw [at_A (by assumption)]; rfl) | (rw [at_B (by assumption) (by assumption)]; rfl)
                have e25 : gS g (p + 1) false = gS g (facF c 1 p).1 (facF c 1 p).2.1 := by rw [hfc]; first | (rw [at_A (by assumption)]; done) | (rw [at_B (by assumption) (by assumption)]; done) | (rw [at_C (by assumption) (by assumption)]; done) | (rw [at_A (by assumption)]; rfl) | (rw [at_B (by assumption) (by assumption)]; rfl)
                exact v_return hG hR dX12_factor_194 () rfl (by trivial) (fun _ hM => by rw [← e24]; rw [← e25]; exact hM)
          · skip
            exfalso; omega
        · skip
          refine v_iconst hG dX12_factor_125 ?_
          refine v_goto (tgt := 130) hG dX12_factor_126 (by decide) ?_
          refine mp_isWrong hG dX12_factor_130 (Or.inr rfl) ?_
          rw [show (sU (amG g p (zix 1 (c p))) 5 1) = gS g p false from by exact am_n h3 (by assumption)]
          have hg5 : gS g p false 5 = 1 := gS_51
          refine v_aload_n hG dX12_factor_133 rfl 2 rfl ?_
          refine mg_isWrong (z := (gS g p false) 5) hG dX12_factor_134 rfl ?_
          refine v_if_eq (tgt := 144) hG dX12_factor_137 (by decide) (by omega) (fun c26 => ?_) (fun c26 => ?_)
          · skip
            exfalso; omega
          · skip
            refine v_iconst hG dX12_factor_140 ?_
            refine v_goto (tgt := 150) hG dX12_factor_141 (by decide) ?_
            refine v_istore_n (lo' := [(3, vI 0), (2, vI (zix 1 (c p))), (1, vI (c p)), (0, .ref (a 0))]) hG dX12_factor_150 rfl (by decide) rfl ?_
            refine v_aload_n hG dX12_factor_151 rfl 3 rfl ?_
            refine v_aload_n hG dX12_factor_152 rfl 3 rfl ?_
            refine mg_isWrong (z := (gS g p false) 5) hG dX12_factor_153 rfl ?_
            refine v_if_ne (tgt := 164) hG dX12_factor_156 (by decide) (by omega) (fun c27 => ?_) (fun c27 => ?_)
            · skip
              refine v_iconst hG dX12_factor_164 ?_
              refine v_goto (tgt := 169) hG dX12_factor_165 (by decide) ?_
              refine mp_isWrong hG dX12_factor_169 (Or.inr rfl) ?_
              rw [show (sU (gS g p false) 5 1) = gS g p false from by exact gS_s5]
              refine v_aload_n hG dX12_factor_172 rfl 3 rfl ?_
              refine v_callV (k1' := 0) (k2' := 0) hG dX12_factor_173 zc_X12_figures ⟨zl_X12_95, zi_X12_figures, zs_X12_figures⟩ (fun l => k_figures l D A a s im fr bY tr ln bl bo (gS g p false) lg c p false (by first | exact hTP | exact TP_gS hTP | exact TP_g (TP_gS hTP) s6_4 | exact TP_gS (TP_emS hTP (by omega) (by omega)) | exact TP_g (TP_gS (TP_emS hTP (by omega) (by omega))) s6_4) (by first | exact h3 | exact gS_3 | (rw [s6_3]; exact gS_3)) (by first | exact gS_5 | (rw [s6_5]; exact gS_5)) (by first | omega | (simp only [gS_2, gS_4, gS_6, s6_2, s6_4, emS_268, sU_eq, List.length_append]; omega))) rfl mw_recv (fun _ h => h) ⟨by decide, by decide⟩ rfl rfl ⟨by decide, by decide⟩ (rest := []) rfl (Nat.le_of_ble_eq_true rfl) (fun u28 => [vI ((figF c (p, false)).2)]) (fun _ => rfl) (fun u28 hu28 => ?_)
              rw [show (gS (gS g p false) (figF c (p, false)).1.1 (figF c (p, false)).1.2) = gS g (figF c (p, false)).1.1 (figF c (p, false)).1.2 from by exact gS_gS]
              rw [figF_f]
              refine v_istore (lo' := [(4, vI 0), (3, vI 0), (2, vI (zix 1 (c p))), (1, vI (c p)), (0, .ref (a 0))]) hG dX12_factor_176 (by decide) rfl ?_
              refine v_aload_n hG dX12_factor_178 rfl 4 rfl ?_
              refine v_iload_n hG dX12_factor_179 rfl 2 rfl ?_
              refine v_bipush hG dX12_factor_180 (by decide) ?_
              refine v_iload_n hG dX12_factor_182 rfl 1 rfl ?_
              refine v_imul hG dX12_factor_183 ?_
              refine v_iadd hG dX12_factor_184 ?_
              refine v_bipush hG dX12_factor_185 (by decide) ?_
              refine v_iload hG dX12_factor_187 0 rfl ?_
              refine v_imul hG dX12_factor_189 ?_
              refine v_iadd hG dX12_factor_190 ?_
              refine v_callV (k1' := 0) (k2' := 0) hG dX12_factor_191 zc_X12_emits ⟨zl_X12_81, zi_X12_emits, zs_X12_emits⟩ (fun l => k_emits l D A a s im fr bY tr ln bl bo (gS g p false) lg (((zix 1 (c p)) + (8 * 0)) + (32 * 0)) (by first | omega | (simp only [gS_2, gS_4, gS_6, s6_2, s6_4, emS_268, sU_eq, List.length_append]; omega)) (by first | omega | (simp only [gS_2, gS_4, gS_6, s6_2, s6_4, emS_268, sU_eq, List.length_append]; omega)) (by exact gS_01)) rfl mw_recv (fun _ h => h) ⟨by decide, by decide⟩ rfl rfl ⟨by decide, by decide⟩ (rest := []) rfl (Nat.le_of_ble_eq_true rfl) (fun u29 => []) (fun _ => rfl) (fun u29 hu29 => ?_)
              rw [show (if (gS g p false) 5 = 0 then em1 s ((gS g p false) 2) (((zix 1 (c p)) + (8 * 0)) + (32 * 0)) else s) = s from by exact emit_n]
              have hfc : facF c 1 p = atomF c p := fac_at (by assumption) (by assumption)
              have e30 : s = emS s (g 2) (facF c 1 p).2.2 := by rw [hfc]; first | (rw [at_A (by assumption)]; done) | (rw [at_B (by assumption) (by assumption)]; done) | (rw [at_C (by assumption) (by assumption)]; done) | (rw [at_A (by assumption)]; rfl) | (rw [at_B (by assumption) (by assumption)]; rfl)
              have e31 : gS g p false = gS g (facF c 1 p).1 (facF c 1 p).2.1 := by rw [hfc]; first | (rw [at_A (by assumption)]; done) | (rw [at_B (by assumption) (by assumption)]; done) | (rw [at_C (by assumption) (by assumption)]; done) | (rw [at_A (by assumption)]; rfl) | (rw [at_B (by assumption) (by assumption)]; rfl)
              exact v_return hG hR dX12_factor_194 () rfl (by trivial) (fun _ hM => by rw [← e30]; rw [← e31]; exact hM)
            · skip
              exfalso; omega
      · skip
        have hlt := hTP.2.2.lt (p := p) (by omega)
        refine v_aload_n hG dX12_factor_25 rfl 1 rfl ?_
        refine v_aload_n hG dX12_factor_26 rfl 1 rfl ?_
        refine mg_open (z := g 6) hG dX12_factor_27 rfl ?_
        refine v_iconst hG dX12_factor_30 ?_
        refine v_icmp_ne (tgt := 38) hG dX12_factor_31 (by decide) (by omega) (by omega) (fun c32 => ?_) (fun c32 => ?_)
        · skip
          refine v_iconst hG dX12_factor_38 ?_
          refine mp_isWrong hG dX12_factor_39 (Or.inl rfl) ?_
          refine v_aload_n hG dX12_factor_42 rfl 1 rfl ?_
          refine v_dup hG dX12_factor_43 rfl ?_
          refine mg_open (z := g 6) hG dX12_factor_44 rfl ?_
          refine v_iconst hG dX12_factor_47 ?_
          refine v_iadd hG dX12_factor_48 ?_
          refine mp_open hG dX12_factor_49 ?_
          refine v_aload_n hG dX12_factor_52 rfl 1 rfl ?_
          refine v_dup hG dX12_factor_53 rfl ?_
          refine mg_spot (z := g 3) hG dX12_factor_54 rfl ?_
          refine v_aload_n hG dX12_factor_57 rfl 1 rfl ?_
          refine mg_isWrong (z := 0) hG dX12_factor_58 rfl ?_
          refine v_if_eq (tgt := 68) hG dX12_factor_61 (by decide) (by omega) (fun c33 => ?_) (fun c33 => ?_)
          · skip
            refine v_iconst hG dX12_factor_68 ?_
            refine v_iadd hG dX12_factor_69 ?_
            refine mp_spot hG dX12_factor_70 ?_
            rw [show (sU (sU (sU g 5 0) 6 ((g 6) + 1)) 3 ((g 3) + 1)) = sU (gS g (p + 1) true) 6 (g 6 + 1) from by exact in6 h3]
            refine v_iload_n hG dX12_factor_73 rfl 0 rfl ?_
            refine v_bipush hG dX12_factor_74 (by decide) ?_
            refine v_icmp_ne (tgt := 91) hG dX12_factor_76 (by decide) (by omega) (by omega) (fun c34 => ?_) (fun c34 => ?_)
            · skip
              have hf1 := someF_rng hTP.2.2 (fun x hx => facF_rng hTP.2.2 0 x hx) (p := (p + 1)) (by omega)
              obtain ⟨hf11, hf12, hf13⟩ := id hf1
              refine v_aload_n hG dX12_factor_91 rfl 1 rfl ?_
              refine v_callV (k1' := 0) (k2' := 0) hG dX12_factor_92 zc_X12_some ⟨zl_X12_84, zi_X12_some, zs_X12_some⟩ (fun l => k_some0 l D A a s im fr bY tr ln bl bo (sU (gS g (p + 1) true) 6 (g 6 + 1)) lg c (p + 1) (by first | exact hTP | exact TP_gS hTP | exact TP_g (TP_gS hTP) s6_4 | exact TP_gS (TP_emS hTP (by omega) (by omega)) | exact TP_g (TP_gS (TP_emS hTP (by omega) (by omega))) s6_4) (by first | exact h3 | exact gS_3 | (rw [s6_3]; exact gS_3)) (by first | assumption | exact gS_50 | (rw [s6_5]; exact gS_50)) (by first | omega | (simp only [gS_2, gS_4, gS_6, s6_2, s6_4, emS_268, sU_eq, List.length_append]; omega)) (by first | omega | (simp only [gS_2, gS_4, gS_6, s6_2, s6_4, emS_268, sU_eq, List.length_append]; omega)) (by first | omega | (simp only [gS_2, gS_4, gS_6, s6_2, s6_4, emS_268, sU_eq, List.length_append]; omega)) (by first | omega | (simp only [gS_2, gS_4, gS_6, s6_2, s6_4, emS_268, sU_eq, List.length_append]; omega))) rfl mw_recv (fun _ h => h) ⟨by decide, by decide⟩ rfl rfl ⟨by decide, by decide⟩ (rest := []) rfl (Nat.le_of_ble_eq_true rfl) (fun u35 => []) (fun _ => rfl) (fun u35 hu35 => ?_)
              rw [show (emS s ((sU (gS g (p + 1) true) 6 (g 6 + 1)) 2) (someF (facF c 0) c (p + 1)).2.2) = emS s (g 2) (someF (facF c 0) c (p + 1)).2.2 from by rw [s6_2, gS_2]]
              rw [show (gS (sU (gS g (p + 1) true) 6 (g 6 + 1)) (someF (facF c 0) c (p + 1)).1 (someF (facF c 0) c (p + 1)).2.1) = sU (gS g (someF (facF c 0) c (p + 1)).1 (someF (facF c 0) c (p + 1)).2.1) 6 (g 6 + 1) from by exact gS_s6]
              refine v_aload_n hG dX12_factor_95 rfl 1 rfl ?_
              refine v_bipush hG dX12_factor_96 (by decide) ?_
              refine v_callV (k1' := 0) (k2' := 0) hG dX12_factor_98 zc_X12_must ⟨zl_X12_68, zi_X12_must, zs_X12_must⟩ (fun l => k_must l D A a (emS s (g 2) (someF (facF c 0) c (p + 1)).2.2) im fr bY tr ln bl bo (sU (gS g (someF (facF c 0) c (p + 1)).1 (someF (facF c 0) c (p + 1)).2.1) 6 (g 6 + 1)) lg 41 c ((someF (facF c 0) c (p + 1)).1) ((someF (facF c 0) c (p + 1)).2.1) (by first | exact hTP | exact TP_gS hTP | exact TP_g (TP_gS hTP) s6_4 | exact TP_gS (TP_emS hTP (by omega) (by omega)) | exact TP_g (TP_gS (TP_emS hTP (by omega) (by omega))) s6_4) (by first | exact h3 | exact gS_3 | (rw [s6_3]; exact gS_3)) (by first | exact gS_5 | (rw [s6_5]; exact gS_5)) (by first | omega | (simp only [gS_2, gS_4, gS_6, s6_2, s6_4, emS_268, sU_eq, List.length_append]; omega)) (by omega)) rfl mw_recv (fun _ h => h) ⟨by decide, by decide⟩ rfl rfl ⟨by decide, by decide⟩ (rest := []) rfl (Nat.le_of_ble_eq_true rfl) (fun u36 => []) (fun _ => rfl) (fun u36 hu36 => ?_)
              rw [show (gS (sU (gS g (someF (facF c 0) c (p + 1)).1 (someF (facF c 0) c (p + 1)).2.1) 6 (g 6 + 1)) (mustF c 41 (((someF (facF c 0) c (p + 1)).1), ((someF (facF c 0) c (p + 1)).2.1))).1 (mustF c 41 (((someF (facF c 0) c (p + 1)).1), ((someF (facF c 0) c (p + 1)).2.1))).2) = sU (gS g (mustF c 41 ((someF (facF c 0) c (p + 1)).1, (someF (facF c 0) c (p + 1)).2.1)).1 (mustF c 41 ((someF (facF c 0) c (p + 1)).1, (someF (facF c 0) c (p + 1)).2.1)).2) 6 (g 6 + 1) from by exact gS_s6]
              refine v_aload_n hG dX12_factor_101 rfl 1 rfl ?_
              refine v_dup hG dX12_factor_102 rfl ?_
              refine mg_open (z := g 6 + 1) hG dX12_factor_103 rfl ?_
              refine v_iconst hG dX12_factor_106 ?_
              refine v_isub hG dX12_factor_107 ?_
              refine mp_open hG dX12_factor_108 ?_
              have hfc := fac_p (c := c) (o := 0) (p := p) (by assumption)
              have e37 : emS s (g 2) (someF (facF c 0) c (p + 1)).2.2 = emS s (g 2) (facF c 1 p).2.2 := by first | (rw [hfc]; exact out6 (by first | omega | (rw [sU_eq]; omega))) | (rw [hfc]; rfl) | (rw [hfc])
              have e38 : sU (sU (gS g (mustF c 41 ((someF (facF c 0) c (p + 1)).1, (someF (facF c 0) c (p + 1)).2.1)).1 (mustF c 41 ((someF (facF c 0) c (p + 1)).1, (someF (facF c 0) c (p + 1)).2.1)).2) 6 (g 6 + 1)) 6 ((g 6 + 1) - 1) = gS g (facF c 1 p).1 (facF c 1 p).2.1 := by first | (rw [hfc]; exact out6 (by first | omega | (rw [sU_eq]; omega))) | (rw [hfc]; rfl) | (rw [hfc])
              exact v_return hG hR dX12_factor_111 () rfl (by trivial) (fun _ hM => by rw [← e37]; rw [← e38]; exact hM)
            · skip
              have hf1 := facF_rng hTP.2.2 0 (p + 1) (by omega)
              obtain ⟨hf11, hf12, hf13⟩ := id hf1
              refine v_aload_n hG dX12_factor_79 rfl 1 rfl ?_
              refine v_callV (k1' := 0) (k2' := 0) hG dX12_factor_80 zc_X12_factor ⟨zl_X12_78, zi_X12_factor, zs_X12_factor⟩ (fun l => k_factor0 l D A a s im fr bY tr ln bl bo (sU (gS g (p + 1) true) 6 (g 6 + 1)) lg c (p + 1) (by first | exact hTP | exact TP_gS hTP | exact TP_g (TP_gS hTP) s6_4 | exact TP_gS (TP_emS hTP (by omega) (by omega)) | exact TP_g (TP_gS (TP_emS hTP (by omega) (by omega))) s6_4) (by first | exact h3 | exact gS_3 | (rw [s6_3]; exact gS_3)) (by first | assumption | exact gS_50 | (rw [s6_5]; exact gS_50)) (by first | omega | (simp only [gS_2, gS_4, gS_6, s6_2, s6_4, emS_268, sU_eq, List.length_append]; omega)) (by first | omega | (simp only [gS_2, gS_4, gS_6, s6_2, s6_4, emS_268, sU_eq, List.length_append]; omega)) (by first | omega | (simp only [gS_2, gS_4, gS_6, s6_2, s6_4, emS_268, sU_eq, List.length_append]; omega)) (by first | omega | (simp only [gS_2, gS_4, gS_6, s6_2, s6_4, emS_268, sU_eq, List.length_append]; omega))) rfl mw_recv (fun _ h => h) ⟨by decide, by decide⟩ rfl rfl ⟨by decide, by decide⟩ (rest := []) rfl (Nat.le_of_ble_eq_true rfl) (fun u39 => []) (fun _ => rfl) (fun u39 hu39 => ?_)
              rw [show (emS s ((sU (gS g (p + 1) true) 6 (g 6 + 1)) 2) (facF c 0 (p + 1)).2.2) = emS s (g 2) (facF c 0 (p + 1)).2.2 from by rw [s6_2, gS_2]]
              rw [show (gS (sU (gS g (p + 1) true) 6 (g 6 + 1)) (facF c 0 (p + 1)).1 (facF c 0 (p + 1)).2.1) = sU (gS g (facF c 0 (p + 1)).1 (facF c 0 (p + 1)).2.1) 6 (g 6 + 1) from by exact gS_s6]
              refine v_aload_n hG dX12_factor_83 rfl 1 rfl ?_
              refine v_iconst hG dX12_factor_84 ?_
              refine v_callV (k1' := 0) (k2' := 0) hG dX12_factor_85 zc_X12_emits ⟨zl_X12_81, zi_X12_emits, zs_X12_emits⟩ (fun l => k_emits l D A a (emS s (g 2) (facF c 0 (p + 1)).2.2) im fr bY tr ln bl bo (sU (gS g (facF c 0 (p + 1)).1 (facF c 0 (p + 1)).2.1) 6 (g 6 + 1)) lg (-1) (by first | omega | (simp only [gS_2, gS_4, gS_6, s6_2, s6_4, emS_268, sU_eq, List.length_append]; omega)) (by first | omega | (simp only [gS_2, gS_4, gS_6, s6_2, s6_4, emS_268, sU_eq, List.length_append]; omega)) (by rw [s6_5]; exact gS_01)) rfl mw_recv (fun _ h => h) ⟨by decide, by decide⟩ rfl rfl ⟨by decide, by decide⟩ (rest := []) rfl (Nat.le_of_ble_eq_true rfl) (fun u40 => []) (fun _ => rfl) (fun u40 hu40 => ?_)
              rw [show (if (sU (gS g (facF c 0 (p + 1)).1 (facF c 0 (p + 1)).2.1) 6 (g 6 + 1)) 5 = 0 then em1 (emS s (g 2) (facF c 0 (p + 1)).2.2) ((sU (gS g (facF c 0 (p + 1)).1 (facF c 0 (p + 1)).2.1) 6 (g 6 + 1)) 2) (-1) else (emS s (g 2) (facF c 0 (p + 1)).2.2)) = emS s (g 2) ((facF c 0 (p + 1)).2.2 ++ (if (facF c 0 (p + 1)).2.1 = true then [-1] else [])) from by exact emit_6]
              refine v_goto (tgt := 101) hG dX12_factor_88 (by decide) ?_
              refine v_aload_n hG dX12_factor_101 rfl 1 rfl ?_
              refine v_dup hG dX12_factor_102 rfl ?_
              refine mg_open (z := g 6 + 1) hG dX12_factor_103 rfl ?_
              refine v_iconst hG dX12_factor_106 ?_
              refine v_isub hG dX12_factor_107 ?_
              refine mp_open hG dX12_factor_108 ?_
              have hfc := fac_n (c := c) (o := 0) (p := p) (by assumption)
              have e41 : emS s (g 2) ((facF c 0 (p + 1)).2.2 ++ (if (facF c 0 (p + 1)).2.1 = true then [-1] else [])) = emS s (g 2) (facF c 1 p).2.2 := by first | (rw [hfc]; exact out6 (by first | omega | (rw [sU_eq]; omega))) | (rw [hfc]; rfl) | (rw [hfc])
              have e42 : sU (sU (gS g (facF c 0 (p + 1)).1 (facF c 0 (p + 1)).2.1) 6 (g 6 + 1)) 6 ((g 6 + 1) - 1) = gS g (facF c 1 p).1 (facF c 1 p).2.1 := by first | (rw [hfc]; exact out6 (by first | omega | (rw [sU_eq]; omega))) | (rw [hfc]; rfl) | (rw [hfc])
              exact v_return hG hR dX12_factor_111 () rfl (by trivial) (fun _ hM => by rw [← e41]; rw [← e42]; exact hM)
          · skip
            exfalso; omega
        · skip
          exfalso; omega
  · skip
    exfalso; omega
set_option maxHeartbeats 4000000 in
set_option maxRecDepth 100000 in
theorem k_every1 (l : Launch) (D : Dx) (A : Nat → Prop) (a : Nat → Nat) (s im fr bY tr ln bl bo g lg : Int → Int) (c : Nat → Int) (p : Nat) (hTP : TP s g c) (h3 : g 3 = (p : Int)) (h5z : g 5 = 0) (hpe : (p : Int) ≤ g 4) (hA : 0 ≤ g 2 ∧ g 2 ≤ 4) (hs : 0 ≤ s (268 + g 2) ∧ s (268 + g 2) ≤ (p : Int)) (h6 : g 6 = 4) : CT l D A yX12_every cX12_every 1 none { frames := 12, cells := 0, slots := 0, locals := 275 } [.ref (a 0)] (MW D A a s im fr bY tr ln bl bo g lg) (fun _ : Unit => none) (fun _ => True) (fun _ => MW D A a (emS s (g 2) (everyF (facF c 1) c p).2.2) im fr bY tr ln bl bo (gS g (everyF (facF c 1) c p).1 (everyF (facF c 1) c p).2.1) lg) := by
  refine ct_of (lo0 := [(0, .ref (a 0))]) (by decide) (Nat.le_of_ble_eq_true rfl) rfl ?_
  intro G hG hR
  have hT1 := hTP.1
  have hrb := everyF_rng hTP.2.2 (fun x hx => facF_rng hTP.2.2 1 x hx) (p := p) (by omega)
  refine v_aload_n hG dX12_every_0 rfl 0 rfl ?_
  refine v_callV (k1' := 0) (k2' := 0) hG dX12_every_1 zc_X12_factor ⟨zl_X12_78, zi_X12_factor, zs_X12_factor⟩ (fun l => k_factor1 l D A a s im fr bY tr ln bl bo g lg c p (by first | exact hTP | exact TP_gS hTP | exact TP_g (TP_gS hTP) s6_4 | exact TP_gS (TP_emS hTP (by omega) (by omega)) | exact TP_g (TP_gS (TP_emS hTP (by omega) (by omega))) s6_4) (by first | exact h3 | exact gS_3 | (rw [s6_3]; exact gS_3)) (by first | assumption | exact gS_50 | (rw [s6_5]; exact gS_50)) (by first | omega | (simp only [gS_2, gS_4, gS_6, s6_2, s6_4, emS_268, sU_eq, List.length_append]; omega)) (by first | omega | (simp only [gS_2, gS_4, gS_6, s6_2, s6_4, emS_268, sU_eq, List.length_append]; omega)) (by first | omega | (simp only [gS_2, gS_4, gS_6, s6_2, s6_4, emS_268, sU_eq, List.length_append]; omega)) (by first | omega | (simp only [gS_2, gS_4, gS_6, s6_2, s6_4, emS_268, sU_eq, List.length_append]; omega))) rfl mw_recv (fun _ h => h) ⟨by decide, by decide⟩ rfl rfl ⟨by decide, by decide⟩ (rest := []) rfl (Nat.le_of_ble_eq_true rfl) (fun u1 => []) (fun _ => rfl) (fun u1 hu1 => ?_)
  have hfp := facF_rng hTP.2.2 1 p (by omega)
  have L4 : ∀ mz : Nat, ∀ (F : Nat) (r : R3), (everyF (facF c 1) c p = evL (facF c 1) c 38 (-2) F r) → (RB (g 4).toNat p r) → (101 ≤ F + r.1) → F = mz → ∀ x2 : Int → Int, x2 = (emS s (g 2) r.2.2) → ∀ x3 : Int → Int, x3 = (gS g r.1 r.2.1) → V G 0 0 (MW D A a x2 im fr bY tr ln bl bo x3 lg) 4 [(0, .ref (a 0))] [] := by
    intro dL4
    induction dL4 using Nat.strongRecOn with
    | ind dL4 ihL4 =>
      intro F r hq5 hq6 hq7 hq8
      intro x2 hx2
      subst hx2
      intro x3 hx3
      subst hx3
      have hg5 : gS g r.1 r.2.1 5 = (if r.2.1 then 0 else 1) := gS_5
      have hg01 := gS_01 (g := g) (p := r.1) (ok := r.2.1)
      obtain ⟨hr1, hr2, hr3⟩ := id ‹RB (g 4).toNat p r›
      refine v_aload_n hG dX12_every_4 rfl 0 rfl ?_
      refine mg_isWrong (z := (gS g r.1 r.2.1) 5) hG dX12_every_5 rfl ?_
      refine v_if_ne (tgt := 43) hG dX12_every_8 (by decide) (by omega) (fun c9 => ?_) (fun c9 => ?_)
      · skip
        have hst : everyF (facF c 1) c p = r := ‹everyF (facF c 1) c p = evL (facF c 1) c 38 (-2) F r›.trans (evL_stop (by first | exact Or.inl (ok_f hg5 (by assumption)) | exact Or.inr (by assumption)))
        have e10 : emS s (g 2) r.2.2 = emS s (g 2) (everyF (facF c 1) c p).2.2 := by rw [hst]
        have e11 : gS g r.1 r.2.1 = gS g (everyF (facF c 1) c p).1 (everyF (facF c 1) c p).2.1 := by rw [hst]
        exact v_return hG hR dX12_every_43 () rfl (by trivial) (fun _ hM => by rw [← e10]; rw [← e11]; exact hM)
      · skip
        refine v_aload_n hG dX12_every_11 rfl 0 rfl ?_
        refine v_callV (k1' := 0) (k2' := 0) hG dX12_every_12 zc_X12_here ⟨zl_X12_55, zi_X12_here, zs_X12_here⟩ (fun l => k_here l D A a (emS s (g 2) r.2.2) im fr bY tr ln bl bo (gS g r.1 r.2.1) lg c r.1 (by first | exact hTP | exact TP_gS hTP | exact TP_g (TP_gS hTP) s6_4 | exact TP_gS (TP_emS hTP (by omega) (by omega)) | exact TP_g (TP_gS (TP_emS hTP (by omega) (by omega))) s6_4) (by first | exact h3 | exact gS_3 | (rw [s6_3]; exact gS_3)) (by first | omega | (simp only [gS_2, gS_4, gS_6, s6_2, s6_4, emS_268, sU_eq, List.length_append]; omega))) rfl mw_recv (fun _ h => h) ⟨by decide, by decide⟩ rfl rfl ⟨by decide, by decide⟩ (rest := []) rfl (Nat.le_of_ble_eq_true rfl) (fun u12 => [vI (c r.1)]) (fun _ => rfl) (fun u12 hu12 => ?_)
        have fu12 : -1 ≤ c r.1 ∧ c r.1 ≤ 127 := hu12
        refine v_bipush hG dX12_every_15 (by decide) ?_
        refine v_icmp_ne (tgt := 43) hG dX12_every_17 (by decide) (by omega) (by omega) (fun c13 => ?_) (fun c13 => ?_)
        · skip
          have hst : everyF (facF c 1) c p = r := ‹everyF (facF c 1) c p = evL (facF c 1) c 38 (-2) F r›.trans (evL_stop (by first | exact Or.inl (ok_f hg5 (by assumption)) | exact Or.inr (by assumption)))
          have e14 : emS s (g 2) r.2.2 = emS s (g 2) (everyF (facF c 1) c p).2.2 := by rw [hst]
          have e15 : gS g r.1 r.2.1 = gS g (everyF (facF c 1) c p).1 (everyF (facF c 1) c p).2.1 := by rw [hst]
          exact v_return hG hR dX12_every_43 () rfl (by trivial) (fun _ hM => by rw [← e14]; rw [← e15]; exact hM)
        · skip
          have hok : r.2.1 = true := ok_t hg5 (by omega)
          have hlt := hTP.2.2.lt (p := r.1) (by omega)
          have hf1 := facF_rng hTP.2.2 1 (r.1 + 1) (by omega)
          obtain ⟨hf11, hf12, hf13⟩ := id hf1
          refine v_aload_n hG dX12_every_20 rfl 0 rfl ?_
          refine v_dup hG dX12_every_21 rfl ?_
          refine mg_spot (z := (gS g r.1 r.2.1) 3) hG dX12_every_22 rfl ?_
          refine v_iconst hG dX12_every_25 ?_
          refine v_iadd hG dX12_every_26 ?_
          refine mp_spot hG dX12_every_27 ?_
          rw [show (sU (gS g r.1 r.2.1) 3 (((gS g r.1 r.2.1) 3) + 1)) = gS g (r.1 + 1) true from by exact sp1 hok]
          refine v_aload_n hG dX12_every_30 rfl 0 rfl ?_
          refine v_callV (k1' := 0) (k2' := 0) hG dX12_every_31 zc_X12_factor ⟨zl_X12_78, zi_X12_factor, zs_X12_factor⟩ (fun l => k_factor1 l D A a (emS s (g 2) r.2.2) im fr bY tr ln bl bo (gS g (r.1 + 1) true) lg c (r.1 + 1) (by first | exact hTP | exact TP_gS hTP | exact TP_g (TP_gS hTP) s6_4 | exact TP_gS (TP_emS hTP (by omega) (by omega)) | exact TP_g (TP_gS (TP_emS hTP (by omega) (by omega))) s6_4) (by first | exact h3 | exact gS_3 | (rw [s6_3]; exact gS_3)) (by first | assumption | exact gS_50 | (rw [s6_5]; exact gS_50)) (by first | omega | (simp only [gS_2, gS_4, gS_6, s6_2, s6_4, emS_268, sU_eq, List.length_append]; omega)) (by first | omega | (simp only [gS_2, gS_4, gS_6, s6_2, s6_4, emS_268, sU_eq, List.length_append]; omega)) (by first | omega | (simp only [gS_2, gS_4, gS_6, s6_2, s6_4, emS_268, sU_eq, List.length_append]; omega)) (by first | omega | (simp only [gS_2, gS_4, gS_6, s6_2, s6_4, emS_268, sU_eq, List.length_append]; omega))) rfl mw_recv (fun _ h => h) ⟨by decide, by decide⟩ rfl rfl ⟨by decide, by decide⟩ (rest := []) rfl (Nat.le_of_ble_eq_true rfl) (fun u16 => []) (fun _ => rfl) (fun u16 hu16 => ?_)
          rw [show (emS (emS s (g 2) r.2.2) ((gS g (r.1 + 1) true) 2) (facF c 1 (r.1 + 1)).2.2) = emS s (g 2) (r.2.2 ++ ((facF c 1) (r.1 + 1)).2.2) from by rw [gS_2]; exact emS_app]
          rw [show (gS (gS g (r.1 + 1) true) (facF c 1 (r.1 + 1)).1 (facF c 1 (r.1 + 1)).2.1) = gS g ((facF c 1) (r.1 + 1)).1 ((facF c 1) (r.1 + 1)).2.1 from by exact gS_gS]
          refine v_aload_n hG dX12_every_34 rfl 0 rfl ?_
          refine v_bipush hG dX12_every_35 (by decide) ?_
          refine v_callV (k1' := 0) (k2' := 0) hG dX12_every_37 zc_X12_emits ⟨zl_X12_81, zi_X12_emits, zs_X12_emits⟩ (fun l => k_emits l D A a (emS s (g 2) (r.2.2 ++ ((facF c 1) (r.1 + 1)).2.2)) im fr bY tr ln bl bo (gS g ((facF c 1) (r.1 + 1)).1 ((facF c 1) (r.1 + 1)).2.1) lg (-2) (by first | omega | (simp only [gS_2, gS_4, gS_6, s6_2, s6_4, emS_268, sU_eq, List.length_append]; omega)) (by first | omega | (simp only [gS_2, gS_4, gS_6, s6_2, s6_4, emS_268, sU_eq, List.length_append]; omega)) (by exact gS_01)) rfl mw_recv (fun _ h => h) ⟨by decide, by decide⟩ rfl rfl ⟨by decide, by decide⟩ (rest := []) rfl (Nat.le_of_ble_eq_true rfl) (fun u17 => []) (fun _ => rfl) (fun u17 hu17 => ?_)
          rw [show (if (gS g ((facF c 1) (r.1 + 1)).1 ((facF c 1) (r.1 + 1)).2.1) 5 = 0 then em1 (emS s (g 2) (r.2.2 ++ ((facF c 1) (r.1 + 1)).2.2)) ((gS g ((facF c 1) (r.1 + 1)).1 ((facF c 1) (r.1 + 1)).2.1) 2) (-2) else (emS s (g 2) (r.2.2 ++ ((facF c 1) (r.1 + 1)).2.2))) = emS s (g 2) ((((facF c 1) (r.1 + 1)).1, ((facF c 1) (r.1 + 1)).2.1, r.2.2 ++ ((facF c 1) (r.1 + 1)).2.2 ++ (if ((facF c 1) (r.1 + 1)).2.1 = true then [(-2)] else []))).2.2 from by exact emit_l]
          refine v_goto (tgt := 4) hG dX12_every_40 (by decide) ?_
          exact ihL4 _ (by omega) (F - 1) (((facF c 1) (r.1 + 1)).1, ((facF c 1) (r.1 + 1)).2.1, r.2.2 ++ ((facF c 1) (r.1 + 1)).2.2 ++ (if ((facF c 1) (r.1 + 1)).2.1 = true then [(-2)] else [])) (by exact ‹everyF (facF c 1) c p = evL (facF c 1) c 38 (-2) F r›.trans (evL_go (by omega) hok (by assumption))) (by exact RB_go (by assumption) hf1) (by show 101 ≤ F - 1 + ((facF c 1) (r.1 + 1)).1; omega) rfl _ (by rfl) _ (by rfl)
  exact L4 _ 101 ((facF c 1) p) (by rfl) (by exact hfp) (by omega) rfl _ (by rfl) _ (by rfl)
set_option maxHeartbeats 4000000 in
set_option maxRecDepth 100000 in
theorem k_some1 (l : Launch) (D : Dx) (A : Nat → Prop) (a : Nat → Nat) (s im fr bY tr ln bl bo g lg : Int → Int) (c : Nat → Int) (p : Nat) (hTP : TP s g c) (h3 : g 3 = (p : Int)) (h5z : g 5 = 0) (hpe : (p : Int) ≤ g 4) (hA : 0 ≤ g 2 ∧ g 2 ≤ 4) (hs : 0 ≤ s (268 + g 2) ∧ s (268 + g 2) ≤ (p : Int)) (h6 : g 6 = 4) : CT l D A yX12_some cX12_some 1 none { frames := 13, cells := 0, slots := 0, locals := 295 } [.ref (a 0)] (MW D A a s im fr bY tr ln bl bo g lg) (fun _ : Unit => none) (fun _ => True) (fun _ => MW D A a (emS s (g 2) (someF (facF c 1) c p).2.2) im fr bY tr ln bl bo (gS g (someF (facF c 1) c p).1 (someF (facF c 1) c p).2.1) lg) := by
  refine ct_of (lo0 := [(0, .ref (a 0))]) (by decide) (Nat.le_of_ble_eq_true rfl) rfl ?_
  intro G hG hR
  have hT1 := hTP.1
  have hrb := someF_rng hTP.2.2 (fun x hx => facF_rng hTP.2.2 1 x hx) (p := p) (by omega)
  refine v_aload_n hG dX12_some_0 rfl 0 rfl ?_
  refine v_callV (k1' := 0) (k2' := 0) hG dX12_some_1 zc_X12_every ⟨zl_X12_98, zi_X12_every, zs_X12_every⟩ (fun l => k_every1 l D A a s im fr bY tr ln bl bo g lg c p (by first | exact hTP | exact TP_gS hTP | exact TP_g (TP_gS hTP) s6_4 | exact TP_gS (TP_emS hTP (by omega) (by omega)) | exact TP_g (TP_gS (TP_emS hTP (by omega) (by omega))) s6_4) (by first | exact h3 | exact gS_3 | (rw [s6_3]; exact gS_3)) (by first | assumption | exact gS_50 | (rw [s6_5]; exact gS_50)) (by first | omega | (simp only [gS_2, gS_4, gS_6, s6_2, s6_4, emS_268, sU_eq, List.length_append]; omega)) (by first | omega | (simp only [gS_2, gS_4, gS_6, s6_2, s6_4, emS_268, sU_eq, List.length_append]; omega)) (by first | omega | (simp only [gS_2, gS_4, gS_6, s6_2, s6_4, emS_268, sU_eq, List.length_append]; omega)) (by first | omega | (simp only [gS_2, gS_4, gS_6, s6_2, s6_4, emS_268, sU_eq, List.length_append]; omega))) rfl mw_recv (fun _ h => h) ⟨by decide, by decide⟩ rfl rfl ⟨by decide, by decide⟩ (rest := []) rfl (Nat.le_of_ble_eq_true rfl) (fun u1 => []) (fun _ => rfl) (fun u1 hu1 => ?_)
  have hfp := everyF_rng hTP.2.2 (fun x hx => facF_rng hTP.2.2 1 x hx) (p := p) (by omega)
  have L4 : ∀ mz : Nat, ∀ (F : Nat) (r : R3), (someF (facF c 1) c p = evL (everyF (facF c 1) c) c 124 (-3) F r) → (RB (g 4).toNat p r) → (101 ≤ F + r.1) → F = mz → ∀ x2 : Int → Int, x2 = (emS s (g 2) r.2.2) → ∀ x3 : Int → Int, x3 = (gS g r.1 r.2.1) → V G 0 0 (MW D A a x2 im fr bY tr ln bl bo x3 lg) 4 [(0, .ref (a 0))] [] := by
    intro dL4
    induction dL4 using Nat.strongRecOn with
    | ind dL4 ihL4 =>
      intro F r hq5 hq6 hq7 hq8
      intro x2 hx2
      subst hx2
      intro x3 hx3
      subst hx3
      have hg5 : gS g r.1 r.2.1 5 = (if r.2.1 then 0 else 1) := gS_5
      have hg01 := gS_01 (g := g) (p := r.1) (ok := r.2.1)
      obtain ⟨hr1, hr2, hr3⟩ := id ‹RB (g 4).toNat p r›
      refine v_aload_n hG dX12_some_4 rfl 0 rfl ?_
      refine mg_isWrong (z := (gS g r.1 r.2.1) 5) hG dX12_some_5 rfl ?_
      refine v_if_ne (tgt := 43) hG dX12_some_8 (by decide) (by omega) (fun c9 => ?_) (fun c9 => ?_)
      · skip
        have hst : someF (facF c 1) c p = r := ‹someF (facF c 1) c p = evL (everyF (facF c 1) c) c 124 (-3) F r›.trans (evL_stop (by first | exact Or.inl (ok_f hg5 (by assumption)) | exact Or.inr (by assumption)))
        have e10 : emS s (g 2) r.2.2 = emS s (g 2) (someF (facF c 1) c p).2.2 := by rw [hst]
        have e11 : gS g r.1 r.2.1 = gS g (someF (facF c 1) c p).1 (someF (facF c 1) c p).2.1 := by rw [hst]
        exact v_return hG hR dX12_some_43 () rfl (by trivial) (fun _ hM => by rw [← e10]; rw [← e11]; exact hM)
      · skip
        refine v_aload_n hG dX12_some_11 rfl 0 rfl ?_
        refine v_callV (k1' := 0) (k2' := 0) hG dX12_some_12 zc_X12_here ⟨zl_X12_55, zi_X12_here, zs_X12_here⟩ (fun l => k_here l D A a (emS s (g 2) r.2.2) im fr bY tr ln bl bo (gS g r.1 r.2.1) lg c r.1 (by first | exact hTP | exact TP_gS hTP | exact TP_g (TP_gS hTP) s6_4 | exact TP_gS (TP_emS hTP (by omega) (by omega)) | exact TP_g (TP_gS (TP_emS hTP (by omega) (by omega))) s6_4) (by first | exact h3 | exact gS_3 | (rw [s6_3]; exact gS_3)) (by first | omega | (simp only [gS_2, gS_4, gS_6, s6_2, s6_4, emS_268, sU_eq, List.length_append]; omega))) rfl mw_recv (fun _ h => h) ⟨by decide, by decide⟩ rfl rfl ⟨by decide, by decide⟩ (rest := []) rfl (Nat.le_of_ble_eq_true rfl) (fun u12 => [vI (c r.1)]) (fun _ => rfl) (fun u12 hu12 => ?_)
        have fu12 : -1 ≤ c r.1 ∧ c r.1 ≤ 127 := hu12
        refine v_bipush hG dX12_some_15 (by decide) ?_
        refine v_icmp_ne (tgt := 43) hG dX12_some_17 (by decide) (by omega) (by omega) (fun c13 => ?_) (fun c13 => ?_)
        · skip
          have hst : someF (facF c 1) c p = r := ‹someF (facF c 1) c p = evL (everyF (facF c 1) c) c 124 (-3) F r›.trans (evL_stop (by first | exact Or.inl (ok_f hg5 (by assumption)) | exact Or.inr (by assumption)))
          have e14 : emS s (g 2) r.2.2 = emS s (g 2) (someF (facF c 1) c p).2.2 := by rw [hst]
          have e15 : gS g r.1 r.2.1 = gS g (someF (facF c 1) c p).1 (someF (facF c 1) c p).2.1 := by rw [hst]
          exact v_return hG hR dX12_some_43 () rfl (by trivial) (fun _ hM => by rw [← e14]; rw [← e15]; exact hM)
        · skip
          have hok : r.2.1 = true := ok_t hg5 (by omega)
          have hlt := hTP.2.2.lt (p := r.1) (by omega)
          have hf1 := everyF_rng hTP.2.2 (fun x hx => facF_rng hTP.2.2 1 x hx) (p := (r.1 + 1)) (by omega)
          obtain ⟨hf11, hf12, hf13⟩ := id hf1
          refine v_aload_n hG dX12_some_20 rfl 0 rfl ?_
          refine v_dup hG dX12_some_21 rfl ?_
          refine mg_spot (z := (gS g r.1 r.2.1) 3) hG dX12_some_22 rfl ?_
          refine v_iconst hG dX12_some_25 ?_
          refine v_iadd hG dX12_some_26 ?_
          refine mp_spot hG dX12_some_27 ?_
          rw [show (sU (gS g r.1 r.2.1) 3 (((gS g r.1 r.2.1) 3) + 1)) = gS g (r.1 + 1) true from by exact sp1 hok]
          refine v_aload_n hG dX12_some_30 rfl 0 rfl ?_
          refine v_callV (k1' := 0) (k2' := 0) hG dX12_some_31 zc_X12_every ⟨zl_X12_98, zi_X12_every, zs_X12_every⟩ (fun l => k_every1 l D A a (emS s (g 2) r.2.2) im fr bY tr ln bl bo (gS g (r.1 + 1) true) lg c (r.1 + 1) (by first | exact hTP | exact TP_gS hTP | exact TP_g (TP_gS hTP) s6_4 | exact TP_gS (TP_emS hTP (by omega) (by omega)) | exact TP_g (TP_gS (TP_emS hTP (by omega) (by omega))) s6_4) (by first | exact h3 | exact gS_3 | (rw [s6_3]; exact gS_3)) (by first | assumption | exact gS_50 | (rw [s6_5]; exact gS_50)) (by first | omega | (simp only [gS_2, gS_4, gS_6, s6_2, s6_4, emS_268, sU_eq, List.length_append]; omega)) (by first | omega | (simp only [gS_2, gS_4, gS_6, s6_2, s6_4, emS_268, sU_eq, List.length_append]; omega)) (by first | omega | (simp only [gS_2, gS_4, gS_6, s6_2, s6_4, emS_268, sU_eq, List.length_append]; omega)) (by first | omega | (simp only [gS_2, gS_4, gS_6, s6_2, s6_4, emS_268, sU_eq, List.length_append]; omega))) rfl mw_recv (fun _ h => h) ⟨by decide, by decide⟩ rfl rfl ⟨by decide, by decide⟩ (rest := []) rfl (Nat.le_of_ble_eq_true rfl) (fun u16 => []) (fun _ => rfl) (fun u16 hu16 => ?_)
          rw [show (emS (emS s (g 2) r.2.2) ((gS g (r.1 + 1) true) 2) (everyF (facF c 1) c (r.1 + 1)).2.2) = emS s (g 2) (r.2.2 ++ ((everyF (facF c 1) c) (r.1 + 1)).2.2) from by rw [gS_2]; exact emS_app]
          rw [show (gS (gS g (r.1 + 1) true) (everyF (facF c 1) c (r.1 + 1)).1 (everyF (facF c 1) c (r.1 + 1)).2.1) = gS g ((everyF (facF c 1) c) (r.1 + 1)).1 ((everyF (facF c 1) c) (r.1 + 1)).2.1 from by exact gS_gS]
          refine v_aload_n hG dX12_some_34 rfl 0 rfl ?_
          refine v_bipush hG dX12_some_35 (by decide) ?_
          refine v_callV (k1' := 0) (k2' := 0) hG dX12_some_37 zc_X12_emits ⟨zl_X12_81, zi_X12_emits, zs_X12_emits⟩ (fun l => k_emits l D A a (emS s (g 2) (r.2.2 ++ ((everyF (facF c 1) c) (r.1 + 1)).2.2)) im fr bY tr ln bl bo (gS g ((everyF (facF c 1) c) (r.1 + 1)).1 ((everyF (facF c 1) c) (r.1 + 1)).2.1) lg (-3) (by first | omega | (simp only [gS_2, gS_4, gS_6, s6_2, s6_4, emS_268, sU_eq, List.length_append]; omega)) (by first | omega | (simp only [gS_2, gS_4, gS_6, s6_2, s6_4, emS_268, sU_eq, List.length_append]; omega)) (by exact gS_01)) rfl mw_recv (fun _ h => h) ⟨by decide, by decide⟩ rfl rfl ⟨by decide, by decide⟩ (rest := []) rfl (Nat.le_of_ble_eq_true rfl) (fun u17 => []) (fun _ => rfl) (fun u17 hu17 => ?_)
          rw [show (if (gS g ((everyF (facF c 1) c) (r.1 + 1)).1 ((everyF (facF c 1) c) (r.1 + 1)).2.1) 5 = 0 then em1 (emS s (g 2) (r.2.2 ++ ((everyF (facF c 1) c) (r.1 + 1)).2.2)) ((gS g ((everyF (facF c 1) c) (r.1 + 1)).1 ((everyF (facF c 1) c) (r.1 + 1)).2.1) 2) (-3) else (emS s (g 2) (r.2.2 ++ ((everyF (facF c 1) c) (r.1 + 1)).2.2))) = emS s (g 2) ((((everyF (facF c 1) c) (r.1 + 1)).1, ((everyF (facF c 1) c) (r.1 + 1)).2.1, r.2.2 ++ ((everyF (facF c 1) c) (r.1 + 1)).2.2 ++ (if ((everyF (facF c 1) c) (r.1 + 1)).2.1 = true then [(-3)] else []))).2.2 from by exact emit_l]
          refine v_goto (tgt := 4) hG dX12_some_40 (by decide) ?_
          exact ihL4 _ (by omega) (F - 1) (((everyF (facF c 1) c) (r.1 + 1)).1, ((everyF (facF c 1) c) (r.1 + 1)).2.1, r.2.2 ++ ((everyF (facF c 1) c) (r.1 + 1)).2.2 ++ (if ((everyF (facF c 1) c) (r.1 + 1)).2.1 = true then [(-3)] else [])) (by exact ‹someF (facF c 1) c p = evL (everyF (facF c 1) c) c 124 (-3) F r›.trans (evL_go (by omega) hok (by assumption))) (by exact RB_go (by assumption) hf1) (by show 101 ≤ F - 1 + ((everyF (facF c 1) c) (r.1 + 1)).1; omega) rfl _ (by rfl) _ (by rfl)
  exact L4 _ 101 ((everyF (facF c 1) c) p) (by rfl) (by exact hfp) (by omega) rfl _ (by rfl) _ (by rfl)
set_option maxHeartbeats 4000000 in
set_option maxRecDepth 100000 in
theorem k_factor2 (l : Launch) (D : Dx) (A : Nat → Prop) (a : Nat → Nat) (s im fr bY tr ln bl bo g lg : Int → Int) (c : Nat → Int) (p : Nat) (hTP : TP s g c) (h3 : g 3 = (p : Int)) (h5z : g 5 = 0) (hpe : (p : Int) ≤ g 4) (hA : 0 ≤ g 2 ∧ g 2 ≤ 4) (hs : 0 ≤ s (268 + g 2) ∧ s (268 + g 2) ≤ (p : Int)) (h6 : g 6 = 3) : CT l D A yX12_factor cX12_factor 5 none { frames := 14, cells := 0, slots := 0, locals := 315 } [.ref (a 0)] (MW D A a s im fr bY tr ln bl bo g lg) (fun _ : Unit => none) (fun _ => True) (fun _ => MW D A a (emS s (g 2) (facF c 2 p).2.2) im fr bY tr ln bl bo (gS g (facF c 2 p).1 (facF c 2 p).2.1) lg) := by
  refine ct_of (lo0 := [(0, .ref (a 0))]) (by decide) (Nat.le_of_ble_eq_true rfl) rfl ?_
  intro G hG hR
  have hT1 := hTP.1
  have hrb := facF_rng hTP.2.2 2 p (by omega)
  refine v_aload_n hG dX12_factor_0 rfl 0 rfl ?_
  refine mg_isWrong (z := g 5) hG dX12_factor_1 rfl ?_
  refine v_if_eq (tgt := 8) hG dX12_factor_4 (by decide) (by omega) (fun c1 => ?_) (fun c1 => ?_)
  · skip
    refine v_aload_n hG dX12_factor_8 rfl 0 rfl ?_
    refine v_callV (k1' := 0) (k2' := 0) hG dX12_factor_9 zc_X12_here ⟨zl_X12_55, zi_X12_here, zs_X12_here⟩ (fun l => k_here l D A a s im fr bY tr ln bl bo g lg c p (by first | exact hTP | exact TP_gS hTP | exact TP_g (TP_gS hTP) s6_4 | exact TP_gS (TP_emS hTP (by omega) (by omega)) | exact TP_g (TP_gS (TP_emS hTP (by omega) (by omega))) s6_4) (by first | exact h3 | exact gS_3 | (rw [s6_3]; exact gS_3)) (by first | omega | (simp only [gS_2, gS_4, gS_6, s6_2, s6_4, emS_268, sU_eq, List.length_append]; omega))) rfl mw_recv (fun _ h => h) ⟨by decide, by decide⟩ rfl rfl ⟨by decide, by decide⟩ (rest := []) rfl (Nat.le_of_ble_eq_true rfl) (fun u2 => [vI (c p)]) (fun _ => rfl) (fun u2 hu2 => ?_)
    have fu2 : -1 ≤ c p ∧ c p ≤ 127 := hu2
    refine v_istore_n (lo' := [(1, vI (c p)), (0, .ref (a 0))]) hG dX12_factor_12 rfl (by decide) rfl ?_
    refine v_iload_n hG dX12_factor_13 rfl 0 rfl ?_
    refine v_bipush hG dX12_factor_14 (by decide) ?_
    refine v_icmp_eq (tgt := 25) hG dX12_factor_16 (by decide) (by omega) (by omega) (fun c3 => ?_) (fun c3 => ?_)
    · skip
      have hlt := hTP.2.2.lt (p := p) (by omega)
      refine v_aload_n hG dX12_factor_25 rfl 1 rfl ?_
      refine v_aload_n hG dX12_factor_26 rfl 1 rfl ?_
      refine mg_open (z := g 6) hG dX12_factor_27 rfl ?_
      refine v_iconst hG dX12_factor_30 ?_
      refine v_icmp_ne (tgt := 38) hG dX12_factor_31 (by decide) (by omega) (by omega) (fun c4 => ?_) (fun c4 => ?_)
      · skip
        refine v_iconst hG dX12_factor_38 ?_
        refine mp_isWrong hG dX12_factor_39 (Or.inl rfl) ?_
        refine v_aload_n hG dX12_factor_42 rfl 1 rfl ?_
        refine v_dup hG dX12_factor_43 rfl ?_
        refine mg_open (z := g 6) hG dX12_factor_44 rfl ?_
        refine v_iconst hG dX12_factor_47 ?_
        refine v_iadd hG dX12_factor_48 ?_
        refine mp_open hG dX12_factor_49 ?_
        refine v_aload_n hG dX12_factor_52 rfl 1 rfl ?_
        refine v_dup hG dX12_factor_53 rfl ?_
        refine mg_spot (z := g 3) hG dX12_factor_54 rfl ?_
        refine v_aload_n hG dX12_factor_57 rfl 1 rfl ?_
        refine mg_isWrong (z := 0) hG dX12_factor_58 rfl ?_
        refine v_if_eq (tgt := 68) hG dX12_factor_61 (by decide) (by omega) (fun c5 => ?_) (fun c5 => ?_)
        · skip
          refine v_iconst hG dX12_factor_68 ?_
          refine v_iadd hG dX12_factor_69 ?_
          refine mp_spot hG dX12_factor_70 ?_
          rw [show (sU (sU (sU g 5 0) 6 ((g 6) + 1)) 3 ((g 3) + 1)) = sU (gS g (p + 1) true) 6 (g 6 + 1) from by exact in6 h3]
          refine v_iload_n hG dX12_factor_73 rfl 0 rfl ?_
          refine v_bipush hG dX12_factor_74 (by decide) ?_
          refine v_icmp_ne (tgt := 91) hG dX12_factor_76 (by decide) (by omega) (by omega) (fun c6 => ?_) (fun c6 => ?_)
          · skip
            exfalso; omega
          · skip
            have hf1 := facF_rng hTP.2.2 1 (p + 1) (by omega)
            obtain ⟨hf11, hf12, hf13⟩ := id hf1
            refine v_aload_n hG dX12_factor_79 rfl 1 rfl ?_
            refine v_callV (k1' := 0) (k2' := 0) hG dX12_factor_80 zc_X12_factor ⟨zl_X12_78, zi_X12_factor, zs_X12_factor⟩ (fun l => k_factor1 l D A a s im fr bY tr ln bl bo (sU (gS g (p + 1) true) 6 (g 6 + 1)) lg c (p + 1) (by first | exact hTP | exact TP_gS hTP | exact TP_g (TP_gS hTP) s6_4 | exact TP_gS (TP_emS hTP (by omega) (by omega)) | exact TP_g (TP_gS (TP_emS hTP (by omega) (by omega))) s6_4) (by first | exact h3 | exact gS_3 | (rw [s6_3]; exact gS_3)) (by first | assumption | exact gS_50 | (rw [s6_5]; exact gS_50)) (by first | omega | (simp only [gS_2, gS_4, gS_6, s6_2, s6_4, emS_268, sU_eq, List.length_append]; omega)) (by first | omega | (simp only [gS_2, gS_4, gS_6, s6_2, s6_4, emS_268, sU_eq, List.length_append]; omega)) (by first | omega | (simp only [gS_2, gS_4, gS_6, s6_2, s6_4, emS_268, sU_eq, List.length_append]; omega)) (by first | omega | (simp only [gS_2, gS_4, gS_6, s6_2, s6_4, emS_268, sU_eq, List.length_append]; omega))) rfl mw_recv (fun _ h => h) ⟨by decide, by decide⟩ rfl rfl ⟨by decide, by decide⟩ (rest := []) rfl (Nat.le_of_ble_eq_true rfl) (fun u7 => []) (fun _ => rfl) (fun u7 hu7 => ?_)
            rw [show (emS s ((sU (gS g (p + 1) true) 6 (g 6 + 1)) 2) (facF c 1 (p + 1)).2.2) = emS s (g 2) (facF c 1 (p + 1)).2.2 from by rw [s6_2, gS_2]]
            rw [show (gS (sU (gS g (p + 1) true) 6 (g 6 + 1)) (facF c 1 (p + 1)).1 (facF c 1 (p + 1)).2.1) = sU (gS g (facF c 1 (p + 1)).1 (facF c 1 (p + 1)).2.1) 6 (g 6 + 1) from by exact gS_s6]
            refine v_aload_n hG dX12_factor_83 rfl 1 rfl ?_
            refine v_iconst hG dX12_factor_84 ?_
            refine v_callV (k1' := 0) (k2' := 0) hG dX12_factor_85 zc_X12_emits ⟨zl_X12_81, zi_X12_emits, zs_X12_emits⟩ (fun l => k_emits l D A a (emS s (g 2) (facF c 1 (p + 1)).2.2) im fr bY tr ln bl bo (sU (gS g (facF c 1 (p + 1)).1 (facF c 1 (p + 1)).2.1) 6 (g 6 + 1)) lg (-1) (by first | omega | (simp only [gS_2, gS_4, gS_6, s6_2, s6_4, emS_268, sU_eq, List.length_append]; omega)) (by first | omega | (simp only [gS_2, gS_4, gS_6, s6_2, s6_4, emS_268, sU_eq, List.length_append]; omega)) (by rw [s6_5]; exact gS_01)) rfl mw_recv (fun _ h => h) ⟨by decide, by decide⟩ rfl rfl ⟨by decide, by decide⟩ (rest := []) rfl (Nat.le_of_ble_eq_true rfl) (fun u8 => []) (fun _ => rfl) (fun u8 hu8 => ?_)
            rw [show (if (sU (gS g (facF c 1 (p + 1)).1 (facF c 1 (p + 1)).2.1) 6 (g 6 + 1)) 5 = 0 then em1 (emS s (g 2) (facF c 1 (p + 1)).2.2) ((sU (gS g (facF c 1 (p + 1)).1 (facF c 1 (p + 1)).2.1) 6 (g 6 + 1)) 2) (-1) else (emS s (g 2) (facF c 1 (p + 1)).2.2)) = emS s (g 2) ((facF c 1 (p + 1)).2.2 ++ (if (facF c 1 (p + 1)).2.1 = true then [-1] else [])) from by exact emit_6]
            refine v_goto (tgt := 101) hG dX12_factor_88 (by decide) ?_
            refine v_aload_n hG dX12_factor_101 rfl 1 rfl ?_
            refine v_dup hG dX12_factor_102 rfl ?_
            refine mg_open (z := g 6 + 1) hG dX12_factor_103 rfl ?_
            refine v_iconst hG dX12_factor_106 ?_
            refine v_isub hG dX12_factor_107 ?_
            refine mp_open hG dX12_factor_108 ?_
            have hfc := fac_n (c := c) (o := 1) (p := p) (by assumption)
            have e9 : emS s (g 2) ((facF c 1 (p + 1)).2.2 ++ (if (facF c 1 (p + 1)).2.1 = true then [-1] else [])) = emS s (g 2) (facF c 2 p).2.2 := by first | (rw [hfc]; exact out6 (by first | omega | (rw [sU_eq]; omega))) | (rw [hfc]; rfl) | (rw [hfc])
            have e10 : sU (sU (gS g (facF c 1 (p + 1)).1 (facF c 1 (p + 1)).2.1) 6 (g 6 + 1)) 6 ((g 6 + 1) - 1) = gS g (facF c 2 p).1 (facF c 2 p).2.1 := by first | (rw [hfc]; exact out6 (by first | omega | (rw [sU_eq]; omega))) | (rw [hfc]; rfl) | (rw [hfc])
            exact v_return hG hR dX12_factor_111 () rfl (by trivial) (fun _ hM => by rw [← e9]; rw [← e10]; exact hM)
        · skip
          exfalso; omega
      · skip
        exfalso; omega
    · skip
      refine v_iload_n hG dX12_factor_19 rfl 0 rfl ?_
      refine v_bipush hG dX12_factor_20 (by decide) ?_
      refine v_icmp_ne (tgt := 112) hG dX12_factor_22 (by decide) (by omega) (by omega) (fun c11 => ?_) (fun c11 => ?_)
      · skip
        refine v_aload_n hG dX12_factor_112 rfl 1 rfl ?_
        refine v_ldcS (i := 1) (tx := "mkdxtv") hG dX12_factor_113 (by decide) ?_
        refine v_callV (k1' := 0) (k2' := 0) hG dX12_factor_115 zc_X12_among ⟨zl_X12_89, zi_X12_among, zs_X12_among⟩ (fun l => k_among l D A a s im fr bY tr ln bl bo g lg 1 (by first | assumption | decide) c p (by first | exact hTP | exact TP_gS hTP | exact TP_g (TP_gS hTP) s6_4 | exact TP_gS (TP_emS hTP (by omega) (by omega)) | exact TP_g (TP_gS (TP_emS hTP (by omega) (by omega))) s6_4) (by first | exact h3 | exact gS_3 | (rw [s6_3]; exact gS_3)) (by first | omega | (simp only [gS_2, gS_4, gS_6, s6_2, s6_4, emS_268, sU_eq, List.length_append]; omega))) rfl mw_recv (fun _ h => h) ⟨by decide, by decide⟩ rfl rfl ⟨by decide, by decide⟩ (rest := []) rfl (Nat.le_of_ble_eq_true rfl) (fun u12 => [vI (zix 1 (c p))]) (fun _ => rfl) (fun u12 hu12 => ?_)
        have fu12 : -1 ≤ zix 1 (c p) ∧ zix 1 (c p) ≤ 16 := hu12
        refine v_istore_n (lo' := [(2, vI (zix 1 (c p))), (1, vI (c p)), (0, .ref (a 0))]) hG dX12_factor_118 rfl (by decide) rfl ?_
        refine v_aload_n hG dX12_factor_119 rfl 2 rfl ?_
        refine v_iload_n hG dX12_factor_120 rfl 0 rfl ?_
        refine v_iconst hG dX12_factor_121 ?_
        refine v_icmp_ne (tgt := 129) hG dX12_factor_122 (by decide) (by omega) (by omega) (fun c13 => ?_) (fun c13 => ?_)
        · skip
          refine v_iconst hG dX12_factor_129 ?_
          refine mp_isWrong hG dX12_factor_130 (Or.inl rfl) ?_
          rw [show (sU (amG g p (zix 1 (c p))) 5 0) = gS g (p + 1) true from by exact am_y (by assumption)]
          have hg5 : gS g (p + 1) true 5 = 0 := gS_50
          have hlt := hTP.2.2.lt (p := p) (fun e => (by assumption : ¬ zix 1 (c p) = -1) (by rw [e]; exact zix_end (by decide)))
          refine v_aload_n hG dX12_factor_133 rfl 2 rfl ?_
          refine mg_isWrong (z := (gS g (p + 1) true) 5) hG dX12_factor_134 rfl ?_
          refine v_if_eq (tgt := 144) hG dX12_factor_137 (by decide) (by omega) (fun c14 => ?_) (fun c14 => ?_)
          · skip
            refine v_aload_n hG dX12_factor_144 rfl 2 rfl ?_
            refine v_ldcS (i := 2) (tx := "<=>") hG dX12_factor_145 (by decide) ?_
            refine v_callV (k1' := 0) (k2' := 0) hG dX12_factor_147 zc_X12_among ⟨zl_X12_89, zi_X12_among, zs_X12_among⟩ (fun l => k_among l D A a s im fr bY tr ln bl bo (gS g (p + 1) true) lg 2 (by first | assumption | decide) c (p + 1) (by first | exact hTP | exact TP_gS hTP | exact TP_g (TP_gS hTP) s6_4 | exact TP_gS (TP_emS hTP (by omega) (by omega)) | exact TP_g (TP_gS (TP_emS hTP (by omega) (by omega))) s6_4) (by first | exact h3 | exact gS_3 | (rw [s6_3]; exact gS_3)) (by first | omega | (simp only [gS_2, gS_4, gS_6, s6_2, s6_4, emS_268, sU_eq, List.length_append]; omega))) rfl mw_recv (fun _ h => h) ⟨by decide, by decide⟩ rfl rfl ⟨by decide, by decide⟩ (rest := []) rfl (Nat.le_of_ble_eq_true rfl) (fun u15 => [vI (zix 2 (c (p + 1)))]) (fun _ => rfl) (fun u15 hu15 => ?_)
            have fu15 : -1 ≤ zix 2 (c (p + 1)) ∧ zix 2 (c (p + 1)) ≤ 16 := hu15
            refine v_istore_n (lo' := [(3, vI (zix 2 (c (p + 1)))), (2, vI (zix 1 (c p))), (1, vI (c p)), (0, .ref (a 0))]) hG dX12_factor_150 rfl (by decide) rfl ?_
            have hg6 : (amG (gS g (p + 1) true) (p + 1) (zix 2 (c (p + 1)))) 5 = 0 := am_5.trans gS_50
            refine v_aload_n hG dX12_factor_151 rfl 3 rfl ?_
            refine v_aload_n hG dX12_factor_152 rfl 3 rfl ?_
            refine mg_isWrong (z := (amG (gS g (p + 1) true) (p + 1) (zix 2 (c (p + 1)))) 5) hG dX12_factor_153 rfl ?_
            refine v_if_ne (tgt := 164) hG dX12_factor_156 (by decide) (by omega) (fun c16 => ?_) (fun c16 => ?_)
            · skip
              exfalso; omega
            · skip
              refine v_iload_n hG dX12_factor_159 rfl 0 rfl ?_
              refine v_iconst hG dX12_factor_160 ?_
              refine v_icmp_ne (tgt := 168) hG dX12_factor_161 (by decide) (by omega) (by omega) (fun c17 => ?_) (fun c17 => ?_)
              · skip
                refine v_iconst hG dX12_factor_168 ?_
                refine mp_isWrong hG dX12_factor_169 (Or.inl rfl) ?_
                rw [show (sU (amG (gS g (p + 1) true) (p + 1) (zix 2 (c (p + 1)))) 5 0) = gS g (p + 2) true from by exact (am_y (by assumption)).trans gS_gS]
                have hlt2 := hTP.2.2.lt (p := p + 1) (fun e => (by assumption : ¬ zix 2 (c (p + 1)) = -1) (by rw [e]; exact zix_end (by decide)))
                refine v_aload_n hG dX12_factor_172 rfl 3 rfl ?_
                refine v_callV (k1' := 0) (k2' := 0) hG dX12_factor_173 zc_X12_figures ⟨zl_X12_95, zi_X12_figures, zs_X12_figures⟩ (fun l => k_figures l D A a s im fr bY tr ln bl bo (gS g (p + 2) true) lg c (p + 2) true (by first | exact hTP | exact TP_gS hTP | exact TP_g (TP_gS hTP) s6_4 | exact TP_gS (TP_emS hTP (by omega) (by omega)) | exact TP_g (TP_gS (TP_emS hTP (by omega) (by omega))) s6_4) (by first | exact h3 | exact gS_3 | (rw [s6_3]; exact gS_3)) (by first | exact gS_5 | (rw [s6_5]; exact gS_5)) (by first | omega | (simp only [gS_2, gS_4, gS_6, s6_2, s6_4, emS_268, sU_eq, List.length_append]; omega))) rfl mw_recv (fun _ h => h) ⟨by decide, by decide⟩ rfl rfl ⟨by decide, by decide⟩ (rest := []) rfl (Nat.le_of_ble_eq_true rfl) (fun u18 => [vI ((figF c ((p + 2), true)).2)]) (fun _ => rfl) (fun u18 hu18 => ?_)
                rw [show (gS (gS g (p + 2) true) (figF c ((p + 2), true)).1.1 (figF c ((p + 2), true)).1.2) = gS g (figF c ((p + 2), true)).1.1 (figF c ((p + 2), true)).1.2 from by exact gS_gS]
                refine v_istore (lo' := [(4, vI ((figF c ((p + 2), true)).2)), (3, vI (zix 2 (c (p + 1)))), (2, vI (zix 1 (c p))), (1, vI (c p)), (0, .ref (a 0))]) hG dX12_factor_176 (by decide) rfl ?_
                refine v_aload_n hG dX12_factor_178 rfl 4 rfl ?_
                refine v_iload_n hG dX12_factor_179 rfl 2 rfl ?_
                refine v_bipush hG dX12_factor_180 (by decide) ?_
                refine v_iload_n hG dX12_factor_182 rfl 1 rfl ?_
                refine v_imul hG dX12_factor_183 ?_
                refine v_iadd hG dX12_factor_184 ?_
                refine v_bipush hG dX12_factor_185 (by decide) ?_
                refine v_iload hG dX12_factor_187 0 rfl ?_
                refine v_imul hG dX12_factor_189 ?_
                refine v_iadd hG dX12_factor_190 ?_
                refine v_callV (k1' := 0) (k2' := 0) hG dX12_factor_191 zc_X12_emits ⟨zl_X12_81, zi_X12_emits, zs_X12_emits⟩ (fun l => k_emits l D A a s im fr bY tr ln bl bo (gS g (figF c ((p + 2), true)).1.1 (figF c ((p + 2), true)).1.2) lg (((zix 1 (c p)) + (8 * (zix 2 (c (p + 1))))) + (32 * ((figF c ((p + 2), true)).2))) (by first | omega | (simp only [gS_2, gS_4, gS_6, s6_2, s6_4, emS_268, sU_eq, List.length_append]; omega)) (by first | omega | (simp only [gS_2, gS_4, gS_6, s6_2, s6_4, emS_268, sU_eq, List.length_append]; omega)) (by exact gS_01)) rfl mw_recv (fun _ h => h) ⟨by decide, by decide⟩ rfl rfl ⟨by decide, by decide⟩ (rest := []) rfl (Nat.le_of_ble_eq_true rfl) (fun u19 => []) (fun _ => rfl) (fun u19 hu19 => ?_)
                rw [show (if (gS g (figF c ((p + 2), true)).1.1 (figF c ((p + 2), true)).1.2) 5 = 0 then em1 s ((gS g (figF c ((p + 2), true)).1.1 (figF c ((p + 2), true)).1.2) 2) (((zix 1 (c p)) + (8 * (zix 2 (c (p + 1))))) + (32 * ((figF c ((p + 2), true)).2))) else s) = emS s (g 2) (if (figF c (p + 2, true)).1.2 = true then [zix 1 (c p) + 8 * zix 2 (c (p + 1)) + 32 * (figF c (p + 2, true)).2] else []) from by exact emit_1]
                have hfc : facF c 2 p = atomF c p := fac_at (by assumption) (by assumption)
                have e20 : emS s (g 2) (if (figF c (p + 2, true)).1.2 = true then [zix 1 (c p) + 8 * zix 2 (c (p + 1)) + 32 * (figF c (p + 2, true)).2] else []) = emS s (g 2) (facF c 2 p).2.2 := by rw [hfc]; first | (rw [at_A (by assumption)]; done) | (rw [at_B (by assumption) (by assumption)]; done) | (rw [at_C (by assumption) (by assumption)]; done) | (rw [at_A (by assumption)]; rfl) | (rw [at_B (by assumption) (by assumption)]; rfl)
                have e21 : gS g (figF c ((p + 2), true)).1.1 (figF c ((p + 2), true)).1.2 = gS g (facF c 2 p).1 (facF c 2 p).2.1 := by rw [hfc]; first | (rw [at_A (by assumption)]; done) | (rw [at_B (by assumption) (by assumption)]; done) | (rw [at_C (by assumption) (by assumption)]; done) | (rw [at_A (by assumption)]; rfl) | (rw [at_B (by assumption) (by assumption)]; rfl)
                exact v_return hG hR dX12_factor_194 () rfl (by trivial) (fun _ hM => by rw [← e20]; rw [← e21]; exact hM)
              · skip
                refine v_iconst hG dX12_factor_164 ?_
                refine v_goto (tgt := 169) hG dX12_factor_165 (by decide) ?_
                refine mp_isWrong hG dX12_factor_169 (Or.inr rfl) ?_
                rw [show (sU (amG (gS g (p + 1) true) (p + 1) (zix 2 (c (p + 1)))) 5 1) = gS g (p + 1) false from by exact (am_n gS_3 (by assumption)).trans gS_gS]
                refine v_aload_n hG dX12_factor_172 rfl 3 rfl ?_
                refine v_callV (k1' := 0) (k2' := 0) hG dX12_factor_173 zc_X12_figures ⟨zl_X12_95, zi_X12_figures, zs_X12_figures⟩ (fun l => k_figures l D A a s im fr bY tr ln bl bo (gS g (p + 1) false) lg c (p + 1) false (by first | exact hTP | exact TP_gS hTP | exact TP_g (TP_gS hTP) s6_4 | exact TP_gS (TP_emS hTP (by omega) (by omega)) | exact TP_g (TP_gS (TP_emS hTP (by omega) (by omega))) s6_4) (by first | exact h3 | exact gS_3 | (rw [s6_3]; exact gS_3)) (by first | exact gS_5 | (rw [s6_5]; exact gS_5)) (by first | omega | (simp only [gS_2, gS_4, gS_6, s6_2, s6_4, emS_268, sU_eq, List.length_append]; omega))) rfl mw_recv (fun _ h => h) ⟨by decide, by decide⟩ rfl rfl ⟨by decide, by decide⟩ (rest := []) rfl (Nat.le_of_ble_eq_true rfl) (fun u22 => [vI ((figF c ((p + 1), false)).2)]) (fun _ => rfl) (fun u22 hu22 => ?_)
                rw [show (gS (gS g (p + 1) false) (figF c ((p + 1), false)).1.1 (figF c ((p + 1), false)).1.2) = gS g (figF c ((p + 1), false)).1.1 (figF c ((p + 1), false)).1.2 from by exact gS_gS]
                rw [figF_f]
                refine v_istore (lo' := [(4, vI 0), (3, vI (zix 2 (c (p + 1)))), (2, vI (zix 1 (c p))), (1, vI (c p)), (0, .ref (a 0))]) hG dX12_factor_176 (by decide) rfl ?_
                refine v_aload_n hG dX12_factor_178 rfl 4 rfl ?_
                refine v_iload_n hG dX12_factor_179 rfl 2 rfl ?_
                refine v_bipush hG dX12_factor_180 (by decide) ?_
                refine v_iload_n hG dX12_factor_182 rfl 1 rfl ?_
                refine v_imul hG dX12_factor_183 ?_
                refine v_iadd hG dX12_factor_184 ?_
                refine v_bipush hG dX12_factor_185 (by decide) ?_
                refine v_iload hG dX12_factor_187 0 rfl ?_
                refine v_imul hG dX12_factor_189 ?_
                refine v_iadd hG dX12_factor_190 ?_
                refine v_callV (k1' := 0) (k2' := 0) hG dX12_factor_191 zc_X12_emits ⟨zl_X12_81, zi_X12_emits, zs_X12_emits⟩ (fun l => k_emits l D A a s im fr bY tr ln bl bo (gS g (p + 1) false) lg (((zix 1 (c p)) + (8 * (zix 2 (c (p + 1))))) + (32 * 0)) (by first | omega | (simp only [gS_2, gS_4, gS_6, s6_2, s6_4, emS_268, sU_eq, List.length_append]; omega)) (by first | omega | (simp only [gS_2, gS_4, gS_6, s6_2, s6_4, emS_268, sU_eq, List.length_append]; omega)) (by exact gS_01)) rfl mw_recv (fun _ h => h) ⟨by decide, by decide⟩ rfl rfl ⟨by decide, by decide⟩ (rest := []) rfl (Nat.le_of_ble_eq_true rfl) (fun u23 => []) (fun _ => rfl) (fun u23 hu23 => ?_)
                rw [show (if (gS g (p + 1) false) 5 = 0 then em1 s ((gS g (p + 1) false) 2) (((zix 1 (c p)) + (8 * (zix 2 (c (p + 1))))) + (32 * 0)) else s) = s from by exact emit_n]
                have hfc : facF c 2 p = atomF c p := fac_at (by assumption) (by assumption)
                have e24 : s = emS s (g 2) (facF c 2 p).2.2 := by rw [hfc]; first | (rw [at_A (by assumption)]; done) | (rw [at_B (by assumption) (by assumption)]; done) | (rw [at_C (by assumption) (by assumption)]; done) | (rw [at_A (by assumption)]; rfl) | (rw [at_B (by assumption) (by assumption)]; rfl)
                have e25 : gS g (p + 1) false = gS g (facF c 2 p).1 (facF c 2 p).2.1 := by rw [hfc]; first | (rw [at_A (by assumption)]; done) | (rw [at_B (by assumption) (by assumption)]; done) | (rw [at_C (by assumption) (by assumption)]; done) | (rw [at_A (by assumption)]; rfl) | (rw [at_B (by assumption) (by assumption)]; rfl)
                exact v_return hG hR dX12_factor_194 () rfl (by trivial) (fun _ hM => by rw [← e24]; rw [← e25]; exact hM)
          · skip
            exfalso; omega
        · skip
          refine v_iconst hG dX12_factor_125 ?_
          refine v_goto (tgt := 130) hG dX12_factor_126 (by decide) ?_
          refine mp_isWrong hG dX12_factor_130 (Or.inr rfl) ?_
          rw [show (sU (amG g p (zix 1 (c p))) 5 1) = gS g p false from by exact am_n h3 (by assumption)]
          have hg5 : gS g p false 5 = 1 := gS_51
          refine v_aload_n hG dX12_factor_133 rfl 2 rfl ?_
          refine mg_isWrong (z := (gS g p false) 5) hG dX12_factor_134 rfl ?_
          refine v_if_eq (tgt := 144) hG dX12_factor_137 (by decide) (by omega) (fun c26 => ?_) (fun c26 => ?_)
          · skip
            exfalso; omega
          · skip
            refine v_iconst hG dX12_factor_140 ?_
            refine v_goto (tgt := 150) hG dX12_factor_141 (by decide) ?_
            refine v_istore_n (lo' := [(3, vI 0), (2, vI (zix 1 (c p))), (1, vI (c p)), (0, .ref (a 0))]) hG dX12_factor_150 rfl (by decide) rfl ?_
            refine v_aload_n hG dX12_factor_151 rfl 3 rfl ?_
            refine v_aload_n hG dX12_factor_152 rfl 3 rfl ?_
            refine mg_isWrong (z := (gS g p false) 5) hG dX12_factor_153 rfl ?_
            refine v_if_ne (tgt := 164) hG dX12_factor_156 (by decide) (by omega) (fun c27 => ?_) (fun c27 => ?_)
            · skip
              refine v_iconst hG dX12_factor_164 ?_
              refine v_goto (tgt := 169) hG dX12_factor_165 (by decide) ?_
              refine mp_isWrong hG dX12_factor_169 (Or.inr rfl) ?_
              rw [show (sU (gS g p false) 5 1) = gS g p false from by exact gS_s5]
              refine v_aload_n hG dX12_factor_172 rfl 3 rfl ?_
              refine v_callV (k1' := 0) (k2' := 0) hG dX12_factor_173 zc_X12_figures ⟨zl_X12_95, zi_X12_figures, zs_X12_figures⟩ (fun l => k_figures l D A a s im fr bY tr ln bl bo (gS g p false) lg c p false (by first | exact hTP | exact TP_gS hTP | exact TP_g (TP_gS hTP) s6_4 | exact TP_gS (TP_emS hTP (by omega) (by omega)) | exact TP_g (TP_gS (TP_emS hTP (by omega) (by omega))) s6_4) (by first | exact h3 | exact gS_3 | (rw [s6_3]; exact gS_3)) (by first | exact gS_5 | (rw [s6_5]; exact gS_5)) (by first | omega | (simp only [gS_2, gS_4, gS_6, s6_2, s6_4, emS_268, sU_eq, List.length_append]; omega))) rfl mw_recv (fun _ h => h) ⟨by decide, by decide⟩ rfl rfl ⟨by decide, by decide⟩ (rest := []) rfl (Nat.le_of_ble_eq_true rfl) (fun u28 => [vI ((figF c (p, false)).2)]) (fun _ => rfl) (fun u28 hu28 => ?_)
              rw [show (gS (gS g p false) (figF c (p, false)).1.1 (figF c (p, false)).1.2) = gS g (figF c (p, false)).1.1 (figF c (p, false)).1.2 from by exact gS_gS]
              rw [figF_f]
              refine v_istore (lo' := [(4, vI 0), (3, vI 0), (2, vI (zix 1 (c p))), (1, vI (c p)), (0, .ref (a 0))]) hG dX12_factor_176 (by decide) rfl ?_
              refine v_aload_n hG dX12_factor_178 rfl 4 rfl ?_
              refine v_iload_n hG dX12_factor_179 rfl 2 rfl ?_
              refine v_bipush hG dX12_factor_180 (by decide) ?_
              refine v_iload_n hG dX12_factor_182 rfl 1 rfl ?_
              refine v_imul hG dX12_factor_183 ?_
              refine v_iadd hG dX12_factor_184 ?_
              refine v_bipush hG dX12_factor_185 (by decide) ?_
              refine v_iload hG dX12_factor_187 0 rfl ?_
              refine v_imul hG dX12_factor_189 ?_
              refine v_iadd hG dX12_factor_190 ?_
              refine v_callV (k1' := 0) (k2' := 0) hG dX12_factor_191 zc_X12_emits ⟨zl_X12_81, zi_X12_emits, zs_X12_emits⟩ (fun l => k_emits l D A a s im fr bY tr ln bl bo (gS g p false) lg (((zix 1 (c p)) + (8 * 0)) + (32 * 0)) (by first | omega | (simp only [gS_2, gS_4, gS_6, s6_2, s6_4, emS_268, sU_eq, List.length_append]; omega)) (by first | omega | (simp only [gS_2, gS_4, gS_6, s6_2, s6_4, emS_268, sU_eq, List.length_append]; omega)) (by exact gS_01)) rfl mw_recv (fun _ h => h) ⟨by decide, by decide⟩ rfl rfl ⟨by decide, by decide⟩ (rest := []) rfl (Nat.le_of_ble_eq_true rfl) (fun u29 => []) (fun _ => rfl) (fun u29 hu29 => ?_)
              rw [show (if (gS g p false) 5 = 0 then em1 s ((gS g p false) 2) (((zix 1 (c p)) + (8 * 0)) + (32 * 0)) else s) = s from by exact emit_n]
              have hfc : facF c 2 p = atomF c p := fac_at (by assumption) (by assumption)
              have e30 : s = emS s (g 2) (facF c 2 p).2.2 := by rw [hfc]; first | (rw [at_A (by assumption)]; done) | (rw [at_B (by assumption) (by assumption)]; done) | (rw [at_C (by assumption) (by assumption)]; done) | (rw [at_A (by assumption)]; rfl) | (rw [at_B (by assumption) (by assumption)]; rfl)
              have e31 : gS g p false = gS g (facF c 2 p).1 (facF c 2 p).2.1 := by rw [hfc]; first | (rw [at_A (by assumption)]; done) | (rw [at_B (by assumption) (by assumption)]; done) | (rw [at_C (by assumption) (by assumption)]; done) | (rw [at_A (by assumption)]; rfl) | (rw [at_B (by assumption) (by assumption)]; rfl)
              exact v_return hG hR dX12_factor_194 () rfl (by trivial) (fun _ hM => by rw [← e30]; rw [← e31]; exact hM)
            · skip
              exfalso; omega
      · skip
        have hlt := hTP.2.2.lt (p := p) (by omega)
        refine v_aload_n hG dX12_factor_25 rfl 1 rfl ?_
        refine v_aload_n hG dX12_factor_26 rfl 1 rfl ?_
        refine mg_open (z := g 6) hG dX12_factor_27 rfl ?_
        refine v_iconst hG dX12_factor_30 ?_
        refine v_icmp_ne (tgt := 38) hG dX12_factor_31 (by decide) (by omega) (by omega) (fun c32 => ?_) (fun c32 => ?_)
        · skip
          refine v_iconst hG dX12_factor_38 ?_
          refine mp_isWrong hG dX12_factor_39 (Or.inl rfl) ?_
          refine v_aload_n hG dX12_factor_42 rfl 1 rfl ?_
          refine v_dup hG dX12_factor_43 rfl ?_
          refine mg_open (z := g 6) hG dX12_factor_44 rfl ?_
          refine v_iconst hG dX12_factor_47 ?_
          refine v_iadd hG dX12_factor_48 ?_
          refine mp_open hG dX12_factor_49 ?_
          refine v_aload_n hG dX12_factor_52 rfl 1 rfl ?_
          refine v_dup hG dX12_factor_53 rfl ?_
          refine mg_spot (z := g 3) hG dX12_factor_54 rfl ?_
          refine v_aload_n hG dX12_factor_57 rfl 1 rfl ?_
          refine mg_isWrong (z := 0) hG dX12_factor_58 rfl ?_
          refine v_if_eq (tgt := 68) hG dX12_factor_61 (by decide) (by omega) (fun c33 => ?_) (fun c33 => ?_)
          · skip
            refine v_iconst hG dX12_factor_68 ?_
            refine v_iadd hG dX12_factor_69 ?_
            refine mp_spot hG dX12_factor_70 ?_
            rw [show (sU (sU (sU g 5 0) 6 ((g 6) + 1)) 3 ((g 3) + 1)) = sU (gS g (p + 1) true) 6 (g 6 + 1) from by exact in6 h3]
            refine v_iload_n hG dX12_factor_73 rfl 0 rfl ?_
            refine v_bipush hG dX12_factor_74 (by decide) ?_
            refine v_icmp_ne (tgt := 91) hG dX12_factor_76 (by decide) (by omega) (by omega) (fun c34 => ?_) (fun c34 => ?_)
            · skip
              have hf1 := someF_rng hTP.2.2 (fun x hx => facF_rng hTP.2.2 1 x hx) (p := (p + 1)) (by omega)
              obtain ⟨hf11, hf12, hf13⟩ := id hf1
              refine v_aload_n hG dX12_factor_91 rfl 1 rfl ?_
              refine v_callV (k1' := 0) (k2' := 0) hG dX12_factor_92 zc_X12_some ⟨zl_X12_84, zi_X12_some, zs_X12_some⟩ (fun l => k_some1 l D A a s im fr bY tr ln bl bo (sU (gS g (p + 1) true) 6 (g 6 + 1)) lg c (p + 1) (by first | exact hTP | exact TP_gS hTP | exact TP_g (TP_gS hTP) s6_4 | exact TP_gS (TP_emS hTP (by omega) (by omega)) | exact TP_g (TP_gS (TP_emS hTP (by omega) (by omega))) s6_4) (by first | exact h3 | exact gS_3 | (rw [s6_3]; exact gS_3)) (by first | assumption | exact gS_50 | (rw [s6_5]; exact gS_50)) (by first | omega | (simp only [gS_2, gS_4, gS_6, s6_2, s6_4, emS_268, sU_eq, List.length_append]; omega)) (by first | omega | (simp only [gS_2, gS_4, gS_6, s6_2, s6_4, emS_268, sU_eq, List.length_append]; omega)) (by first | omega | (simp only [gS_2, gS_4, gS_6, s6_2, s6_4, emS_268, sU_eq, List.length_append]; omega)) (by first | omega | (simp only [gS_2, gS_4, gS_6, s6_2, s6_4, emS_268, sU_eq, List.length_append]; omega))) rfl mw_recv (fun _ h => h) ⟨by decide, by decide⟩ rfl rfl ⟨by decide, by decide⟩ (rest := []) rfl (Nat.le_of_ble_eq_true rfl) (fun u35 => []) (fun _ => rfl) (fun u35 hu35 => ?_)
              rw [show (emS s ((sU (gS g (p + 1) true) 6 (g 6 + 1)) 2) (someF (facF c 1) c (p + 1)).2.2) = emS s (g 2) (someF (facF c 1) c (p + 1)).2.2 from by rw [s6_2, gS_2]]
              rw [show (gS (sU (gS g (p + 1) true) 6 (g 6 + 1)) (someF (facF c 1) c (p + 1)).1 (someF (facF c 1) c (p + 1)).2.1) = sU (gS g (someF (facF c 1) c (p + 1)).1 (someF (facF c 1) c (p + 1)).2.1) 6 (g 6 + 1) from by exact gS_s6]
              refine v_aload_n hG dX12_factor_95 rfl 1 rfl ?_
              refine v_bipush hG dX12_factor_96 (by decide) ?_
              refine v_callV (k1' := 0) (k2' := 0) hG dX12_factor_98 zc_X12_must ⟨zl_X12_68, zi_X12_must, zs_X12_must⟩ (fun l => k_must l D A a (emS s (g 2) (someF (facF c 1) c (p + 1)).2.2) im fr bY tr ln bl bo (sU (gS g (someF (facF c 1) c (p + 1)).1 (someF (facF c 1) c (p + 1)).2.1) 6 (g 6 + 1)) lg 41 c ((someF (facF c 1) c (p + 1)).1) ((someF (facF c 1) c (p + 1)).2.1) (by first | exact hTP | exact TP_gS hTP | exact TP_g (TP_gS hTP) s6_4 | exact TP_gS (TP_emS hTP (by omega) (by omega)) | exact TP_g (TP_gS (TP_emS hTP (by omega) (by omega))) s6_4) (by first | exact h3 | exact gS_3 | (rw [s6_3]; exact gS_3)) (by first | exact gS_5 | (rw [s6_5]; exact gS_5)) (by first | omega | (simp only [gS_2, gS_4, gS_6, s6_2, s6_4, emS_268, sU_eq, List.length_append]; omega)) (by omega)) rfl mw_recv (fun _ h => h) ⟨by decide, by decide⟩ rfl rfl ⟨by decide, by decide⟩ (rest := []) rfl (Nat.le_of_ble_eq_true rfl) (fun u36 => []) (fun _ => rfl) (fun u36 hu36 => ?_)
              rw [show (gS (sU (gS g (someF (facF c 1) c (p + 1)).1 (someF (facF c 1) c (p + 1)).2.1) 6 (g 6 + 1)) (mustF c 41 (((someF (facF c 1) c (p + 1)).1), ((someF (facF c 1) c (p + 1)).2.1))).1 (mustF c 41 (((someF (facF c 1) c (p + 1)).1), ((someF (facF c 1) c (p + 1)).2.1))).2) = sU (gS g (mustF c 41 ((someF (facF c 1) c (p + 1)).1, (someF (facF c 1) c (p + 1)).2.1)).1 (mustF c 41 ((someF (facF c 1) c (p + 1)).1, (someF (facF c 1) c (p + 1)).2.1)).2) 6 (g 6 + 1) from by exact gS_s6]
              refine v_aload_n hG dX12_factor_101 rfl 1 rfl ?_
              refine v_dup hG dX12_factor_102 rfl ?_
              refine mg_open (z := g 6 + 1) hG dX12_factor_103 rfl ?_
              refine v_iconst hG dX12_factor_106 ?_
              refine v_isub hG dX12_factor_107 ?_
              refine mp_open hG dX12_factor_108 ?_
              have hfc := fac_p (c := c) (o := 1) (p := p) (by assumption)
              have e37 : emS s (g 2) (someF (facF c 1) c (p + 1)).2.2 = emS s (g 2) (facF c 2 p).2.2 := by first | (rw [hfc]; exact out6 (by first | omega | (rw [sU_eq]; omega))) | (rw [hfc]; rfl) | (rw [hfc])
              have e38 : sU (sU (gS g (mustF c 41 ((someF (facF c 1) c (p + 1)).1, (someF (facF c 1) c (p + 1)).2.1)).1 (mustF c 41 ((someF (facF c 1) c (p + 1)).1, (someF (facF c 1) c (p + 1)).2.1)).2) 6 (g 6 + 1)) 6 ((g 6 + 1) - 1) = gS g (facF c 2 p).1 (facF c 2 p).2.1 := by first | (rw [hfc]; exact out6 (by first | omega | (rw [sU_eq]; omega))) | (rw [hfc]; rfl) | (rw [hfc])
              exact v_return hG hR dX12_factor_111 () rfl (by trivial) (fun _ hM => by rw [← e37]; rw [← e38]; exact hM)
            · skip
              have hf1 := facF_rng hTP.2.2 1 (p + 1) (by omega)
              obtain ⟨hf11, hf12, hf13⟩ := id hf1
              refine v_aload_n hG dX12_factor_79 rfl 1 rfl ?_
              refine v_callV (k1' := 0) (k2' := 0) hG dX12_factor_80 zc_X12_factor ⟨zl_X12_78, zi_X12_factor, zs_X12_factor⟩ (fun l => k_factor1 l D A a s im fr bY tr ln bl bo (sU (gS g (p + 1) true) 6 (g 6 + 1)) lg c (p + 1) (by first | exact hTP | exact TP_gS hTP | exact TP_g (TP_gS hTP) s6_4 | exact TP_gS (TP_emS hTP (by omega) (by omega)) | exact TP_g (TP_gS (TP_emS hTP (by omega) (by omega))) s6_4) (by first | exact h3 | exact gS_3 | (rw [s6_3]; exact gS_3)) (by first | assumption | exact gS_50 | (rw [s6_5]; exact gS_50)) (by first | omega | (simp only [gS_2, gS_4, gS_6, s6_2, s6_4, emS_268, sU_eq, List.length_append]; omega)) (by first | omega | (simp only [gS_2, gS_4, gS_6, s6_2, s6_4, emS_268, sU_eq, List.length_append]; omega)) (by first | omega | (simp only [gS_2, gS_4, gS_6, s6_2, s6_4, emS_268, sU_eq, List.length_append]; omega)) (by first | omega | (simp only [gS_2, gS_4, gS_6, s6_2, s6_4, emS_268, sU_eq, List.length_append]; omega))) rfl mw_recv (fun _ h => h) ⟨by decide, by decide⟩ rfl rfl ⟨by decide, by decide⟩ (rest := []) rfl (Nat.le_of_ble_eq_true rfl) (fun u39 => []) (fun _ => rfl) (fun u39 hu39 => ?_)
              rw [show (emS s ((sU (gS g (p + 1) true) 6 (g 6 + 1)) 2) (facF c 1 (p + 1)).2.2) = emS s (g 2) (facF c 1 (p + 1)).2.2 from by rw [s6_2, gS_2]]
              rw [show (gS (sU (gS g (p + 1) true) 6 (g 6 + 1)) (facF c 1 (p + 1)).1 (facF c 1 (p + 1)).2.1) = sU (gS g (facF c 1 (p + 1)).1 (facF c 1 (p + 1)).2.1) 6 (g 6 + 1) from by exact gS_s6]
              refine v_aload_n hG dX12_factor_83 rfl 1 rfl ?_
              refine v_iconst hG dX12_factor_84 ?_
              refine v_callV (k1' := 0) (k2' := 0) hG dX12_factor_85 zc_X12_emits ⟨zl_X12_81, zi_X12_emits, zs_X12_emits⟩ (fun l => k_emits l D A a (emS s (g 2) (facF c 1 (p + 1)).2.2) im fr bY tr ln bl bo (sU (gS g (facF c 1 (p + 1)).1 (facF c 1 (p + 1)).2.1) 6 (g 6 + 1)) lg (-1) (by first | omega | (simp only [gS_2, gS_4, gS_6, s6_2, s6_4, emS_268, sU_eq, List.length_append]; omega)) (by first | omega | (simp only [gS_2, gS_4, gS_6, s6_2, s6_4, emS_268, sU_eq, List.length_append]; omega)) (by rw [s6_5]; exact gS_01)) rfl mw_recv (fun _ h => h) ⟨by decide, by decide⟩ rfl rfl ⟨by decide, by decide⟩ (rest := []) rfl (Nat.le_of_ble_eq_true rfl) (fun u40 => []) (fun _ => rfl) (fun u40 hu40 => ?_)
              rw [show (if (sU (gS g (facF c 1 (p + 1)).1 (facF c 1 (p + 1)).2.1) 6 (g 6 + 1)) 5 = 0 then em1 (emS s (g 2) (facF c 1 (p + 1)).2.2) ((sU (gS g (facF c 1 (p + 1)).1 (facF c 1 (p + 1)).2.1) 6 (g 6 + 1)) 2) (-1) else (emS s (g 2) (facF c 1 (p + 1)).2.2)) = emS s (g 2) ((facF c 1 (p + 1)).2.2 ++ (if (facF c 1 (p + 1)).2.1 = true then [-1] else [])) from by exact emit_6]
              refine v_goto (tgt := 101) hG dX12_factor_88 (by decide) ?_
              refine v_aload_n hG dX12_factor_101 rfl 1 rfl ?_
              refine v_dup hG dX12_factor_102 rfl ?_
              refine mg_open (z := g 6 + 1) hG dX12_factor_103 rfl ?_
              refine v_iconst hG dX12_factor_106 ?_
              refine v_isub hG dX12_factor_107 ?_
              refine mp_open hG dX12_factor_108 ?_
              have hfc := fac_n (c := c) (o := 1) (p := p) (by assumption)
              have e41 : emS s (g 2) ((facF c 1 (p + 1)).2.2 ++ (if (facF c 1 (p + 1)).2.1 = true then [-1] else [])) = emS s (g 2) (facF c 2 p).2.2 := by first | (rw [hfc]; exact out6 (by first | omega | (rw [sU_eq]; omega))) | (rw [hfc]; rfl) | (rw [hfc])
              have e42 : sU (sU (gS g (facF c 1 (p + 1)).1 (facF c 1 (p + 1)).2.1) 6 (g 6 + 1)) 6 ((g 6 + 1) - 1) = gS g (facF c 2 p).1 (facF c 2 p).2.1 := by first | (rw [hfc]; exact out6 (by first | omega | (rw [sU_eq]; omega))) | (rw [hfc]; rfl) | (rw [hfc])
              exact v_return hG hR dX12_factor_111 () rfl (by trivial) (fun _ hM => by rw [← e41]; rw [← e42]; exact hM)
          · skip
            exfalso; omega
        · skip
          exfalso; omega
  · skip
    exfalso; omega
set_option maxHeartbeats 4000000 in
set_option maxRecDepth 100000 in
theorem k_every2 (l : Launch) (D : Dx) (A : Nat → Prop) (a : Nat → Nat) (s im fr bY tr ln bl bo g lg : Int → Int) (c : Nat → Int) (p : Nat) (hTP : TP s g c) (h3 : g 3 = (p : Int)) (h5z : g 5 = 0) (hpe : (p : Int) ≤ g 4) (hA : 0 ≤ g 2 ∧ g 2 ≤ 4) (hs : 0 ≤ s (268 + g 2) ∧ s (268 + g 2) ≤ (p : Int)) (h6 : g 6 = 3) : CT l D A yX12_every cX12_every 1 none { frames := 15, cells := 0, slots := 0, locals := 339 } [.ref (a 0)] (MW D A a s im fr bY tr ln bl bo g lg) (fun _ : Unit => none) (fun _ => True) (fun _ => MW D A a (emS s (g 2) (everyF (facF c 2) c p).2.2) im fr bY tr ln bl bo (gS g (everyF (facF c 2) c p).1 (everyF (facF c 2) c p).2.1) lg) := by
  refine ct_of (lo0 := [(0, .ref (a 0))]) (by decide) (Nat.le_of_ble_eq_true rfl) rfl ?_
  intro G hG hR
  have hT1 := hTP.1
  have hrb := everyF_rng hTP.2.2 (fun x hx => facF_rng hTP.2.2 2 x hx) (p := p) (by omega)
  refine v_aload_n hG dX12_every_0 rfl 0 rfl ?_
  refine v_callV (k1' := 0) (k2' := 0) hG dX12_every_1 zc_X12_factor ⟨zl_X12_78, zi_X12_factor, zs_X12_factor⟩ (fun l => k_factor2 l D A a s im fr bY tr ln bl bo g lg c p (by first | exact hTP | exact TP_gS hTP | exact TP_g (TP_gS hTP) s6_4 | exact TP_gS (TP_emS hTP (by omega) (by omega)) | exact TP_g (TP_gS (TP_emS hTP (by omega) (by omega))) s6_4) (by first | exact h3 | exact gS_3 | (rw [s6_3]; exact gS_3)) (by first | assumption | exact gS_50 | (rw [s6_5]; exact gS_50)) (by first | omega | (simp only [gS_2, gS_4, gS_6, s6_2, s6_4, emS_268, sU_eq, List.length_append]; omega)) (by first | omega | (simp only [gS_2, gS_4, gS_6, s6_2, s6_4, emS_268, sU_eq, List.length_append]; omega)) (by first | omega | (simp only [gS_2, gS_4, gS_6, s6_2, s6_4, emS_268, sU_eq, List.length_append]; omega)) (by first | omega | (simp only [gS_2, gS_4, gS_6, s6_2, s6_4, emS_268, sU_eq, List.length_append]; omega))) rfl mw_recv (fun _ h => h) ⟨by decide, by decide⟩ rfl rfl ⟨by decide, by decide⟩ (rest := []) rfl (Nat.le_of_ble_eq_true rfl) (fun u1 => []) (fun _ => rfl) (fun u1 hu1 => ?_)
  have hfp := facF_rng hTP.2.2 2 p (by omega)
  have L4 : ∀ mz : Nat, ∀ (F : Nat) (r : R3), (everyF (facF c 2) c p = evL (facF c 2) c 38 (-2) F r) → (RB (g 4).toNat p r) → (101 ≤ F + r.1) → F = mz → ∀ x2 : Int → Int, x2 = (emS s (g 2) r.2.2) → ∀ x3 : Int → Int, x3 = (gS g r.1 r.2.1) → V G 0 0 (MW D A a x2 im fr bY tr ln bl bo x3 lg) 4 [(0, .ref (a 0))] [] := by
    intro dL4
    induction dL4 using Nat.strongRecOn with
    | ind dL4 ihL4 =>
      intro F r hq5 hq6 hq7 hq8
      intro x2 hx2
      subst hx2
      intro x3 hx3
      subst hx3
      have hg5 : gS g r.1 r.2.1 5 = (if r.2.1 then 0 else 1) := gS_5
      have hg01 := gS_01 (g := g) (p := r.1) (ok := r.2.1)
      obtain ⟨hr1, hr2, hr3⟩ := id ‹RB (g 4).toNat p r›
      refine v_aload_n hG dX12_every_4 rfl 0 rfl ?_
      refine mg_isWrong (z := (gS g r.1 r.2.1) 5) hG dX12_every_5 rfl ?_
      refine v_if_ne (tgt := 43) hG dX12_every_8 (by decide) (by omega) (fun c9 => ?_) (fun c9 => ?_)
      · skip
        have hst : everyF (facF c 2) c p = r := ‹everyF (facF c 2) c p = evL (facF c 2) c 38 (-2) F r›.trans (evL_stop (by first | exact Or.inl (ok_f hg5 (by assumption)) | exact Or.inr (by assumption)))
        have e10 : emS s (g 2) r.2.2 = emS s (g 2) (everyF (facF c 2) c p).2.2 := by rw [hst]
        have e11 : gS g r.1 r.2.1 = gS g (everyF (facF c 2) c p).1 (everyF (facF c 2) c p).2.1 := by rw [hst]
        exact v_return hG hR dX12_every_43 () rfl (by trivial) (fun _ hM => by rw [← e10]; rw [← e11]; exact hM)
      · skip
        refine v_aload_n hG dX12_every_11 rfl 0 rfl ?_
        refine v_callV (k1' := 0) (k2' := 0) hG dX12_every_12 zc_X12_here ⟨zl_X12_55, zi_X12_here, zs_X12_here⟩ (fun l => k_here l D A a (emS s (g 2) r.2.2) im fr bY tr ln bl bo (gS g r.1 r.2.1) lg c r.1 (by first | exact hTP | exact TP_gS hTP | exact TP_g (TP_gS hTP) s6_4 | exact TP_gS (TP_emS hTP (by omega) (by omega)) | exact TP_g (TP_gS (TP_emS hTP (by omega) (by omega))) s6_4) (by first | exact h3 | exact gS_3 | (rw [s6_3]; exact gS_3)) (by first | omega | (simp only [gS_2, gS_4, gS_6, s6_2, s6_4, emS_268, sU_eq, List.length_append]; omega))) rfl mw_recv (fun _ h => h) ⟨by decide, by decide⟩ rfl rfl ⟨by decide, by decide⟩ (rest := []) rfl (Nat.le_of_ble_eq_true rfl) (fun u12 => [vI (c r.1)]) (fun _ => rfl) (fun u12 hu12 => ?_)
        have fu12 : -1 ≤ c r.1 ∧ c r.1 ≤ 127 := hu12
        refine v_bipush hG dX12_every_15 (by decide) ?_
        refine v_icmp_ne (tgt := 43) hG dX12_every_17 (by decide) (by omega) (by omega) (fun c13 => ?_) (fun c13 => ?_)
        · skip
          have hst : everyF (facF c 2) c p = r := ‹everyF (facF c 2) c p = evL (facF c 2) c 38 (-2) F r›.trans (evL_stop (by first | exact Or.inl (ok_f hg5 (by assumption)) | exact Or.inr (by assumption)))
          have e14 : emS s (g 2) r.2.2 = emS s (g 2) (everyF (facF c 2) c p).2.2 := by rw [hst]
          have e15 : gS g r.1 r.2.1 = gS g (everyF (facF c 2) c p).1 (everyF (facF c 2) c p).2.1 := by rw [hst]
          exact v_return hG hR dX12_every_43 () rfl (by trivial) (fun _ hM => by rw [← e14]; rw [← e15]; exact hM)
        · skip
          have hok : r.2.1 = true := ok_t hg5 (by omega)
          have hlt := hTP.2.2.lt (p := r.1) (by omega)
          have hf1 := facF_rng hTP.2.2 2 (r.1 + 1) (by omega)
          obtain ⟨hf11, hf12, hf13⟩ := id hf1
          refine v_aload_n hG dX12_every_20 rfl 0 rfl ?_
          refine v_dup hG dX12_every_21 rfl ?_
          refine mg_spot (z := (gS g r.1 r.2.1) 3) hG dX12_every_22 rfl ?_
          refine v_iconst hG dX12_every_25 ?_
          refine v_iadd hG dX12_every_26 ?_
          refine mp_spot hG dX12_every_27 ?_
          rw [show (sU (gS g r.1 r.2.1) 3 (((gS g r.1 r.2.1) 3) + 1)) = gS g (r.1 + 1) true from by exact sp1 hok]
          refine v_aload_n hG dX12_every_30 rfl 0 rfl ?_
          refine v_callV (k1' := 0) (k2' := 0) hG dX12_every_31 zc_X12_factor ⟨zl_X12_78, zi_X12_factor, zs_X12_factor⟩ (fun l => k_factor2 l D A a (emS s (g 2) r.2.2) im fr bY tr ln bl bo (gS g (r.1 + 1) true) lg c (r.1 + 1) (by first | exact hTP | exact TP_gS hTP | exact TP_g (TP_gS hTP) s6_4 | exact TP_gS (TP_emS hTP (by omega) (by omega)) | exact TP_g (TP_gS (TP_emS hTP (by omega) (by omega))) s6_4) (by first | exact h3 | exact gS_3 | (rw [s6_3]; exact gS_3)) (by first | assumption | exact gS_50 | (rw [s6_5]; exact gS_50)) (by first | omega | (simp only [gS_2, gS_4, gS_6, s6_2, s6_4, emS_268, sU_eq, List.length_append]; omega)) (by first | omega | (simp only [gS_2, gS_4, gS_6, s6_2, s6_4, emS_268, sU_eq, List.length_append]; omega)) (by first | omega | (simp only [gS_2, gS_4, gS_6, s6_2, s6_4, emS_268, sU_eq, List.length_append]; omega)) (by first | omega | (simp only [gS_2, gS_4, gS_6, s6_2, s6_4, emS_268, sU_eq, List.length_append]; omega))) rfl mw_recv (fun _ h => h) ⟨by decide, by decide⟩ rfl rfl ⟨by decide, by decide⟩ (rest := []) rfl (Nat.le_of_ble_eq_true rfl) (fun u16 => []) (fun _ => rfl) (fun u16 hu16 => ?_)
          rw [show (emS (emS s (g 2) r.2.2) ((gS g (r.1 + 1) true) 2) (facF c 2 (r.1 + 1)).2.2) = emS s (g 2) (r.2.2 ++ ((facF c 2) (r.1 + 1)).2.2) from by rw [gS_2]; exact emS_app]
          rw [show (gS (gS g (r.1 + 1) true) (facF c 2 (r.1 + 1)).1 (facF c 2 (r.1 + 1)).2.1) = gS g ((facF c 2) (r.1 + 1)).1 ((facF c 2) (r.1 + 1)).2.1 from by exact gS_gS]
          refine v_aload_n hG dX12_every_34 rfl 0 rfl ?_
          refine v_bipush hG dX12_every_35 (by decide) ?_
          refine v_callV (k1' := 0) (k2' := 0) hG dX12_every_37 zc_X12_emits ⟨zl_X12_81, zi_X12_emits, zs_X12_emits⟩ (fun l => k_emits l D A a (emS s (g 2) (r.2.2 ++ ((facF c 2) (r.1 + 1)).2.2)) im fr bY tr ln bl bo (gS g ((facF c 2) (r.1 + 1)).1 ((facF c 2) (r.1 + 1)).2.1) lg (-2) (by first | omega | (simp only [gS_2, gS_4, gS_6, s6_2, s6_4, emS_268, sU_eq, List.length_append]; omega)) (by first | omega | (simp only [gS_2, gS_4, gS_6, s6_2, s6_4, emS_268, sU_eq, List.length_append]; omega)) (by exact gS_01)) rfl mw_recv (fun _ h => h) ⟨by decide, by decide⟩ rfl rfl ⟨by decide, by decide⟩ (rest := []) rfl (Nat.le_of_ble_eq_true rfl) (fun u17 => []) (fun _ => rfl) (fun u17 hu17 => ?_)
          rw [show (if (gS g ((facF c 2) (r.1 + 1)).1 ((facF c 2) (r.1 + 1)).2.1) 5 = 0 then em1 (emS s (g 2) (r.2.2 ++ ((facF c 2) (r.1 + 1)).2.2)) ((gS g ((facF c 2) (r.1 + 1)).1 ((facF c 2) (r.1 + 1)).2.1) 2) (-2) else (emS s (g 2) (r.2.2 ++ ((facF c 2) (r.1 + 1)).2.2))) = emS s (g 2) ((((facF c 2) (r.1 + 1)).1, ((facF c 2) (r.1 + 1)).2.1, r.2.2 ++ ((facF c 2) (r.1 + 1)).2.2 ++ (if ((facF c 2) (r.1 + 1)).2.1 = true then [(-2)] else []))).2.2 from by exact emit_l]
          refine v_goto (tgt := 4) hG dX12_every_40 (by decide) ?_
          exact ihL4 _ (by omega) (F - 1) (((facF c 2) (r.1 + 1)).1, ((facF c 2) (r.1 + 1)).2.1, r.2.2 ++ ((facF c 2) (r.1 + 1)).2.2 ++ (if ((facF c 2) (r.1 + 1)).2.1 = true then [(-2)] else [])) (by exact ‹everyF (facF c 2) c p = evL (facF c 2) c 38 (-2) F r›.trans (evL_go (by omega) hok (by assumption))) (by exact RB_go (by assumption) hf1) (by show 101 ≤ F - 1 + ((facF c 2) (r.1 + 1)).1; omega) rfl _ (by rfl) _ (by rfl)
  exact L4 _ 101 ((facF c 2) p) (by rfl) (by exact hfp) (by omega) rfl _ (by rfl) _ (by rfl)
set_option maxHeartbeats 4000000 in
set_option maxRecDepth 100000 in
theorem k_some2 (l : Launch) (D : Dx) (A : Nat → Prop) (a : Nat → Nat) (s im fr bY tr ln bl bo g lg : Int → Int) (c : Nat → Int) (p : Nat) (hTP : TP s g c) (h3 : g 3 = (p : Int)) (h5z : g 5 = 0) (hpe : (p : Int) ≤ g 4) (hA : 0 ≤ g 2 ∧ g 2 ≤ 4) (hs : 0 ≤ s (268 + g 2) ∧ s (268 + g 2) ≤ (p : Int)) (h6 : g 6 = 3) : CT l D A yX12_some cX12_some 1 none { frames := 16, cells := 0, slots := 0, locals := 359 } [.ref (a 0)] (MW D A a s im fr bY tr ln bl bo g lg) (fun _ : Unit => none) (fun _ => True) (fun _ => MW D A a (emS s (g 2) (someF (facF c 2) c p).2.2) im fr bY tr ln bl bo (gS g (someF (facF c 2) c p).1 (someF (facF c 2) c p).2.1) lg) := by
  refine ct_of (lo0 := [(0, .ref (a 0))]) (by decide) (Nat.le_of_ble_eq_true rfl) rfl ?_
  intro G hG hR
  have hT1 := hTP.1
  have hrb := someF_rng hTP.2.2 (fun x hx => facF_rng hTP.2.2 2 x hx) (p := p) (by omega)
  refine v_aload_n hG dX12_some_0 rfl 0 rfl ?_
  refine v_callV (k1' := 0) (k2' := 0) hG dX12_some_1 zc_X12_every ⟨zl_X12_98, zi_X12_every, zs_X12_every⟩ (fun l => k_every2 l D A a s im fr bY tr ln bl bo g lg c p (by first | exact hTP | exact TP_gS hTP | exact TP_g (TP_gS hTP) s6_4 | exact TP_gS (TP_emS hTP (by omega) (by omega)) | exact TP_g (TP_gS (TP_emS hTP (by omega) (by omega))) s6_4) (by first | exact h3 | exact gS_3 | (rw [s6_3]; exact gS_3)) (by first | assumption | exact gS_50 | (rw [s6_5]; exact gS_50)) (by first | omega | (simp only [gS_2, gS_4, gS_6, s6_2, s6_4, emS_268, sU_eq, List.length_append]; omega)) (by first | omega | (simp only [gS_2, gS_4, gS_6, s6_2, s6_4, emS_268, sU_eq, List.length_append]; omega)) (by first | omega | (simp only [gS_2, gS_4, gS_6, s6_2, s6_4, emS_268, sU_eq, List.length_append]; omega)) (by first | omega | (simp only [gS_2, gS_4, gS_6, s6_2, s6_4, emS_268, sU_eq, List.length_append]; omega))) rfl mw_recv (fun _ h => h) ⟨by decide, by decide⟩ rfl rfl ⟨by decide, by decide⟩ (rest := []) rfl (Nat.le_of_ble_eq_true rfl) (fun u1 => []) (fun _ => rfl) (fun u1 hu1 => ?_)
  have hfp := everyF_rng hTP.2.2 (fun x hx => facF_rng hTP.2.2 2 x hx) (p := p) (by omega)
  have L4 : ∀ mz : Nat, ∀ (F : Nat) (r : R3), (someF (facF c 2) c p = evL (everyF (facF c 2) c) c 124 (-3) F r) → (RB (g 4).toNat p r) → (101 ≤ F + r.1) → F = mz → ∀ x2 : Int → Int, x2 = (emS s (g 2) r.2.2) → ∀ x3 : Int → Int, x3 = (gS g r.1 r.2.1) → V G 0 0 (MW D A a x2 im fr bY tr ln bl bo x3 lg) 4 [(0, .ref (a 0))] [] := by
    intro dL4
    induction dL4 using Nat.strongRecOn with
    | ind dL4 ihL4 =>
      intro F r hq5 hq6 hq7 hq8
      intro x2 hx2
      subst hx2
      intro x3 hx3
      subst hx3
      have hg5 : gS g r.1 r.2.1 5 = (if r.2.1 then 0 else 1) := gS_5
      have hg01 := gS_01 (g := g) (p := r.1) (ok := r.2.1)
      obtain ⟨hr1, hr2, hr3⟩ := id ‹RB (g 4).toNat p r›
      refine v_aload_n hG dX12_some_4 rfl 0 rfl ?_
      refine mg_isWrong (z := (gS g r.1 r.2.1) 5) hG dX12_some_5 rfl ?_
      refine v_if_ne (tgt := 43) hG dX12_some_8 (by decide) (by omega) (fun c9 => ?_) (fun c9 => ?_)
      · skip
        have hst : someF (facF c 2) c p = r := ‹someF (facF c 2) c p = evL (everyF (facF c 2) c) c 124 (-3) F r›.trans (evL_stop (by first | exact Or.inl (ok_f hg5 (by assumption)) | exact Or.inr (by assumption)))
        have e10 : emS s (g 2) r.2.2 = emS s (g 2) (someF (facF c 2) c p).2.2 := by rw [hst]
        have e11 : gS g r.1 r.2.1 = gS g (someF (facF c 2) c p).1 (someF (facF c 2) c p).2.1 := by rw [hst]
        exact v_return hG hR dX12_some_43 () rfl (by trivial) (fun _ hM => by rw [← e10]; rw [← e11]; exact hM)
      · skip
        refine v_aload_n hG dX12_some_11 rfl 0 rfl ?_
        refine v_callV (k1' := 0) (k2' := 0) hG dX12_some_12 zc_X12_here ⟨zl_X12_55, zi_X12_here, zs_X12_here⟩ (fun l => k_here l D A a (emS s (g 2) r.2.2) im fr bY tr ln bl bo (gS g r.1 r.2.1) lg c r.1 (by first | exact hTP | exact TP_gS hTP | exact TP_g (TP_gS hTP) s6_4 | exact TP_gS (TP_emS hTP (by omega) (by omega)) | exact TP_g (TP_gS (TP_emS hTP (by omega) (by omega))) s6_4) (by first | exact h3 | exact gS_3 | (rw [s6_3]; exact gS_3)) (by first | omega | (simp only [gS_2, gS_4, gS_6, s6_2, s6_4, emS_268, sU_eq, List.length_append]; omega))) rfl mw_recv (fun _ h => h) ⟨by decide, by decide⟩ rfl rfl ⟨by decide, by decide⟩ (rest := []) rfl (Nat.le_of_ble_eq_true rfl) (fun u12 => [vI (c r.1)]) (fun _ => rfl) (fun u12 hu12 => ?_)
        have fu12 : -1 ≤ c r.1 ∧ c r.1 ≤ 127 := hu12
        refine v_bipush hG dX12_some_15 (by decide) ?_
        refine v_icmp_ne (tgt := 43) hG dX12_some_17 (by decide) (by omega) (by omega) (fun c13 => ?_) (fun c13 => ?_)
        · skip
          have hst : someF (facF c 2) c p = r := ‹someF (facF c 2) c p = evL (everyF (facF c 2) c) c 124 (-3) F r›.trans (evL_stop (by first | exact Or.inl (ok_f hg5 (by assumption)) | exact Or.inr (by assumption)))
          have e14 : emS s (g 2) r.2.2 = emS s (g 2) (someF (facF c 2) c p).2.2 := by rw [hst]
          have e15 : gS g r.1 r.2.1 = gS g (someF (facF c 2) c p).1 (someF (facF c 2) c p).2.1 := by rw [hst]
          exact v_return hG hR dX12_some_43 () rfl (by trivial) (fun _ hM => by rw [← e14]; rw [← e15]; exact hM)
        · skip
          have hok : r.2.1 = true := ok_t hg5 (by omega)
          have hlt := hTP.2.2.lt (p := r.1) (by omega)
          have hf1 := everyF_rng hTP.2.2 (fun x hx => facF_rng hTP.2.2 2 x hx) (p := (r.1 + 1)) (by omega)
          obtain ⟨hf11, hf12, hf13⟩ := id hf1
          refine v_aload_n hG dX12_some_20 rfl 0 rfl ?_
          refine v_dup hG dX12_some_21 rfl ?_
          refine mg_spot (z := (gS g r.1 r.2.1) 3) hG dX12_some_22 rfl ?_
          refine v_iconst hG dX12_some_25 ?_
          refine v_iadd hG dX12_some_26 ?_
          refine mp_spot hG dX12_some_27 ?_
          rw [show (sU (gS g r.1 r.2.1) 3 (((gS g r.1 r.2.1) 3) + 1)) = gS g (r.1 + 1) true from by exact sp1 hok]
          refine v_aload_n hG dX12_some_30 rfl 0 rfl ?_
          refine v_callV (k1' := 0) (k2' := 0) hG dX12_some_31 zc_X12_every ⟨zl_X12_98, zi_X12_every, zs_X12_every⟩ (fun l => k_every2 l D A a (emS s (g 2) r.2.2) im fr bY tr ln bl bo (gS g (r.1 + 1) true) lg c (r.1 + 1) (by first | exact hTP | exact TP_gS hTP | exact TP_g (TP_gS hTP) s6_4 | exact TP_gS (TP_emS hTP (by omega) (by omega)) | exact TP_g (TP_gS (TP_emS hTP (by omega) (by omega))) s6_4) (by first | exact h3 | exact gS_3 | (rw [s6_3]; exact gS_3)) (by first | assumption | exact gS_50 | (rw [s6_5]; exact gS_50)) (by first | omega | (simp only [gS_2, gS_4, gS_6, s6_2, s6_4, emS_268, sU_eq, List.length_append]; omega)) (by first | omega | (simp only [gS_2, gS_4, gS_6, s6_2, s6_4, emS_268, sU_eq, List.length_append]; omega)) (by first | omega | (simp only [gS_2, gS_4, gS_6, s6_2, s6_4, emS_268, sU_eq, List.length_append]; omega)) (by first | omega | (simp only [gS_2, gS_4, gS_6, s6_2, s6_4, emS_268, sU_eq, List.length_append]; omega))) rfl mw_recv (fun _ h => h) ⟨by decide, by decide⟩ rfl rfl ⟨by decide, by decide⟩ (rest := []) rfl (Nat.le_of_ble_eq_true rfl) (fun u16 => []) (fun _ => rfl) (fun u16 hu16 => ?_)
          rw [show (emS (emS s (g 2) r.2.2) ((gS g (r.1 + 1) true) 2) (everyF (facF c 2) c (r.1 + 1)).2.2) = emS s (g 2) (r.2.2 ++ ((everyF (facF c 2) c) (r.1 + 1)).2.2) from by rw [gS_2]; exact emS_app]
          rw [show (gS (gS g (r.1 + 1) true) (everyF (facF c 2) c (r.1 + 1)).1 (everyF (facF c 2) c (r.1 + 1)).2.1) = gS g ((everyF (facF c 2) c) (r.1 + 1)).1 ((everyF (facF c 2) c) (r.1 + 1)).2.1 from by exact gS_gS]
          refine v_aload_n hG dX12_some_34 rfl 0 rfl ?_
          refine v_bipush hG dX12_some_35 (by decide) ?_
          refine v_callV (k1' := 0) (k2' := 0) hG dX12_some_37 zc_X12_emits ⟨zl_X12_81, zi_X12_emits, zs_X12_emits⟩ (fun l => k_emits l D A a (emS s (g 2) (r.2.2 ++ ((everyF (facF c 2) c) (r.1 + 1)).2.2)) im fr bY tr ln bl bo (gS g ((everyF (facF c 2) c) (r.1 + 1)).1 ((everyF (facF c 2) c) (r.1 + 1)).2.1) lg (-3) (by first | omega | (simp only [gS_2, gS_4, gS_6, s6_2, s6_4, emS_268, sU_eq, List.length_append]; omega)) (by first | omega | (simp only [gS_2, gS_4, gS_6, s6_2, s6_4, emS_268, sU_eq, List.length_append]; omega)) (by exact gS_01)) rfl mw_recv (fun _ h => h) ⟨by decide, by decide⟩ rfl rfl ⟨by decide, by decide⟩ (rest := []) rfl (Nat.le_of_ble_eq_true rfl) (fun u17 => []) (fun _ => rfl) (fun u17 hu17 => ?_)
          rw [show (if (gS g ((everyF (facF c 2) c) (r.1 + 1)).1 ((everyF (facF c 2) c) (r.1 + 1)).2.1) 5 = 0 then em1 (emS s (g 2) (r.2.2 ++ ((everyF (facF c 2) c) (r.1 + 1)).2.2)) ((gS g ((everyF (facF c 2) c) (r.1 + 1)).1 ((everyF (facF c 2) c) (r.1 + 1)).2.1) 2) (-3) else (emS s (g 2) (r.2.2 ++ ((everyF (facF c 2) c) (r.1 + 1)).2.2))) = emS s (g 2) ((((everyF (facF c 2) c) (r.1 + 1)).1, ((everyF (facF c 2) c) (r.1 + 1)).2.1, r.2.2 ++ ((everyF (facF c 2) c) (r.1 + 1)).2.2 ++ (if ((everyF (facF c 2) c) (r.1 + 1)).2.1 = true then [(-3)] else []))).2.2 from by exact emit_l]
          refine v_goto (tgt := 4) hG dX12_some_40 (by decide) ?_
          exact ihL4 _ (by omega) (F - 1) (((everyF (facF c 2) c) (r.1 + 1)).1, ((everyF (facF c 2) c) (r.1 + 1)).2.1, r.2.2 ++ ((everyF (facF c 2) c) (r.1 + 1)).2.2 ++ (if ((everyF (facF c 2) c) (r.1 + 1)).2.1 = true then [(-3)] else [])) (by exact ‹someF (facF c 2) c p = evL (everyF (facF c 2) c) c 124 (-3) F r›.trans (evL_go (by omega) hok (by assumption))) (by exact RB_go (by assumption) hf1) (by show 101 ≤ F - 1 + ((everyF (facF c 2) c) (r.1 + 1)).1; omega) rfl _ (by rfl) _ (by rfl)
  exact L4 _ 101 ((everyF (facF c 2) c) p) (by rfl) (by exact hfp) (by omega) rfl _ (by rfl) _ (by rfl)
set_option maxHeartbeats 4000000 in
set_option maxRecDepth 100000 in
theorem k_factor3 (l : Launch) (D : Dx) (A : Nat → Prop) (a : Nat → Nat) (s im fr bY tr ln bl bo g lg : Int → Int) (c : Nat → Int) (p : Nat) (hTP : TP s g c) (h3 : g 3 = (p : Int)) (h5z : g 5 = 0) (hpe : (p : Int) ≤ g 4) (hA : 0 ≤ g 2 ∧ g 2 ≤ 4) (hs : 0 ≤ s (268 + g 2) ∧ s (268 + g 2) ≤ (p : Int)) (h6 : g 6 = 2) : CT l D A yX12_factor cX12_factor 5 none { frames := 17, cells := 0, slots := 0, locals := 379 } [.ref (a 0)] (MW D A a s im fr bY tr ln bl bo g lg) (fun _ : Unit => none) (fun _ => True) (fun _ => MW D A a (emS s (g 2) (facF c 3 p).2.2) im fr bY tr ln bl bo (gS g (facF c 3 p).1 (facF c 3 p).2.1) lg) := by
  refine ct_of (lo0 := [(0, .ref (a 0))]) (by decide) (Nat.le_of_ble_eq_true rfl) rfl ?_
  intro G hG hR
  have hT1 := hTP.1
  have hrb := facF_rng hTP.2.2 3 p (by omega)
  refine v_aload_n hG dX12_factor_0 rfl 0 rfl ?_
  refine mg_isWrong (z := g 5) hG dX12_factor_1 rfl ?_
  refine v_if_eq (tgt := 8) hG dX12_factor_4 (by decide) (by omega) (fun c1 => ?_) (fun c1 => ?_)
  · skip
    refine v_aload_n hG dX12_factor_8 rfl 0 rfl ?_
    refine v_callV (k1' := 0) (k2' := 0) hG dX12_factor_9 zc_X12_here ⟨zl_X12_55, zi_X12_here, zs_X12_here⟩ (fun l => k_here l D A a s im fr bY tr ln bl bo g lg c p (by first | exact hTP | exact TP_gS hTP | exact TP_g (TP_gS hTP) s6_4 | exact TP_gS (TP_emS hTP (by omega) (by omega)) | exact TP_g (TP_gS (TP_emS hTP (by omega) (by omega))) s6_4) (by first | exact h3 | exact gS_3 | (rw [s6_3]; exact gS_3)) (by first | omega | (simp only [gS_2, gS_4, gS_6, s6_2, s6_4, emS_268, sU_eq, List.length_append]; omega))) rfl mw_recv (fun _ h => h) ⟨by decide, by decide⟩ rfl rfl ⟨by decide, by decide⟩ (rest := []) rfl (Nat.le_of_ble_eq_true rfl) (fun u2 => [vI (c p)]) (fun _ => rfl) (fun u2 hu2 => ?_)
    have fu2 : -1 ≤ c p ∧ c p ≤ 127 := hu2
    refine v_istore_n (lo' := [(1, vI (c p)), (0, .ref (a 0))]) hG dX12_factor_12 rfl (by decide) rfl ?_
    refine v_iload_n hG dX12_factor_13 rfl 0 rfl ?_
    refine v_bipush hG dX12_factor_14 (by decide) ?_
    refine v_icmp_eq (tgt := 25) hG dX12_factor_16 (by decide) (by omega) (by omega) (fun c3 => ?_) (fun c3 => ?_)
    · skip
      have hlt := hTP.2.2.lt (p := p) (by omega)
      refine v_aload_n hG dX12_factor_25 rfl 1 rfl ?_
      refine v_aload_n hG dX12_factor_26 rfl 1 rfl ?_
      refine mg_open (z := g 6) hG dX12_factor_27 rfl ?_
      refine v_iconst hG dX12_factor_30 ?_
      refine v_icmp_ne (tgt := 38) hG dX12_factor_31 (by decide) (by omega) (by omega) (fun c4 => ?_) (fun c4 => ?_)
      · skip
        refine v_iconst hG dX12_factor_38 ?_
        refine mp_isWrong hG dX12_factor_39 (Or.inl rfl) ?_
        refine v_aload_n hG dX12_factor_42 rfl 1 rfl ?_
        refine v_dup hG dX12_factor_43 rfl ?_
        refine mg_open (z := g 6) hG dX12_factor_44 rfl ?_
        refine v_iconst hG dX12_factor_47 ?_
        refine v_iadd hG dX12_factor_48 ?_
        refine mp_open hG dX12_factor_49 ?_
        refine v_aload_n hG dX12_factor_52 rfl 1 rfl ?_
        refine v_dup hG dX12_factor_53 rfl ?_
        refine mg_spot (z := g 3) hG dX12_factor_54 rfl ?_
        refine v_aload_n hG dX12_factor_57 rfl 1 rfl ?_
        refine mg_isWrong (z := 0) hG dX12_factor_58 rfl ?_
        refine v_if_eq (tgt := 68) hG dX12_factor_61 (by decide) (by omega) (fun c5 => ?_) (fun c5 => ?_)
        · skip
          refine v_iconst hG dX12_factor_68 ?_
          refine v_iadd hG dX12_factor_69 ?_
          refine mp_spot hG dX12_factor_70 ?_
          rw [show (sU (sU (sU g 5 0) 6 ((g 6) + 1)) 3 ((g 3) + 1)) = sU (gS g (p + 1) true) 6 (g 6 + 1) from by exact in6 h3]
          refine v_iload_n hG dX12_factor_73 rfl 0 rfl ?_
          refine v_bipush hG dX12_factor_74 (by decide) ?_
          refine v_icmp_ne (tgt := 91) hG dX12_factor_76 (by decide) (by omega) (by omega) (fun c6 => ?_) (fun c6 => ?_)
          · skip
            exfalso; omega
          · skip
            have hf1 := facF_rng hTP.2.2 2 (p + 1) (by omega)
            obtain ⟨hf11, hf12, hf13⟩ := id hf1
            refine v_aload_n hG dX12_factor_79 rfl 1 rfl ?_
            refine v_callV (k1' := 0) (k2' := 0) hG dX12_factor_80 zc_X12_factor ⟨zl_X12_78, zi_X12_factor, zs_X12_factor⟩ (fun l => k_factor2 l D A a s im fr bY tr ln bl bo (sU (gS g (p + 1) true) 6 (g 6 + 1)) lg c (p + 1) (by first | exact hTP | exact TP_gS hTP | exact TP_g (TP_gS hTP) s6_4 | exact TP_gS (TP_emS hTP (by omega) (by omega)) | exact TP_g (TP_gS (TP_emS hTP (by omega) (by omega))) s6_4) (by first | exact h3 | exact gS_3 | (rw [s6_3]; exact gS_3)) (by first | assumption | exact gS_50 | (rw [s6_5]; exact gS_50)) (by first | omega | (simp only [gS_2, gS_4, gS_6, s6_2, s6_4, emS_268, sU_eq, List.length_append]; omega)) (by first | omega | (simp only [gS_2, gS_4, gS_6, s6_2, s6_4, emS_268, sU_eq, List.length_append]; omega)) (by first | omega | (simp only [gS_2, gS_4, gS_6, s6_2, s6_4, emS_268, sU_eq, List.length_append]; omega)) (by first | omega | (simp only [gS_2, gS_4, gS_6, s6_2, s6_4, emS_268, sU_eq, List.length_append]; omega))) rfl mw_recv (fun _ h => h) ⟨by decide, by decide⟩ rfl rfl ⟨by decide, by decide⟩ (rest := []) rfl (Nat.le_of_ble_eq_true rfl) (fun u7 => []) (fun _ => rfl) (fun u7 hu7 => ?_)
            rw [show (emS s ((sU (gS g (p + 1) true) 6 (g 6 + 1)) 2) (facF c 2 (p + 1)).2.2) = emS s (g 2) (facF c 2 (p + 1)).2.2 from by rw [s6_2, gS_2]]
            rw [show (gS (sU (gS g (p + 1) true) 6 (g 6 + 1)) (facF c 2 (p + 1)).1 (facF c 2 (p + 1)).2.1) = sU (gS g (facF c 2 (p + 1)).1 (facF c 2 (p + 1)).2.1) 6 (g 6 + 1) from by exact gS_s6]
            refine v_aload_n hG dX12_factor_83 rfl 1 rfl ?_
            refine v_iconst hG dX12_factor_84 ?_
            refine v_callV (k1' := 0) (k2' := 0) hG dX12_factor_85 zc_X12_emits ⟨zl_X12_81, zi_X12_emits, zs_X12_emits⟩ (fun l => k_emits l D A a (emS s (g 2) (facF c 2 (p + 1)).2.2) im fr bY tr ln bl bo (sU (gS g (facF c 2 (p + 1)).1 (facF c 2 (p + 1)).2.1) 6 (g 6 + 1)) lg (-1) (by first | omega | (simp only [gS_2, gS_4, gS_6, s6_2, s6_4, emS_268, sU_eq, List.length_append]; omega)) (by first | omega | (simp only [gS_2, gS_4, gS_6, s6_2, s6_4, emS_268, sU_eq, List.length_append]; omega)) (by rw [s6_5]; exact gS_01)) rfl mw_recv (fun _ h => h) ⟨by decide, by decide⟩ rfl rfl ⟨by decide, by decide⟩ (rest := []) rfl (Nat.le_of_ble_eq_true rfl) (fun u8 => []) (fun _ => rfl) (fun u8 hu8 => ?_)
            rw [show (if (sU (gS g (facF c 2 (p + 1)).1 (facF c 2 (p + 1)).2.1) 6 (g 6 + 1)) 5 = 0 then em1 (emS s (g 2) (facF c 2 (p + 1)).2.2) ((sU (gS g (facF c 2 (p + 1)).1 (facF c 2 (p + 1)).2.1) 6 (g 6 + 1)) 2) (-1) else (emS s (g 2) (facF c 2 (p + 1)).2.2)) = emS s (g 2) ((facF c 2 (p + 1)).2.2 ++ (if (facF c 2 (p + 1)).2.1 = true then [-1] else [])) from by exact emit_6]
            refine v_goto (tgt := 101) hG dX12_factor_88 (by decide) ?_
            refine v_aload_n hG dX12_factor_101 rfl 1 rfl ?_
            refine v_dup hG dX12_factor_102 rfl ?_
            refine mg_open (z := g 6 + 1) hG dX12_factor_103 rfl ?_
            refine v_iconst hG dX12_factor_106 ?_
            refine v_isub hG dX12_factor_107 ?_
            refine mp_open hG dX12_factor_108 ?_
            have hfc := fac_n (c := c) (o := 2) (p := p) (by assumption)
            have e9 : emS s (g 2) ((facF c 2 (p + 1)).2.2 ++ (if (facF c 2 (p + 1)).2.1 = true then [-1] else [])) = emS s (g 2) (facF c 3 p).2.2 := by first | (rw [hfc]; exact out6 (by first | omega | (rw [sU_eq]; omega))) | (rw [hfc]; rfl) | (rw [hfc])
            have e10 : sU (sU (gS g (facF c 2 (p + 1)).1 (facF c 2 (p + 1)).2.1) 6 (g 6 + 1)) 6 ((g 6 + 1) - 1) = gS g (facF c 3 p).1 (facF c 3 p).2.1 := by first | (rw [hfc]; exact out6 (by first | omega | (rw [sU_eq]; omega))) | (rw [hfc]; rfl) | (rw [hfc])
            exact v_return hG hR dX12_factor_111 () rfl (by trivial) (fun _ hM => by rw [← e9]; rw [← e10]; exact hM)
        · skip
          exfalso; omega
      · skip
        exfalso; omega
    · skip
      refine v_iload_n hG dX12_factor_19 rfl 0 rfl ?_
      refine v_bipush hG dX12_factor_20 (by decide) ?_
      refine v_icmp_ne (tgt := 112) hG dX12_factor_22 (by decide) (by omega) (by omega) (fun c11 => ?_) (fun c11 => ?_)
      · skip
        refine v_aload_n hG dX12_factor_112 rfl 1 rfl ?_
        refine v_ldcS (i := 1) (tx := "mkdxtv") hG dX12_factor_113 (by decide) ?_
        refine v_callV (k1' := 0) (k2' := 0) hG dX12_factor_115 zc_X12_among ⟨zl_X12_89, zi_X12_among, zs_X12_among⟩ (fun l => k_among l D A a s im fr bY tr ln bl bo g lg 1 (by first | assumption | decide) c p (by first | exact hTP | exact TP_gS hTP | exact TP_g (TP_gS hTP) s6_4 | exact TP_gS (TP_emS hTP (by omega) (by omega)) | exact TP_g (TP_gS (TP_emS hTP (by omega) (by omega))) s6_4) (by first | exact h3 | exact gS_3 | (rw [s6_3]; exact gS_3)) (by first | omega | (simp only [gS_2, gS_4, gS_6, s6_2, s6_4, emS_268, sU_eq, List.length_append]; omega))) rfl mw_recv (fun _ h => h) ⟨by decide, by decide⟩ rfl rfl ⟨by decide, by decide⟩ (rest := []) rfl (Nat.le_of_ble_eq_true rfl) (fun u12 => [vI (zix 1 (c p))]) (fun _ => rfl) (fun u12 hu12 => ?_)
        have fu12 : -1 ≤ zix 1 (c p) ∧ zix 1 (c p) ≤ 16 := hu12
        refine v_istore_n (lo' := [(2, vI (zix 1 (c p))), (1, vI (c p)), (0, .ref (a 0))]) hG dX12_factor_118 rfl (by decide) rfl ?_
        refine v_aload_n hG dX12_factor_119 rfl 2 rfl ?_
        refine v_iload_n hG dX12_factor_120 rfl 0 rfl ?_
        refine v_iconst hG dX12_factor_121 ?_
        refine v_icmp_ne (tgt := 129) hG dX12_factor_122 (by decide) (by omega) (by omega) (fun c13 => ?_) (fun c13 => ?_)
        · skip
          refine v_iconst hG dX12_factor_129 ?_
          refine mp_isWrong hG dX12_factor_130 (Or.inl rfl) ?_
          rw [show (sU (amG g p (zix 1 (c p))) 5 0) = gS g (p + 1) true from by exact am_y (by assumption)]
          have hg5 : gS g (p + 1) true 5 = 0 := gS_50
          have hlt := hTP.2.2.lt (p := p) (fun e => (by assumption : ¬ zix 1 (c p) = -1) (by rw [e]; exact zix_end (by decide)))
          refine v_aload_n hG dX12_factor_133 rfl 2 rfl ?_
          refine mg_isWrong (z := (gS g (p + 1) true) 5) hG dX12_factor_134 rfl ?_
          refine v_if_eq (tgt := 144) hG dX12_factor_137 (by decide) (by omega) (fun c14 => ?_) (fun c14 => ?_)
          · skip
            refine v_aload_n hG dX12_factor_144 rfl 2 rfl ?_
            refine v_ldcS (i := 2) (tx := "<=>") hG dX12_factor_145 (by decide) ?_
            refine v_callV (k1' := 0) (k2' := 0) hG dX12_factor_147 zc_X12_among ⟨zl_X12_89, zi_X12_among, zs_X12_among⟩ (fun l => k_among l D A a s im fr bY tr ln bl bo (gS g (p + 1) true) lg 2 (by first | assumption | decide) c (p + 1) (by first | exact hTP | exact TP_gS hTP | exact TP_g (TP_gS hTP) s6_4 | exact TP_gS (TP_emS hTP (by omega) (by omega)) | exact TP_g (TP_gS (TP_emS hTP (by omega) (by omega))) s6_4) (by first | exact h3 | exact gS_3 | (rw [s6_3]; exact gS_3)) (by first | omega | (simp only [gS_2, gS_4, gS_6, s6_2, s6_4, emS_268, sU_eq, List.length_append]; omega))) rfl mw_recv (fun _ h => h) ⟨by decide, by decide⟩ rfl rfl ⟨by decide, by decide⟩ (rest := []) rfl (Nat.le_of_ble_eq_true rfl) (fun u15 => [vI (zix 2 (c (p + 1)))]) (fun _ => rfl) (fun u15 hu15 => ?_)
            have fu15 : -1 ≤ zix 2 (c (p + 1)) ∧ zix 2 (c (p + 1)) ≤ 16 := hu15
            refine v_istore_n (lo' := [(3, vI (zix 2 (c (p + 1)))), (2, vI (zix 1 (c p))), (1, vI (c p)), (0, .ref (a 0))]) hG dX12_factor_150 rfl (by decide) rfl ?_
            have hg6 : (amG (gS g (p + 1) true) (p + 1) (zix 2 (c (p + 1)))) 5 = 0 := am_5.trans gS_50
            refine v_aload_n hG dX12_factor_151 rfl 3 rfl ?_
            refine v_aload_n hG dX12_factor_152 rfl 3 rfl ?_
            refine mg_isWrong (z := (amG (gS g (p + 1) true) (p + 1) (zix 2 (c (p + 1)))) 5) hG dX12_factor_153 rfl ?_
            refine v_if_ne (tgt := 164) hG dX12_factor_156 (by decide) (by omega) (fun c16 => ?_) (fun c16 => ?_)
            · skip
              exfalso; omega
            · skip
              refine v_iload_n hG dX12_factor_159 rfl 0 rfl ?_
              refine v_iconst hG dX12_factor_160 ?_
              refine v_icmp_ne (tgt := 168) hG dX12_factor_161 (by decide) (by omega) (by omega) (fun c17 => ?_) (fun c17 => ?_)
              · skip
                refine v_iconst hG dX12_factor_168 ?_
                refine mp_isWrong hG dX12_factor_169 (Or.inl rfl) ?_
                rw [show (sU (amG (gS g (p + 1) true) (p + 1) (zix 2 (c (p + 1)))) 5 0) = gS g (p + 2) true from by exact (am_y (by assumption)).trans gS_gS]
                have hlt2 := hTP.2.2.lt (p := p + 1) (fun e => (by assumption : ¬ zix 2 (c (p + 1)) = -1) (by rw [e]; exact zix_end (by decide)))
                refine v_aload_n hG dX12_factor_172 rfl 3 rfl ?_
                refine v_callV (k1' := 0) (k2' := 0) hG dX12_factor_173 zc_X12_figures ⟨zl_X12_95, zi_X12_figures, zs_X12_figures⟩ (fun l => k_figures l D A a s im fr bY tr ln bl bo (gS g (p + 2) true) lg c (p + 2) true (by first | exact hTP | exact TP_gS hTP | exact TP_g (TP_gS hTP) s6_4 | exact TP_gS (TP_emS hTP (by omega) (by omega)) | exact TP_g (TP_gS (TP_emS hTP (by omega) (by omega))) s6_4) (by first | exact h3 | exact gS_3 | (rw [s6_3]; exact gS_3)) (by first | exact gS_5 | (rw [s6_5]; exact gS_5)) (by first | omega | (simp only [gS_2, gS_4, gS_6, s6_2, s6_4, emS_268, sU_eq, List.length_append]; omega))) rfl mw_recv (fun _ h => h) ⟨by decide, by decide⟩ rfl rfl ⟨by decide, by decide⟩ (rest := []) rfl (Nat.le_of_ble_eq_true rfl) (fun u18 => [vI ((figF c ((p + 2), true)).2)]) (fun _ => rfl) (fun u18 hu18 => ?_)
                rw [show (gS (gS g (p + 2) true) (figF c ((p + 2), true)).1.1 (figF c ((p + 2), true)).1.2) = gS g (figF c ((p + 2), true)).1.1 (figF c ((p + 2), true)).1.2 from by exact gS_gS]
                refine v_istore (lo' := [(4, vI ((figF c ((p + 2), true)).2)), (3, vI (zix 2 (c (p + 1)))), (2, vI (zix 1 (c p))), (1, vI (c p)), (0, .ref (a 0))]) hG dX12_factor_176 (by decide) rfl ?_
                refine v_aload_n hG dX12_factor_178 rfl 4 rfl ?_
                refine v_iload_n hG dX12_factor_179 rfl 2 rfl ?_
                refine v_bipush hG dX12_factor_180 (by decide) ?_
                refine v_iload_n hG dX12_factor_182 rfl 1 rfl ?_
                refine v_imul hG dX12_factor_183 ?_
                refine v_iadd hG dX12_factor_184 ?_
                refine v_bipush hG dX12_factor_185 (by decide) ?_
                refine v_iload hG dX12_factor_187 0 rfl ?_
                refine v_imul hG dX12_factor_189 ?_
                refine v_iadd hG dX12_factor_190 ?_
                refine v_callV (k1' := 0) (k2' := 0) hG dX12_factor_191 zc_X12_emits ⟨zl_X12_81, zi_X12_emits, zs_X12_emits⟩ (fun l => k_emits l D A a s im fr bY tr ln bl bo (gS g (figF c ((p + 2), true)).1.1 (figF c ((p + 2), true)).1.2) lg (((zix 1 (c p)) + (8 * (zix 2 (c (p + 1))))) + (32 * ((figF c ((p + 2), true)).2))) (by first | omega | (simp only [gS_2, gS_4, gS_6, s6_2, s6_4, emS_268, sU_eq, List.length_append]; omega)) (by first | omega | (simp only [gS_2, gS_4, gS_6, s6_2, s6_4, emS_268, sU_eq, List.length_append]; omega)) (by exact gS_01)) rfl mw_recv (fun _ h => h) ⟨by decide, by decide⟩ rfl rfl ⟨by decide, by decide⟩ (rest := []) rfl (Nat.le_of_ble_eq_true rfl) (fun u19 => []) (fun _ => rfl) (fun u19 hu19 => ?_)
                rw [show (if (gS g (figF c ((p + 2), true)).1.1 (figF c ((p + 2), true)).1.2) 5 = 0 then em1 s ((gS g (figF c ((p + 2), true)).1.1 (figF c ((p + 2), true)).1.2) 2) (((zix 1 (c p)) + (8 * (zix 2 (c (p + 1))))) + (32 * ((figF c ((p + 2), true)).2))) else s) = emS s (g 2) (if (figF c (p + 2, true)).1.2 = true then [zix 1 (c p) + 8 * zix 2 (c (p + 1)) + 32 * (figF c (p + 2, true)).2] else []) from by exact emit_1]
                have hfc : facF c 3 p = atomF c p := fac_at (by assumption) (by assumption)
                have e20 : emS s (g 2) (if (figF c (p + 2, true)).1.2 = true then [zix 1 (c p) + 8 * zix 2 (c (p + 1)) + 32 * (figF c (p + 2, true)).2] else []) = emS s (g 2) (facF c 3 p).2.2 := by rw [hfc]; first | (rw [at_A (by assumption)]; done) | (rw [at_B (by assumption) (by assumption)]; done) | (rw [at_C (by assumption) (by assumption)]; done) | (rw [at_A (by assumption)]; rfl) | (rw [at_B (by assumption) (by assumption)]; rfl)
                have e21 : gS g (figF c ((p + 2), true)).1.1 (figF c ((p + 2), true)).1.2 = gS g (facF c 3 p).1 (facF c 3 p).2.1 := by rw [hfc]; first | (rw [at_A (by assumption)]; done) | (rw [at_B (by assumption) (by assumption)]; done) | (rw [at_C (by assumption) (by assumption)]; done) | (rw [at_A (by assumption)]; rfl) | (rw [at_B (by assumption) (by assumption)]; rfl)
                exact v_return hG hR dX12_factor_194 () rfl (by trivial) (fun _ hM => by rw [← e20]; rw [← e21]; exact hM)
              · skip
                refine v_iconst hG dX12_factor_164 ?_
                refine v_goto (tgt := 169) hG dX12_factor_165 (by decide) ?_
                refine mp_isWrong hG dX12_factor_169 (Or.inr rfl) ?_
                rw [show (sU (amG (gS g (p + 1) true) (p + 1) (zix 2 (c (p + 1)))) 5 1) = gS g (p + 1) false from by exact (am_n gS_3 (by assumption)).trans gS_gS]
                refine v_aload_n hG dX12_factor_172 rfl 3 rfl ?_
                refine v_callV (k1' := 0) (k2' := 0) hG dX12_factor_173 zc_X12_figures ⟨zl_X12_95, zi_X12_figures, zs_X12_figures⟩ (fun l => k_figures l D A a s im fr bY tr ln bl bo (gS g (p + 1) false) lg c (p + 1) false (by first | exact hTP | exact TP_gS hTP | exact TP_g (TP_gS hTP) s6_4 | exact TP_gS (TP_emS hTP (by omega) (by omega)) | exact TP_g (TP_gS (TP_emS hTP (by omega) (by omega))) s6_4) (by first | exact h3 | exact gS_3 | (rw [s6_3]; exact gS_3)) (by first | exact gS_5 | (rw [s6_5]; exact gS_5)) (by first | omega | (simp only [gS_2, gS_4, gS_6, s6_2, s6_4, emS_268, sU_eq, List.length_append]; omega))) rfl mw_recv (fun _ h => h) ⟨by decide, by decide⟩ rfl rfl ⟨by decide, by decide⟩ (rest := []) rfl (Nat.le_of_ble_eq_true rfl) (fun u22 => [vI ((figF c ((p + 1), false)).2)]) (fun _ => rfl) (fun u22 hu22 => ?_)
                rw [show (gS (gS g (p + 1) false) (figF c ((p + 1), false)).1.1 (figF c ((p + 1), false)).1.2) = gS g (figF c ((p + 1), false)).1.1 (figF c ((p + 1), false)).1.2 from by exact gS_gS]
                rw [figF_f]
                refine v_istore (lo' := [(4, vI 0), (3, vI (zix 2 (c (p + 1)))), (2, vI (zix 1 (c p))), (1, vI (c p)), (0, .ref (a 0))]) hG dX12_factor_176 (by decide) rfl ?_
                refine v_aload_n hG dX12_factor_178 rfl 4 rfl ?_
                refine v_iload_n hG dX12_factor_179 rfl 2 rfl ?_
                refine v_bipush hG dX12_factor_180 (by decide) ?_
                refine v_iload_n hG dX12_factor_182 rfl 1 rfl ?_
                refine v_imul hG dX12_factor_183 ?_
                refine v_iadd hG dX12_factor_184 ?_
                refine v_bipush hG dX12_factor_185 (by decide) ?_
                refine v_iload hG dX12_factor_187 0 rfl ?_
                refine v_imul hG dX12_factor_189 ?_
                refine v_iadd hG dX12_factor_190 ?_
                refine v_callV (k1' := 0) (k2' := 0) hG dX12_factor_191 zc_X12_emits ⟨zl_X12_81, zi_X12_emits, zs_X12_emits⟩ (fun l => k_emits l D A a s im fr bY tr ln bl bo (gS g (p + 1) false) lg (((zix 1 (c p)) + (8 * (zix 2 (c (p + 1))))) + (32 * 0)) (by first | omega | (simp only [gS_2, gS_4, gS_6, s6_2, s6_4, emS_268, sU_eq, List.length_append]; omega)) (by first | omega | (simp only [gS_2, gS_4, gS_6, s6_2, s6_4, emS_268, sU_eq, List.length_append]; omega)) (by exact gS_01)) rfl mw_recv (fun _ h => h) ⟨by decide, by decide⟩ rfl rfl ⟨by decide, by decide⟩ (rest := []) rfl (Nat.le_of_ble_eq_true rfl) (fun u23 => []) (fun _ => rfl) (fun u23 hu23 => ?_)
                rw [show (if (gS g (p + 1) false) 5 = 0 then em1 s ((gS g (p + 1) false) 2) (((zix 1 (c p)) + (8 * (zix 2 (c (p + 1))))) + (32 * 0)) else s) = s from by exact emit_n]
                have hfc : facF c 3 p = atomF c p := fac_at (by assumption) (by assumption)
                have e24 : s = emS s (g 2) (facF c 3 p).2.2 := by rw [hfc]; first | (rw [at_A (by assumption)]; done) | (rw [at_B (by assumption) (by assumption)]; done) | (rw [at_C (by assumption) (by assumption)]; done) | (rw [at_A (by assumption)]; rfl) | (rw [at_B (by assumption) (by assumption)]; rfl)
                have e25 : gS g (p + 1) false = gS g (facF c 3 p).1 (facF c 3 p).2.1 := by rw [hfc]; first | (rw [at_A (by assumption)]; done) | (rw [at_B (by assumption) (by assumption)]; done) | (rw [at_C (by assumption) (by assumption)]; done) | (rw [at_A (by assumption)]; rfl) | (rw [at_B (by assumption) (by assumption)]; rfl)
                exact v_return hG hR dX12_factor_194 () rfl (by trivial) (fun _ hM => by rw [← e24]; rw [← e25]; exact hM)
          · skip
            exfalso; omega
        · skip
          refine v_iconst hG dX12_factor_125 ?_
          refine v_goto (tgt := 130) hG dX12_factor_126 (by decide) ?_
          refine mp_isWrong hG dX12_factor_130 (Or.inr rfl) ?_
          rw [show (sU (amG g p (zix 1 (c p))) 5 1) = gS g p false from by exact am_n h3 (by assumption)]
          have hg5 : gS g p false 5 = 1 := gS_51
          refine v_aload_n hG dX12_factor_133 rfl 2 rfl ?_
          refine mg_isWrong (z := (gS g p false) 5) hG dX12_factor_134 rfl ?_
          refine v_if_eq (tgt := 144) hG dX12_factor_137 (by decide) (by omega) (fun c26 => ?_) (fun c26 => ?_)
          · skip
            exfalso; omega
          · skip
            refine v_iconst hG dX12_factor_140 ?_
            refine v_goto (tgt := 150) hG dX12_factor_141 (by decide) ?_
            refine v_istore_n (lo' := [(3, vI 0), (2, vI (zix 1 (c p))), (1, vI (c p)), (0, .ref (a 0))]) hG dX12_factor_150 rfl (by decide) rfl ?_
            refine v_aload_n hG dX12_factor_151 rfl 3 rfl ?_
            refine v_aload_n hG dX12_factor_152 rfl 3 rfl ?_
            refine mg_isWrong (z := (gS g p false) 5) hG dX12_factor_153 rfl ?_
            refine v_if_ne (tgt := 164) hG dX12_factor_156 (by decide) (by omega) (fun c27 => ?_) (fun c27 => ?_)
            · skip
              refine v_iconst hG dX12_factor_164 ?_
              refine v_goto (tgt := 169) hG dX12_factor_165 (by decide) ?_
              refine mp_isWrong hG dX12_factor_169 (Or.inr rfl) ?_
              rw [show (sU (gS g p false) 5 1) = gS g p false from by exact gS_s5]
              refine v_aload_n hG dX12_factor_172 rfl 3 rfl ?_
              refine v_callV (k1' := 0) (k2' := 0) hG dX12_factor_173 zc_X12_figures ⟨zl_X12_95, zi_X12_figures, zs_X12_figures⟩ (fun l => k_figures l D A a s im fr bY tr ln bl bo (gS g p false) lg c p false (by first | exact hTP | exact TP_gS hTP | exact TP_g (TP_gS hTP) s6_4 | exact TP_gS (TP_emS hTP (by omega) (by omega)) | exact TP_g (TP_gS (TP_emS hTP (by omega) (by omega))) s6_4) (by first | exact h3 | exact gS_3 | (rw [s6_3]; exact gS_3)) (by first | exact gS_5 | (rw [s6_5]; exact gS_5)) (by first | omega | (simp only [gS_2, gS_4, gS_6, s6_2, s6_4, emS_268, sU_eq, List.length_append]; omega))) rfl mw_recv (fun _ h => h) ⟨by decide, by decide⟩ rfl rfl ⟨by decide, by decide⟩ (rest := []) rfl (Nat.le_of_ble_eq_true rfl) (fun u28 => [vI ((figF c (p, false)).2)]) (fun _ => rfl) (fun u28 hu28 => ?_)
              rw [show (gS (gS g p false) (figF c (p, false)).1.1 (figF c (p, false)).1.2) = gS g (figF c (p, false)).1.1 (figF c (p, false)).1.2 from by exact gS_gS]
              rw [figF_f]
              refine v_istore (lo' := [(4, vI 0), (3, vI 0), (2, vI (zix 1 (c p))), (1, vI (c p)), (0, .ref (a 0))]) hG dX12_factor_176 (by decide) rfl ?_
              refine v_aload_n hG dX12_factor_178 rfl 4 rfl ?_
              refine v_iload_n hG dX12_factor_179 rfl 2 rfl ?_
              refine v_bipush hG dX12_factor_180 (by decide) ?_
              refine v_iload_n hG dX12_factor_182 rfl 1 rfl ?_
              refine v_imul hG dX12_factor_183 ?_
              refine v_iadd hG dX12_factor_184 ?_
              refine v_bipush hG dX12_factor_185 (by decide) ?_
              refine v_iload hG dX12_factor_187 0 rfl ?_
              refine v_imul hG dX12_factor_189 ?_
              refine v_iadd hG dX12_factor_190 ?_
              refine v_callV (k1' := 0) (k2' := 0) hG dX12_factor_191 zc_X12_emits ⟨zl_X12_81, zi_X12_emits, zs_X12_emits⟩ (fun l => k_emits l D A a s im fr bY tr ln bl bo (gS g p false) lg (((zix 1 (c p)) + (8 * 0)) + (32 * 0)) (by first | omega | (simp only [gS_2, gS_4, gS_6, s6_2, s6_4, emS_268, sU_eq, List.length_append]; omega)) (by first | omega | (simp only [gS_2, gS_4, gS_6, s6_2, s6_4, emS_268, sU_eq, List.length_append]; omega)) (by exact gS_01)) rfl mw_recv (fun _ h => h) ⟨by decide, by decide⟩ rfl rfl ⟨by decide, by decide⟩ (rest := []) rfl (Nat.le_of_ble_eq_true rfl) (fun u29 => []) (fun _ => rfl) (fun u29 hu29 => ?_)
              rw [show (if (gS g p false) 5 = 0 then em1 s ((gS g p false) 2) (((zix 1 (c p)) + (8 * 0)) + (32 * 0)) else s) = s from by exact emit_n]
              have hfc : facF c 3 p = atomF c p := fac_at (by assumption) (by assumption)
              have e30 : s = emS s (g 2) (facF c 3 p).2.2 := by rw [hfc]; first | (rw [at_A (by assumption)]; done) | (rw [at_B (by assumption) (by assumption)]; done) | (rw [at_C (by assumption) (by assumption)]; done) | (rw [at_A (by assumption)]; rfl) | (rw [at_B (by assumption) (by assumption)]; rfl)
              have e31 : gS g p false = gS g (facF c 3 p).1 (facF c 3 p).2.1 := by rw [hfc]; first | (rw [at_A (by assumption)]; done) | (rw [at_B (by assumption) (by assumption)]; done) | (rw [at_C (by assumption) (by assumption)]; done) | (rw [at_A (by assumption)]; rfl) | (rw [at_B (by assumption) (by assumption)]; rfl)
              exact v_return hG hR dX12_factor_194 () rfl (by trivial) (fun _ hM => by rw [← e30]; rw [← e31]; exact hM)
            · skip
              exfalso; omega
      · skip
        have hlt := hTP.2.2.lt (p := p) (by omega)
        refine v_aload_n hG dX12_factor_25 rfl 1 rfl ?_
        refine v_aload_n hG dX12_factor_26 rfl 1 rfl ?_
        refine mg_open (z := g 6) hG dX12_factor_27 rfl ?_
        refine v_iconst hG dX12_factor_30 ?_
        refine v_icmp_ne (tgt := 38) hG dX12_factor_31 (by decide) (by omega) (by omega) (fun c32 => ?_) (fun c32 => ?_)
        · skip
          refine v_iconst hG dX12_factor_38 ?_
          refine mp_isWrong hG dX12_factor_39 (Or.inl rfl) ?_
          refine v_aload_n hG dX12_factor_42 rfl 1 rfl ?_
          refine v_dup hG dX12_factor_43 rfl ?_
          refine mg_open (z := g 6) hG dX12_factor_44 rfl ?_
          refine v_iconst hG dX12_factor_47 ?_
          refine v_iadd hG dX12_factor_48 ?_
          refine mp_open hG dX12_factor_49 ?_
          refine v_aload_n hG dX12_factor_52 rfl 1 rfl ?_
          refine v_dup hG dX12_factor_53 rfl ?_
          refine mg_spot (z := g 3) hG dX12_factor_54 rfl ?_
          refine v_aload_n hG dX12_factor_57 rfl 1 rfl ?_
          refine mg_isWrong (z := 0) hG dX12_factor_58 rfl ?_
          refine v_if_eq (tgt := 68) hG dX12_factor_61 (by decide) (by omega) (fun c33 => ?_) (fun c33 => ?_)
          · skip
            refine v_iconst hG dX12_factor_68 ?_
            refine v_iadd hG dX12_factor_69 ?_
            refine mp_spot hG dX12_factor_70 ?_
            rw [show (sU (sU (sU g 5 0) 6 ((g 6) + 1)) 3 ((g 3) + 1)) = sU (gS g (p + 1) true) 6 (g 6 + 1) from by exact in6 h3]
            refine v_iload_n hG dX12_factor_73 rfl 0 rfl ?_
            refine v_bipush hG dX12_factor_74 (by decide) ?_
            refine v_icmp_ne (tgt := 91) hG dX12_factor_76 (by decide) (by omega) (by omega) (fun c34 => ?_) (fun c34 => ?_)
            · skip
              have hf1 := someF_rng hTP.2.2 (fun x hx => facF_rng hTP.2.2 2 x hx) (p := (p + 1)) (by omega)
              obtain ⟨hf11, hf12, hf13⟩ := id hf1
              refine v_aload_n hG dX12_factor_91 rfl 1 rfl ?_
              refine v_callV (k1' := 0) (k2' := 0) hG dX12_factor_92 zc_X12_some ⟨zl_X12_84, zi_X12_some, zs_X12_some⟩ (fun l => k_some2 l D A a s im fr bY tr ln bl bo (sU (gS g (p + 1) true) 6 (g 6 + 1)) lg c (p + 1) (by first | exact hTP | exact TP_gS hTP | exact TP_g (TP_gS hTP) s6_4 | exact TP_gS (TP_emS hTP (by omega) (by omega)) | exact TP_g (TP_gS (TP_emS hTP (by omega) (by omega))) s6_4) (by first | exact h3 | exact gS_3 | (rw [s6_3]; exact gS_3)) (by first | assumption | exact gS_50 | (rw [s6_5]; exact gS_50)) (by first | omega | (simp only [gS_2, gS_4, gS_6, s6_2, s6_4, emS_268, sU_eq, List.length_append]; omega)) (by first | omega | (simp only [gS_2, gS_4, gS_6, s6_2, s6_4, emS_268, sU_eq, List.length_append]; omega)) (by first | omega | (simp only [gS_2, gS_4, gS_6, s6_2, s6_4, emS_268, sU_eq, List.length_append]; omega)) (by first | omega | (simp only [gS_2, gS_4, gS_6, s6_2, s6_4, emS_268, sU_eq, List.length_append]; omega))) rfl mw_recv (fun _ h => h) ⟨by decide, by decide⟩ rfl rfl ⟨by decide, by decide⟩ (rest := []) rfl (Nat.le_of_ble_eq_true rfl) (fun u35 => []) (fun _ => rfl) (fun u35 hu35 => ?_)
              rw [show (emS s ((sU (gS g (p + 1) true) 6 (g 6 + 1)) 2) (someF (facF c 2) c (p + 1)).2.2) = emS s (g 2) (someF (facF c 2) c (p + 1)).2.2 from by rw [s6_2, gS_2]]
              rw [show (gS (sU (gS g (p + 1) true) 6 (g 6 + 1)) (someF (facF c 2) c (p + 1)).1 (someF (facF c 2) c (p + 1)).2.1) = sU (gS g (someF (facF c 2) c (p + 1)).1 (someF (facF c 2) c (p + 1)).2.1) 6 (g 6 + 1) from by exact gS_s6]
              refine v_aload_n hG dX12_factor_95 rfl 1 rfl ?_
              refine v_bipush hG dX12_factor_96 (by decide) ?_
              refine v_callV (k1' := 0) (k2' := 0) hG dX12_factor_98 zc_X12_must ⟨zl_X12_68, zi_X12_must, zs_X12_must⟩ (fun l => k_must l D A a (emS s (g 2) (someF (facF c 2) c (p + 1)).2.2) im fr bY tr ln bl bo (sU (gS g (someF (facF c 2) c (p + 1)).1 (someF (facF c 2) c (p + 1)).2.1) 6 (g 6 + 1)) lg 41 c ((someF (facF c 2) c (p + 1)).1) ((someF (facF c 2) c (p + 1)).2.1) (by first | exact hTP | exact TP_gS hTP | exact TP_g (TP_gS hTP) s6_4 | exact TP_gS (TP_emS hTP (by omega) (by omega)) | exact TP_g (TP_gS (TP_emS hTP (by omega) (by omega))) s6_4) (by first | exact h3 | exact gS_3 | (rw [s6_3]; exact gS_3)) (by first | exact gS_5 | (rw [s6_5]; exact gS_5)) (by first | omega | (simp only [gS_2, gS_4, gS_6, s6_2, s6_4, emS_268, sU_eq, List.length_append]; omega)) (by omega)) rfl mw_recv (fun _ h => h) ⟨by decide, by decide⟩ rfl rfl ⟨by decide, by decide⟩ (rest := []) rfl (Nat.le_of_ble_eq_true rfl) (fun u36 => []) (fun _ => rfl) (fun u36 hu36 => ?_)
              rw [show (gS (sU (gS g (someF (facF c 2) c (p + 1)).1 (someF (facF c 2) c (p + 1)).2.1) 6 (g 6 + 1)) (mustF c 41 (((someF (facF c 2) c (p + 1)).1), ((someF (facF c 2) c (p + 1)).2.1))).1 (mustF c 41 (((someF (facF c 2) c (p + 1)).1), ((someF (facF c 2) c (p + 1)).2.1))).2) = sU (gS g (mustF c 41 ((someF (facF c 2) c (p + 1)).1, (someF (facF c 2) c (p + 1)).2.1)).1 (mustF c 41 ((someF (facF c 2) c (p + 1)).1, (someF (facF c 2) c (p + 1)).2.1)).2) 6 (g 6 + 1) from by exact gS_s6]
              refine v_aload_n hG dX12_factor_101 rfl 1 rfl ?_
              refine v_dup hG dX12_factor_102 rfl ?_
              refine mg_open (z := g 6 + 1) hG dX12_factor_103 rfl ?_
              refine v_iconst hG dX12_factor_106 ?_
              refine v_isub hG dX12_factor_107 ?_
              refine mp_open hG dX12_factor_108 ?_
              have hfc := fac_p (c := c) (o := 2) (p := p) (by assumption)
              have e37 : emS s (g 2) (someF (facF c 2) c (p + 1)).2.2 = emS s (g 2) (facF c 3 p).2.2 := by first | (rw [hfc]; exact out6 (by first | omega | (rw [sU_eq]; omega))) | (rw [hfc]; rfl) | (rw [hfc])
              have e38 : sU (sU (gS g (mustF c 41 ((someF (facF c 2) c (p + 1)).1, (someF (facF c 2) c (p + 1)).2.1)).1 (mustF c 41 ((someF (facF c 2) c (p + 1)).1, (someF (facF c 2) c (p + 1)).2.1)).2) 6 (g 6 + 1)) 6 ((g 6 + 1) - 1) = gS g (facF c 3 p).1 (facF c 3 p).2.1 := by first | (rw [hfc]; exact out6 (by first | omega | (rw [sU_eq]; omega))) | (rw [hfc]; rfl) | (rw [hfc])
              exact v_return hG hR dX12_factor_111 () rfl (by trivial) (fun _ hM => by rw [← e37]; rw [← e38]; exact hM)
            · skip
              have hf1 := facF_rng hTP.2.2 2 (p + 1) (by omega)
              obtain ⟨hf11, hf12, hf13⟩ := id hf1
              refine v_aload_n hG dX12_factor_79 rfl 1 rfl ?_
              refine v_callV (k1' := 0) (k2' := 0) hG dX12_factor_80 zc_X12_factor ⟨zl_X12_78, zi_X12_factor, zs_X12_factor⟩ (fun l => k_factor2 l D A a s im fr bY tr ln bl bo (sU (gS g (p + 1) true) 6 (g 6 + 1)) lg c (p + 1) (by first | exact hTP | exact TP_gS hTP | exact TP_g (TP_gS hTP) s6_4 | exact TP_gS (TP_emS hTP (by omega) (by omega)) | exact TP_g (TP_gS (TP_emS hTP (by omega) (by omega))) s6_4) (by first | exact h3 | exact gS_3 | (rw [s6_3]; exact gS_3)) (by first | assumption | exact gS_50 | (rw [s6_5]; exact gS_50)) (by first | omega | (simp only [gS_2, gS_4, gS_6, s6_2, s6_4, emS_268, sU_eq, List.length_append]; omega)) (by first | omega | (simp only [gS_2, gS_4, gS_6, s6_2, s6_4, emS_268, sU_eq, List.length_append]; omega)) (by first | omega | (simp only [gS_2, gS_4, gS_6, s6_2, s6_4, emS_268, sU_eq, List.length_append]; omega)) (by first | omega | (simp only [gS_2, gS_4, gS_6, s6_2, s6_4, emS_268, sU_eq, List.length_append]; omega))) rfl mw_recv (fun _ h => h) ⟨by decide, by decide⟩ rfl rfl ⟨by decide, by decide⟩ (rest := []) rfl (Nat.le_of_ble_eq_true rfl) (fun u39 => []) (fun _ => rfl) (fun u39 hu39 => ?_)
              rw [show (emS s ((sU (gS g (p + 1) true) 6 (g 6 + 1)) 2) (facF c 2 (p + 1)).2.2) = emS s (g 2) (facF c 2 (p + 1)).2.2 from by rw [s6_2, gS_2]]
              rw [show (gS (sU (gS g (p + 1) true) 6 (g 6 + 1)) (facF c 2 (p + 1)).1 (facF c 2 (p + 1)).2.1) = sU (gS g (facF c 2 (p + 1)).1 (facF c 2 (p + 1)).2.1) 6 (g 6 + 1) from by exact gS_s6]
              refine v_aload_n hG dX12_factor_83 rfl 1 rfl ?_
              refine v_iconst hG dX12_factor_84 ?_
              refine v_callV (k1' := 0) (k2' := 0) hG dX12_factor_85 zc_X12_emits ⟨zl_X12_81, zi_X12_emits, zs_X12_emits⟩ (fun l => k_emits l D A a (emS s (g 2) (facF c 2 (p + 1)).2.2) im fr bY tr ln bl bo (sU (gS g (facF c 2 (p + 1)).1 (facF c 2 (p + 1)).2.1) 6 (g 6 + 1)) lg (-1) (by first | omega | (simp only [gS_2, gS_4, gS_6, s6_2, s6_4, emS_268, sU_eq, List.length_append]; omega)) (by first | omega | (simp only [gS_2, gS_4, gS_6, s6_2, s6_4, emS_268, sU_eq, List.length_append]; omega)) (by rw [s6_5]; exact gS_01)) rfl mw_recv (fun _ h => h) ⟨by decide, by decide⟩ rfl rfl ⟨by decide, by decide⟩ (rest := []) rfl (Nat.le_of_ble_eq_true rfl) (fun u40 => []) (fun _ => rfl) (fun u40 hu40 => ?_)
              rw [show (if (sU (gS g (facF c 2 (p + 1)).1 (facF c 2 (p + 1)).2.1) 6 (g 6 + 1)) 5 = 0 then em1 (emS s (g 2) (facF c 2 (p + 1)).2.2) ((sU (gS g (facF c 2 (p + 1)).1 (facF c 2 (p + 1)).2.1) 6 (g 6 + 1)) 2) (-1) else (emS s (g 2) (facF c 2 (p + 1)).2.2)) = emS s (g 2) ((facF c 2 (p + 1)).2.2 ++ (if (facF c 2 (p + 1)).2.1 = true then [-1] else [])) from by exact emit_6]
              refine v_goto (tgt := 101) hG dX12_factor_88 (by decide) ?_
              refine v_aload_n hG dX12_factor_101 rfl 1 rfl ?_
              refine v_dup hG dX12_factor_102 rfl ?_
              refine mg_open (z := g 6 + 1) hG dX12_factor_103 rfl ?_
              refine v_iconst hG dX12_factor_106 ?_
              refine v_isub hG dX12_factor_107 ?_
              refine mp_open hG dX12_factor_108 ?_
              have hfc := fac_n (c := c) (o := 2) (p := p) (by assumption)
              have e41 : emS s (g 2) ((facF c 2 (p + 1)).2.2 ++ (if (facF c 2 (p + 1)).2.1 = true then [-1] else [])) = emS s (g 2) (facF c 3 p).2.2 := by first | (rw [hfc]; exact out6 (by first | omega | (rw [sU_eq]; omega))) | (rw [hfc]; rfl) | (rw [hfc])
              have e42 : sU (sU (gS g (facF c 2 (p + 1)).1 (facF c 2 (p + 1)).2.1) 6 (g 6 + 1)) 6 ((g 6 + 1) - 1) = gS g (facF c 3 p).1 (facF c 3 p).2.1 := by first | (rw [hfc]; exact out6 (by first | omega | (rw [sU_eq]; omega))) | (rw [hfc]; rfl) | (rw [hfc])
              exact v_return hG hR dX12_factor_111 () rfl (by trivial) (fun _ hM => by rw [← e41]; rw [← e42]; exact hM)
          · skip
            exfalso; omega
        · skip
          exfalso; omega
  · skip
    exfalso; omega
set_option maxHeartbeats 4000000 in
set_option maxRecDepth 100000 in
theorem k_every3 (l : Launch) (D : Dx) (A : Nat → Prop) (a : Nat → Nat) (s im fr bY tr ln bl bo g lg : Int → Int) (c : Nat → Int) (p : Nat) (hTP : TP s g c) (h3 : g 3 = (p : Int)) (h5z : g 5 = 0) (hpe : (p : Int) ≤ g 4) (hA : 0 ≤ g 2 ∧ g 2 ≤ 4) (hs : 0 ≤ s (268 + g 2) ∧ s (268 + g 2) ≤ (p : Int)) (h6 : g 6 = 2) : CT l D A yX12_every cX12_every 1 none { frames := 18, cells := 0, slots := 0, locals := 403 } [.ref (a 0)] (MW D A a s im fr bY tr ln bl bo g lg) (fun _ : Unit => none) (fun _ => True) (fun _ => MW D A a (emS s (g 2) (everyF (facF c 3) c p).2.2) im fr bY tr ln bl bo (gS g (everyF (facF c 3) c p).1 (everyF (facF c 3) c p).2.1) lg) := by
  refine ct_of (lo0 := [(0, .ref (a 0))]) (by decide) (Nat.le_of_ble_eq_true rfl) rfl ?_
  intro G hG hR
  have hT1 := hTP.1
  have hrb := everyF_rng hTP.2.2 (fun x hx => facF_rng hTP.2.2 3 x hx) (p := p) (by omega)
  refine v_aload_n hG dX12_every_0 rfl 0 rfl ?_
  refine v_callV (k1' := 0) (k2' := 0) hG dX12_every_1 zc_X12_factor ⟨zl_X12_78, zi_X12_factor, zs_X12_factor⟩ (fun l => k_factor3 l D A a s im fr bY tr ln bl bo g lg c p (by first | exact hTP | exact TP_gS hTP | exact TP_g (TP_gS hTP) s6_4 | exact TP_gS (TP_emS hTP (by omega) (by omega)) | exact TP_g (TP_gS (TP_emS hTP (by omega) (by omega))) s6_4) (by first | exact h3 | exact gS_3 | (rw [s6_3]; exact gS_3)) (by first | assumption | exact gS_50 | (rw [s6_5]; exact gS_50)) (by first | omega | (simp only [gS_2, gS_4, gS_6, s6_2, s6_4, emS_268, sU_eq, List.length_append]; omega)) (by first | omega | (simp only [gS_2, gS_4, gS_6, s6_2, s6_4, emS_268, sU_eq, List.length_append]; omega)) (by first | omega | (simp only [gS_2, gS_4, gS_6, s6_2, s6_4, emS_268, sU_eq, List.length_append]; omega)) (by first | omega | (simp only [gS_2, gS_4, gS_6, s6_2, s6_4, emS_268, sU_eq, List.length_append]; omega))) rfl mw_recv (fun _ h => h) ⟨by decide, by decide⟩ rfl rfl ⟨by decide, by decide⟩ (rest := []) rfl (Nat.le_of_ble_eq_true rfl) (fun u1 => []) (fun _ => rfl) (fun u1 hu1 => ?_)
  have hfp := facF_rng hTP.2.2 3 p (by omega)
  have L4 : ∀ mz : Nat, ∀ (F : Nat) (r : R3), (everyF (facF c 3) c p = evL (facF c 3) c 38 (-2) F r) → (RB (g 4).toNat p r) → (101 ≤ F + r.1) → F = mz → ∀ x2 : Int → Int, x2 = (emS s (g 2) r.2.2) → ∀ x3 : Int → Int, x3 = (gS g r.1 r.2.1) → V G 0 0 (MW D A a x2 im fr bY tr ln bl bo x3 lg) 4 [(0, .ref (a 0))] [] := by
    intro dL4
    induction dL4 using Nat.strongRecOn with
    | ind dL4 ihL4 =>
      intro F r hq5 hq6 hq7 hq8
      intro x2 hx2
      subst hx2
      intro x3 hx3
      subst hx3
      have hg5 : gS g r.1 r.2.1 5 = (if r.2.1 then 0 else 1) := gS_5
      have hg01 := gS_01 (g := g) (p := r.1) (ok := r.2.1)
      obtain ⟨hr1, hr2, hr3⟩ := id ‹RB (g 4).toNat p r›
      refine v_aload_n hG dX12_every_4 rfl 0 rfl ?_
      refine mg_isWrong (z := (gS g r.1 r.2.1) 5) hG dX12_every_5 rfl ?_
      refine v_if_ne (tgt := 43) hG dX12_every_8 (by decide) (by omega) (fun c9 => ?_) (fun c9 => ?_)
      · skip
        have hst : everyF (facF c 3) c p = r := ‹everyF (facF c 3) c p = evL (facF c 3) c 38 (-2) F r›.trans (evL_stop (by first | exact Or.inl (ok_f hg5 (by assumption)) | exact Or.inr (by assumption)))
        have e10 : emS s (g 2) r.2.2 = emS s (g 2) (everyF (facF c 3) c p).2.2 := by rw [hst]
        have e11 : gS g r.1 r.2.1 = gS g (everyF (facF c 3) c p).1 (everyF (facF c 3) c p).2.1 := by rw [hst]
        exact v_return hG hR dX12_every_43 () rfl (by trivial) (fun _ hM => by rw [← e10]; rw [← e11]; exact hM)
      · skip
        refine v_aload_n hG dX12_every_11 rfl 0 rfl ?_
        refine v_callV (k1' := 0) (k2' := 0) hG dX12_every_12 zc_X12_here ⟨zl_X12_55, zi_X12_here, zs_X12_here⟩ (fun l => k_here l D A a (emS s (g 2) r.2.2) im fr bY tr ln bl bo (gS g r.1 r.2.1) lg c r.1 (by first | exact hTP | exact TP_gS hTP | exact TP_g (TP_gS hTP) s6_4 | exact TP_gS (TP_emS hTP (by omega) (by omega)) | exact TP_g (TP_gS (TP_emS hTP (by omega) (by omega))) s6_4) (by first | exact h3 | exact gS_3 | (rw [s6_3]; exact gS_3)) (by first | omega | (simp only [gS_2, gS_4, gS_6, s6_2, s6_4, emS_268, sU_eq, List.length_append]; omega))) rfl mw_recv (fun _ h => h) ⟨by decide, by decide⟩ rfl rfl ⟨by decide, by decide⟩ (rest := []) rfl (Nat.le_of_ble_eq_true rfl) (fun u12 => [vI (c r.1)]) (fun _ => rfl) (fun u12 hu12 => ?_)
        have fu12 : -1 ≤ c r.1 ∧ c r.1 ≤ 127 := hu12
        refine v_bipush hG dX12_every_15 (by decide) ?_
        refine v_icmp_ne (tgt := 43) hG dX12_every_17 (by decide) (by omega) (by omega) (fun c13 => ?_) (fun c13 => ?_)
        · skip
          have hst : everyF (facF c 3) c p = r := ‹everyF (facF c 3) c p = evL (facF c 3) c 38 (-2) F r›.trans (evL_stop (by first | exact Or.inl (ok_f hg5 (by assumption)) | exact Or.inr (by assumption)))
          have e14 : emS s (g 2) r.2.2 = emS s (g 2) (everyF (facF c 3) c p).2.2 := by rw [hst]
          have e15 : gS g r.1 r.2.1 = gS g (everyF (facF c 3) c p).1 (everyF (facF c 3) c p).2.1 := by rw [hst]
          exact v_return hG hR dX12_every_43 () rfl (by trivial) (fun _ hM => by rw [← e14]; rw [← e15]; exact hM)
        · skip
          have hok : r.2.1 = true := ok_t hg5 (by omega)
          have hlt := hTP.2.2.lt (p := r.1) (by omega)
          have hf1 := facF_rng hTP.2.2 3 (r.1 + 1) (by omega)
          obtain ⟨hf11, hf12, hf13⟩ := id hf1
          refine v_aload_n hG dX12_every_20 rfl 0 rfl ?_
          refine v_dup hG dX12_every_21 rfl ?_
          refine mg_spot (z := (gS g r.1 r.2.1) 3) hG dX12_every_22 rfl ?_
          refine v_iconst hG dX12_every_25 ?_
          refine v_iadd hG dX12_every_26 ?_
          refine mp_spot hG dX12_every_27 ?_
          rw [show (sU (gS g r.1 r.2.1) 3 (((gS g r.1 r.2.1) 3) + 1)) = gS g (r.1 + 1) true from by exact sp1 hok]
          refine v_aload_n hG dX12_every_30 rfl 0 rfl ?_
          refine v_callV (k1' := 0) (k2' := 0) hG dX12_every_31 zc_X12_factor ⟨zl_X12_78, zi_X12_factor, zs_X12_factor⟩ (fun l => k_factor3 l D A a (emS s (g 2) r.2.2) im fr bY tr ln bl bo (gS g (r.1 + 1) true) lg c (r.1 + 1) (by first | exact hTP | exact TP_gS hTP | exact TP_g (TP_gS hTP) s6_4 | exact TP_gS (TP_emS hTP (by omega) (by omega)) | exact TP_g (TP_gS (TP_emS hTP (by omega) (by omega))) s6_4) (by first | exact h3 | exact gS_3 | (rw [s6_3]; exact gS_3)) (by first | assumption | exact gS_50 | (rw [s6_5]; exact gS_50)) (by first | omega | (simp only [gS_2, gS_4, gS_6, s6_2, s6_4, emS_268, sU_eq, List.length_append]; omega)) (by first | omega | (simp only [gS_2, gS_4, gS_6, s6_2, s6_4, emS_268, sU_eq, List.length_append]; omega)) (by first | omega | (simp only [gS_2, gS_4, gS_6, s6_2, s6_4, emS_268, sU_eq, List.length_append]; omega)) (by first | omega | (simp only [gS_2, gS_4, gS_6, s6_2, s6_4, emS_268, sU_eq, List.length_append]; omega))) rfl mw_recv (fun _ h => h) ⟨by decide, by decide⟩ rfl rfl ⟨by decide, by decide⟩ (rest := []) rfl (Nat.le_of_ble_eq_true rfl) (fun u16 => []) (fun _ => rfl) (fun u16 hu16 => ?_)
          rw [show (emS (emS s (g 2) r.2.2) ((gS g (r.1 + 1) true) 2) (facF c 3 (r.1 + 1)).2.2) = emS s (g 2) (r.2.2 ++ ((facF c 3) (r.1 + 1)).2.2) from by rw [gS_2]; exact emS_app]
          rw [show (gS (gS g (r.1 + 1) true) (facF c 3 (r.1 + 1)).1 (facF c 3 (r.1 + 1)).2.1) = gS g ((facF c 3) (r.1 + 1)).1 ((facF c 3) (r.1 + 1)).2.1 from by exact gS_gS]
          refine v_aload_n hG dX12_every_34 rfl 0 rfl ?_
          refine v_bipush hG dX12_every_35 (by decide) ?_
          refine v_callV (k1' := 0) (k2' := 0) hG dX12_every_37 zc_X12_emits ⟨zl_X12_81, zi_X12_emits, zs_X12_emits⟩ (fun l => k_emits l D A a (emS s (g 2) (r.2.2 ++ ((facF c 3) (r.1 + 1)).2.2)) im fr bY tr ln bl bo (gS g ((facF c 3) (r.1 + 1)).1 ((facF c 3) (r.1 + 1)).2.1) lg (-2) (by first | omega | (simp only [gS_2, gS_4, gS_6, s6_2, s6_4, emS_268, sU_eq, List.length_append]; omega)) (by first | omega | (simp only [gS_2, gS_4, gS_6, s6_2, s6_4, emS_268, sU_eq, List.length_append]; omega)) (by exact gS_01)) rfl mw_recv (fun _ h => h) ⟨by decide, by decide⟩ rfl rfl ⟨by decide, by decide⟩ (rest := []) rfl (Nat.le_of_ble_eq_true rfl) (fun u17 => []) (fun _ => rfl) (fun u17 hu17 => ?_)
          rw [show (if (gS g ((facF c 3) (r.1 + 1)).1 ((facF c 3) (r.1 + 1)).2.1) 5 = 0 then em1 (emS s (g 2) (r.2.2 ++ ((facF c 3) (r.1 + 1)).2.2)) ((gS g ((facF c 3) (r.1 + 1)).1 ((facF c 3) (r.1 + 1)).2.1) 2) (-2) else (emS s (g 2) (r.2.2 ++ ((facF c 3) (r.1 + 1)).2.2))) = emS s (g 2) ((((facF c 3) (r.1 + 1)).1, ((facF c 3) (r.1 + 1)).2.1, r.2.2 ++ ((facF c 3) (r.1 + 1)).2.2 ++ (if ((facF c 3) (r.1 + 1)).2.1 = true then [(-2)] else []))).2.2 from by exact emit_l]
          refine v_goto (tgt := 4) hG dX12_every_40 (by decide) ?_
          exact ihL4 _ (by omega) (F - 1) (((facF c 3) (r.1 + 1)).1, ((facF c 3) (r.1 + 1)).2.1, r.2.2 ++ ((facF c 3) (r.1 + 1)).2.2 ++ (if ((facF c 3) (r.1 + 1)).2.1 = true then [(-2)] else [])) (by exact ‹everyF (facF c 3) c p = evL (facF c 3) c 38 (-2) F r›.trans (evL_go (by omega) hok (by assumption))) (by exact RB_go (by assumption) hf1) (by show 101 ≤ F - 1 + ((facF c 3) (r.1 + 1)).1; omega) rfl _ (by rfl) _ (by rfl)
  exact L4 _ 101 ((facF c 3) p) (by rfl) (by exact hfp) (by omega) rfl _ (by rfl) _ (by rfl)
set_option maxHeartbeats 4000000 in
set_option maxRecDepth 100000 in
theorem k_some3 (l : Launch) (D : Dx) (A : Nat → Prop) (a : Nat → Nat) (s im fr bY tr ln bl bo g lg : Int → Int) (c : Nat → Int) (p : Nat) (hTP : TP s g c) (h3 : g 3 = (p : Int)) (h5z : g 5 = 0) (hpe : (p : Int) ≤ g 4) (hA : 0 ≤ g 2 ∧ g 2 ≤ 4) (hs : 0 ≤ s (268 + g 2) ∧ s (268 + g 2) ≤ (p : Int)) (h6 : g 6 = 2) : CT l D A yX12_some cX12_some 1 none { frames := 19, cells := 0, slots := 0, locals := 423 } [.ref (a 0)] (MW D A a s im fr bY tr ln bl bo g lg) (fun _ : Unit => none) (fun _ => True) (fun _ => MW D A a (emS s (g 2) (someF (facF c 3) c p).2.2) im fr bY tr ln bl bo (gS g (someF (facF c 3) c p).1 (someF (facF c 3) c p).2.1) lg) := by
  refine ct_of (lo0 := [(0, .ref (a 0))]) (by decide) (Nat.le_of_ble_eq_true rfl) rfl ?_
  intro G hG hR
  have hT1 := hTP.1
  have hrb := someF_rng hTP.2.2 (fun x hx => facF_rng hTP.2.2 3 x hx) (p := p) (by omega)
  refine v_aload_n hG dX12_some_0 rfl 0 rfl ?_
  refine v_callV (k1' := 0) (k2' := 0) hG dX12_some_1 zc_X12_every ⟨zl_X12_98, zi_X12_every, zs_X12_every⟩ (fun l => k_every3 l D A a s im fr bY tr ln bl bo g lg c p (by first | exact hTP | exact TP_gS hTP | exact TP_g (TP_gS hTP) s6_4 | exact TP_gS (TP_emS hTP (by omega) (by omega)) | exact TP_g (TP_gS (TP_emS hTP (by omega) (by omega))) s6_4) (by first | exact h3 | exact gS_3 | (rw [s6_3]; exact gS_3)) (by first | assumption | exact gS_50 | (rw [s6_5]; exact gS_50)) (by first | omega | (simp only [gS_2, gS_4, gS_6, s6_2, s6_4, emS_268, sU_eq, List.length_append]; omega)) (by first | omega | (simp only [gS_2, gS_4, gS_6, s6_2, s6_4, emS_268, sU_eq, List.length_append]; omega)) (by first | omega | (simp only [gS_2, gS_4, gS_6, s6_2, s6_4, emS_268, sU_eq, List.length_append]; omega)) (by first | omega | (simp only [gS_2, gS_4, gS_6, s6_2, s6_4, emS_268, sU_eq, List.length_append]; omega))) rfl mw_recv (fun _ h => h) ⟨by decide, by decide⟩ rfl rfl ⟨by decide, by decide⟩ (rest := []) rfl (Nat.le_of_ble_eq_true rfl) (fun u1 => []) (fun _ => rfl) (fun u1 hu1 => ?_)
  have hfp := everyF_rng hTP.2.2 (fun x hx => facF_rng hTP.2.2 3 x hx) (p := p) (by omega)
  have L4 : ∀ mz : Nat, ∀ (F : Nat) (r : R3), (someF (facF c 3) c p = evL (everyF (facF c 3) c) c 124 (-3) F r) → (RB (g 4).toNat p r) → (101 ≤ F + r.1) → F = mz → ∀ x2 : Int → Int, x2 = (emS s (g 2) r.2.2) → ∀ x3 : Int → Int, x3 = (gS g r.1 r.2.1) → V G 0 0 (MW D A a x2 im fr bY tr ln bl bo x3 lg) 4 [(0, .ref (a 0))] [] := by
    intro dL4
    induction dL4 using Nat.strongRecOn with
    | ind dL4 ihL4 =>
      intro F r hq5 hq6 hq7 hq8
      intro x2 hx2
      subst hx2
      intro x3 hx3
      subst hx3
      have hg5 : gS g r.1 r.2.1 5 = (if r.2.1 then 0 else 1) := gS_5
      have hg01 := gS_01 (g := g) (p := r.1) (ok := r.2.1)
      obtain ⟨hr1, hr2, hr3⟩ := id ‹RB (g 4).toNat p r›
      refine v_aload_n hG dX12_some_4 rfl 0 rfl ?_
      refine mg_isWrong (z := (gS g r.1 r.2.1) 5) hG dX12_some_5 rfl ?_
      refine v_if_ne (tgt := 43) hG dX12_some_8 (by decide) (by omega) (fun c9 => ?_) (fun c9 => ?_)
      · skip
        have hst : someF (facF c 3) c p = r := ‹someF (facF c 3) c p = evL (everyF (facF c 3) c) c 124 (-3) F r›.trans (evL_stop (by first | exact Or.inl (ok_f hg5 (by assumption)) | exact Or.inr (by assumption)))
        have e10 : emS s (g 2) r.2.2 = emS s (g 2) (someF (facF c 3) c p).2.2 := by rw [hst]
        have e11 : gS g r.1 r.2.1 = gS g (someF (facF c 3) c p).1 (someF (facF c 3) c p).2.1 := by rw [hst]
        exact v_return hG hR dX12_some_43 () rfl (by trivial) (fun _ hM => by rw [← e10]; rw [← e11]; exact hM)
      · skip
        refine v_aload_n hG dX12_some_11 rfl 0 rfl ?_
        refine v_callV (k1' := 0) (k2' := 0) hG dX12_some_12 zc_X12_here ⟨zl_X12_55, zi_X12_here, zs_X12_here⟩ (fun l => k_here l D A a (emS s (g 2) r.2.2) im fr bY tr ln bl bo (gS g r.1 r.2.1) lg c r.1 (by first | exact hTP | exact TP_gS hTP | exact TP_g (TP_gS hTP) s6_4 | exact TP_gS (TP_emS hTP (by omega) (by omega)) | exact TP_g (TP_gS (TP_emS hTP (by omega) (by omega))) s6_4) (by first | exact h3 | exact gS_3 | (rw [s6_3]; exact gS_3)) (by first | omega | (simp only [gS_2, gS_4, gS_6, s6_2, s6_4, emS_268, sU_eq, List.length_append]; omega))) rfl mw_recv (fun _ h => h) ⟨by decide, by decide⟩ rfl rfl ⟨by decide, by decide⟩ (rest := []) rfl (Nat.le_of_ble_eq_true rfl) (fun u12 => [vI (c r.1)]) (fun _ => rfl) (fun u12 hu12 => ?_)
        have fu12 : -1 ≤ c r.1 ∧ c r.1 ≤ 127 := hu12
        refine v_bipush hG dX12_some_15 (by decide) ?_
        refine v_icmp_ne (tgt := 43) hG dX12_some_17 (by decide) (by omega) (by omega) (fun c13 => ?_) (fun c13 => ?_)
        · skip
          have hst : someF (facF c 3) c p = r := ‹someF (facF c 3) c p = evL (everyF (facF c 3) c) c 124 (-3) F r›.trans (evL_stop (by first | exact Or.inl (ok_f hg5 (by assumption)) | exact Or.inr (by assumption)))
          have e14 : emS s (g 2) r.2.2 = emS s (g 2) (someF (facF c 3) c p).2.2 := by rw [hst]
          have e15 : gS g r.1 r.2.1 = gS g (someF (facF c 3) c p).1 (someF (facF c 3) c p).2.1 := by rw [hst]
          exact v_return hG hR dX12_some_43 () rfl (by trivial) (fun _ hM => by rw [← e14]; rw [← e15]; exact hM)
        · skip
          have hok : r.2.1 = true := ok_t hg5 (by omega)
          have hlt := hTP.2.2.lt (p := r.1) (by omega)
          have hf1 := everyF_rng hTP.2.2 (fun x hx => facF_rng hTP.2.2 3 x hx) (p := (r.1 + 1)) (by omega)
          obtain ⟨hf11, hf12, hf13⟩ := id hf1
          refine v_aload_n hG dX12_some_20 rfl 0 rfl ?_
          refine v_dup hG dX12_some_21 rfl ?_
          refine mg_spot (z := (gS g r.1 r.2.1) 3) hG dX12_some_22 rfl ?_
          refine v_iconst hG dX12_some_25 ?_
          refine v_iadd hG dX12_some_26 ?_
          refine mp_spot hG dX12_some_27 ?_
          rw [show (sU (gS g r.1 r.2.1) 3 (((gS g r.1 r.2.1) 3) + 1)) = gS g (r.1 + 1) true from by exact sp1 hok]
          refine v_aload_n hG dX12_some_30 rfl 0 rfl ?_
          refine v_callV (k1' := 0) (k2' := 0) hG dX12_some_31 zc_X12_every ⟨zl_X12_98, zi_X12_every, zs_X12_every⟩ (fun l => k_every3 l D A a (emS s (g 2) r.2.2) im fr bY tr ln bl bo (gS g (r.1 + 1) true) lg c (r.1 + 1) (by first | exact hTP | exact TP_gS hTP | exact TP_g (TP_gS hTP) s6_4 | exact TP_gS (TP_emS hTP (by omega) (by omega)) | exact TP_g (TP_gS (TP_emS hTP (by omega) (by omega))) s6_4) (by first | exact h3 | exact gS_3 | (rw [s6_3]; exact gS_3)) (by first | assumption | exact gS_50 | (rw [s6_5]; exact gS_50)) (by first | omega | (simp only [gS_2, gS_4, gS_6, s6_2, s6_4, emS_268, sU_eq, List.length_append]; omega)) (by first | omega | (simp only [gS_2, gS_4, gS_6, s6_2, s6_4, emS_268, sU_eq, List.length_append]; omega)) (by first | omega | (simp only [gS_2, gS_4, gS_6, s6_2, s6_4, emS_268, sU_eq, List.length_append]; omega)) (by first | omega | (simp only [gS_2, gS_4, gS_6, s6_2, s6_4, emS_268, sU_eq, List.length_append]; omega))) rfl mw_recv (fun _ h => h) ⟨by decide, by decide⟩ rfl rfl ⟨by decide, by decide⟩ (rest := []) rfl (Nat.le_of_ble_eq_true rfl) (fun u16 => []) (fun _ => rfl) (fun u16 hu16 => ?_)
          rw [show (emS (emS s (g 2) r.2.2) ((gS g (r.1 + 1) true) 2) (everyF (facF c 3) c (r.1 + 1)).2.2) = emS s (g 2) (r.2.2 ++ ((everyF (facF c 3) c) (r.1 + 1)).2.2) from by rw [gS_2]; exact emS_app]
          rw [show (gS (gS g (r.1 + 1) true) (everyF (facF c 3) c (r.1 + 1)).1 (everyF (facF c 3) c (r.1 + 1)).2.1) = gS g ((everyF (facF c 3) c) (r.1 + 1)).1 ((everyF (facF c 3) c) (r.1 + 1)).2.1 from by exact gS_gS]
          refine v_aload_n hG dX12_some_34 rfl 0 rfl ?_
          refine v_bipush hG dX12_some_35 (by decide) ?_
          refine v_callV (k1' := 0) (k2' := 0) hG dX12_some_37 zc_X12_emits ⟨zl_X12_81, zi_X12_emits, zs_X12_emits⟩ (fun l => k_emits l D A a (emS s (g 2) (r.2.2 ++ ((everyF (facF c 3) c) (r.1 + 1)).2.2)) im fr bY tr ln bl bo (gS g ((everyF (facF c 3) c) (r.1 + 1)).1 ((everyF (facF c 3) c) (r.1 + 1)).2.1) lg (-3) (by first | omega | (simp only [gS_2, gS_4, gS_6, s6_2, s6_4, emS_268, sU_eq, List.length_append]; omega)) (by first | omega | (simp only [gS_2, gS_4, gS_6, s6_2, s6_4, emS_268, sU_eq, List.length_append]; omega)) (by exact gS_01)) rfl mw_recv (fun _ h => h) ⟨by decide, by decide⟩ rfl rfl ⟨by decide, by decide⟩ (rest := []) rfl (Nat.le_of_ble_eq_true rfl) (fun u17 => []) (fun _ => rfl) (fun u17 hu17 => ?_)
          rw [show (if (gS g ((everyF (facF c 3) c) (r.1 + 1)).1 ((everyF (facF c 3) c) (r.1 + 1)).2.1) 5 = 0 then em1 (emS s (g 2) (r.2.2 ++ ((everyF (facF c 3) c) (r.1 + 1)).2.2)) ((gS g ((everyF (facF c 3) c) (r.1 + 1)).1 ((everyF (facF c 3) c) (r.1 + 1)).2.1) 2) (-3) else (emS s (g 2) (r.2.2 ++ ((everyF (facF c 3) c) (r.1 + 1)).2.2))) = emS s (g 2) ((((everyF (facF c 3) c) (r.1 + 1)).1, ((everyF (facF c 3) c) (r.1 + 1)).2.1, r.2.2 ++ ((everyF (facF c 3) c) (r.1 + 1)).2.2 ++ (if ((everyF (facF c 3) c) (r.1 + 1)).2.1 = true then [(-3)] else []))).2.2 from by exact emit_l]
          refine v_goto (tgt := 4) hG dX12_some_40 (by decide) ?_
          exact ihL4 _ (by omega) (F - 1) (((everyF (facF c 3) c) (r.1 + 1)).1, ((everyF (facF c 3) c) (r.1 + 1)).2.1, r.2.2 ++ ((everyF (facF c 3) c) (r.1 + 1)).2.2 ++ (if ((everyF (facF c 3) c) (r.1 + 1)).2.1 = true then [(-3)] else [])) (by exact ‹someF (facF c 3) c p = evL (everyF (facF c 3) c) c 124 (-3) F r›.trans (evL_go (by omega) hok (by assumption))) (by exact RB_go (by assumption) hf1) (by show 101 ≤ F - 1 + ((everyF (facF c 3) c) (r.1 + 1)).1; omega) rfl _ (by rfl) _ (by rfl)
  exact L4 _ 101 ((everyF (facF c 3) c) p) (by rfl) (by exact hfp) (by omega) rfl _ (by rfl) _ (by rfl)
set_option maxHeartbeats 4000000 in
set_option maxRecDepth 100000 in
theorem k_factor4 (l : Launch) (D : Dx) (A : Nat → Prop) (a : Nat → Nat) (s im fr bY tr ln bl bo g lg : Int → Int) (c : Nat → Int) (p : Nat) (hTP : TP s g c) (h3 : g 3 = (p : Int)) (h5z : g 5 = 0) (hpe : (p : Int) ≤ g 4) (hA : 0 ≤ g 2 ∧ g 2 ≤ 4) (hs : 0 ≤ s (268 + g 2) ∧ s (268 + g 2) ≤ (p : Int)) (h6 : g 6 = 1) : CT l D A yX12_factor cX12_factor 5 none { frames := 20, cells := 0, slots := 0, locals := 443 } [.ref (a 0)] (MW D A a s im fr bY tr ln bl bo g lg) (fun _ : Unit => none) (fun _ => True) (fun _ => MW D A a (emS s (g 2) (facF c 4 p).2.2) im fr bY tr ln bl bo (gS g (facF c 4 p).1 (facF c 4 p).2.1) lg) := by
  refine ct_of (lo0 := [(0, .ref (a 0))]) (by decide) (Nat.le_of_ble_eq_true rfl) rfl ?_
  intro G hG hR
  have hT1 := hTP.1
  have hrb := facF_rng hTP.2.2 4 p (by omega)
  refine v_aload_n hG dX12_factor_0 rfl 0 rfl ?_
  refine mg_isWrong (z := g 5) hG dX12_factor_1 rfl ?_
  refine v_if_eq (tgt := 8) hG dX12_factor_4 (by decide) (by omega) (fun c1 => ?_) (fun c1 => ?_)
  · skip
    refine v_aload_n hG dX12_factor_8 rfl 0 rfl ?_
    refine v_callV (k1' := 0) (k2' := 0) hG dX12_factor_9 zc_X12_here ⟨zl_X12_55, zi_X12_here, zs_X12_here⟩ (fun l => k_here l D A a s im fr bY tr ln bl bo g lg c p (by first | exact hTP | exact TP_gS hTP | exact TP_g (TP_gS hTP) s6_4 | exact TP_gS (TP_emS hTP (by omega) (by omega)) | exact TP_g (TP_gS (TP_emS hTP (by omega) (by omega))) s6_4) (by first | exact h3 | exact gS_3 | (rw [s6_3]; exact gS_3)) (by first | omega | (simp only [gS_2, gS_4, gS_6, s6_2, s6_4, emS_268, sU_eq, List.length_append]; omega))) rfl mw_recv (fun _ h => h) ⟨by decide, by decide⟩ rfl rfl ⟨by decide, by decide⟩ (rest := []) rfl (Nat.le_of_ble_eq_true rfl) (fun u2 => [vI (c p)]) (fun _ => rfl) (fun u2 hu2 => ?_)
    have fu2 : -1 ≤ c p ∧ c p ≤ 127 := hu2
    refine v_istore_n (lo' := [(1, vI (c p)), (0, .ref (a 0))]) hG dX12_factor_12 rfl (by decide) rfl ?_
    refine v_iload_n hG dX12_factor_13 rfl 0 rfl ?_
    refine v_bipush hG dX12_factor_14 (by decide) ?_
    refine v_icmp_eq (tgt := 25) hG dX12_factor_16 (by decide) (by omega) (by omega) (fun c3 => ?_) (fun c3 => ?_)
    · skip
      have hlt := hTP.2.2.lt (p := p) (by omega)
      refine v_aload_n hG dX12_factor_25 rfl 1 rfl ?_
      refine v_aload_n hG dX12_factor_26 rfl 1 rfl ?_
      refine mg_open (z := g 6) hG dX12_factor_27 rfl ?_
      refine v_iconst hG dX12_factor_30 ?_
      refine v_icmp_ne (tgt := 38) hG dX12_factor_31 (by decide) (by omega) (by omega) (fun c4 => ?_) (fun c4 => ?_)
      · skip
        refine v_iconst hG dX12_factor_38 ?_
        refine mp_isWrong hG dX12_factor_39 (Or.inl rfl) ?_
        refine v_aload_n hG dX12_factor_42 rfl 1 rfl ?_
        refine v_dup hG dX12_factor_43 rfl ?_
        refine mg_open (z := g 6) hG dX12_factor_44 rfl ?_
        refine v_iconst hG dX12_factor_47 ?_
        refine v_iadd hG dX12_factor_48 ?_
        refine mp_open hG dX12_factor_49 ?_
        refine v_aload_n hG dX12_factor_52 rfl 1 rfl ?_
        refine v_dup hG dX12_factor_53 rfl ?_
        refine mg_spot (z := g 3) hG dX12_factor_54 rfl ?_
        refine v_aload_n hG dX12_factor_57 rfl 1 rfl ?_
        refine mg_isWrong (z := 0) hG dX12_factor_58 rfl ?_
        refine v_if_eq (tgt := 68) hG dX12_factor_61 (by decide) (by omega) (fun c5 => ?_) (fun c5 => ?_)
        · skip
          refine v_iconst hG dX12_factor_68 ?_
          refine v_iadd hG dX12_factor_69 ?_
          refine mp_spot hG dX12_factor_70 ?_
          rw [show (sU (sU (sU g 5 0) 6 ((g 6) + 1)) 3 ((g 3) + 1)) = sU (gS g (p + 1) true) 6 (g 6 + 1) from by exact in6 h3]
          refine v_iload_n hG dX12_factor_73 rfl 0 rfl ?_
          refine v_bipush hG dX12_factor_74 (by decide) ?_
          refine v_icmp_ne (tgt := 91) hG dX12_factor_76 (by decide) (by omega) (by omega) (fun c6 => ?_) (fun c6 => ?_)
          · skip
            exfalso; omega
          · skip
            have hf1 := facF_rng hTP.2.2 3 (p + 1) (by omega)
            obtain ⟨hf11, hf12, hf13⟩ := id hf1
            refine v_aload_n hG dX12_factor_79 rfl 1 rfl ?_
            refine v_callV (k1' := 0) (k2' := 0) hG dX12_factor_80 zc_X12_factor ⟨zl_X12_78, zi_X12_factor, zs_X12_factor⟩ (fun l => k_factor3 l D A a s im fr bY tr ln bl bo (sU (gS g (p + 1) true) 6 (g 6 + 1)) lg c (p + 1) (by first | exact hTP | exact TP_gS hTP | exact TP_g (TP_gS hTP) s6_4 | exact TP_gS (TP_emS hTP (by omega) (by omega)) | exact TP_g (TP_gS (TP_emS hTP (by omega) (by omega))) s6_4) (by first | exact h3 | exact gS_3 | (rw [s6_3]; exact gS_3)) (by first | assumption | exact gS_50 | (rw [s6_5]; exact gS_50)) (by first | omega | (simp only [gS_2, gS_4, gS_6, s6_2, s6_4, emS_268, sU_eq, List.length_append]; omega)) (by first | omega | (simp only [gS_2, gS_4, gS_6, s6_2, s6_4, emS_268, sU_eq, List.length_append]; omega)) (by first | omega | (simp only [gS_2, gS_4, gS_6, s6_2, s6_4, emS_268, sU_eq, List.length_append]; omega)) (by first | omega | (simp only [gS_2, gS_4, gS_6, s6_2, s6_4, emS_268, sU_eq, List.length_append]; omega))) rfl mw_recv (fun _ h => h) ⟨by decide, by decide⟩ rfl rfl ⟨by decide, by decide⟩ (rest := []) rfl (Nat.le_of_ble_eq_true rfl) (fun u7 => []) (fun _ => rfl) (fun u7 hu7 => ?_)
            rw [show (emS s ((sU (gS g (p + 1) true) 6 (g 6 + 1)) 2) (facF c 3 (p + 1)).2.2) = emS s (g 2) (facF c 3 (p + 1)).2.2 from by rw [s6_2, gS_2]]
            rw [show (gS (sU (gS g (p + 1) true) 6 (g 6 + 1)) (facF c 3 (p + 1)).1 (facF c 3 (p + 1)).2.1) = sU (gS g (facF c 3 (p + 1)).1 (facF c 3 (p + 1)).2.1) 6 (g 6 + 1) from by exact gS_s6]
            refine v_aload_n hG dX12_factor_83 rfl 1 rfl ?_
            refine v_iconst hG dX12_factor_84 ?_
            refine v_callV (k1' := 0) (k2' := 0) hG dX12_factor_85 zc_X12_emits ⟨zl_X12_81, zi_X12_emits, zs_X12_emits⟩ (fun l => k_emits l D A a (emS s (g 2) (facF c 3 (p + 1)).2.2) im fr bY tr ln bl bo (sU (gS g (facF c 3 (p + 1)).1 (facF c 3 (p + 1)).2.1) 6 (g 6 + 1)) lg (-1) (by first | omega | (simp only [gS_2, gS_4, gS_6, s6_2, s6_4, emS_268, sU_eq, List.length_append]; omega)) (by first | omega | (simp only [gS_2, gS_4, gS_6, s6_2, s6_4, emS_268, sU_eq, List.length_append]; omega)) (by rw [s6_5]; exact gS_01)) rfl mw_recv (fun _ h => h) ⟨by decide, by decide⟩ rfl rfl ⟨by decide, by decide⟩ (rest := []) rfl (Nat.le_of_ble_eq_true rfl) (fun u8 => []) (fun _ => rfl) (fun u8 hu8 => ?_)
            rw [show (if (sU (gS g (facF c 3 (p + 1)).1 (facF c 3 (p + 1)).2.1) 6 (g 6 + 1)) 5 = 0 then em1 (emS s (g 2) (facF c 3 (p + 1)).2.2) ((sU (gS g (facF c 3 (p + 1)).1 (facF c 3 (p + 1)).2.1) 6 (g 6 + 1)) 2) (-1) else (emS s (g 2) (facF c 3 (p + 1)).2.2)) = emS s (g 2) ((facF c 3 (p + 1)).2.2 ++ (if (facF c 3 (p + 1)).2.1 = true then [-1] else [])) from by exact emit_6]
            refine v_goto (tgt := 101) hG dX12_factor_88 (by decide) ?_
            refine v_aload_n hG dX12_factor_101 rfl 1 rfl ?_
            refine v_dup hG dX12_factor_102 rfl ?_
            refine mg_open (z := g 6 + 1) hG dX12_factor_103 rfl ?_
            refine v_iconst hG dX12_factor_106 ?_
            refine v_isub hG dX12_factor_107 ?_
            refine mp_open hG dX12_factor_108 ?_
            have hfc := fac_n (c := c) (o := 3) (p := p) (by assumption)
            have e9 : emS s (g 2) ((facF c 3 (p + 1)).2.2 ++ (if (facF c 3 (p + 1)).2.1 = true then [-1] else [])) = emS s (g 2) (facF c 4 p).2.2 := by first | (rw [hfc]; exact out6 (by first | omega | (rw [sU_eq]; omega))) | (rw [hfc]; rfl) | (rw [hfc])
            have e10 : sU (sU (gS g (facF c 3 (p + 1)).1 (facF c 3 (p + 1)).2.1) 6 (g 6 + 1)) 6 ((g 6 + 1) - 1) = gS g (facF c 4 p).1 (facF c 4 p).2.1 := by first | (rw [hfc]; exact out6 (by first | omega | (rw [sU_eq]; omega))) | (rw [hfc]; rfl) | (rw [hfc])
            exact v_return hG hR dX12_factor_111 () rfl (by trivial) (fun _ hM => by rw [← e9]; rw [← e10]; exact hM)
        · skip
          exfalso; omega
      · skip
        exfalso; omega
    · skip
      refine v_iload_n hG dX12_factor_19 rfl 0 rfl ?_
      refine v_bipush hG dX12_factor_20 (by decide) ?_
      refine v_icmp_ne (tgt := 112) hG dX12_factor_22 (by decide) (by omega) (by omega) (fun c11 => ?_) (fun c11 => ?_)
      · skip
        refine v_aload_n hG dX12_factor_112 rfl 1 rfl ?_
        refine v_ldcS (i := 1) (tx := "mkdxtv") hG dX12_factor_113 (by decide) ?_
        refine v_callV (k1' := 0) (k2' := 0) hG dX12_factor_115 zc_X12_among ⟨zl_X12_89, zi_X12_among, zs_X12_among⟩ (fun l => k_among l D A a s im fr bY tr ln bl bo g lg 1 (by first | assumption | decide) c p (by first | exact hTP | exact TP_gS hTP | exact TP_g (TP_gS hTP) s6_4 | exact TP_gS (TP_emS hTP (by omega) (by omega)) | exact TP_g (TP_gS (TP_emS hTP (by omega) (by omega))) s6_4) (by first | exact h3 | exact gS_3 | (rw [s6_3]; exact gS_3)) (by first | omega | (simp only [gS_2, gS_4, gS_6, s6_2, s6_4, emS_268, sU_eq, List.length_append]; omega))) rfl mw_recv (fun _ h => h) ⟨by decide, by decide⟩ rfl rfl ⟨by decide, by decide⟩ (rest := []) rfl (Nat.le_of_ble_eq_true rfl) (fun u12 => [vI (zix 1 (c p))]) (fun _ => rfl) (fun u12 hu12 => ?_)
        have fu12 : -1 ≤ zix 1 (c p) ∧ zix 1 (c p) ≤ 16 := hu12
        refine v_istore_n (lo' := [(2, vI (zix 1 (c p))), (1, vI (c p)), (0, .ref (a 0))]) hG dX12_factor_118 rfl (by decide) rfl ?_
        refine v_aload_n hG dX12_factor_119 rfl 2 rfl ?_
        refine v_iload_n hG dX12_factor_120 rfl 0 rfl ?_
        refine v_iconst hG dX12_factor_121 ?_
        refine v_icmp_ne (tgt := 129) hG dX12_factor_122 (by decide) (by omega) (by omega) (fun c13 => ?_) (fun c13 => ?_)
        · skip
          refine v_iconst hG dX12_factor_129 ?_
          refine mp_isWrong hG dX12_factor_130 (Or.inl rfl) ?_
          rw [show (sU (amG g p (zix 1 (c p))) 5 0) = gS g (p + 1) true from by exact am_y (by assumption)]
          have hg5 : gS g (p + 1) true 5 = 0 := gS_50
          have hlt := hTP.2.2.lt (p := p) (fun e => (by assumption : ¬ zix 1 (c p) = -1) (by rw [e]; exact zix_end (by decide)))
          refine v_aload_n hG dX12_factor_133 rfl 2 rfl ?_
          refine mg_isWrong (z := (gS g (p + 1) true) 5) hG dX12_factor_134 rfl ?_
          refine v_if_eq (tgt := 144) hG dX12_factor_137 (by decide) (by omega) (fun c14 => ?_) (fun c14 => ?_)
          · skip
            refine v_aload_n hG dX12_factor_144 rfl 2 rfl ?_
            refine v_ldcS (i := 2) (tx := "<=>") hG dX12_factor_145 (by decide) ?_
            refine v_callV (k1' := 0) (k2' := 0) hG dX12_factor_147 zc_X12_among ⟨zl_X12_89, zi_X12_among, zs_X12_among⟩ (fun l => k_among l D A a s im fr bY tr ln bl bo (gS g (p + 1) true) lg 2 (by first | assumption | decide) c (p + 1) (by first | exact hTP | exact TP_gS hTP | exact TP_g (TP_gS hTP) s6_4 | exact TP_gS (TP_emS hTP (by omega) (by omega)) | exact TP_g (TP_gS (TP_emS hTP (by omega) (by omega))) s6_4) (by first | exact h3 | exact gS_3 | (rw [s6_3]; exact gS_3)) (by first | omega | (simp only [gS_2, gS_4, gS_6, s6_2, s6_4, emS_268, sU_eq, List.length_append]; omega))) rfl mw_recv (fun _ h => h) ⟨by decide, by decide⟩ rfl rfl ⟨by decide, by decide⟩ (rest := []) rfl (Nat.le_of_ble_eq_true rfl) (fun u15 => [vI (zix 2 (c (p + 1)))]) (fun _ => rfl) (fun u15 hu15 => ?_)
            have fu15 : -1 ≤ zix 2 (c (p + 1)) ∧ zix 2 (c (p + 1)) ≤ 16 := hu15
            refine v_istore_n (lo' := [(3, vI (zix 2 (c (p + 1)))), (2, vI (zix 1 (c p))), (1, vI (c p)), (0, .ref (a 0))]) hG dX12_factor_150 rfl (by decide) rfl ?_
            have hg6 : (amG (gS g (p + 1) true) (p + 1) (zix 2 (c (p + 1)))) 5 = 0 := am_5.trans gS_50
            refine v_aload_n hG dX12_factor_151 rfl 3 rfl ?_
            refine v_aload_n hG dX12_factor_152 rfl 3 rfl ?_
            refine mg_isWrong (z := (amG (gS g (p + 1) true) (p + 1) (zix 2 (c (p + 1)))) 5) hG dX12_factor_153 rfl ?_
            refine v_if_ne (tgt := 164) hG dX12_factor_156 (by decide) (by omega) (fun c16 => ?_) (fun c16 => ?_)
            · skip
              exfalso; omega
            · skip
              refine v_iload_n hG dX12_factor_159 rfl 0 rfl ?_
              refine v_iconst hG dX12_factor_160 ?_
              refine v_icmp_ne (tgt := 168) hG dX12_factor_161 (by decide) (by omega) (by omega) (fun c17 => ?_) (fun c17 => ?_)
              · skip
                refine v_iconst hG dX12_factor_168 ?_
                refine mp_isWrong hG dX12_factor_169 (Or.inl rfl) ?_
                rw [show (sU (amG (gS g (p + 1) true) (p + 1) (zix 2 (c (p + 1)))) 5 0) = gS g (p + 2) true from by exact (am_y (by assumption)).trans gS_gS]
                have hlt2 := hTP.2.2.lt (p := p + 1) (fun e => (by assumption : ¬ zix 2 (c (p + 1)) = -1) (by rw [e]; exact zix_end (by decide)))
                refine v_aload_n hG dX12_factor_172 rfl 3 rfl ?_
                refine v_callV (k1' := 0) (k2' := 0) hG dX12_factor_173 zc_X12_figures ⟨zl_X12_95, zi_X12_figures, zs_X12_figures⟩ (fun l => k_figures l D A a s im fr bY tr ln bl bo (gS g (p + 2) true) lg c (p + 2) true (by first | exact hTP | exact TP_gS hTP | exact TP_g (TP_gS hTP) s6_4 | exact TP_gS (TP_emS hTP (by omega) (by omega)) | exact TP_g (TP_gS (TP_emS hTP (by omega) (by omega))) s6_4) (by first | exact h3 | exact gS_3 | (rw [s6_3]; exact gS_3)) (by first | exact gS_5 | (rw [s6_5]; exact gS_5)) (by first | omega | (simp only [gS_2, gS_4, gS_6, s6_2, s6_4, emS_268, sU_eq, List.length_append]; omega))) rfl mw_recv (fun _ h => h) ⟨by decide, by decide⟩ rfl rfl ⟨by decide, by decide⟩ (rest := []) rfl (Nat.le_of_ble_eq_true rfl) (fun u18 => [vI ((figF c ((p + 2), true)).2)]) (fun _ => rfl) (fun u18 hu18 => ?_)
                rw [show (gS (gS g (p + 2) true) (figF c ((p + 2), true)).1.1 (figF c ((p + 2), true)).1.2) = gS g (figF c ((p + 2), true)).1.1 (figF c ((p + 2), true)).1.2 from by exact gS_gS]
                refine v_istore (lo' := [(4, vI ((figF c ((p + 2), true)).2)), (3, vI (zix 2 (c (p + 1)))), (2, vI (zix 1 (c p))), (1, vI (c p)), (0, .ref (a 0))]) hG dX12_factor_176 (by decide) rfl ?_
                refine v_aload_n hG dX12_factor_178 rfl 4 rfl ?_
                refine v_iload_n hG dX12_factor_179 rfl 2 rfl ?_
                refine v_bipush hG dX12_factor_180 (by decide) ?_
                refine v_iload_n hG dX12_factor_182 rfl 1 rfl ?_
                refine v_imul hG dX12_factor_183 ?_
                refine v_iadd hG dX12_factor_184 ?_
                refine v_bipush hG dX12_factor_185 (by decide) ?_
                refine v_iload hG dX12_factor_187 0 rfl ?_
                refine v_imul hG dX12_factor_189 ?_
                refine v_iadd hG dX12_factor_190 ?_
                refine v_callV (k1' := 0) (k2' := 0) hG dX12_factor_191 zc_X12_emits ⟨zl_X12_81, zi_X12_emits, zs_X12_emits⟩ (fun l => k_emits l D A a s im fr bY tr ln bl bo (gS g (figF c ((p + 2), true)).1.1 (figF c ((p + 2), true)).1.2) lg (((zix 1 (c p)) + (8 * (zix 2 (c (p + 1))))) + (32 * ((figF c ((p + 2), true)).2))) (by first | omega | (simp only [gS_2, gS_4, gS_6, s6_2, s6_4, emS_268, sU_eq, List.length_append]; omega)) (by first | omega | (simp only [gS_2, gS_4, gS_6, s6_2, s6_4, emS_268, sU_eq, List.length_append]; omega)) (by exact gS_01)) rfl mw_recv (fun _ h => h) ⟨by decide, by decide⟩ rfl rfl ⟨by decide, by decide⟩ (rest := []) rfl (Nat.le_of_ble_eq_true rfl) (fun u19 => []) (fun _ => rfl) (fun u19 hu19 => ?_)
                rw [show (if (gS g (figF c ((p + 2), true)).1.1 (figF c ((p + 2), true)).1.2) 5 = 0 then em1 s ((gS g (figF c ((p + 2), true)).1.1 (figF c ((p + 2), true)).1.2) 2) (((zix 1 (c p)) + (8 * (zix 2 (c (p + 1))))) + (32 * ((figF c ((p + 2), true)).2))) else s) = emS s (g 2) (if (figF c (p + 2, true)).1.2 = true then [zix 1 (c p) + 8 * zix 2 (c (p + 1)) + 32 * (figF c (p + 2, true)).2] else []) from by exact emit_1]
                have hfc : facF c 4 p = atomF c p := fac_at (by assumption) (by assumption)
                have e20 : emS s (g 2) (if (figF c (p + 2, true)).1.2 = true then [zix 1 (c p) + 8 * zix 2 (c (p + 1)) + 32 * (figF c (p + 2, true)).2] else []) = emS s (g 2) (facF c 4 p).2.2 := by rw [hfc]; first | (rw [at_A (by assumption)]; done) | (rw [at_B (by assumption) (by assumption)]; done) | (rw [at_C (by assumption) (by assumption)]; done) | (rw [at_A (by assumption)]; rfl) | (rw [at_B (by assumption) (by assumption)]; rfl)
                have e21 : gS g (figF c ((p + 2), true)).1.1 (figF c ((p + 2), true)).1.2 = gS g (facF c 4 p).1 (facF c 4 p).2.1 := by rw [hfc]; first | (rw [at_A (by assumption)]; done) | (rw [at_B (by assumption) (by assumption)]; done) | (rw [at_C (by assumption) (by assumption)]; done) | (rw [at_A (by assumption)]; rfl) | (rw [at_B (by assumption) (by assumption)]; rfl)
                exact v_return hG hR dX12_factor_194 () rfl (by trivial) (fun _ hM => by rw [← e20]; rw [← e21]; exact hM)
              · skip
                refine v_iconst hG dX12_factor_164 ?_
                refine v_goto (tgt := 169) hG dX12_factor_165 (by decide) ?_
                refine mp_isWrong hG dX12_factor_169 (Or.inr rfl) ?_
                rw [show (sU (amG (gS g (p + 1) true) (p + 1) (zix 2 (c (p + 1)))) 5 1) = gS g (p + 1) false from by exact (am_n gS_3 (by assumption)).trans gS_gS]
                refine v_aload_n hG dX12_factor_172 rfl 3 rfl ?_
                refine v_callV (k1' := 0) (k2' := 0) hG dX12_factor_173 zc_X12_figures ⟨zl_X12_95, zi_X12_figures, zs_X12_figures⟩ (fun l => k_figures l D A a s im fr bY tr ln bl bo (gS g (p + 1) false) lg c (p + 1) false (by first | exact hTP | exact TP_gS hTP | exact TP_g (TP_gS hTP) s6_4 | exact TP_gS (TP_emS hTP (by omega) (by omega)) | exact TP_g (TP_gS (TP_emS hTP (by omega) (by omega))) s6_4) (by first | exact h3 | exact gS_3 | (rw [s6_3]; exact gS_3)) (by first | exact gS_5 | (rw [s6_5]; exact gS_5)) (by first | omega | (simp only [gS_2, gS_4, gS_6, s6_2, s6_4, emS_268, sU_eq, List.length_append]; omega))) rfl mw_recv (fun _ h => h) ⟨by decide, by decide⟩ rfl rfl ⟨by decide, by decide⟩ (rest := []) rfl (Nat.le_of_ble_eq_true rfl) (fun u22 => [vI ((figF c ((p + 1), false)).2)]) (fun _ => rfl) (fun u22 hu22 => ?_)
                rw [show (gS (gS g (p + 1) false) (figF c ((p + 1), false)).1.1 (figF c ((p + 1), false)).1.2) = gS g (figF c ((p + 1), false)).1.1 (figF c ((p + 1), false)).1.2 from by exact gS_gS]
                rw [figF_f]
                refine v_istore (lo' := [(4, vI 0), (3, vI (zix 2 (c (p + 1)))), (2, vI (zix 1 (c p))), (1, vI (c p)), (0, .ref (a 0))]) hG dX12_factor_176 (by decide) rfl ?_
                refine v_aload_n hG dX12_factor_178 rfl 4 rfl ?_
                refine v_iload_n hG dX12_factor_179 rfl 2 rfl ?_
                refine v_bipush hG dX12_factor_180 (by decide) ?_
                refine v_iload_n hG dX12_factor_182 rfl 1 rfl ?_
                refine v_imul hG dX12_factor_183 ?_
                refine v_iadd hG dX12_factor_184 ?_
                refine v_bipush hG dX12_factor_185 (by decide) ?_
                refine v_iload hG dX12_factor_187 0 rfl ?_
                refine v_imul hG dX12_factor_189 ?_
                refine v_iadd hG dX12_factor_190 ?_
                refine v_callV (k1' := 0) (k2' := 0) hG dX12_factor_191 zc_X12_emits ⟨zl_X12_81, zi_X12_emits, zs_X12_emits⟩ (fun l => k_emits l D A a s im fr bY tr ln bl bo (gS g (p + 1) false) lg (((zix 1 (c p)) + (8 * (zix 2 (c (p + 1))))) + (32 * 0)) (by first | omega | (simp only [gS_2, gS_4, gS_6, s6_2, s6_4, emS_268, sU_eq, List.length_append]; omega)) (by first | omega | (simp only [gS_2, gS_4, gS_6, s6_2, s6_4, emS_268, sU_eq, List.length_append]; omega)) (by exact gS_01)) rfl mw_recv (fun _ h => h) ⟨by decide, by decide⟩ rfl rfl ⟨by decide, by decide⟩ (rest := []) rfl (Nat.le_of_ble_eq_true rfl) (fun u23 => []) (fun _ => rfl) (fun u23 hu23 => ?_)
                rw [show (if (gS g (p + 1) false) 5 = 0 then em1 s ((gS g (p + 1) false) 2) (((zix 1 (c p)) + (8 * (zix 2 (c (p + 1))))) + (32 * 0)) else s) = s from by exact emit_n]
                have hfc : facF c 4 p = atomF c p := fac_at (by assumption) (by assumption)
                have e24 : s = emS s (g 2) (facF c 4 p).2.2 := by rw [hfc]; first | (rw [at_A (by assumption)]; done) | (rw [at_B (by assumption) (by assumption)]; done) | (rw [at_C (by assumption) (by assumption)]; done) | (rw [at_A (by assumption)]; rfl) | (rw [at_B (by assumption) (by assumption)]; rfl)
                have e25 : gS g (p + 1) false = gS g (facF c 4 p).1 (facF c 4 p).2.1 := by rw [hfc]; first | (rw [at_A (by assumption)]; done) | (rw [at_B (by assumption) (by assumption)]; done) | (rw [at_C (by assumption) (by assumption)]; done) | (rw [at_A (by assumption)]; rfl) | (rw [at_B (by assumption) (by assumption)]; rfl)
                exact v_return hG hR dX12_factor_194 () rfl (by trivial) (fun _ hM => by rw [← e24]; rw [← e25]; exact hM)
          · skip
            exfalso; omega
        · skip
          refine v_iconst hG dX12_factor_125 ?_
          refine v_goto (tgt := 130) hG dX12_factor_126 (by decide) ?_
          refine mp_isWrong hG dX12_factor_130 (Or.inr rfl) ?_
          rw [show (sU (amG g p (zix 1 (c p))) 5 1) = gS g p false from by exact am_n h3 (by assumption)]
          have hg5 : gS g p false 5 = 1 := gS_51
          refine v_aload_n hG dX12_factor_133 rfl 2 rfl ?_
          refine mg_isWrong (z := (gS g p false) 5) hG dX12_factor_134 rfl ?_
          refine v_if_eq (tgt := 144) hG dX12_factor_137 (by decide) (by omega) (fun c26 => ?_) (fun c26 => ?_)
          · skip
            exfalso; omega
          · skip
            refine v_iconst hG dX12_factor_140 ?_
            refine v_goto (tgt := 150) hG dX12_factor_141 (by decide) ?_
            refine v_istore_n (lo' := [(3, vI 0), (2, vI (zix 1 (c p))), (1, vI (c p)), (0, .ref (a 0))]) hG dX12_factor_150 rfl (by decide) rfl ?_
            refine v_aload_n hG dX12_factor_151 rfl 3 rfl ?_
            refine v_aload_n hG dX12_factor_152 rfl 3 rfl ?_
            refine mg_isWrong (z := (gS g p false) 5) hG dX12_factor_153 rfl ?_
            refine v_if_ne (tgt := 164) hG dX12_factor_156 (by decide) (by omega) (fun c27 => ?_) (fun c27 => ?_)
            · skip
              refine v_iconst hG dX12_factor_164 ?_
              refine v_goto (tgt := 169) hG dX12_factor_165 (by decide) ?_
              refine mp_isWrong hG dX12_factor_169 (Or.inr rfl) ?_
              rw [show (sU (gS g p false) 5 1) = gS g p false from by exact gS_s5]
              refine v_aload_n hG dX12_factor_172 rfl 3 rfl ?_
              refine v_callV (k1' := 0) (k2' := 0) hG dX12_factor_173 zc_X12_figures ⟨zl_X12_95, zi_X12_figures, zs_X12_figures⟩ (fun l => k_figures l D A a s im fr bY tr ln bl bo (gS g p false) lg c p false (by first | exact hTP | exact TP_gS hTP | exact TP_g (TP_gS hTP) s6_4 | exact TP_gS (TP_emS hTP (by omega) (by omega)) | exact TP_g (TP_gS (TP_emS hTP (by omega) (by omega))) s6_4) (by first | exact h3 | exact gS_3 | (rw [s6_3]; exact gS_3)) (by first | exact gS_5 | (rw [s6_5]; exact gS_5)) (by first | omega | (simp only [gS_2, gS_4, gS_6, s6_2, s6_4, emS_268, sU_eq, List.length_append]; omega))) rfl mw_recv (fun _ h => h) ⟨by decide, by decide⟩ rfl rfl ⟨by decide, by decide⟩ (rest := []) rfl (Nat.le_of_ble_eq_true rfl) (fun u28 => [vI ((figF c (p, false)).2)]) (fun _ => rfl) (fun u28 hu28 => ?_)
              rw [show (gS (gS g p false) (figF c (p, false)).1.1 (figF c (p, false)).1.2) = gS g (figF c (p, false)).1.1 (figF c (p, false)).1.2 from by exact gS_gS]
              rw [figF_f]
              refine v_istore (lo' := [(4, vI 0), (3, vI 0), (2, vI (zix 1 (c p))), (1, vI (c p)), (0, .ref (a 0))]) hG dX12_factor_176 (by decide) rfl ?_
              refine v_aload_n hG dX12_factor_178 rfl 4 rfl ?_
              refine v_iload_n hG dX12_factor_179 rfl 2 rfl ?_
              refine v_bipush hG dX12_factor_180 (by decide) ?_
              refine v_iload_n hG dX12_factor_182 rfl 1 rfl ?_
              refine v_imul hG dX12_factor_183 ?_
              refine v_iadd hG dX12_factor_184 ?_
              refine v_bipush hG dX12_factor_185 (by decide) ?_
              refine v_iload hG dX12_factor_187 0 rfl ?_
              refine v_imul hG dX12_factor_189 ?_
              refine v_iadd hG dX12_factor_190 ?_
              refine v_callV (k1' := 0) (k2' := 0) hG dX12_factor_191 zc_X12_emits ⟨zl_X12_81, zi_X12_emits, zs_X12_emits⟩ (fun l => k_emits l D A a s im fr bY tr ln bl bo (gS g p false) lg (((zix 1 (c p)) + (8 * 0)) + (32 * 0)) (by first | omega | (simp only [gS_2, gS_4, gS_6, s6_2, s6_4, emS_268, sU_eq, List.length_append]; omega)) (by first | omega | (simp only [gS_2, gS_4, gS_6, s6_2, s6_4, emS_268, sU_eq, List.length_append]; omega)) (by exact gS_01)) rfl mw_recv (fun _ h => h) ⟨by decide, by decide⟩ rfl rfl ⟨by decide, by decide⟩ (rest := []) rfl (Nat.le_of_ble_eq_true rfl) (fun u29 => []) (fun _ => rfl) (fun u29 hu29 => ?_)
              rw [show (if (gS g p false) 5 = 0 then em1 s ((gS g p false) 2) (((zix 1 (c p)) + (8 * 0)) + (32 * 0)) else s) = s from by exact emit_n]
              have hfc : facF c 4 p = atomF c p := fac_at (by assumption) (by assumption)
              have e30 : s = emS s (g 2) (facF c 4 p).2.2 := by rw [hfc]; first | (rw [at_A (by assumption)]; done) | (rw [at_B (by assumption) (by assumption)]; done) | (rw [at_C (by assumption) (by assumption)]; done) | (rw [at_A (by assumption)]; rfl) | (rw [at_B (by assumption) (by assumption)]; rfl)
              have e31 : gS g p false = gS g (facF c 4 p).1 (facF c 4 p).2.1 := by rw [hfc]; first | (rw [at_A (by assumption)]; done) | (rw [at_B (by assumption) (by assumption)]; done) | (rw [at_C (by assumption) (by assumption)]; done) | (rw [at_A (by assumption)]; rfl) | (rw [at_B (by assumption) (by assumption)]; rfl)
              exact v_return hG hR dX12_factor_194 () rfl (by trivial) (fun _ hM => by rw [← e30]; rw [← e31]; exact hM)
            · skip
              exfalso; omega
      · skip
        have hlt := hTP.2.2.lt (p := p) (by omega)
        refine v_aload_n hG dX12_factor_25 rfl 1 rfl ?_
        refine v_aload_n hG dX12_factor_26 rfl 1 rfl ?_
        refine mg_open (z := g 6) hG dX12_factor_27 rfl ?_
        refine v_iconst hG dX12_factor_30 ?_
        refine v_icmp_ne (tgt := 38) hG dX12_factor_31 (by decide) (by omega) (by omega) (fun c32 => ?_) (fun c32 => ?_)
        · skip
          refine v_iconst hG dX12_factor_38 ?_
          refine mp_isWrong hG dX12_factor_39 (Or.inl rfl) ?_
          refine v_aload_n hG dX12_factor_42 rfl 1 rfl ?_
          refine v_dup hG dX12_factor_43 rfl ?_
          refine mg_open (z := g 6) hG dX12_factor_44 rfl ?_
          refine v_iconst hG dX12_factor_47 ?_
          refine v_iadd hG dX12_factor_48 ?_
          refine mp_open hG dX12_factor_49 ?_
          refine v_aload_n hG dX12_factor_52 rfl 1 rfl ?_
          refine v_dup hG dX12_factor_53 rfl ?_
          refine mg_spot (z := g 3) hG dX12_factor_54 rfl ?_
          refine v_aload_n hG dX12_factor_57 rfl 1 rfl ?_
          refine mg_isWrong (z := 0) hG dX12_factor_58 rfl ?_
          refine v_if_eq (tgt := 68) hG dX12_factor_61 (by decide) (by omega) (fun c33 => ?_) (fun c33 => ?_)
          · skip
            refine v_iconst hG dX12_factor_68 ?_
            refine v_iadd hG dX12_factor_69 ?_
            refine mp_spot hG dX12_factor_70 ?_
            rw [show (sU (sU (sU g 5 0) 6 ((g 6) + 1)) 3 ((g 3) + 1)) = sU (gS g (p + 1) true) 6 (g 6 + 1) from by exact in6 h3]
            refine v_iload_n hG dX12_factor_73 rfl 0 rfl ?_
            refine v_bipush hG dX12_factor_74 (by decide) ?_
            refine v_icmp_ne (tgt := 91) hG dX12_factor_76 (by decide) (by omega) (by omega) (fun c34 => ?_) (fun c34 => ?_)
            · skip
              have hf1 := someF_rng hTP.2.2 (fun x hx => facF_rng hTP.2.2 3 x hx) (p := (p + 1)) (by omega)
              obtain ⟨hf11, hf12, hf13⟩ := id hf1
              refine v_aload_n hG dX12_factor_91 rfl 1 rfl ?_
              refine v_callV (k1' := 0) (k2' := 0) hG dX12_factor_92 zc_X12_some ⟨zl_X12_84, zi_X12_some, zs_X12_some⟩ (fun l => k_some3 l D A a s im fr bY tr ln bl bo (sU (gS g (p + 1) true) 6 (g 6 + 1)) lg c (p + 1) (by first | exact hTP | exact TP_gS hTP | exact TP_g (TP_gS hTP) s6_4 | exact TP_gS (TP_emS hTP (by omega) (by omega)) | exact TP_g (TP_gS (TP_emS hTP (by omega) (by omega))) s6_4) (by first | exact h3 | exact gS_3 | (rw [s6_3]; exact gS_3)) (by first | assumption | exact gS_50 | (rw [s6_5]; exact gS_50)) (by first | omega | (simp only [gS_2, gS_4, gS_6, s6_2, s6_4, emS_268, sU_eq, List.length_append]; omega)) (by first | omega | (simp only [gS_2, gS_4, gS_6, s6_2, s6_4, emS_268, sU_eq, List.length_append]; omega)) (by first | omega | (simp only [gS_2, gS_4, gS_6, s6_2, s6_4, emS_268, sU_eq, List.length_append]; omega)) (by first | omega | (simp only [gS_2, gS_4, gS_6, s6_2, s6_4, emS_268, sU_eq, List.length_append]; omega))) rfl mw_recv (fun _ h => h) ⟨by decide, by decide⟩ rfl rfl ⟨by decide, by decide⟩ (rest := []) rfl (Nat.le_of_ble_eq_true rfl) (fun u35 => []) (fun _ => rfl) (fun u35 hu35 => ?_)
              rw [show (emS s ((sU (gS g (p + 1) true) 6 (g 6 + 1)) 2) (someF (facF c 3) c (p + 1)).2.2) = emS s (g 2) (someF (facF c 3) c (p + 1)).2.2 from by rw [s6_2, gS_2]]
              rw [show (gS (sU (gS g (p + 1) true) 6 (g 6 + 1)) (someF (facF c 3) c (p + 1)).1 (someF (facF c 3) c (p + 1)).2.1) = sU (gS g (someF (facF c 3) c (p + 1)).1 (someF (facF c 3) c (p + 1)).2.1) 6 (g 6 + 1) from by exact gS_s6]
              refine v_aload_n hG dX12_factor_95 rfl 1 rfl ?_
              refine v_bipush hG dX12_factor_96 (by decide) ?_
              refine v_callV (k1' := 0) (k2' := 0) hG dX12_factor_98 zc_X12_must ⟨zl_X12_68, zi_X12_must, zs_X12_must⟩ (fun l => k_must l D A a (emS s (g 2) (someF (facF c 3) c (p + 1)).2.2) im fr bY tr ln bl bo (sU (gS g (someF (facF c 3) c (p + 1)).1 (someF (facF c 3) c (p + 1)).2.1) 6 (g 6 + 1)) lg 41 c ((someF (facF c 3) c (p + 1)).1) ((someF (facF c 3) c (p + 1)).2.1) (by first | exact hTP | exact TP_gS hTP | exact TP_g (TP_gS hTP) s6_4 | exact TP_gS (TP_emS hTP (by omega) (by omega)) | exact TP_g (TP_gS (TP_emS hTP (by omega) (by omega))) s6_4) (by first | exact h3 | exact gS_3 | (rw [s6_3]; exact gS_3)) (by first | exact gS_5 | (rw [s6_5]; exact gS_5)) (by first | omega | (simp only [gS_2, gS_4, gS_6, s6_2, s6_4, emS_268, sU_eq, List.length_append]; omega)) (by omega)) rfl mw_recv (fun _ h => h) ⟨by decide, by decide⟩ rfl rfl ⟨by decide, by decide⟩ (rest := []) rfl (Nat.le_of_ble_eq_true rfl) (fun u36 => []) (fun _ => rfl) (fun u36 hu36 => ?_)
              rw [show (gS (sU (gS g (someF (facF c 3) c (p + 1)).1 (someF (facF c 3) c (p + 1)).2.1) 6 (g 6 + 1)) (mustF c 41 (((someF (facF c 3) c (p + 1)).1), ((someF (facF c 3) c (p + 1)).2.1))).1 (mustF c 41 (((someF (facF c 3) c (p + 1)).1), ((someF (facF c 3) c (p + 1)).2.1))).2) = sU (gS g (mustF c 41 ((someF (facF c 3) c (p + 1)).1, (someF (facF c 3) c (p + 1)).2.1)).1 (mustF c 41 ((someF (facF c 3) c (p + 1)).1, (someF (facF c 3) c (p + 1)).2.1)).2) 6 (g 6 + 1) from by exact gS_s6]
              refine v_aload_n hG dX12_factor_101 rfl 1 rfl ?_
              refine v_dup hG dX12_factor_102 rfl ?_
              refine mg_open (z := g 6 + 1) hG dX12_factor_103 rfl ?_
              refine v_iconst hG dX12_factor_106 ?_
              refine v_isub hG dX12_factor_107 ?_
              refine mp_open hG dX12_factor_108 ?_
              have hfc := fac_p (c := c) (o := 3) (p := p) (by assumption)
              have e37 : emS s (g 2) (someF (facF c 3) c (p + 1)).2.2 = emS s (g 2) (facF c 4 p).2.2 := by first | (rw [hfc]; exact out6 (by first | omega | (rw [sU_eq]; omega))) | (rw [hfc]; rfl) | (rw [hfc])
              have e38 : sU (sU (gS g (mustF c 41 ((someF (facF c 3) c (p + 1)).1, (someF (facF c 3) c (p + 1)).2.1)).1 (mustF c 41 ((someF (facF c 3) c (p + 1)).1, (someF (facF c 3) c (p + 1)).2.1)).2) 6 (g 6 + 1)) 6 ((g 6 + 1) - 1) = gS g (facF c 4 p).1 (facF c 4 p).2.1 := by first | (rw [hfc]; exact out6 (by first | omega | (rw [sU_eq]; omega))) | (rw [hfc]; rfl) | (rw [hfc])
              exact v_return hG hR dX12_factor_111 () rfl (by trivial) (fun _ hM => by rw [← e37]; rw [← e38]; exact hM)
            · skip
              have hf1 := facF_rng hTP.2.2 3 (p + 1) (by omega)
              obtain ⟨hf11, hf12, hf13⟩ := id hf1
              refine v_aload_n hG dX12_factor_79 rfl 1 rfl ?_
              refine v_callV (k1' := 0) (k2' := 0) hG dX12_factor_80 zc_X12_factor ⟨zl_X12_78, zi_X12_factor, zs_X12_factor⟩ (fun l => k_factor3 l D A a s im fr bY tr ln bl bo (sU (gS g (p + 1) true) 6 (g 6 + 1)) lg c (p + 1) (by first | exact hTP | exact TP_gS hTP | exact TP_g (TP_gS hTP) s6_4 | exact TP_gS (TP_emS hTP (by omega) (by omega)) | exact TP_g (TP_gS (TP_emS hTP (by omega) (by omega))) s6_4) (by first | exact h3 | exact gS_3 | (rw [s6_3]; exact gS_3)) (by first | assumption | exact gS_50 | (rw [s6_5]; exact gS_50)) (by first | omega | (simp only [gS_2, gS_4, gS_6, s6_2, s6_4, emS_268, sU_eq, List.length_append]; omega)) (by first | omega | (simp only [gS_2, gS_4, gS_6, s6_2, s6_4, emS_268, sU_eq, List.length_append]; omega)) (by first | omega | (simp only [gS_2, gS_4, gS_6, s6_2, s6_4, emS_268, sU_eq, List.length_append]; omega)) (by first | omega | (simp only [gS_2, gS_4, gS_6, s6_2, s6_4, emS_268, sU_eq, List.length_append]; omega))) rfl mw_recv (fun _ h => h) ⟨by decide, by decide⟩ rfl rfl ⟨by decide, by decide⟩ (rest := []) rfl (Nat.le_of_ble_eq_true rfl) (fun u39 => []) (fun _ => rfl) (fun u39 hu39 => ?_)
              rw [show (emS s ((sU (gS g (p + 1) true) 6 (g 6 + 1)) 2) (facF c 3 (p + 1)).2.2) = emS s (g 2) (facF c 3 (p + 1)).2.2 from by rw [s6_2, gS_2]]
              rw [show (gS (sU (gS g (p + 1) true) 6 (g 6 + 1)) (facF c 3 (p + 1)).1 (facF c 3 (p + 1)).2.1) = sU (gS g (facF c 3 (p + 1)).1 (facF c 3 (p + 1)).2.1) 6 (g 6 + 1) from by exact gS_s6]
              refine v_aload_n hG dX12_factor_83 rfl 1 rfl ?_
              refine v_iconst hG dX12_factor_84 ?_
              refine v_callV (k1' := 0) (k2' := 0) hG dX12_factor_85 zc_X12_emits ⟨zl_X12_81, zi_X12_emits, zs_X12_emits⟩ (fun l => k_emits l D A a (emS s (g 2) (facF c 3 (p + 1)).2.2) im fr bY tr ln bl bo (sU (gS g (facF c 3 (p + 1)).1 (facF c 3 (p + 1)).2.1) 6 (g 6 + 1)) lg (-1) (by first | omega | (simp only [gS_2, gS_4, gS_6, s6_2, s6_4, emS_268, sU_eq, List.length_append]; omega)) (by first | omega | (simp only [gS_2, gS_4, gS_6, s6_2, s6_4, emS_268, sU_eq, List.length_append]; omega)) (by rw [s6_5]; exact gS_01)) rfl mw_recv (fun _ h => h) ⟨by decide, by decide⟩ rfl rfl ⟨by decide, by decide⟩ (rest := []) rfl (Nat.le_of_ble_eq_true rfl) (fun u40 => []) (fun _ => rfl) (fun u40 hu40 => ?_)
              rw [show (if (sU (gS g (facF c 3 (p + 1)).1 (facF c 3 (p + 1)).2.1) 6 (g 6 + 1)) 5 = 0 then em1 (emS s (g 2) (facF c 3 (p + 1)).2.2) ((sU (gS g (facF c 3 (p + 1)).1 (facF c 3 (p + 1)).2.1) 6 (g 6 + 1)) 2) (-1) else (emS s (g 2) (facF c 3 (p + 1)).2.2)) = emS s (g 2) ((facF c 3 (p + 1)).2.2 ++ (if (facF c 3 (p + 1)).2.1 = true then [-1] else [])) from by exact emit_6]
              refine v_goto (tgt := 101) hG dX12_factor_88 (by decide) ?_
              refine v_aload_n hG dX12_factor_101 rfl 1 rfl ?_
              refine v_dup hG dX12_factor_102 rfl ?_
              refine mg_open (z := g 6 + 1) hG dX12_factor_103 rfl ?_
              refine v_iconst hG dX12_factor_106 ?_
              refine v_isub hG dX12_factor_107 ?_
              refine mp_open hG dX12_factor_108 ?_
              have hfc := fac_n (c := c) (o := 3) (p := p) (by assumption)
              have e41 : emS s (g 2) ((facF c 3 (p + 1)).2.2 ++ (if (facF c 3 (p + 1)).2.1 = true then [-1] else [])) = emS s (g 2) (facF c 4 p).2.2 := by first | (rw [hfc]; exact out6 (by first | omega | (rw [sU_eq]; omega))) | (rw [hfc]; rfl) | (rw [hfc])
              have e42 : sU (sU (gS g (facF c 3 (p + 1)).1 (facF c 3 (p + 1)).2.1) 6 (g 6 + 1)) 6 ((g 6 + 1) - 1) = gS g (facF c 4 p).1 (facF c 4 p).2.1 := by first | (rw [hfc]; exact out6 (by first | omega | (rw [sU_eq]; omega))) | (rw [hfc]; rfl) | (rw [hfc])
              exact v_return hG hR dX12_factor_111 () rfl (by trivial) (fun _ hM => by rw [← e41]; rw [← e42]; exact hM)
          · skip
            exfalso; omega
        · skip
          exfalso; omega
  · skip
    exfalso; omega
set_option maxHeartbeats 4000000 in
set_option maxRecDepth 100000 in
theorem k_every4 (l : Launch) (D : Dx) (A : Nat → Prop) (a : Nat → Nat) (s im fr bY tr ln bl bo g lg : Int → Int) (c : Nat → Int) (p : Nat) (hTP : TP s g c) (h3 : g 3 = (p : Int)) (h5z : g 5 = 0) (hpe : (p : Int) ≤ g 4) (hA : 0 ≤ g 2 ∧ g 2 ≤ 4) (hs : 0 ≤ s (268 + g 2) ∧ s (268 + g 2) ≤ (p : Int)) (h6 : g 6 = 1) : CT l D A yX12_every cX12_every 1 none { frames := 21, cells := 0, slots := 0, locals := 467 } [.ref (a 0)] (MW D A a s im fr bY tr ln bl bo g lg) (fun _ : Unit => none) (fun _ => True) (fun _ => MW D A a (emS s (g 2) (everyF (facF c 4) c p).2.2) im fr bY tr ln bl bo (gS g (everyF (facF c 4) c p).1 (everyF (facF c 4) c p).2.1) lg) := by
  refine ct_of (lo0 := [(0, .ref (a 0))]) (by decide) (Nat.le_of_ble_eq_true rfl) rfl ?_
  intro G hG hR
  have hT1 := hTP.1
  have hrb := everyF_rng hTP.2.2 (fun x hx => facF_rng hTP.2.2 4 x hx) (p := p) (by omega)
  refine v_aload_n hG dX12_every_0 rfl 0 rfl ?_
  refine v_callV (k1' := 0) (k2' := 0) hG dX12_every_1 zc_X12_factor ⟨zl_X12_78, zi_X12_factor, zs_X12_factor⟩ (fun l => k_factor4 l D A a s im fr bY tr ln bl bo g lg c p (by first | exact hTP | exact TP_gS hTP | exact TP_g (TP_gS hTP) s6_4 | exact TP_gS (TP_emS hTP (by omega) (by omega)) | exact TP_g (TP_gS (TP_emS hTP (by omega) (by omega))) s6_4) (by first | exact h3 | exact gS_3 | (rw [s6_3]; exact gS_3)) (by first | assumption | exact gS_50 | (rw [s6_5]; exact gS_50)) (by first | omega | (simp only [gS_2, gS_4, gS_6, s6_2, s6_4, emS_268, sU_eq, List.length_append]; omega)) (by first | omega | (simp only [gS_2, gS_4, gS_6, s6_2, s6_4, emS_268, sU_eq, List.length_append]; omega)) (by first | omega | (simp only [gS_2, gS_4, gS_6, s6_2, s6_4, emS_268, sU_eq, List.length_append]; omega)) (by first | omega | (simp only [gS_2, gS_4, gS_6, s6_2, s6_4, emS_268, sU_eq, List.length_append]; omega))) rfl mw_recv (fun _ h => h) ⟨by decide, by decide⟩ rfl rfl ⟨by decide, by decide⟩ (rest := []) rfl (Nat.le_of_ble_eq_true rfl) (fun u1 => []) (fun _ => rfl) (fun u1 hu1 => ?_)
  have hfp := facF_rng hTP.2.2 4 p (by omega)
  have L4 : ∀ mz : Nat, ∀ (F : Nat) (r : R3), (everyF (facF c 4) c p = evL (facF c 4) c 38 (-2) F r) → (RB (g 4).toNat p r) → (101 ≤ F + r.1) → F = mz → ∀ x2 : Int → Int, x2 = (emS s (g 2) r.2.2) → ∀ x3 : Int → Int, x3 = (gS g r.1 r.2.1) → V G 0 0 (MW D A a x2 im fr bY tr ln bl bo x3 lg) 4 [(0, .ref (a 0))] [] := by
    intro dL4
    induction dL4 using Nat.strongRecOn with
    | ind dL4 ihL4 =>
      intro F r hq5 hq6 hq7 hq8
      intro x2 hx2
      subst hx2
      intro x3 hx3
      subst hx3
      have hg5 : gS g r.1 r.2.1 5 = (if r.2.1 then 0 else 1) := gS_5
      have hg01 := gS_01 (g := g) (p := r.1) (ok := r.2.1)
      obtain ⟨hr1, hr2, hr3⟩ := id ‹RB (g 4).toNat p r›
      refine v_aload_n hG dX12_every_4 rfl 0 rfl ?_
      refine mg_isWrong (z := (gS g r.1 r.2.1) 5) hG dX12_every_5 rfl ?_
      refine v_if_ne (tgt := 43) hG dX12_every_8 (by decide) (by omega) (fun c9 => ?_) (fun c9 => ?_)
      · skip
        have hst : everyF (facF c 4) c p = r := ‹everyF (facF c 4) c p = evL (facF c 4) c 38 (-2) F r›.trans (evL_stop (by first | exact Or.inl (ok_f hg5 (by assumption)) | exact Or.inr (by assumption)))
        have e10 : emS s (g 2) r.2.2 = emS s (g 2) (everyF (facF c 4) c p).2.2 := by rw [hst]
        have e11 : gS g r.1 r.2.1 = gS g (everyF (facF c 4) c p).1 (everyF (facF c 4) c p).2.1 := by rw [hst]
        exact v_return hG hR dX12_every_43 () rfl (by trivial) (fun _ hM => by rw [← e10]; rw [← e11]; exact hM)
      · skip
        refine v_aload_n hG dX12_every_11 rfl 0 rfl ?_
        refine v_callV (k1' := 0) (k2' := 0) hG dX12_every_12 zc_X12_here ⟨zl_X12_55, zi_X12_here, zs_X12_here⟩ (fun l => k_here l D A a (emS s (g 2) r.2.2) im fr bY tr ln bl bo (gS g r.1 r.2.1) lg c r.1 (by first | exact hTP | exact TP_gS hTP | exact TP_g (TP_gS hTP) s6_4 | exact TP_gS (TP_emS hTP (by omega) (by omega)) | exact TP_g (TP_gS (TP_emS hTP (by omega) (by omega))) s6_4) (by first | exact h3 | exact gS_3 | (rw [s6_3]; exact gS_3)) (by first | omega | (simp only [gS_2, gS_4, gS_6, s6_2, s6_4, emS_268, sU_eq, List.length_append]; omega))) rfl mw_recv (fun _ h => h) ⟨by decide, by decide⟩ rfl rfl ⟨by decide, by decide⟩ (rest := []) rfl (Nat.le_of_ble_eq_true rfl) (fun u12 => [vI (c r.1)]) (fun _ => rfl) (fun u12 hu12 => ?_)
        have fu12 : -1 ≤ c r.1 ∧ c r.1 ≤ 127 := hu12
        refine v_bipush hG dX12_every_15 (by decide) ?_
        refine v_icmp_ne (tgt := 43) hG dX12_every_17 (by decide) (by omega) (by omega) (fun c13 => ?_) (fun c13 => ?_)
        · skip
          have hst : everyF (facF c 4) c p = r := ‹everyF (facF c 4) c p = evL (facF c 4) c 38 (-2) F r›.trans (evL_stop (by first | exact Or.inl (ok_f hg5 (by assumption)) | exact Or.inr (by assumption)))
          have e14 : emS s (g 2) r.2.2 = emS s (g 2) (everyF (facF c 4) c p).2.2 := by rw [hst]
          have e15 : gS g r.1 r.2.1 = gS g (everyF (facF c 4) c p).1 (everyF (facF c 4) c p).2.1 := by rw [hst]
          exact v_return hG hR dX12_every_43 () rfl (by trivial) (fun _ hM => by rw [← e14]; rw [← e15]; exact hM)
        · skip
          have hok : r.2.1 = true := ok_t hg5 (by omega)
          have hlt := hTP.2.2.lt (p := r.1) (by omega)
          have hf1 := facF_rng hTP.2.2 4 (r.1 + 1) (by omega)
          obtain ⟨hf11, hf12, hf13⟩ := id hf1
          refine v_aload_n hG dX12_every_20 rfl 0 rfl ?_
          refine v_dup hG dX12_every_21 rfl ?_
          refine mg_spot (z := (gS g r.1 r.2.1) 3) hG dX12_every_22 rfl ?_
          refine v_iconst hG dX12_every_25 ?_
          refine v_iadd hG dX12_every_26 ?_
          refine mp_spot hG dX12_every_27 ?_
          rw [show (sU (gS g r.1 r.2.1) 3 (((gS g r.1 r.2.1) 3) + 1)) = gS g (r.1 + 1) true from by exact sp1 hok]
          refine v_aload_n hG dX12_every_30 rfl 0 rfl ?_
          refine v_callV (k1' := 0) (k2' := 0) hG dX12_every_31 zc_X12_factor ⟨zl_X12_78, zi_X12_factor, zs_X12_factor⟩ (fun l => k_factor4 l D A a (emS s (g 2) r.2.2) im fr bY tr ln bl bo (gS g (r.1 + 1) true) lg c (r.1 + 1) (by first | exact hTP | exact TP_gS hTP | exact TP_g (TP_gS hTP) s6_4 | exact TP_gS (TP_emS hTP (by omega) (by omega)) | exact TP_g (TP_gS (TP_emS hTP (by omega) (by omega))) s6_4) (by first | exact h3 | exact gS_3 | (rw [s6_3]; exact gS_3)) (by first | assumption | exact gS_50 | (rw [s6_5]; exact gS_50)) (by first | omega | (simp only [gS_2, gS_4, gS_6, s6_2, s6_4, emS_268, sU_eq, List.length_append]; omega)) (by first | omega | (simp only [gS_2, gS_4, gS_6, s6_2, s6_4, emS_268, sU_eq, List.length_append]; omega)) (by first | omega | (simp only [gS_2, gS_4, gS_6, s6_2, s6_4, emS_268, sU_eq, List.length_append]; omega)) (by first | omega | (simp only [gS_2, gS_4, gS_6, s6_2, s6_4, emS_268, sU_eq, List.length_append]; omega))) rfl mw_recv (fun _ h => h) ⟨by decide, by decide⟩ rfl rfl ⟨by decide, by decide⟩ (rest := []) rfl (Nat.le_of_ble_eq_true rfl) (fun u16 => []) (fun _ => rfl) (fun u16 hu16 => ?_)
          rw [show (emS (emS s (g 2) r.2.2) ((gS g (r.1 + 1) true) 2) (facF c 4 (r.1 + 1)).2.2) = emS s (g 2) (r.2.2 ++ ((facF c 4) (r.1 + 1)).2.2) from by rw [gS_2]; exact emS_app]
          rw [show (gS (gS g (r.1 + 1) true) (facF c 4 (r.1 + 1)).1 (facF c 4 (r.1 + 1)).2.1) = gS g ((facF c 4) (r.1 + 1)).1 ((facF c 4) (r.1 + 1)).2.1 from by exact gS_gS]
          refine v_aload_n hG dX12_every_34 rfl 0 rfl ?_
          refine v_bipush hG dX12_every_35 (by decide) ?_
          refine v_callV (k1' := 0) (k2' := 0) hG dX12_every_37 zc_X12_emits ⟨zl_X12_81, zi_X12_emits, zs_X12_emits⟩ (fun l => k_emits l D A a (emS s (g 2) (r.2.2 ++ ((facF c 4) (r.1 + 1)).2.2)) im fr bY tr ln bl bo (gS g ((facF c 4) (r.1 + 1)).1 ((facF c 4) (r.1 + 1)).2.1) lg (-2) (by first | omega | (simp only [gS_2, gS_4, gS_6, s6_2, s6_4, emS_268, sU_eq, List.length_append]; omega)) (by first | omega | (simp only [gS_2, gS_4, gS_6, s6_2, s6_4, emS_268, sU_eq, List.length_append]; omega)) (by exact gS_01)) rfl mw_recv (fun _ h => h) ⟨by decide, by decide⟩ rfl rfl ⟨by decide, by decide⟩ (rest := []) rfl (Nat.le_of_ble_eq_true rfl) (fun u17 => []) (fun _ => rfl) (fun u17 hu17 => ?_)
          rw [show (if (gS g ((facF c 4) (r.1 + 1)).1 ((facF c 4) (r.1 + 1)).2.1) 5 = 0 then em1 (emS s (g 2) (r.2.2 ++ ((facF c 4) (r.1 + 1)).2.2)) ((gS g ((facF c 4) (r.1 + 1)).1 ((facF c 4) (r.1 + 1)).2.1) 2) (-2) else (emS s (g 2) (r.2.2 ++ ((facF c 4) (r.1 + 1)).2.2))) = emS s (g 2) ((((facF c 4) (r.1 + 1)).1, ((facF c 4) (r.1 + 1)).2.1, r.2.2 ++ ((facF c 4) (r.1 + 1)).2.2 ++ (if ((facF c 4) (r.1 + 1)).2.1 = true then [(-2)] else []))).2.2 from by exact emit_l]
          refine v_goto (tgt := 4) hG dX12_every_40 (by decide) ?_
          exact ihL4 _ (by omega) (F - 1) (((facF c 4) (r.1 + 1)).1, ((facF c 4) (r.1 + 1)).2.1, r.2.2 ++ ((facF c 4) (r.1 + 1)).2.2 ++ (if ((facF c 4) (r.1 + 1)).2.1 = true then [(-2)] else [])) (by exact ‹everyF (facF c 4) c p = evL (facF c 4) c 38 (-2) F r›.trans (evL_go (by omega) hok (by assumption))) (by exact RB_go (by assumption) hf1) (by show 101 ≤ F - 1 + ((facF c 4) (r.1 + 1)).1; omega) rfl _ (by rfl) _ (by rfl)
  exact L4 _ 101 ((facF c 4) p) (by rfl) (by exact hfp) (by omega) rfl _ (by rfl) _ (by rfl)
set_option maxHeartbeats 4000000 in
set_option maxRecDepth 100000 in
theorem k_some4 (l : Launch) (D : Dx) (A : Nat → Prop) (a : Nat → Nat) (s im fr bY tr ln bl bo g lg : Int → Int) (c : Nat → Int) (p : Nat) (hTP : TP s g c) (h3 : g 3 = (p : Int)) (h5z : g 5 = 0) (hpe : (p : Int) ≤ g 4) (hA : 0 ≤ g 2 ∧ g 2 ≤ 4) (hs : 0 ≤ s (268 + g 2) ∧ s (268 + g 2) ≤ (p : Int)) (h6 : g 6 = 1) : CT l D A yX12_some cX12_some 1 none { frames := 22, cells := 0, slots := 0, locals := 487 } [.ref (a 0)] (MW D A a s im fr bY tr ln bl bo g lg) (fun _ : Unit => none) (fun _ => True) (fun _ => MW D A a (emS s (g 2) (someF (facF c 4) c p).2.2) im fr bY tr ln bl bo (gS g (someF (facF c 4) c p).1 (someF (facF c 4) c p).2.1) lg) := by
  refine ct_of (lo0 := [(0, .ref (a 0))]) (by decide) (Nat.le_of_ble_eq_true rfl) rfl ?_
  intro G hG hR
  have hT1 := hTP.1
  have hrb := someF_rng hTP.2.2 (fun x hx => facF_rng hTP.2.2 4 x hx) (p := p) (by omega)
  refine v_aload_n hG dX12_some_0 rfl 0 rfl ?_
  refine v_callV (k1' := 0) (k2' := 0) hG dX12_some_1 zc_X12_every ⟨zl_X12_98, zi_X12_every, zs_X12_every⟩ (fun l => k_every4 l D A a s im fr bY tr ln bl bo g lg c p (by first | exact hTP | exact TP_gS hTP | exact TP_g (TP_gS hTP) s6_4 | exact TP_gS (TP_emS hTP (by omega) (by omega)) | exact TP_g (TP_gS (TP_emS hTP (by omega) (by omega))) s6_4) (by first | exact h3 | exact gS_3 | (rw [s6_3]; exact gS_3)) (by first | assumption | exact gS_50 | (rw [s6_5]; exact gS_50)) (by first | omega | (simp only [gS_2, gS_4, gS_6, s6_2, s6_4, emS_268, sU_eq, List.length_append]; omega)) (by first | omega | (simp only [gS_2, gS_4, gS_6, s6_2, s6_4, emS_268, sU_eq, List.length_append]; omega)) (by first | omega | (simp only [gS_2, gS_4, gS_6, s6_2, s6_4, emS_268, sU_eq, List.length_append]; omega)) (by first | omega | (simp only [gS_2, gS_4, gS_6, s6_2, s6_4, emS_268, sU_eq, List.length_append]; omega))) rfl mw_recv (fun _ h => h) ⟨by decide, by decide⟩ rfl rfl ⟨by decide, by decide⟩ (rest := []) rfl (Nat.le_of_ble_eq_true rfl) (fun u1 => []) (fun _ => rfl) (fun u1 hu1 => ?_)
  have hfp := everyF_rng hTP.2.2 (fun x hx => facF_rng hTP.2.2 4 x hx) (p := p) (by omega)
  have L4 : ∀ mz : Nat, ∀ (F : Nat) (r : R3), (someF (facF c 4) c p = evL (everyF (facF c 4) c) c 124 (-3) F r) → (RB (g 4).toNat p r) → (101 ≤ F + r.1) → F = mz → ∀ x2 : Int → Int, x2 = (emS s (g 2) r.2.2) → ∀ x3 : Int → Int, x3 = (gS g r.1 r.2.1) → V G 0 0 (MW D A a x2 im fr bY tr ln bl bo x3 lg) 4 [(0, .ref (a 0))] [] := by
    intro dL4
    induction dL4 using Nat.strongRecOn with
    | ind dL4 ihL4 =>
      intro F r hq5 hq6 hq7 hq8
      intro x2 hx2
      subst hx2
      intro x3 hx3
      subst hx3
      have hg5 : gS g r.1 r.2.1 5 = (if r.2.1 then 0 else 1) := gS_5
      have hg01 := gS_01 (g := g) (p := r.1) (ok := r.2.1)
      obtain ⟨hr1, hr2, hr3⟩ := id ‹RB (g 4).toNat p r›
      refine v_aload_n hG dX12_some_4 rfl 0 rfl ?_
      refine mg_isWrong (z := (gS g r.1 r.2.1) 5) hG dX12_some_5 rfl ?_
      refine v_if_ne (tgt := 43) hG dX12_some_8 (by decide) (by omega) (fun c9 => ?_) (fun c9 => ?_)
      · skip
        have hst : someF (facF c 4) c p = r := ‹someF (facF c 4) c p = evL (everyF (facF c 4) c) c 124 (-3) F r›.trans (evL_stop (by first | exact Or.inl (ok_f hg5 (by assumption)) | exact Or.inr (by assumption)))
        have e10 : emS s (g 2) r.2.2 = emS s (g 2) (someF (facF c 4) c p).2.2 := by rw [hst]
        have e11 : gS g r.1 r.2.1 = gS g (someF (facF c 4) c p).1 (someF (facF c 4) c p).2.1 := by rw [hst]
        exact v_return hG hR dX12_some_43 () rfl (by trivial) (fun _ hM => by rw [← e10]; rw [← e11]; exact hM)
      · skip
        refine v_aload_n hG dX12_some_11 rfl 0 rfl ?_
        refine v_callV (k1' := 0) (k2' := 0) hG dX12_some_12 zc_X12_here ⟨zl_X12_55, zi_X12_here, zs_X12_here⟩ (fun l => k_here l D A a (emS s (g 2) r.2.2) im fr bY tr ln bl bo (gS g r.1 r.2.1) lg c r.1 (by first | exact hTP | exact TP_gS hTP | exact TP_g (TP_gS hTP) s6_4 | exact TP_gS (TP_emS hTP (by omega) (by omega)) | exact TP_g (TP_gS (TP_emS hTP (by omega) (by omega))) s6_4) (by first | exact h3 | exact gS_3 | (rw [s6_3]; exact gS_3)) (by first | omega | (simp only [gS_2, gS_4, gS_6, s6_2, s6_4, emS_268, sU_eq, List.length_append]; omega))) rfl mw_recv (fun _ h => h) ⟨by decide, by decide⟩ rfl rfl ⟨by decide, by decide⟩ (rest := []) rfl (Nat.le_of_ble_eq_true rfl) (fun u12 => [vI (c r.1)]) (fun _ => rfl) (fun u12 hu12 => ?_)
        have fu12 : -1 ≤ c r.1 ∧ c r.1 ≤ 127 := hu12
        refine v_bipush hG dX12_some_15 (by decide) ?_
        refine v_icmp_ne (tgt := 43) hG dX12_some_17 (by decide) (by omega) (by omega) (fun c13 => ?_) (fun c13 => ?_)
        · skip
          have hst : someF (facF c 4) c p = r := ‹someF (facF c 4) c p = evL (everyF (facF c 4) c) c 124 (-3) F r›.trans (evL_stop (by first | exact Or.inl (ok_f hg5 (by assumption)) | exact Or.inr (by assumption)))
          have e14 : emS s (g 2) r.2.2 = emS s (g 2) (someF (facF c 4) c p).2.2 := by rw [hst]
          have e15 : gS g r.1 r.2.1 = gS g (someF (facF c 4) c p).1 (someF (facF c 4) c p).2.1 := by rw [hst]
          exact v_return hG hR dX12_some_43 () rfl (by trivial) (fun _ hM => by rw [← e14]; rw [← e15]; exact hM)
        · skip
          have hok : r.2.1 = true := ok_t hg5 (by omega)
          have hlt := hTP.2.2.lt (p := r.1) (by omega)
          have hf1 := everyF_rng hTP.2.2 (fun x hx => facF_rng hTP.2.2 4 x hx) (p := (r.1 + 1)) (by omega)
          obtain ⟨hf11, hf12, hf13⟩ := id hf1
          refine v_aload_n hG dX12_some_20 rfl 0 rfl ?_
          refine v_dup hG dX12_some_21 rfl ?_
          refine mg_spot (z := (gS g r.1 r.2.1) 3) hG dX12_some_22 rfl ?_
          refine v_iconst hG dX12_some_25 ?_
          refine v_iadd hG dX12_some_26 ?_
          refine mp_spot hG dX12_some_27 ?_
          rw [show (sU (gS g r.1 r.2.1) 3 (((gS g r.1 r.2.1) 3) + 1)) = gS g (r.1 + 1) true from by exact sp1 hok]
          refine v_aload_n hG dX12_some_30 rfl 0 rfl ?_
          refine v_callV (k1' := 0) (k2' := 0) hG dX12_some_31 zc_X12_every ⟨zl_X12_98, zi_X12_every, zs_X12_every⟩ (fun l => k_every4 l D A a (emS s (g 2) r.2.2) im fr bY tr ln bl bo (gS g (r.1 + 1) true) lg c (r.1 + 1) (by first | exact hTP | exact TP_gS hTP | exact TP_g (TP_gS hTP) s6_4 | exact TP_gS (TP_emS hTP (by omega) (by omega)) | exact TP_g (TP_gS (TP_emS hTP (by omega) (by omega))) s6_4) (by first | exact h3 | exact gS_3 | (rw [s6_3]; exact gS_3)) (by first | assumption | exact gS_50 | (rw [s6_5]; exact gS_50)) (by first | omega | (simp only [gS_2, gS_4, gS_6, s6_2, s6_4, emS_268, sU_eq, List.length_append]; omega)) (by first | omega | (simp only [gS_2, gS_4, gS_6, s6_2, s6_4, emS_268, sU_eq, List.length_append]; omega)) (by first | omega | (simp only [gS_2, gS_4, gS_6, s6_2, s6_4, emS_268, sU_eq, List.length_append]; omega)) (by first | omega | (simp only [gS_2, gS_4, gS_6, s6_2, s6_4, emS_268, sU_eq, List.length_append]; omega))) rfl mw_recv (fun _ h => h) ⟨by decide, by decide⟩ rfl rfl ⟨by decide, by decide⟩ (rest := []) rfl (Nat.le_of_ble_eq_true rfl) (fun u16 => []) (fun _ => rfl) (fun u16 hu16 => ?_)
          rw [show (emS (emS s (g 2) r.2.2) ((gS g (r.1 + 1) true) 2) (everyF (facF c 4) c (r.1 + 1)).2.2) = emS s (g 2) (r.2.2 ++ ((everyF (facF c 4) c) (r.1 + 1)).2.2) from by rw [gS_2]; exact emS_app]
          rw [show (gS (gS g (r.1 + 1) true) (everyF (facF c 4) c (r.1 + 1)).1 (everyF (facF c 4) c (r.1 + 1)).2.1) = gS g ((everyF (facF c 4) c) (r.1 + 1)).1 ((everyF (facF c 4) c) (r.1 + 1)).2.1 from by exact gS_gS]
          refine v_aload_n hG dX12_some_34 rfl 0 rfl ?_
          refine v_bipush hG dX12_some_35 (by decide) ?_
          refine v_callV (k1' := 0) (k2' := 0) hG dX12_some_37 zc_X12_emits ⟨zl_X12_81, zi_X12_emits, zs_X12_emits⟩ (fun l => k_emits l D A a (emS s (g 2) (r.2.2 ++ ((everyF (facF c 4) c) (r.1 + 1)).2.2)) im fr bY tr ln bl bo (gS g ((everyF (facF c 4) c) (r.1 + 1)).1 ((everyF (facF c 4) c) (r.1 + 1)).2.1) lg (-3) (by first | omega | (simp only [gS_2, gS_4, gS_6, s6_2, s6_4, emS_268, sU_eq, List.length_append]; omega)) (by first | omega | (simp only [gS_2, gS_4, gS_6, s6_2, s6_4, emS_268, sU_eq, List.length_append]; omega)) (by exact gS_01)) rfl mw_recv (fun _ h => h) ⟨by decide, by decide⟩ rfl rfl ⟨by decide, by decide⟩ (rest := []) rfl (Nat.le_of_ble_eq_true rfl) (fun u17 => []) (fun _ => rfl) (fun u17 hu17 => ?_)
          rw [show (if (gS g ((everyF (facF c 4) c) (r.1 + 1)).1 ((everyF (facF c 4) c) (r.1 + 1)).2.1) 5 = 0 then em1 (emS s (g 2) (r.2.2 ++ ((everyF (facF c 4) c) (r.1 + 1)).2.2)) ((gS g ((everyF (facF c 4) c) (r.1 + 1)).1 ((everyF (facF c 4) c) (r.1 + 1)).2.1) 2) (-3) else (emS s (g 2) (r.2.2 ++ ((everyF (facF c 4) c) (r.1 + 1)).2.2))) = emS s (g 2) ((((everyF (facF c 4) c) (r.1 + 1)).1, ((everyF (facF c 4) c) (r.1 + 1)).2.1, r.2.2 ++ ((everyF (facF c 4) c) (r.1 + 1)).2.2 ++ (if ((everyF (facF c 4) c) (r.1 + 1)).2.1 = true then [(-3)] else []))).2.2 from by exact emit_l]
          refine v_goto (tgt := 4) hG dX12_some_40 (by decide) ?_
          exact ihL4 _ (by omega) (F - 1) (((everyF (facF c 4) c) (r.1 + 1)).1, ((everyF (facF c 4) c) (r.1 + 1)).2.1, r.2.2 ++ ((everyF (facF c 4) c) (r.1 + 1)).2.2 ++ (if ((everyF (facF c 4) c) (r.1 + 1)).2.1 = true then [(-3)] else [])) (by exact ‹someF (facF c 4) c p = evL (everyF (facF c 4) c) c 124 (-3) F r›.trans (evL_go (by omega) hok (by assumption))) (by exact RB_go (by assumption) hf1) (by show 101 ≤ F - 1 + ((everyF (facF c 4) c) (r.1 + 1)).1; omega) rfl _ (by rfl) _ (by rfl)
  exact L4 _ 101 ((everyF (facF c 4) c) p) (by rfl) (by exact hfp) (by omega) rfl _ (by rfl) _ (by rfl)
set_option maxHeartbeats 4000000 in
set_option maxRecDepth 100000 in
theorem k_factor5 (l : Launch) (D : Dx) (A : Nat → Prop) (a : Nat → Nat) (s im fr bY tr ln bl bo g lg : Int → Int) (c : Nat → Int) (p : Nat) (hTP : TP s g c) (h3 : g 3 = (p : Int)) (h5z : g 5 = 0) (hpe : (p : Int) ≤ g 4) (hA : 0 ≤ g 2 ∧ g 2 ≤ 4) (hs : 0 ≤ s (268 + g 2) ∧ s (268 + g 2) ≤ (p : Int)) (h6 : g 6 = 0) : CT l D A yX12_factor cX12_factor 5 none { frames := 23, cells := 0, slots := 0, locals := 507 } [.ref (a 0)] (MW D A a s im fr bY tr ln bl bo g lg) (fun _ : Unit => none) (fun _ => True) (fun _ => MW D A a (emS s (g 2) (facF c 5 p).2.2) im fr bY tr ln bl bo (gS g (facF c 5 p).1 (facF c 5 p).2.1) lg) := by
  refine ct_of (lo0 := [(0, .ref (a 0))]) (by decide) (Nat.le_of_ble_eq_true rfl) rfl ?_
  intro G hG hR
  have hT1 := hTP.1
  have hrb := facF_rng hTP.2.2 5 p (by omega)
  refine v_aload_n hG dX12_factor_0 rfl 0 rfl ?_
  refine mg_isWrong (z := g 5) hG dX12_factor_1 rfl ?_
  refine v_if_eq (tgt := 8) hG dX12_factor_4 (by decide) (by omega) (fun c1 => ?_) (fun c1 => ?_)
  · skip
    refine v_aload_n hG dX12_factor_8 rfl 0 rfl ?_
    refine v_callV (k1' := 0) (k2' := 0) hG dX12_factor_9 zc_X12_here ⟨zl_X12_55, zi_X12_here, zs_X12_here⟩ (fun l => k_here l D A a s im fr bY tr ln bl bo g lg c p (by first | exact hTP | exact TP_gS hTP | exact TP_g (TP_gS hTP) s6_4 | exact TP_gS (TP_emS hTP (by omega) (by omega)) | exact TP_g (TP_gS (TP_emS hTP (by omega) (by omega))) s6_4) (by first | exact h3 | exact gS_3 | (rw [s6_3]; exact gS_3)) (by first | omega | (simp only [gS_2, gS_4, gS_6, s6_2, s6_4, emS_268, sU_eq, List.length_append]; omega))) rfl mw_recv (fun _ h => h) ⟨by decide, by decide⟩ rfl rfl ⟨by decide, by decide⟩ (rest := []) rfl (Nat.le_of_ble_eq_true rfl) (fun u2 => [vI (c p)]) (fun _ => rfl) (fun u2 hu2 => ?_)
    have fu2 : -1 ≤ c p ∧ c p ≤ 127 := hu2
    refine v_istore_n (lo' := [(1, vI (c p)), (0, .ref (a 0))]) hG dX12_factor_12 rfl (by decide) rfl ?_
    refine v_iload_n hG dX12_factor_13 rfl 0 rfl ?_
    refine v_bipush hG dX12_factor_14 (by decide) ?_
    refine v_icmp_eq (tgt := 25) hG dX12_factor_16 (by decide) (by omega) (by omega) (fun c3 => ?_) (fun c3 => ?_)
    · skip
      have hlt := hTP.2.2.lt (p := p) (by omega)
      refine v_aload_n hG dX12_factor_25 rfl 1 rfl ?_
      refine v_aload_n hG dX12_factor_26 rfl 1 rfl ?_
      refine mg_open (z := g 6) hG dX12_factor_27 rfl ?_
      refine v_iconst hG dX12_factor_30 ?_
      refine v_icmp_ne (tgt := 38) hG dX12_factor_31 (by decide) (by omega) (by omega) (fun c4 => ?_) (fun c4 => ?_)
      · skip
        refine v_iconst hG dX12_factor_38 ?_
        refine mp_isWrong hG dX12_factor_39 (Or.inl rfl) ?_
        refine v_aload_n hG dX12_factor_42 rfl 1 rfl ?_
        refine v_dup hG dX12_factor_43 rfl ?_
        refine mg_open (z := g 6) hG dX12_factor_44 rfl ?_
        refine v_iconst hG dX12_factor_47 ?_
        refine v_iadd hG dX12_factor_48 ?_
        refine mp_open hG dX12_factor_49 ?_
        refine v_aload_n hG dX12_factor_52 rfl 1 rfl ?_
        refine v_dup hG dX12_factor_53 rfl ?_
        refine mg_spot (z := g 3) hG dX12_factor_54 rfl ?_
        refine v_aload_n hG dX12_factor_57 rfl 1 rfl ?_
        refine mg_isWrong (z := 0) hG dX12_factor_58 rfl ?_
        refine v_if_eq (tgt := 68) hG dX12_factor_61 (by decide) (by omega) (fun c5 => ?_) (fun c5 => ?_)
        · skip
          refine v_iconst hG dX12_factor_68 ?_
          refine v_iadd hG dX12_factor_69 ?_
          refine mp_spot hG dX12_factor_70 ?_
          rw [show (sU (sU (sU g 5 0) 6 ((g 6) + 1)) 3 ((g 3) + 1)) = sU (gS g (p + 1) true) 6 (g 6 + 1) from by exact in6 h3]
          refine v_iload_n hG dX12_factor_73 rfl 0 rfl ?_
          refine v_bipush hG dX12_factor_74 (by decide) ?_
          refine v_icmp_ne (tgt := 91) hG dX12_factor_76 (by decide) (by omega) (by omega) (fun c6 => ?_) (fun c6 => ?_)
          · skip
            exfalso; omega
          · skip
            have hf1 := facF_rng hTP.2.2 4 (p + 1) (by omega)
            obtain ⟨hf11, hf12, hf13⟩ := id hf1
            refine v_aload_n hG dX12_factor_79 rfl 1 rfl ?_
            refine v_callV (k1' := 0) (k2' := 0) hG dX12_factor_80 zc_X12_factor ⟨zl_X12_78, zi_X12_factor, zs_X12_factor⟩ (fun l => k_factor4 l D A a s im fr bY tr ln bl bo (sU (gS g (p + 1) true) 6 (g 6 + 1)) lg c (p + 1) (by first | exact hTP | exact TP_gS hTP | exact TP_g (TP_gS hTP) s6_4 | exact TP_gS (TP_emS hTP (by omega) (by omega)) | exact TP_g (TP_gS (TP_emS hTP (by omega) (by omega))) s6_4) (by first | exact h3 | exact gS_3 | (rw [s6_3]; exact gS_3)) (by first | assumption | exact gS_50 | (rw [s6_5]; exact gS_50)) (by first | omega | (simp only [gS_2, gS_4, gS_6, s6_2, s6_4, emS_268, sU_eq, List.length_append]; omega)) (by first | omega | (simp only [gS_2, gS_4, gS_6, s6_2, s6_4, emS_268, sU_eq, List.length_append]; omega)) (by first | omega | (simp only [gS_2, gS_4, gS_6, s6_2, s6_4, emS_268, sU_eq, List.length_append]; omega)) (by first | omega | (simp only [gS_2, gS_4, gS_6, s6_2, s6_4, emS_268, sU_eq, List.length_append]; omega))) rfl mw_recv (fun _ h => h) ⟨by decide, by decide⟩ rfl rfl ⟨by decide, by decide⟩ (rest := []) rfl (Nat.le_of_ble_eq_true rfl) (fun u7 => []) (fun _ => rfl) (fun u7 hu7 => ?_)
            rw [show (emS s ((sU (gS g (p + 1) true) 6 (g 6 + 1)) 2) (facF c 4 (p + 1)).2.2) = emS s (g 2) (facF c 4 (p + 1)).2.2 from by rw [s6_2, gS_2]]
            rw [show (gS (sU (gS g (p + 1) true) 6 (g 6 + 1)) (facF c 4 (p + 1)).1 (facF c 4 (p + 1)).2.1) = sU (gS g (facF c 4 (p + 1)).1 (facF c 4 (p + 1)).2.1) 6 (g 6 + 1) from by exact gS_s6]
            refine v_aload_n hG dX12_factor_83 rfl 1 rfl ?_
            refine v_iconst hG dX12_factor_84 ?_
            refine v_callV (k1' := 0) (k2' := 0) hG dX12_factor_85 zc_X12_emits ⟨zl_X12_81, zi_X12_emits, zs_X12_emits⟩ (fun l => k_emits l D A a (emS s (g 2) (facF c 4 (p + 1)).2.2) im fr bY tr ln bl bo (sU (gS g (facF c 4 (p + 1)).1 (facF c 4 (p + 1)).2.1) 6 (g 6 + 1)) lg (-1) (by first | omega | (simp only [gS_2, gS_4, gS_6, s6_2, s6_4, emS_268, sU_eq, List.length_append]; omega)) (by first | omega | (simp only [gS_2, gS_4, gS_6, s6_2, s6_4, emS_268, sU_eq, List.length_append]; omega)) (by rw [s6_5]; exact gS_01)) rfl mw_recv (fun _ h => h) ⟨by decide, by decide⟩ rfl rfl ⟨by decide, by decide⟩ (rest := []) rfl (Nat.le_of_ble_eq_true rfl) (fun u8 => []) (fun _ => rfl) (fun u8 hu8 => ?_)
            rw [show (if (sU (gS g (facF c 4 (p + 1)).1 (facF c 4 (p + 1)).2.1) 6 (g 6 + 1)) 5 = 0 then em1 (emS s (g 2) (facF c 4 (p + 1)).2.2) ((sU (gS g (facF c 4 (p + 1)).1 (facF c 4 (p + 1)).2.1) 6 (g 6 + 1)) 2) (-1) else (emS s (g 2) (facF c 4 (p + 1)).2.2)) = emS s (g 2) ((facF c 4 (p + 1)).2.2 ++ (if (facF c 4 (p + 1)).2.1 = true then [-1] else [])) from by exact emit_6]
            refine v_goto (tgt := 101) hG dX12_factor_88 (by decide) ?_
            refine v_aload_n hG dX12_factor_101 rfl 1 rfl ?_
            refine v_dup hG dX12_factor_102 rfl ?_
            refine mg_open (z := g 6 + 1) hG dX12_factor_103 rfl ?_
            refine v_iconst hG dX12_factor_106 ?_
            refine v_isub hG dX12_factor_107 ?_
            refine mp_open hG dX12_factor_108 ?_
            have hfc := fac_n (c := c) (o := 4) (p := p) (by assumption)
            have e9 : emS s (g 2) ((facF c 4 (p + 1)).2.2 ++ (if (facF c 4 (p + 1)).2.1 = true then [-1] else [])) = emS s (g 2) (facF c 5 p).2.2 := by first | (rw [hfc]; exact out6 (by first | omega | (rw [sU_eq]; omega))) | (rw [hfc]; rfl) | (rw [hfc])
            have e10 : sU (sU (gS g (facF c 4 (p + 1)).1 (facF c 4 (p + 1)).2.1) 6 (g 6 + 1)) 6 ((g 6 + 1) - 1) = gS g (facF c 5 p).1 (facF c 5 p).2.1 := by first | (rw [hfc]; exact out6 (by first | omega | (rw [sU_eq]; omega))) | (rw [hfc]; rfl) | (rw [hfc])
            exact v_return hG hR dX12_factor_111 () rfl (by trivial) (fun _ hM => by rw [← e9]; rw [← e10]; exact hM)
        · skip
          exfalso; omega
      · skip
        exfalso; omega
    · skip
      refine v_iload_n hG dX12_factor_19 rfl 0 rfl ?_
      refine v_bipush hG dX12_factor_20 (by decide) ?_
      refine v_icmp_ne (tgt := 112) hG dX12_factor_22 (by decide) (by omega) (by omega) (fun c11 => ?_) (fun c11 => ?_)
      · skip
        refine v_aload_n hG dX12_factor_112 rfl 1 rfl ?_
        refine v_ldcS (i := 1) (tx := "mkdxtv") hG dX12_factor_113 (by decide) ?_
        refine v_callV (k1' := 0) (k2' := 0) hG dX12_factor_115 zc_X12_among ⟨zl_X12_89, zi_X12_among, zs_X12_among⟩ (fun l => k_among l D A a s im fr bY tr ln bl bo g lg 1 (by first | assumption | decide) c p (by first | exact hTP | exact TP_gS hTP | exact TP_g (TP_gS hTP) s6_4 | exact TP_gS (TP_emS hTP (by omega) (by omega)) | exact TP_g (TP_gS (TP_emS hTP (by omega) (by omega))) s6_4) (by first | exact h3 | exact gS_3 | (rw [s6_3]; exact gS_3)) (by first | omega | (simp only [gS_2, gS_4, gS_6, s6_2, s6_4, emS_268, sU_eq, List.length_append]; omega))) rfl mw_recv (fun _ h => h) ⟨by decide, by decide⟩ rfl rfl ⟨by decide, by decide⟩ (rest := []) rfl (Nat.le_of_ble_eq_true rfl) (fun u12 => [vI (zix 1 (c p))]) (fun _ => rfl) (fun u12 hu12 => ?_)
        have fu12 : -1 ≤ zix 1 (c p) ∧ zix 1 (c p) ≤ 16 := hu12
        refine v_istore_n (lo' := [(2, vI (zix 1 (c p))), (1, vI (c p)), (0, .ref (a 0))]) hG dX12_factor_118 rfl (by decide) rfl ?_
        refine v_aload_n hG dX12_factor_119 rfl 2 rfl ?_
        refine v_iload_n hG dX12_factor_120 rfl 0 rfl ?_
        refine v_iconst hG dX12_factor_121 ?_
        refine v_icmp_ne (tgt := 129) hG dX12_factor_122 (by decide) (by omega) (by omega) (fun c13 => ?_) (fun c13 => ?_)
        · skip
          refine v_iconst hG dX12_factor_129 ?_
          refine mp_isWrong hG dX12_factor_130 (Or.inl rfl) ?_
          rw [show (sU (amG g p (zix 1 (c p))) 5 0) = gS g (p + 1) true from by exact am_y (by assumption)]
          have hg5 : gS g (p + 1) true 5 = 0 := gS_50
          have hlt := hTP.2.2.lt (p := p) (fun e => (by assumption : ¬ zix 1 (c p) = -1) (by rw [e]; exact zix_end (by decide)))
          refine v_aload_n hG dX12_factor_133 rfl 2 rfl ?_
          refine mg_isWrong (z := (gS g (p + 1) true) 5) hG dX12_factor_134 rfl ?_
          refine v_if_eq (tgt := 144) hG dX12_factor_137 (by decide) (by omega) (fun c14 => ?_) (fun c14 => ?_)
          · skip
            refine v_aload_n hG dX12_factor_144 rfl 2 rfl ?_
            refine v_ldcS (i := 2) (tx := "<=>") hG dX12_factor_145 (by decide) ?_
            refine v_callV (k1' := 0) (k2' := 0) hG dX12_factor_147 zc_X12_among ⟨zl_X12_89, zi_X12_among, zs_X12_among⟩ (fun l => k_among l D A a s im fr bY tr ln bl bo (gS g (p + 1) true) lg 2 (by first | assumption | decide) c (p + 1) (by first | exact hTP | exact TP_gS hTP | exact TP_g (TP_gS hTP) s6_4 | exact TP_gS (TP_emS hTP (by omega) (by omega)) | exact TP_g (TP_gS (TP_emS hTP (by omega) (by omega))) s6_4) (by first | exact h3 | exact gS_3 | (rw [s6_3]; exact gS_3)) (by first | omega | (simp only [gS_2, gS_4, gS_6, s6_2, s6_4, emS_268, sU_eq, List.length_append]; omega))) rfl mw_recv (fun _ h => h) ⟨by decide, by decide⟩ rfl rfl ⟨by decide, by decide⟩ (rest := []) rfl (Nat.le_of_ble_eq_true rfl) (fun u15 => [vI (zix 2 (c (p + 1)))]) (fun _ => rfl) (fun u15 hu15 => ?_)
            have fu15 : -1 ≤ zix 2 (c (p + 1)) ∧ zix 2 (c (p + 1)) ≤ 16 := hu15
            refine v_istore_n (lo' := [(3, vI (zix 2 (c (p + 1)))), (2, vI (zix 1 (c p))), (1, vI (c p)), (0, .ref (a 0))]) hG dX12_factor_150 rfl (by decide) rfl ?_
            have hg6 : (amG (gS g (p + 1) true) (p + 1) (zix 2 (c (p + 1)))) 5 = 0 := am_5.trans gS_50
            refine v_aload_n hG dX12_factor_151 rfl 3 rfl ?_
            refine v_aload_n hG dX12_factor_152 rfl 3 rfl ?_
            refine mg_isWrong (z := (amG (gS g (p + 1) true) (p + 1) (zix 2 (c (p + 1)))) 5) hG dX12_factor_153 rfl ?_
            refine v_if_ne (tgt := 164) hG dX12_factor_156 (by decide) (by omega) (fun c16 => ?_) (fun c16 => ?_)
            · skip
              exfalso; omega
            · skip
              refine v_iload_n hG dX12_factor_159 rfl 0 rfl ?_
              refine v_iconst hG dX12_factor_160 ?_
              refine v_icmp_ne (tgt := 168) hG dX12_factor_161 (by decide) (by omega) (by omega) (fun c17 => ?_) (fun c17 => ?_)
              · skip
                refine v_iconst hG dX12_factor_168 ?_
                refine mp_isWrong hG dX12_factor_169 (Or.inl rfl) ?_
                rw [show (sU (amG (gS g (p + 1) true) (p + 1) (zix 2 (c (p + 1)))) 5 0) = gS g (p + 2) true from by exact (am_y (by assumption)).trans gS_gS]
                have hlt2 := hTP.2.2.lt (p := p + 1) (fun e => (by assumption : ¬ zix 2 (c (p + 1)) = -1) (by rw [e]; exact zix_end (by decide)))
                refine v_aload_n hG dX12_factor_172 rfl 3 rfl ?_
                refine v_callV (k1' := 0) (k2' := 0) hG dX12_factor_173 zc_X12_figures ⟨zl_X12_95, zi_X12_figures, zs_X12_figures⟩ (fun l => k_figures l D A a s im fr bY tr ln bl bo (gS g (p + 2) true) lg c (p + 2) true (by first | exact hTP | exact TP_gS hTP | exact TP_g (TP_gS hTP) s6_4 | exact TP_gS (TP_emS hTP (by omega) (by omega)) | exact TP_g (TP_gS (TP_emS hTP (by omega) (by omega))) s6_4) (by first | exact h3 | exact gS_3 | (rw [s6_3]; exact gS_3)) (by first | exact gS_5 | (rw [s6_5]; exact gS_5)) (by first | omega | (simp only [gS_2, gS_4, gS_6, s6_2, s6_4, emS_268, sU_eq, List.length_append]; omega))) rfl mw_recv (fun _ h => h) ⟨by decide, by decide⟩ rfl rfl ⟨by decide, by decide⟩ (rest := []) rfl (Nat.le_of_ble_eq_true rfl) (fun u18 => [vI ((figF c ((p + 2), true)).2)]) (fun _ => rfl) (fun u18 hu18 => ?_)
                rw [show (gS (gS g (p + 2) true) (figF c ((p + 2), true)).1.1 (figF c ((p + 2), true)).1.2) = gS g (figF c ((p + 2), true)).1.1 (figF c ((p + 2), true)).1.2 from by exact gS_gS]
                refine v_istore (lo' := [(4, vI ((figF c ((p + 2), true)).2)), (3, vI (zix 2 (c (p + 1)))), (2, vI (zix 1 (c p))), (1, vI (c p)), (0, .ref (a 0))]) hG dX12_factor_176 (by decide) rfl ?_
                refine v_aload_n hG dX12_factor_178 rfl 4 rfl ?_
                refine v_iload_n hG dX12_factor_179 rfl 2 rfl ?_
                refine v_bipush hG dX12_factor_180 (by decide) ?_
                refine v_iload_n hG dX12_factor_182 rfl 1 rfl ?_
                refine v_imul hG dX12_factor_183 ?_
                refine v_iadd hG dX12_factor_184 ?_
                refine v_bipush hG dX12_factor_185 (by decide) ?_
                refine v_iload hG dX12_factor_187 0 rfl ?_
                refine v_imul hG dX12_factor_189 ?_
                refine v_iadd hG dX12_factor_190 ?_
                refine v_callV (k1' := 0) (k2' := 0) hG dX12_factor_191 zc_X12_emits ⟨zl_X12_81, zi_X12_emits, zs_X12_emits⟩ (fun l => k_emits l D A a s im fr bY tr ln bl bo (gS g (figF c ((p + 2), true)).1.1 (figF c ((p + 2), true)).1.2) lg (((zix 1 (c p)) + (8 * (zix 2 (c (p + 1))))) + (32 * ((figF c ((p + 2), true)).2))) (by first | omega | (simp only [gS_2, gS_4, gS_6, s6_2, s6_4, emS_268, sU_eq, List.length_append]; omega)) (by first | omega | (simp only [gS_2, gS_4, gS_6, s6_2, s6_4, emS_268, sU_eq, List.length_append]; omega)) (by exact gS_01)) rfl mw_recv (fun _ h => h) ⟨by decide, by decide⟩ rfl rfl ⟨by decide, by decide⟩ (rest := []) rfl (Nat.le_of_ble_eq_true rfl) (fun u19 => []) (fun _ => rfl) (fun u19 hu19 => ?_)
                rw [show (if (gS g (figF c ((p + 2), true)).1.1 (figF c ((p + 2), true)).1.2) 5 = 0 then em1 s ((gS g (figF c ((p + 2), true)).1.1 (figF c ((p + 2), true)).1.2) 2) (((zix 1 (c p)) + (8 * (zix 2 (c (p + 1))))) + (32 * ((figF c ((p + 2), true)).2))) else s) = emS s (g 2) (if (figF c (p + 2, true)).1.2 = true then [zix 1 (c p) + 8 * zix 2 (c (p + 1)) + 32 * (figF c (p + 2, true)).2] else []) from by exact emit_1]
                have hfc : facF c 5 p = atomF c p := fac_at (by assumption) (by assumption)
                have e20 : emS s (g 2) (if (figF c (p + 2, true)).1.2 = true then [zix 1 (c p) + 8 * zix 2 (c (p + 1)) + 32 * (figF c (p + 2, true)).2] else []) = emS s (g 2) (facF c 5 p).2.2 := by rw [hfc]; first | (rw [at_A (by assumption)]; done) | (rw [at_B (by assumption) (by assumption)]; done) | (rw [at_C (by assumption) (by assumption)]; done) | (rw [at_A (by assumption)]; rfl) | (rw [at_B (by assumption) (by assumption)]; rfl)
                have e21 : gS g (figF c ((p + 2), true)).1.1 (figF c ((p + 2), true)).1.2 = gS g (facF c 5 p).1 (facF c 5 p).2.1 := by rw [hfc]; first | (rw [at_A (by assumption)]; done) | (rw [at_B (by assumption) (by assumption)]; done) | (rw [at_C (by assumption) (by assumption)]; done) | (rw [at_A (by assumption)]; rfl) | (rw [at_B (by assumption) (by assumption)]; rfl)
                exact v_return hG hR dX12_factor_194 () rfl (by trivial) (fun _ hM => by rw [← e20]; rw [← e21]; exact hM)
              · skip
                refine v_iconst hG dX12_factor_164 ?_
                refine v_goto (tgt := 169) hG dX12_factor_165 (by decide) ?_
                refine mp_isWrong hG dX12_factor_169 (Or.inr rfl) ?_
                rw [show (sU (amG (gS g (p + 1) true) (p + 1) (zix 2 (c (p + 1)))) 5 1) = gS g (p + 1) false from by exact (am_n gS_3 (by assumption)).trans gS_gS]
                refine v_aload_n hG dX12_factor_172 rfl 3 rfl ?_
                refine v_callV (k1' := 0) (k2' := 0) hG dX12_factor_173 zc_X12_figures ⟨zl_X12_95, zi_X12_figures, zs_X12_figures⟩ (fun l => k_figures l D A a s im fr bY tr ln bl bo (gS g (p + 1) false) lg c (p + 1) false (by first | exact hTP | exact TP_gS hTP | exact TP_g (TP_gS hTP) s6_4 | exact TP_gS (TP_emS hTP (by omega) (by omega)) | exact TP_g (TP_gS (TP_emS hTP (by omega) (by omega))) s6_4) (by first | exact h3 | exact gS_3 | (rw [s6_3]; exact gS_3)) (by first | exact gS_5 | (rw [s6_5]; exact gS_5)) (by first | omega | (simp only [gS_2, gS_4, gS_6, s6_2, s6_4, emS_268, sU_eq, List.length_append]; omega))) rfl mw_recv (fun _ h => h) ⟨by decide, by decide⟩ rfl rfl ⟨by decide, by decide⟩ (rest := []) rfl (Nat.le_of_ble_eq_true rfl) (fun u22 => [vI ((figF c ((p + 1), false)).2)]) (fun _ => rfl) (fun u22 hu22 => ?_)
                rw [show (gS (gS g (p + 1) false) (figF c ((p + 1), false)).1.1 (figF c ((p + 1), false)).1.2) = gS g (figF c ((p + 1), false)).1.1 (figF c ((p + 1), false)).1.2 from by exact gS_gS]
                rw [figF_f]
                refine v_istore (lo' := [(4, vI 0), (3, vI (zix 2 (c (p + 1)))), (2, vI (zix 1 (c p))), (1, vI (c p)), (0, .ref (a 0))]) hG dX12_factor_176 (by decide) rfl ?_
                refine v_aload_n hG dX12_factor_178 rfl 4 rfl ?_
                refine v_iload_n hG dX12_factor_179 rfl 2 rfl ?_
                refine v_bipush hG dX12_factor_180 (by decide) ?_
                refine v_iload_n hG dX12_factor_182 rfl 1 rfl ?_
                refine v_imul hG dX12_factor_183 ?_
                refine v_iadd hG dX12_factor_184 ?_
                refine v_bipush hG dX12_factor_185 (by decide) ?_
                refine v_iload hG dX12_factor_187 0 rfl ?_
                refine v_imul hG dX12_factor_189 ?_
                refine v_iadd hG dX12_factor_190 ?_
                refine v_callV (k1' := 0) (k2' := 0) hG dX12_factor_191 zc_X12_emits ⟨zl_X12_81, zi_X12_emits, zs_X12_emits⟩ (fun l => k_emits l D A a s im fr bY tr ln bl bo (gS g (p + 1) false) lg (((zix 1 (c p)) + (8 * (zix 2 (c (p + 1))))) + (32 * 0)) (by first | omega | (simp only [gS_2, gS_4, gS_6, s6_2, s6_4, emS_268, sU_eq, List.length_append]; omega)) (by first | omega | (simp only [gS_2, gS_4, gS_6, s6_2, s6_4, emS_268, sU_eq, List.length_append]; omega)) (by exact gS_01)) rfl mw_recv (fun _ h => h) ⟨by decide, by decide⟩ rfl rfl ⟨by decide, by decide⟩ (rest := []) rfl (Nat.le_of_ble_eq_true rfl) (fun u23 => []) (fun _ => rfl) (fun u23 hu23 => ?_)
                rw [show (if (gS g (p + 1) false) 5 = 0 then em1 s ((gS g (p + 1) false) 2) (((zix 1 (c p)) + (8 * (zix 2 (c (p + 1))))) + (32 * 0)) else s) = s from by exact emit_n]
                have hfc : facF c 5 p = atomF c p := fac_at (by assumption) (by assumption)
                have e24 : s = emS s (g 2) (facF c 5 p).2.2 := by rw [hfc]; first | (rw [at_A (by assumption)]; done) | (rw [at_B (by assumption) (by assumption)]; done) | (rw [at_C (by assumption) (by assumption)]; done) | (rw [at_A (by assumption)]; rfl) | (rw [at_B (by assumption) (by assumption)]; rfl)
                have e25 : gS g (p + 1) false = gS g (facF c 5 p).1 (facF c 5 p).2.1 := by rw [hfc]; first | (rw [at_A (by assumption)]; done) | (rw [at_B (by assumption) (by assumption)]; done) | (rw [at_C (by assumption) (by assumption)]; done) | (rw [at_A (by assumption)]; rfl) | (rw [at_B (by assumption) (by assumption)]; rfl)
                exact v_return hG hR dX12_factor_194 () rfl (by trivial) (fun _ hM => by rw [← e24]; rw [← e25]; exact hM)
          · skip
            exfalso; omega
        · skip
          refine v_iconst hG dX12_factor_125 ?_
          refine v_goto (tgt := 130) hG dX12_factor_126 (by decide) ?_
          refine mp_isWrong hG dX12_factor_130 (Or.inr rfl) ?_
          rw [show (sU (amG g p (zix 1 (c p))) 5 1) = gS g p false from by exact am_n h3 (by assumption)]
          have hg5 : gS g p false 5 = 1 := gS_51
          refine v_aload_n hG dX12_factor_133 rfl 2 rfl ?_
          refine mg_isWrong (z := (gS g p false) 5) hG dX12_factor_134 rfl ?_
          refine v_if_eq (tgt := 144) hG dX12_factor_137 (by decide) (by omega) (fun c26 => ?_) (fun c26 => ?_)
          · skip
            exfalso; omega
          · skip
            refine v_iconst hG dX12_factor_140 ?_
            refine v_goto (tgt := 150) hG dX12_factor_141 (by decide) ?_
            refine v_istore_n (lo' := [(3, vI 0), (2, vI (zix 1 (c p))), (1, vI (c p)), (0, .ref (a 0))]) hG dX12_factor_150 rfl (by decide) rfl ?_
            refine v_aload_n hG dX12_factor_151 rfl 3 rfl ?_
            refine v_aload_n hG dX12_factor_152 rfl 3 rfl ?_
            refine mg_isWrong (z := (gS g p false) 5) hG dX12_factor_153 rfl ?_
            refine v_if_ne (tgt := 164) hG dX12_factor_156 (by decide) (by omega) (fun c27 => ?_) (fun c27 => ?_)
            · skip
              refine v_iconst hG dX12_factor_164 ?_
              refine v_goto (tgt := 169) hG dX12_factor_165 (by decide) ?_
              refine mp_isWrong hG dX12_factor_169 (Or.inr rfl) ?_
              rw [show (sU (gS g p false) 5 1) = gS g p false from by exact gS_s5]
              refine v_aload_n hG dX12_factor_172 rfl 3 rfl ?_
              refine v_callV (k1' := 0) (k2' := 0) hG dX12_factor_173 zc_X12_figures ⟨zl_X12_95, zi_X12_figures, zs_X12_figures⟩ (fun l => k_figures l D A a s im fr bY tr ln bl bo (gS g p false) lg c p false (by first | exact hTP | exact TP_gS hTP | exact TP_g (TP_gS hTP) s6_4 | exact TP_gS (TP_emS hTP (by omega) (by omega)) | exact TP_g (TP_gS (TP_emS hTP (by omega) (by omega))) s6_4) (by first | exact h3 | exact gS_3 | (rw [s6_3]; exact gS_3)) (by first | exact gS_5 | (rw [s6_5]; exact gS_5)) (by first | omega | (simp only [gS_2, gS_4, gS_6, s6_2, s6_4, emS_268, sU_eq, List.length_append]; omega))) rfl mw_recv (fun _ h => h) ⟨by decide, by decide⟩ rfl rfl ⟨by decide, by decide⟩ (rest := []) rfl (Nat.le_of_ble_eq_true rfl) (fun u28 => [vI ((figF c (p, false)).2)]) (fun _ => rfl) (fun u28 hu28 => ?_)
              rw [show (gS (gS g p false) (figF c (p, false)).1.1 (figF c (p, false)).1.2) = gS g (figF c (p, false)).1.1 (figF c (p, false)).1.2 from by exact gS_gS]
              rw [figF_f]
              refine v_istore (lo' := [(4, vI 0), (3, vI 0), (2, vI (zix 1 (c p))), (1, vI (c p)), (0, .ref (a 0))]) hG dX12_factor_176 (by decide) rfl ?_
              refine v_aload_n hG dX12_factor_178 rfl 4 rfl ?_
              refine v_iload_n hG dX12_factor_179 rfl 2 rfl ?_
              refine v_bipush hG dX12_factor_180 (by decide) ?_
              refine v_iload_n hG dX12_factor_182 rfl 1 rfl ?_
              refine v_imul hG dX12_factor_183 ?_
              refine v_iadd hG dX12_factor_184 ?_
              refine v_bipush hG dX12_factor_185 (by decide) ?_
              refine v_iload hG dX12_factor_187 0 rfl ?_
              refine v_imul hG dX12_factor_189 ?_
              refine v_iadd hG dX12_factor_190 ?_
              refine v_callV (k1' := 0) (k2' := 0) hG dX12_factor_191 zc_X12_emits ⟨zl_X12_81, zi_X12_emits, zs_X12_emits⟩ (fun l => k_emits l D A a s im fr bY tr ln bl bo (gS g p false) lg (((zix 1 (c p)) + (8 * 0)) + (32 * 0)) (by first | omega | (simp only [gS_2, gS_4, gS_6, s6_2, s6_4, emS_268, sU_eq, List.length_append]; omega)) (by first | omega | (simp only [gS_2, gS_4, gS_6, s6_2, s6_4, emS_268, sU_eq, List.length_append]; omega)) (by exact gS_01)) rfl mw_recv (fun _ h => h) ⟨by decide, by decide⟩ rfl rfl ⟨by decide, by decide⟩ (rest := []) rfl (Nat.le_of_ble_eq_true rfl) (fun u29 => []) (fun _ => rfl) (fun u29 hu29 => ?_)
              rw [show (if (gS g p false) 5 = 0 then em1 s ((gS g p false) 2) (((zix 1 (c p)) + (8 * 0)) + (32 * 0)) else s) = s from by exact emit_n]
              have hfc : facF c 5 p = atomF c p := fac_at (by assumption) (by assumption)
              have e30 : s = emS s (g 2) (facF c 5 p).2.2 := by rw [hfc]; first | (rw [at_A (by assumption)]; done) | (rw [at_B (by assumption) (by assumption)]; done) | (rw [at_C (by assumption) (by assumption)]; done) | (rw [at_A (by assumption)]; rfl) | (rw [at_B (by assumption) (by assumption)]; rfl)
              have e31 : gS g p false = gS g (facF c 5 p).1 (facF c 5 p).2.1 := by rw [hfc]; first | (rw [at_A (by assumption)]; done) | (rw [at_B (by assumption) (by assumption)]; done) | (rw [at_C (by assumption) (by assumption)]; done) | (rw [at_A (by assumption)]; rfl) | (rw [at_B (by assumption) (by assumption)]; rfl)
              exact v_return hG hR dX12_factor_194 () rfl (by trivial) (fun _ hM => by rw [← e30]; rw [← e31]; exact hM)
            · skip
              exfalso; omega
      · skip
        have hlt := hTP.2.2.lt (p := p) (by omega)
        refine v_aload_n hG dX12_factor_25 rfl 1 rfl ?_
        refine v_aload_n hG dX12_factor_26 rfl 1 rfl ?_
        refine mg_open (z := g 6) hG dX12_factor_27 rfl ?_
        refine v_iconst hG dX12_factor_30 ?_
        refine v_icmp_ne (tgt := 38) hG dX12_factor_31 (by decide) (by omega) (by omega) (fun c32 => ?_) (fun c32 => ?_)
        · skip
          refine v_iconst hG dX12_factor_38 ?_
          refine mp_isWrong hG dX12_factor_39 (Or.inl rfl) ?_
          refine v_aload_n hG dX12_factor_42 rfl 1 rfl ?_
          refine v_dup hG dX12_factor_43 rfl ?_
          refine mg_open (z := g 6) hG dX12_factor_44 rfl ?_
          refine v_iconst hG dX12_factor_47 ?_
          refine v_iadd hG dX12_factor_48 ?_
          refine mp_open hG dX12_factor_49 ?_
          refine v_aload_n hG dX12_factor_52 rfl 1 rfl ?_
          refine v_dup hG dX12_factor_53 rfl ?_
          refine mg_spot (z := g 3) hG dX12_factor_54 rfl ?_
          refine v_aload_n hG dX12_factor_57 rfl 1 rfl ?_
          refine mg_isWrong (z := 0) hG dX12_factor_58 rfl ?_
          refine v_if_eq (tgt := 68) hG dX12_factor_61 (by decide) (by omega) (fun c33 => ?_) (fun c33 => ?_)
          · skip
            refine v_iconst hG dX12_factor_68 ?_
            refine v_iadd hG dX12_factor_69 ?_
            refine mp_spot hG dX12_factor_70 ?_
            rw [show (sU (sU (sU g 5 0) 6 ((g 6) + 1)) 3 ((g 3) + 1)) = sU (gS g (p + 1) true) 6 (g 6 + 1) from by exact in6 h3]
            refine v_iload_n hG dX12_factor_73 rfl 0 rfl ?_
            refine v_bipush hG dX12_factor_74 (by decide) ?_
            refine v_icmp_ne (tgt := 91) hG dX12_factor_76 (by decide) (by omega) (by omega) (fun c34 => ?_) (fun c34 => ?_)
            · skip
              have hf1 := someF_rng hTP.2.2 (fun x hx => facF_rng hTP.2.2 4 x hx) (p := (p + 1)) (by omega)
              obtain ⟨hf11, hf12, hf13⟩ := id hf1
              refine v_aload_n hG dX12_factor_91 rfl 1 rfl ?_
              refine v_callV (k1' := 0) (k2' := 0) hG dX12_factor_92 zc_X12_some ⟨zl_X12_84, zi_X12_some, zs_X12_some⟩ (fun l => k_some4 l D A a s im fr bY tr ln bl bo (sU (gS g (p + 1) true) 6 (g 6 + 1)) lg c (p + 1) (by first | exact hTP | exact TP_gS hTP | exact TP_g (TP_gS hTP) s6_4 | exact TP_gS (TP_emS hTP (by omega) (by omega)) | exact TP_g (TP_gS (TP_emS hTP (by omega) (by omega))) s6_4) (by first | exact h3 | exact gS_3 | (rw [s6_3]; exact gS_3)) (by first | assumption | exact gS_50 | (rw [s6_5]; exact gS_50)) (by first | omega | (simp only [gS_2, gS_4, gS_6, s6_2, s6_4, emS_268, sU_eq, List.length_append]; omega)) (by first | omega | (simp only [gS_2, gS_4, gS_6, s6_2, s6_4, emS_268, sU_eq, List.length_append]; omega)) (by first | omega | (simp only [gS_2, gS_4, gS_6, s6_2, s6_4, emS_268, sU_eq, List.length_append]; omega)) (by first | omega | (simp only [gS_2, gS_4, gS_6, s6_2, s6_4, emS_268, sU_eq, List.length_append]; omega))) rfl mw_recv (fun _ h => h) ⟨by decide, by decide⟩ rfl rfl ⟨by decide, by decide⟩ (rest := []) rfl (Nat.le_of_ble_eq_true rfl) (fun u35 => []) (fun _ => rfl) (fun u35 hu35 => ?_)
              rw [show (emS s ((sU (gS g (p + 1) true) 6 (g 6 + 1)) 2) (someF (facF c 4) c (p + 1)).2.2) = emS s (g 2) (someF (facF c 4) c (p + 1)).2.2 from by rw [s6_2, gS_2]]
              rw [show (gS (sU (gS g (p + 1) true) 6 (g 6 + 1)) (someF (facF c 4) c (p + 1)).1 (someF (facF c 4) c (p + 1)).2.1) = sU (gS g (someF (facF c 4) c (p + 1)).1 (someF (facF c 4) c (p + 1)).2.1) 6 (g 6 + 1) from by exact gS_s6]
              refine v_aload_n hG dX12_factor_95 rfl 1 rfl ?_
              refine v_bipush hG dX12_factor_96 (by decide) ?_
              refine v_callV (k1' := 0) (k2' := 0) hG dX12_factor_98 zc_X12_must ⟨zl_X12_68, zi_X12_must, zs_X12_must⟩ (fun l => k_must l D A a (emS s (g 2) (someF (facF c 4) c (p + 1)).2.2) im fr bY tr ln bl bo (sU (gS g (someF (facF c 4) c (p + 1)).1 (someF (facF c 4) c (p + 1)).2.1) 6 (g 6 + 1)) lg 41 c ((someF (facF c 4) c (p + 1)).1) ((someF (facF c 4) c (p + 1)).2.1) (by first | exact hTP | exact TP_gS hTP | exact TP_g (TP_gS hTP) s6_4 | exact TP_gS (TP_emS hTP (by omega) (by omega)) | exact TP_g (TP_gS (TP_emS hTP (by omega) (by omega))) s6_4) (by first | exact h3 | exact gS_3 | (rw [s6_3]; exact gS_3)) (by first | exact gS_5 | (rw [s6_5]; exact gS_5)) (by first | omega | (simp only [gS_2, gS_4, gS_6, s6_2, s6_4, emS_268, sU_eq, List.length_append]; omega)) (by omega)) rfl mw_recv (fun _ h => h) ⟨by decide, by decide⟩ rfl rfl ⟨by decide, by decide⟩ (rest := []) rfl (Nat.le_of_ble_eq_true rfl) (fun u36 => []) (fun _ => rfl) (fun u36 hu36 => ?_)
              rw [show (gS (sU (gS g (someF (facF c 4) c (p + 1)).1 (someF (facF c 4) c (p + 1)).2.1) 6 (g 6 + 1)) (mustF c 41 (((someF (facF c 4) c (p + 1)).1), ((someF (facF c 4) c (p + 1)).2.1))).1 (mustF c 41 (((someF (facF c 4) c (p + 1)).1), ((someF (facF c 4) c (p + 1)).2.1))).2) = sU (gS g (mustF c 41 ((someF (facF c 4) c (p + 1)).1, (someF (facF c 4) c (p + 1)).2.1)).1 (mustF c 41 ((someF (facF c 4) c (p + 1)).1, (someF (facF c 4) c (p + 1)).2.1)).2) 6 (g 6 + 1) from by exact gS_s6]
              refine v_aload_n hG dX12_factor_101 rfl 1 rfl ?_
              refine v_dup hG dX12_factor_102 rfl ?_
              refine mg_open (z := g 6 + 1) hG dX12_factor_103 rfl ?_
              refine v_iconst hG dX12_factor_106 ?_
              refine v_isub hG dX12_factor_107 ?_
              refine mp_open hG dX12_factor_108 ?_
              have hfc := fac_p (c := c) (o := 4) (p := p) (by assumption)
              have e37 : emS s (g 2) (someF (facF c 4) c (p + 1)).2.2 = emS s (g 2) (facF c 5 p).2.2 := by first | (rw [hfc]; exact out6 (by first | omega | (rw [sU_eq]; omega))) | (rw [hfc]; rfl) | (rw [hfc])
              have e38 : sU (sU (gS g (mustF c 41 ((someF (facF c 4) c (p + 1)).1, (someF (facF c 4) c (p + 1)).2.1)).1 (mustF c 41 ((someF (facF c 4) c (p + 1)).1, (someF (facF c 4) c (p + 1)).2.1)).2) 6 (g 6 + 1)) 6 ((g 6 + 1) - 1) = gS g (facF c 5 p).1 (facF c 5 p).2.1 := by first | (rw [hfc]; exact out6 (by first | omega | (rw [sU_eq]; omega))) | (rw [hfc]; rfl) | (rw [hfc])
              exact v_return hG hR dX12_factor_111 () rfl (by trivial) (fun _ hM => by rw [← e37]; rw [← e38]; exact hM)
            · skip
              have hf1 := facF_rng hTP.2.2 4 (p + 1) (by omega)
              obtain ⟨hf11, hf12, hf13⟩ := id hf1
              refine v_aload_n hG dX12_factor_79 rfl 1 rfl ?_
              refine v_callV (k1' := 0) (k2' := 0) hG dX12_factor_80 zc_X12_factor ⟨zl_X12_78, zi_X12_factor, zs_X12_factor⟩ (fun l => k_factor4 l D A a s im fr bY tr ln bl bo (sU (gS g (p + 1) true) 6 (g 6 + 1)) lg c (p + 1) (by first | exact hTP | exact TP_gS hTP | exact TP_g (TP_gS hTP) s6_4 | exact TP_gS (TP_emS hTP (by omega) (by omega)) | exact TP_g (TP_gS (TP_emS hTP (by omega) (by omega))) s6_4) (by first | exact h3 | exact gS_3 | (rw [s6_3]; exact gS_3)) (by first | assumption | exact gS_50 | (rw [s6_5]; exact gS_50)) (by first | omega | (simp only [gS_2, gS_4, gS_6, s6_2, s6_4, emS_268, sU_eq, List.length_append]; omega)) (by first | omega | (simp only [gS_2, gS_4, gS_6, s6_2, s6_4, emS_268, sU_eq, List.length_append]; omega)) (by first | omega | (simp only [gS_2, gS_4, gS_6, s6_2, s6_4, emS_268, sU_eq, List.length_append]; omega)) (by first | omega | (simp only [gS_2, gS_4, gS_6, s6_2, s6_4, emS_268, sU_eq, List.length_append]; omega))) rfl mw_recv (fun _ h => h) ⟨by decide, by decide⟩ rfl rfl ⟨by decide, by decide⟩ (rest := []) rfl (Nat.le_of_ble_eq_true rfl) (fun u39 => []) (fun _ => rfl) (fun u39 hu39 => ?_)
              rw [show (emS s ((sU (gS g (p + 1) true) 6 (g 6 + 1)) 2) (facF c 4 (p + 1)).2.2) = emS s (g 2) (facF c 4 (p + 1)).2.2 from by rw [s6_2, gS_2]]
              rw [show (gS (sU (gS g (p + 1) true) 6 (g 6 + 1)) (facF c 4 (p + 1)).1 (facF c 4 (p + 1)).2.1) = sU (gS g (facF c 4 (p + 1)).1 (facF c 4 (p + 1)).2.1) 6 (g 6 + 1) from by exact gS_s6]
              refine v_aload_n hG dX12_factor_83 rfl 1 rfl ?_
              refine v_iconst hG dX12_factor_84 ?_
              refine v_callV (k1' := 0) (k2' := 0) hG dX12_factor_85 zc_X12_emits ⟨zl_X12_81, zi_X12_emits, zs_X12_emits⟩ (fun l => k_emits l D A a (emS s (g 2) (facF c 4 (p + 1)).2.2) im fr bY tr ln bl bo (sU (gS g (facF c 4 (p + 1)).1 (facF c 4 (p + 1)).2.1) 6 (g 6 + 1)) lg (-1) (by first | omega | (simp only [gS_2, gS_4, gS_6, s6_2, s6_4, emS_268, sU_eq, List.length_append]; omega)) (by first | omega | (simp only [gS_2, gS_4, gS_6, s6_2, s6_4, emS_268, sU_eq, List.length_append]; omega)) (by rw [s6_5]; exact gS_01)) rfl mw_recv (fun _ h => h) ⟨by decide, by decide⟩ rfl rfl ⟨by decide, by decide⟩ (rest := []) rfl (Nat.le_of_ble_eq_true rfl) (fun u40 => []) (fun _ => rfl) (fun u40 hu40 => ?_)
              rw [show (if (sU (gS g (facF c 4 (p + 1)).1 (facF c 4 (p + 1)).2.1) 6 (g 6 + 1)) 5 = 0 then em1 (emS s (g 2) (facF c 4 (p + 1)).2.2) ((sU (gS g (facF c 4 (p + 1)).1 (facF c 4 (p + 1)).2.1) 6 (g 6 + 1)) 2) (-1) else (emS s (g 2) (facF c 4 (p + 1)).2.2)) = emS s (g 2) ((facF c 4 (p + 1)).2.2 ++ (if (facF c 4 (p + 1)).2.1 = true then [-1] else [])) from by exact emit_6]
              refine v_goto (tgt := 101) hG dX12_factor_88 (by decide) ?_
              refine v_aload_n hG dX12_factor_101 rfl 1 rfl ?_
              refine v_dup hG dX12_factor_102 rfl ?_
              refine mg_open (z := g 6 + 1) hG dX12_factor_103 rfl ?_
              refine v_iconst hG dX12_factor_106 ?_
              refine v_isub hG dX12_factor_107 ?_
              refine mp_open hG dX12_factor_108 ?_
              have hfc := fac_n (c := c) (o := 4) (p := p) (by assumption)
              have e41 : emS s (g 2) ((facF c 4 (p + 1)).2.2 ++ (if (facF c 4 (p + 1)).2.1 = true then [-1] else [])) = emS s (g 2) (facF c 5 p).2.2 := by first | (rw [hfc]; exact out6 (by first | omega | (rw [sU_eq]; omega))) | (rw [hfc]; rfl) | (rw [hfc])
              have e42 : sU (sU (gS g (facF c 4 (p + 1)).1 (facF c 4 (p + 1)).2.1) 6 (g 6 + 1)) 6 ((g 6 + 1) - 1) = gS g (facF c 5 p).1 (facF c 5 p).2.1 := by first | (rw [hfc]; exact out6 (by first | omega | (rw [sU_eq]; omega))) | (rw [hfc]; rfl) | (rw [hfc])
              exact v_return hG hR dX12_factor_111 () rfl (by trivial) (fun _ hM => by rw [← e41]; rw [← e42]; exact hM)
          · skip
            exfalso; omega
        · skip
          exfalso; omega
  · skip
    exfalso; omega
set_option maxHeartbeats 4000000 in
set_option maxRecDepth 100000 in
theorem k_every5 (l : Launch) (D : Dx) (A : Nat → Prop) (a : Nat → Nat) (s im fr bY tr ln bl bo g lg : Int → Int) (c : Nat → Int) (p : Nat) (hTP : TP s g c) (h3 : g 3 = (p : Int)) (h5z : g 5 = 0) (hpe : (p : Int) ≤ g 4) (hA : 0 ≤ g 2 ∧ g 2 ≤ 4) (hs : 0 ≤ s (268 + g 2) ∧ s (268 + g 2) ≤ (p : Int)) (h6 : g 6 = 0) : CT l D A yX12_every cX12_every 1 none { frames := 24, cells := 0, slots := 0, locals := 531 } [.ref (a 0)] (MW D A a s im fr bY tr ln bl bo g lg) (fun _ : Unit => none) (fun _ => True) (fun _ => MW D A a (emS s (g 2) (everyF (facF c 5) c p).2.2) im fr bY tr ln bl bo (gS g (everyF (facF c 5) c p).1 (everyF (facF c 5) c p).2.1) lg) := by
  refine ct_of (lo0 := [(0, .ref (a 0))]) (by decide) (Nat.le_of_ble_eq_true rfl) rfl ?_
  intro G hG hR
  have hT1 := hTP.1
  have hrb := everyF_rng hTP.2.2 (fun x hx => facF_rng hTP.2.2 5 x hx) (p := p) (by omega)
  refine v_aload_n hG dX12_every_0 rfl 0 rfl ?_
  refine v_callV (k1' := 0) (k2' := 0) hG dX12_every_1 zc_X12_factor ⟨zl_X12_78, zi_X12_factor, zs_X12_factor⟩ (fun l => k_factor5 l D A a s im fr bY tr ln bl bo g lg c p (by first | exact hTP | exact TP_gS hTP | exact TP_g (TP_gS hTP) s6_4 | exact TP_gS (TP_emS hTP (by omega) (by omega)) | exact TP_g (TP_gS (TP_emS hTP (by omega) (by omega))) s6_4) (by first | exact h3 | exact gS_3 | (rw [s6_3]; exact gS_3)) (by first | assumption | exact gS_50 | (rw [s6_5]; exact gS_50)) (by first | omega | (simp only [gS_2, gS_4, gS_6, s6_2, s6_4, emS_268, sU_eq, List.length_append]; omega)) (by first | omega | (simp only [gS_2, gS_4, gS_6, s6_2, s6_4, emS_268, sU_eq, List.length_append]; omega)) (by first | omega | (simp only [gS_2, gS_4, gS_6, s6_2, s6_4, emS_268, sU_eq, List.length_append]; omega)) (by first | omega | (simp only [gS_2, gS_4, gS_6, s6_2, s6_4, emS_268, sU_eq, List.length_append]; omega))) rfl mw_recv (fun _ h => h) ⟨by decide, by decide⟩ rfl rfl ⟨by decide, by decide⟩ (rest := []) rfl (Nat.le_of_ble_eq_true rfl) (fun u1 => []) (fun _ => rfl) (fun u1 hu1 => ?_)
  have hfp := facF_rng hTP.2.2 5 p (by omega)
  have L4 : ∀ mz : Nat, ∀ (F : Nat) (r : R3), (everyF (facF c 5) c p = evL (facF c 5) c 38 (-2) F r) → (RB (g 4).toNat p r) → (101 ≤ F + r.1) → F = mz → ∀ x2 : Int → Int, x2 = (emS s (g 2) r.2.2) → ∀ x3 : Int → Int, x3 = (gS g r.1 r.2.1) → V G 0 0 (MW D A a x2 im fr bY tr ln bl bo x3 lg) 4 [(0, .ref (a 0))] [] := by
    intro dL4
    induction dL4 using Nat.strongRecOn with
    | ind dL4 ihL4 =>
      intro F r hq5 hq6 hq7 hq8
      intro x2 hx2
      subst hx2
      intro x3 hx3
      subst hx3
      have hg5 : gS g r.1 r.2.1 5 = (if r.2.1 then 0 else 1) := gS_5
      have hg01 := gS_01 (g := g) (p := r.1) (ok := r.2.1)
      obtain ⟨hr1, hr2, hr3⟩ := id ‹RB (g 4).toNat p r›
      refine v_aload_n hG dX12_every_4 rfl 0 rfl ?_
      refine mg_isWrong (z := (gS g r.1 r.2.1) 5) hG dX12_every_5 rfl ?_
      refine v_if_ne (tgt := 43) hG dX12_every_8 (by decide) (by omega) (fun c9 => ?_) (fun c9 => ?_)
      · skip
        have hst : everyF (facF c 5) c p = r := ‹everyF (facF c 5) c p = evL (facF c 5) c 38 (-2) F r›.trans (evL_stop (by first | exact Or.inl (ok_f hg5 (by assumption)) | exact Or.inr (by assumption)))
        have e10 : emS s (g 2) r.2.2 = emS s (g 2) (everyF (facF c 5) c p).2.2 := by rw [hst]
        have e11 : gS g r.1 r.2.1 = gS g (everyF (facF c 5) c p).1 (everyF (facF c 5) c p).2.1 := by rw [hst]
        exact v_return hG hR dX12_every_43 () rfl (by trivial) (fun _ hM => by rw [← e10]; rw [← e11]; exact hM)
      · skip
        refine v_aload_n hG dX12_every_11 rfl 0 rfl ?_
        refine v_callV (k1' := 0) (k2' := 0) hG dX12_every_12 zc_X12_here ⟨zl_X12_55, zi_X12_here, zs_X12_here⟩ (fun l => k_here l D A a (emS s (g 2) r.2.2) im fr bY tr ln bl bo (gS g r.1 r.2.1) lg c r.1 (by first | exact hTP | exact TP_gS hTP | exact TP_g (TP_gS hTP) s6_4 | exact TP_gS (TP_emS hTP (by omega) (by omega)) | exact TP_g (TP_gS (TP_emS hTP (by omega) (by omega))) s6_4) (by first | exact h3 | exact gS_3 | (rw [s6_3]; exact gS_3)) (by first | omega | (simp only [gS_2, gS_4, gS_6, s6_2, s6_4, emS_268, sU_eq, List.length_append]; omega))) rfl mw_recv (fun _ h => h) ⟨by decide, by decide⟩ rfl rfl ⟨by decide, by decide⟩ (rest := []) rfl (Nat.le_of_ble_eq_true rfl) (fun u12 => [vI (c r.1)]) (fun _ => rfl) (fun u12 hu12 => ?_)
        have fu12 : -1 ≤ c r.1 ∧ c r.1 ≤ 127 := hu12
        refine v_bipush hG dX12_every_15 (by decide) ?_
        refine v_icmp_ne (tgt := 43) hG dX12_every_17 (by decide) (by omega) (by omega) (fun c13 => ?_) (fun c13 => ?_)
        · skip
          have hst : everyF (facF c 5) c p = r := ‹everyF (facF c 5) c p = evL (facF c 5) c 38 (-2) F r›.trans (evL_stop (by first | exact Or.inl (ok_f hg5 (by assumption)) | exact Or.inr (by assumption)))
          have e14 : emS s (g 2) r.2.2 = emS s (g 2) (everyF (facF c 5) c p).2.2 := by rw [hst]
          have e15 : gS g r.1 r.2.1 = gS g (everyF (facF c 5) c p).1 (everyF (facF c 5) c p).2.1 := by rw [hst]
          exact v_return hG hR dX12_every_43 () rfl (by trivial) (fun _ hM => by rw [← e14]; rw [← e15]; exact hM)
        · skip
          have hok : r.2.1 = true := ok_t hg5 (by omega)
          have hlt := hTP.2.2.lt (p := r.1) (by omega)
          have hf1 := facF_rng hTP.2.2 5 (r.1 + 1) (by omega)
          obtain ⟨hf11, hf12, hf13⟩ := id hf1
          refine v_aload_n hG dX12_every_20 rfl 0 rfl ?_
          refine v_dup hG dX12_every_21 rfl ?_
          refine mg_spot (z := (gS g r.1 r.2.1) 3) hG dX12_every_22 rfl ?_
          refine v_iconst hG dX12_every_25 ?_
          refine v_iadd hG dX12_every_26 ?_
          refine mp_spot hG dX12_every_27 ?_
          rw [show (sU (gS g r.1 r.2.1) 3 (((gS g r.1 r.2.1) 3) + 1)) = gS g (r.1 + 1) true from by exact sp1 hok]
          refine v_aload_n hG dX12_every_30 rfl 0 rfl ?_
          refine v_callV (k1' := 0) (k2' := 0) hG dX12_every_31 zc_X12_factor ⟨zl_X12_78, zi_X12_factor, zs_X12_factor⟩ (fun l => k_factor5 l D A a (emS s (g 2) r.2.2) im fr bY tr ln bl bo (gS g (r.1 + 1) true) lg c (r.1 + 1) (by first | exact hTP | exact TP_gS hTP | exact TP_g (TP_gS hTP) s6_4 | exact TP_gS (TP_emS hTP (by omega) (by omega)) | exact TP_g (TP_gS (TP_emS hTP (by omega) (by omega))) s6_4) (by first | exact h3 | exact gS_3 | (rw [s6_3]; exact gS_3)) (by first | assumption | exact gS_50 | (rw [s6_5]; exact gS_50)) (by first | omega | (simp only [gS_2, gS_4, gS_6, s6_2, s6_4, emS_268, sU_eq, List.length_append]; omega)) (by first | omega | (simp only [gS_2, gS_4, gS_6, s6_2, s6_4, emS_268, sU_eq, List.length_append]; omega)) (by first | omega | (simp only [gS_2, gS_4, gS_6, s6_2, s6_4, emS_268, sU_eq, List.length_append]; omega)) (by first | omega | (simp only [gS_2, gS_4, gS_6, s6_2, s6_4, emS_268, sU_eq, List.length_append]; omega))) rfl mw_recv (fun _ h => h) ⟨by decide, by decide⟩ rfl rfl ⟨by decide, by decide⟩ (rest := []) rfl (Nat.le_of_ble_eq_true rfl) (fun u16 => []) (fun _ => rfl) (fun u16 hu16 => ?_)
          rw [show (emS (emS s (g 2) r.2.2) ((gS g (r.1 + 1) true) 2) (facF c 5 (r.1 + 1)).2.2) = emS s (g 2) (r.2.2 ++ ((facF c 5) (r.1 + 1)).2.2) from by rw [gS_2]; exact emS_app]
          rw [show (gS (gS g (r.1 + 1) true) (facF c 5 (r.1 + 1)).1 (facF c 5 (r.1 + 1)).2.1) = gS g ((facF c 5) (r.1 + 1)).1 ((facF c 5) (r.1 + 1)).2.1 from by exact gS_gS]
          refine v_aload_n hG dX12_every_34 rfl 0 rfl ?_
          refine v_bipush hG dX12_every_35 (by decide) ?_
          refine v_callV (k1' := 0) (k2' := 0) hG dX12_every_37 zc_X12_emits ⟨zl_X12_81, zi_X12_emits, zs_X12_emits⟩ (fun l => k_emits l D A a (emS s (g 2) (r.2.2 ++ ((facF c 5) (r.1 + 1)).2.2)) im fr bY tr ln bl bo (gS g ((facF c 5) (r.1 + 1)).1 ((facF c 5) (r.1 + 1)).2.1) lg (-2) (by first | omega | (simp only [gS_2, gS_4, gS_6, s6_2, s6_4, emS_268, sU_eq, List.length_append]; omega)) (by first | omega | (simp only [gS_2, gS_4, gS_6, s6_2, s6_4, emS_268, sU_eq, List.length_append]; omega)) (by exact gS_01)) rfl mw_recv (fun _ h => h) ⟨by decide, by decide⟩ rfl rfl ⟨by decide, by decide⟩ (rest := []) rfl (Nat.le_of_ble_eq_true rfl) (fun u17 => []) (fun _ => rfl) (fun u17 hu17 => ?_)
          rw [show (if (gS g ((facF c 5) (r.1 + 1)).1 ((facF c 5) (r.1 + 1)).2.1) 5 = 0 then em1 (emS s (g 2) (r.2.2 ++ ((facF c 5) (r.1 + 1)).2.2)) ((gS g ((facF c 5) (r.1 + 1)).1 ((facF c 5) (r.1 + 1)).2.1) 2) (-2) else (emS s (g 2) (r.2.2 ++ ((facF c 5) (r.1 + 1)).2.2))) = emS s (g 2) ((((facF c 5) (r.1 + 1)).1, ((facF c 5) (r.1 + 1)).2.1, r.2.2 ++ ((facF c 5) (r.1 + 1)).2.2 ++ (if ((facF c 5) (r.1 + 1)).2.1 = true then [(-2)] else []))).2.2 from by exact emit_l]
          refine v_goto (tgt := 4) hG dX12_every_40 (by decide) ?_
          exact ihL4 _ (by omega) (F - 1) (((facF c 5) (r.1 + 1)).1, ((facF c 5) (r.1 + 1)).2.1, r.2.2 ++ ((facF c 5) (r.1 + 1)).2.2 ++ (if ((facF c 5) (r.1 + 1)).2.1 = true then [(-2)] else [])) (by exact ‹everyF (facF c 5) c p = evL (facF c 5) c 38 (-2) F r›.trans (evL_go (by omega) hok (by assumption))) (by exact RB_go (by assumption) hf1) (by show 101 ≤ F - 1 + ((facF c 5) (r.1 + 1)).1; omega) rfl _ (by rfl) _ (by rfl)
  exact L4 _ 101 ((facF c 5) p) (by rfl) (by exact hfp) (by omega) rfl _ (by rfl) _ (by rfl)
set_option maxHeartbeats 4000000 in
set_option maxRecDepth 100000 in
theorem k_some5 (l : Launch) (D : Dx) (A : Nat → Prop) (a : Nat → Nat) (s im fr bY tr ln bl bo g lg : Int → Int) (c : Nat → Int) (p : Nat) (hTP : TP s g c) (h3 : g 3 = (p : Int)) (h5z : g 5 = 0) (hpe : (p : Int) ≤ g 4) (hA : 0 ≤ g 2 ∧ g 2 ≤ 4) (hs : 0 ≤ s (268 + g 2) ∧ s (268 + g 2) ≤ (p : Int)) (h6 : g 6 = 0) : CT l D A yX12_some cX12_some 1 none { frames := 25, cells := 0, slots := 0, locals := 551 } [.ref (a 0)] (MW D A a s im fr bY tr ln bl bo g lg) (fun _ : Unit => none) (fun _ => True) (fun _ => MW D A a (emS s (g 2) (someF (facF c 5) c p).2.2) im fr bY tr ln bl bo (gS g (someF (facF c 5) c p).1 (someF (facF c 5) c p).2.1) lg) := by
  refine ct_of (lo0 := [(0, .ref (a 0))]) (by decide) (Nat.le_of_ble_eq_true rfl) rfl ?_
  intro G hG hR
  have hT1 := hTP.1
  have hrb := someF_rng hTP.2.2 (fun x hx => facF_rng hTP.2.2 5 x hx) (p := p) (by omega)
  refine v_aload_n hG dX12_some_0 rfl 0 rfl ?_
  refine v_callV (k1' := 0) (k2' := 0) hG dX12_some_1 zc_X12_every ⟨zl_X12_98, zi_X12_every, zs_X12_every⟩ (fun l => k_every5 l D A a s im fr bY tr ln bl bo g lg c p (by first | exact hTP | exact TP_gS hTP | exact TP_g (TP_gS hTP) s6_4 | exact TP_gS (TP_emS hTP (by omega) (by omega)) | exact TP_g (TP_gS (TP_emS hTP (by omega) (by omega))) s6_4) (by first | exact h3 | exact gS_3 | (rw [s6_3]; exact gS_3)) (by first | assumption | exact gS_50 | (rw [s6_5]; exact gS_50)) (by first | omega | (simp only [gS_2, gS_4, gS_6, s6_2, s6_4, emS_268, sU_eq, List.length_append]; omega)) (by first | omega | (simp only [gS_2, gS_4, gS_6, s6_2, s6_4, emS_268, sU_eq, List.length_append]; omega)) (by first | omega | (simp only [gS_2, gS_4, gS_6, s6_2, s6_4, emS_268, sU_eq, List.length_append]; omega)) (by first | omega | (simp only [gS_2, gS_4, gS_6, s6_2, s6_4, emS_268, sU_eq, List.length_append]; omega))) rfl mw_recv (fun _ h => h) ⟨by decide, by decide⟩ rfl rfl ⟨by decide, by decide⟩ (rest := []) rfl (Nat.le_of_ble_eq_true rfl) (fun u1 => []) (fun _ => rfl) (fun u1 hu1 => ?_)
  have hfp := everyF_rng hTP.2.2 (fun x hx => facF_rng hTP.2.2 5 x hx) (p := p) (by omega)
  have L4 : ∀ mz : Nat, ∀ (F : Nat) (r : R3), (someF (facF c 5) c p = evL (everyF (facF c 5) c) c 124 (-3) F r) → (RB (g 4).toNat p r) → (101 ≤ F + r.1) → F = mz → ∀ x2 : Int → Int, x2 = (emS s (g 2) r.2.2) → ∀ x3 : Int → Int, x3 = (gS g r.1 r.2.1) → V G 0 0 (MW D A a x2 im fr bY tr ln bl bo x3 lg) 4 [(0, .ref (a 0))] [] := by
    intro dL4
    induction dL4 using Nat.strongRecOn with
    | ind dL4 ihL4 =>
      intro F r hq5 hq6 hq7 hq8
      intro x2 hx2
      subst hx2
      intro x3 hx3
      subst hx3
      have hg5 : gS g r.1 r.2.1 5 = (if r.2.1 then 0 else 1) := gS_5
      have hg01 := gS_01 (g := g) (p := r.1) (ok := r.2.1)
      obtain ⟨hr1, hr2, hr3⟩ := id ‹RB (g 4).toNat p r›
      refine v_aload_n hG dX12_some_4 rfl 0 rfl ?_
      refine mg_isWrong (z := (gS g r.1 r.2.1) 5) hG dX12_some_5 rfl ?_
      refine v_if_ne (tgt := 43) hG dX12_some_8 (by decide) (by omega) (fun c9 => ?_) (fun c9 => ?_)
      · skip
        have hst : someF (facF c 5) c p = r := ‹someF (facF c 5) c p = evL (everyF (facF c 5) c) c 124 (-3) F r›.trans (evL_stop (by first | exact Or.inl (ok_f hg5 (by assumption)) | exact Or.inr (by assumption)))
        have e10 : emS s (g 2) r.2.2 = emS s (g 2) (someF (facF c 5) c p).2.2 := by rw [hst]
        have e11 : gS g r.1 r.2.1 = gS g (someF (facF c 5) c p).1 (someF (facF c 5) c p).2.1 := by rw [hst]
        exact v_return hG hR dX12_some_43 () rfl (by trivial) (fun _ hM => by rw [← e10]; rw [← e11]; exact hM)
      · skip
        refine v_aload_n hG dX12_some_11 rfl 0 rfl ?_
        refine v_callV (k1' := 0) (k2' := 0) hG dX12_some_12 zc_X12_here ⟨zl_X12_55, zi_X12_here, zs_X12_here⟩ (fun l => k_here l D A a (emS s (g 2) r.2.2) im fr bY tr ln bl bo (gS g r.1 r.2.1) lg c r.1 (by first | exact hTP | exact TP_gS hTP | exact TP_g (TP_gS hTP) s6_4 | exact TP_gS (TP_emS hTP (by omega) (by omega)) | exact TP_g (TP_gS (TP_emS hTP (by omega) (by omega))) s6_4) (by first | exact h3 | exact gS_3 | (rw [s6_3]; exact gS_3)) (by first | omega | (simp only [gS_2, gS_4, gS_6, s6_2, s6_4, emS_268, sU_eq, List.length_append]; omega))) rfl mw_recv (fun _ h => h) ⟨by decide, by decide⟩ rfl rfl ⟨by decide, by decide⟩ (rest := []) rfl (Nat.le_of_ble_eq_true rfl) (fun u12 => [vI (c r.1)]) (fun _ => rfl) (fun u12 hu12 => ?_)
        have fu12 : -1 ≤ c r.1 ∧ c r.1 ≤ 127 := hu12
        refine v_bipush hG dX12_some_15 (by decide) ?_
        refine v_icmp_ne (tgt := 43) hG dX12_some_17 (by decide) (by omega) (by omega) (fun c13 => ?_) (fun c13 => ?_)
        · skip
          have hst : someF (facF c 5) c p = r := ‹someF (facF c 5) c p = evL (everyF (facF c 5) c) c 124 (-3) F r›.trans (evL_stop (by first | exact Or.inl (ok_f hg5 (by assumption)) | exact Or.inr (by assumption)))
          have e14 : emS s (g 2) r.2.2 = emS s (g 2) (someF (facF c 5) c p).2.2 := by rw [hst]
          have e15 : gS g r.1 r.2.1 = gS g (someF (facF c 5) c p).1 (someF (facF c 5) c p).2.1 := by rw [hst]
          exact v_return hG hR dX12_some_43 () rfl (by trivial) (fun _ hM => by rw [← e14]; rw [← e15]; exact hM)
        · skip
          have hok : r.2.1 = true := ok_t hg5 (by omega)
          have hlt := hTP.2.2.lt (p := r.1) (by omega)
          have hf1 := everyF_rng hTP.2.2 (fun x hx => facF_rng hTP.2.2 5 x hx) (p := (r.1 + 1)) (by omega)
          obtain ⟨hf11, hf12, hf13⟩ := id hf1
          refine v_aload_n hG dX12_some_20 rfl 0 rfl ?_
          refine v_dup hG dX12_some_21 rfl ?_
          refine mg_spot (z := (gS g r.1 r.2.1) 3) hG dX12_some_22 rfl ?_
          refine v_iconst hG dX12_some_25 ?_
          refine v_iadd hG dX12_some_26 ?_
          refine mp_spot hG dX12_some_27 ?_
          rw [show (sU (gS g r.1 r.2.1) 3 (((gS g r.1 r.2.1) 3) + 1)) = gS g (r.1 + 1) true from by exact sp1 hok]
          refine v_aload_n hG dX12_some_30 rfl 0 rfl ?_
          refine v_callV (k1' := 0) (k2' := 0) hG dX12_some_31 zc_X12_every ⟨zl_X12_98, zi_X12_every, zs_X12_every⟩ (fun l => k_every5 l D A a (emS s (g 2) r.2.2) im fr bY tr ln bl bo (gS g (r.1 + 1) true) lg c (r.1 + 1) (by first | exact hTP | exact TP_gS hTP | exact TP_g (TP_gS hTP) s6_4 | exact TP_gS (TP_emS hTP (by omega) (by omega)) | exact TP_g (TP_gS (TP_emS hTP (by omega) (by omega))) s6_4) (by first | exact h3 | exact gS_3 | (rw [s6_3]; exact gS_3)) (by first | assumption | exact gS_50 | (rw [s6_5]; exact gS_50)) (by first | omega | (simp only [gS_2, gS_4, gS_6, s6_2, s6_4, emS_268, sU_eq, List.length_append]; omega)) (by first | omega | (simp only [gS_2, gS_4, gS_6, s6_2, s6_4, emS_268, sU_eq, List.length_append]; omega)) (by first | omega | (simp only [gS_2, gS_4, gS_6, s6_2, s6_4, emS_268, sU_eq, List.length_append]; omega)) (by first | omega | (simp only [gS_2, gS_4, gS_6, s6_2, s6_4, emS_268, sU_eq, List.length_append]; omega))) rfl mw_recv (fun _ h => h) ⟨by decide, by decide⟩ rfl rfl ⟨by decide, by decide⟩ (rest := []) rfl (Nat.le_of_ble_eq_true rfl) (fun u16 => []) (fun _ => rfl) (fun u16 hu16 => ?_)
          rw [show (emS (emS s (g 2) r.2.2) ((gS g (r.1 + 1) true) 2) (everyF (facF c 5) c (r.1 + 1)).2.2) = emS s (g 2) (r.2.2 ++ ((everyF (facF c 5) c) (r.1 + 1)).2.2) from by rw [gS_2]; exact emS_app]
          rw [show (gS (gS g (r.1 + 1) true) (everyF (facF c 5) c (r.1 + 1)).1 (everyF (facF c 5) c (r.1 + 1)).2.1) = gS g ((everyF (facF c 5) c) (r.1 + 1)).1 ((everyF (facF c 5) c) (r.1 + 1)).2.1 from by exact gS_gS]
          refine v_aload_n hG dX12_some_34 rfl 0 rfl ?_
          refine v_bipush hG dX12_some_35 (by decide) ?_
          refine v_callV (k1' := 0) (k2' := 0) hG dX12_some_37 zc_X12_emits ⟨zl_X12_81, zi_X12_emits, zs_X12_emits⟩ (fun l => k_emits l D A a (emS s (g 2) (r.2.2 ++ ((everyF (facF c 5) c) (r.1 + 1)).2.2)) im fr bY tr ln bl bo (gS g ((everyF (facF c 5) c) (r.1 + 1)).1 ((everyF (facF c 5) c) (r.1 + 1)).2.1) lg (-3) (by first | omega | (simp only [gS_2, gS_4, gS_6, s6_2, s6_4, emS_268, sU_eq, List.length_append]; omega)) (by first | omega | (simp only [gS_2, gS_4, gS_6, s6_2, s6_4, emS_268, sU_eq, List.length_append]; omega)) (by exact gS_01)) rfl mw_recv (fun _ h => h) ⟨by decide, by decide⟩ rfl rfl ⟨by decide, by decide⟩ (rest := []) rfl (Nat.le_of_ble_eq_true rfl) (fun u17 => []) (fun _ => rfl) (fun u17 hu17 => ?_)
          rw [show (if (gS g ((everyF (facF c 5) c) (r.1 + 1)).1 ((everyF (facF c 5) c) (r.1 + 1)).2.1) 5 = 0 then em1 (emS s (g 2) (r.2.2 ++ ((everyF (facF c 5) c) (r.1 + 1)).2.2)) ((gS g ((everyF (facF c 5) c) (r.1 + 1)).1 ((everyF (facF c 5) c) (r.1 + 1)).2.1) 2) (-3) else (emS s (g 2) (r.2.2 ++ ((everyF (facF c 5) c) (r.1 + 1)).2.2))) = emS s (g 2) ((((everyF (facF c 5) c) (r.1 + 1)).1, ((everyF (facF c 5) c) (r.1 + 1)).2.1, r.2.2 ++ ((everyF (facF c 5) c) (r.1 + 1)).2.2 ++ (if ((everyF (facF c 5) c) (r.1 + 1)).2.1 = true then [(-3)] else []))).2.2 from by exact emit_l]
          refine v_goto (tgt := 4) hG dX12_some_40 (by decide) ?_
          exact ihL4 _ (by omega) (F - 1) (((everyF (facF c 5) c) (r.1 + 1)).1, ((everyF (facF c 5) c) (r.1 + 1)).2.1, r.2.2 ++ ((everyF (facF c 5) c) (r.1 + 1)).2.2 ++ (if ((everyF (facF c 5) c) (r.1 + 1)).2.1 = true then [(-3)] else [])) (by exact ‹someF (facF c 5) c p = evL (everyF (facF c 5) c) c 124 (-3) F r›.trans (evL_go (by omega) hok (by assumption))) (by exact RB_go (by assumption) hf1) (by show 101 ≤ F - 1 + ((everyF (facF c 5) c) (r.1 + 1)).1; omega) rfl _ (by rfl) _ (by rfl)
  exact L4 _ 101 ((everyF (facF c 5) c) p) (by rfl) (by exact hfp) (by omega) rfl _ (by rfl) _ (by rfl)
