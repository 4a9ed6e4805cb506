/-! THE CLASS: kinds -/
theorem v_instS {D : Dx} {A : Nat → Prop} {G : Gx} {cc : ByteArray} {nL : Nat} {own : String} {rm : Room} {k1 k2 pc idx : Nat} {P : Heap → Prop} {lo : List (Nat × Value)} {st : List Value} {a : Nat} {ci : Nat} {nm : String} {q : vw_C} (hG : Ok D A G cc nL own rm) (hd : decode cc pc = .ok (.instanceof idx, 3)) (hl9 : Cond.classLink own idx nm ∈ zTB) (hcl : vwCl[ci]? = some q) (hq : q.1 = nm) (hrec : zRv D P a nm) (kk : V G k1 k2 P (pc + 3) lo (vI 1 :: st)) : V G k1 k2 P pc lo (.ref a :: st) := by
  obtain ⟨p, l, e, R, s, m, args, below, meth, c, A', Q⟩ := G
  obtain ⟨hrm, hx, hb, hml, hown, hts, hA, hK⟩ := hG
  intro H locs ls hP hS hl
  subst hq
  exact va_instS hx hb hown (hts _ hl9) (hK.1.1 ci q hcl).2 (hrec.get hK hP) hd (kk H locs ls hP hS hl)
theorem v_castS {D : Dx} {A : Nat → Prop} {G : Gx} {cc : ByteArray} {nL : Nat} {own : String} {rm : Room} {k1 k2 pc idx : Nat} {P : Heap → Prop} {lo : List (Nat × Value)} {st : List Value} {a : Nat} {ci : Nat} {nm : String} {q : vw_C} (hG : Ok D A G cc nL own rm) (hd : decode cc pc = .ok (.checkcast idx, 3)) (hl9 : Cond.classLink own idx nm ∈ zTB) (hcl : vwCl[ci]? = some q) (hq : q.1 = nm) (hrec : zRv D P a nm) (kk : V G k1 k2 P (pc + 3) lo (.ref a :: st)) : V G k1 k2 P pc lo (.ref a :: st) := by
  obtain ⟨p, l, e, R, s, m, args, below, meth, c, A', Q⟩ := G
  obtain ⟨hrm, hx, hb, hml, hown, hts, hA, hK⟩ := hG
  intro H locs ls hP hS hl
  subst hq
  exact va_castS hx hb hown (hts _ hl9) (hK.1.1 ci q hcl).2 (hrec.get hK hP) hd (kk H locs ls hP hS hl)
theorem v_instY {D : Dx} {A : Nat → Prop} {G : Gx} {cc : ByteArray} {nL : Nat} {own : String} {rm : Room} {k1 k2 pc idx : Nat} {P : Heap → Prop} {lo : List (Nat × Value)} {st : List Value} {a : Nat} {C nm : String} (hG : Ok D A G cc nL own rm) (hd : decode cc pc = .ok (.instanceof idx, 3)) (hl9 : Cond.classLink own idx nm ∈ zTB) (hc9 : Cond.castable C nm ∈ zNB) (hrec : zRv D P a C) (kk : V G k1 k2 P (pc + 3) lo (vI 1 :: st)) : V G k1 k2 P pc lo (.ref a :: st) := by
  obtain ⟨p, l, e, R, s, m, args, below, meth, c, A', Q⟩ := G
  obtain ⟨hrm, hx, hb, hml, hown, hts, hA, hK⟩ := hG
  intro H locs ls hP hS hl
  exact va_instY hx hb hown (hts _ hl9) (hK.2.1 _ hc9) (hrec.get hK hP) hd (kk H locs ls hP hS hl)
theorem v_instN {D : Dx} {A : Nat → Prop} {G : Gx} {cc : ByteArray} {nL : Nat} {own : String} {rm : Room} {k1 k2 pc idx : Nat} {P : Heap → Prop} {lo : List (Nat × Value)} {st : List Value} {a : Nat} {C nm : String} (hG : Ok D A G cc nL own rm) (hd : decode cc pc = .ok (.instanceof idx, 3)) (hl9 : Cond.classLink own idx nm ∈ zTB) (hc9 : (C, nm) ∈ znc) (hrec : zRv D P a C) (kk : V G k1 k2 P (pc + 3) lo (vI 0 :: st)) : V G k1 k2 P pc lo (.ref a :: st) := by
  obtain ⟨p, l, e, R, s, m, args, below, meth, c, A', Q⟩ := G
  obtain ⟨hrm, hx, hb, hml, hown, hts, hA, hK⟩ := hG
  intro H locs ls hP hS hl
  exact va_instNo hx hb hown (hts _ hl9) (hK.2.2.1 _ hc9) (hrec.get hK hP) hd (kk H locs ls hP hS hl)
theorem c_inst1 {D : Dx} {A : Nat → Prop} {G : Gx} {cc : ByteArray} {nL : Nat} {own : String} {rm : Room} {k1 k2 pc idx : Nat} {lo : List (Nat × Value)} {st : List Value} {ad : Nat → Nat} {K s : Int → Int} {S Q qa : Nat → Int → Int} {tp : Nat → Nat} {bo e uc lr nx : Int → Int} {b : Nat} {m : Int} (hb : b < 3) (h8 : 0 ≤ m ∧ m < 8) (h43 : m < s 43) (hm : MK s m) (hG : Ok D A G cc nL own rm) (hd : decode cc pc = .ok (.instanceof idx, 3)) (hl9 : Cond.classLink own idx "MirrorPlate$Line" ∈ zTB) (kk : V G k1 k2 (CW D A ad K (uS S b s) Q qa tp bo e uc lr nx) (pc + 3) lo (vI (bi (isU (s (50 + m)) 1)) :: st)) : V G k1 k2 (CW D A ad K (uS S b s) Q qa tp bo e uc lr nx) pc lo (.ref (kM ad b m) :: st) := by
  rcases (show s (50 + m) = 0 ∨ s (50 + m) = 1 ∨ s (50 + m) = 2 ∨ s (50 + m) = 3 ∨ s (50 + m) = 4 ∨ s (50 + m) = 5 ∨ s (50 + m) = 6 by have := hm.1; omega) with hk | hk | hk | hk | hk | hk | hk
  · rw [bi_neg (show ¬ isU (s (50 + m)) 1 by omega)] at kk; exact v_instN hG hd hl9 (by decide) (cRM0 hb h8 h43 hk) kk
  · rw [bi_pos (show isU (s (50 + m)) 1 by omega)] at kk; exact v_instS (ci := 3) hG hd hl9 rfl rfl (cRM1 hb h8 h43 hk) kk
  · rw [bi_neg (show ¬ isU (s (50 + m)) 1 by omega)] at kk; exact v_instN hG hd hl9 (by decide) (cRM2 hb h8 h43 hk) kk
  · rw [bi_neg (show ¬ isU (s (50 + m)) 1 by omega)] at kk; exact v_instN hG hd hl9 (by decide) (cRM3 hb h8 h43 hk) kk
  · rw [bi_pos (show isU (s (50 + m)) 1 by omega)] at kk; exact v_instY hG hd hl9 (znb 1560 (by decide +kernel) (by decide +kernel)) (cRM4 hb h8 h43 hk) kk
  · rw [bi_neg (show ¬ isU (s (50 + m)) 1 by omega)] at kk; exact v_instN hG hd hl9 (by decide) (cRM5 hb h8 h43 hk) kk
  · rw [bi_neg (show ¬ isU (s (50 + m)) 1 by omega)] at kk; exact v_instN hG hd hl9 (by decide) (cRM6 hb h8 h43 hk) kk
theorem c_inst2 {D : Dx} {A : Nat → Prop} {G : Gx} {cc : ByteArray} {nL : Nat} {own : String} {rm : Room} {k1 k2 pc idx : Nat} {lo : List (Nat × Value)} {st : List Value} {ad : Nat → Nat} {K s : Int → Int} {S Q qa : Nat → Int → Int} {tp : Nat → Nat} {bo e uc lr nx : Int → Int} {b : Nat} {m : Int} (hb : b < 3) (h8 : 0 ≤ m ∧ m < 8) (h43 : m < s 43) (hm : MK s m) (hG : Ok D A G cc nL own rm) (hd : decode cc pc = .ok (.instanceof idx, 3)) (hl9 : Cond.classLink own idx "MirrorPlate$Letter" ∈ zTB) (kk : V G k1 k2 (CW D A ad K (uS S b s) Q qa tp bo e uc lr nx) (pc + 3) lo (vI (bi (isU (s (50 + m)) 2)) :: st)) : V G k1 k2 (CW D A ad K (uS S b s) Q qa tp bo e uc lr nx) pc lo (.ref (kM ad b m) :: st) := by
  rcases (show s (50 + m) = 0 ∨ s (50 + m) = 1 ∨ s (50 + m) = 2 ∨ s (50 + m) = 3 ∨ s (50 + m) = 4 ∨ s (50 + m) = 5 ∨ s (50 + m) = 6 by have := hm.1; omega) with hk | hk | hk | hk | hk | hk | hk
  · rw [bi_neg (show ¬ isU (s (50 + m)) 2 by omega)] at kk; exact v_instN hG hd hl9 (by decide) (cRM0 hb h8 h43 hk) kk
  · rw [bi_neg (show ¬ isU (s (50 + m)) 2 by omega)] at kk; exact v_instN hG hd hl9 (by decide) (cRM1 hb h8 h43 hk) kk
  · rw [bi_pos (show isU (s (50 + m)) 2 by omega)] at kk; exact v_instS (ci := 2) hG hd hl9 rfl rfl (cRM2 hb h8 h43 hk) kk
  · rw [bi_neg (show ¬ isU (s (50 + m)) 2 by omega)] at kk; exact v_instN hG hd hl9 (by decide) (cRM3 hb h8 h43 hk) kk
  · rw [bi_neg (show ¬ isU (s (50 + m)) 2 by omega)] at kk; exact v_instN hG hd hl9 (by decide) (cRM4 hb h8 h43 hk) kk
  · rw [bi_pos (show isU (s (50 + m)) 2 by omega)] at kk; exact v_instY hG hd hl9 (znb 1561 (by decide +kernel) (by decide +kernel)) (cRM5 hb h8 h43 hk) kk
  · rw [bi_neg (show ¬ isU (s (50 + m)) 2 by omega)] at kk; exact v_instN hG hd hl9 (by decide) (cRM6 hb h8 h43 hk) kk
theorem c_inst3 {D : Dx} {A : Nat → Prop} {G : Gx} {cc : ByteArray} {nL : Nat} {own : String} {rm : Room} {k1 k2 pc idx : Nat} {lo : List (Nat × Value)} {st : List Value} {ad : Nat → Nat} {K s : Int → Int} {S Q qa : Nat → Int → Int} {tp : Nat → Nat} {bo e uc lr nx : Int → Int} {b : Nat} {m : Int} (hb : b < 3) (h8 : 0 ≤ m ∧ m < 8) (h43 : m < s 43) (hm : MK s m) (hG : Ok D A G cc nL own rm) (hd : decode cc pc = .ok (.instanceof idx, 3)) (hl9 : Cond.classLink own idx "MirrorPlate$Numeral" ∈ zTB) (kk : V G k1 k2 (CW D A ad K (uS S b s) Q qa tp bo e uc lr nx) (pc + 3) lo (vI (bi (isU (s (50 + m)) 3)) :: st)) : V G k1 k2 (CW D A ad K (uS S b s) Q qa tp bo e uc lr nx) pc lo (.ref (kM ad b m) :: st) := by
  rcases (show s (50 + m) = 0 ∨ s (50 + m) = 1 ∨ s (50 + m) = 2 ∨ s (50 + m) = 3 ∨ s (50 + m) = 4 ∨ s (50 + m) = 5 ∨ s (50 + m) = 6 by have := hm.1; omega) with hk | hk | hk | hk | hk | hk | hk
  · rw [bi_neg (show ¬ isU (s (50 + m)) 3 by omega)] at kk; exact v_instN hG hd hl9 (by decide) (cRM0 hb h8 h43 hk) kk
  · rw [bi_neg (show ¬ isU (s (50 + m)) 3 by omega)] at kk; exact v_instN hG hd hl9 (by decide) (cRM1 hb h8 h43 hk) kk
  · rw [bi_neg (show ¬ isU (s (50 + m)) 3 by omega)] at kk; exact v_instN hG hd hl9 (by decide) (cRM2 hb h8 h43 hk) kk
  · rw [bi_pos (show isU (s (50 + m)) 3 by omega)] at kk; exact v_instS (ci := 5) hG hd hl9 rfl rfl (cRM3 hb h8 h43 hk) kk
  · rw [bi_neg (show ¬ isU (s (50 + m)) 3 by omega)] at kk; exact v_instN hG hd hl9 (by decide) (cRM4 hb h8 h43 hk) kk
  · rw [bi_neg (show ¬ isU (s (50 + m)) 3 by omega)] at kk; exact v_instN hG hd hl9 (by decide) (cRM5 hb h8 h43 hk) kk
  · rw [bi_pos (show isU (s (50 + m)) 3 by omega)] at kk; exact v_instY hG hd hl9 (znb 1562 (by decide +kernel) (by decide +kernel)) (cRM6 hb h8 h43 hk) kk
theorem c_inst4 {D : Dx} {A : Nat → Prop} {G : Gx} {cc : ByteArray} {nL : Nat} {own : String} {rm : Room} {k1 k2 pc idx : Nat} {lo : List (Nat × Value)} {st : List Value} {ad : Nat → Nat} {K s : Int → Int} {S Q qa : Nat → Int → Int} {tp : Nat → Nat} {bo e uc lr nx : Int → Int} {b : Nat} {m : Int} (hb : b < 3) (h8 : 0 ≤ m ∧ m < 8) (h43 : m < s 43) (hm : MK s m) (hG : Ok D A G cc nL own rm) (hd : decode cc pc = .ok (.instanceof idx, 3)) (hl9 : Cond.classLink own idx "MirrorPlate$Hatch" ∈ zTB) (kk : V G k1 k2 (CW D A ad K (uS S b s) Q qa tp bo e uc lr nx) (pc + 3) lo (vI (bi (isU (s (50 + m)) 4)) :: st)) : V G k1 k2 (CW D A ad K (uS S b s) Q qa tp bo e uc lr nx) pc lo (.ref (kM ad b m) :: st) := by
  rcases (show s (50 + m) = 0 ∨ s (50 + m) = 1 ∨ s (50 + m) = 2 ∨ s (50 + m) = 3 ∨ s (50 + m) = 4 ∨ s (50 + m) = 5 ∨ s (50 + m) = 6 by have := hm.1; omega) with hk | hk | hk | hk | hk | hk | hk
  · rw [bi_neg (show ¬ isU (s (50 + m)) 4 by omega)] at kk; exact v_instN hG hd hl9 (by decide) (cRM0 hb h8 h43 hk) kk
  · rw [bi_neg (show ¬ isU (s (50 + m)) 4 by omega)] at kk; exact v_instN hG hd hl9 (by decide) (cRM1 hb h8 h43 hk) kk
  · rw [bi_neg (show ¬ isU (s (50 + m)) 4 by omega)] at kk; exact v_instN hG hd hl9 (by decide) (cRM2 hb h8 h43 hk) kk
  · rw [bi_neg (show ¬ isU (s (50 + m)) 4 by omega)] at kk; exact v_instN hG hd hl9 (by decide) (cRM3 hb h8 h43 hk) kk
  · rw [bi_pos (show isU (s (50 + m)) 4 by omega)] at kk; exact v_instS (ci := 1) hG hd hl9 rfl rfl (cRM4 hb h8 h43 hk) kk
  · rw [bi_neg (show ¬ isU (s (50 + m)) 4 by omega)] at kk; exact v_instN hG hd hl9 (by decide) (cRM5 hb h8 h43 hk) kk
  · rw [bi_neg (show ¬ isU (s (50 + m)) 4 by omega)] at kk; exact v_instN hG hd hl9 (by decide) (cRM6 hb h8 h43 hk) kk
theorem c_inst5 {D : Dx} {A : Nat → Prop} {G : Gx} {cc : ByteArray} {nL : Nat} {own : String} {rm : Room} {k1 k2 pc idx : Nat} {lo : List (Nat × Value)} {st : List Value} {ad : Nat → Nat} {K s : Int → Int} {S Q qa : Nat → Int → Int} {tp : Nat → Nat} {bo e uc lr nx : Int → Int} {b : Nat} {m : Int} (hb : b < 3) (h8 : 0 ≤ m ∧ m < 8) (h43 : m < s 43) (hm : MK s m) (hG : Ok D A G cc nL own rm) (hd : decode cc pc = .ok (.instanceof idx, 3)) (hl9 : Cond.classLink own idx "MirrorPlate$Turned" ∈ zTB) (kk : V G k1 k2 (CW D A ad K (uS S b s) Q qa tp bo e uc lr nx) (pc + 3) lo (vI (bi (isU (s (50 + m)) 5)) :: st)) : V G k1 k2 (CW D A ad K (uS S b s) Q qa tp bo e uc lr nx) pc lo (.ref (kM ad b m) :: st) := by
  rcases (show s (50 + m) = 0 ∨ s (50 + m) = 1 ∨ s (50 + m) = 2 ∨ s (50 + m) = 3 ∨ s (50 + m) = 4 ∨ s (50 + m) = 5 ∨ s (50 + m) = 6 by have := hm.1; omega) with hk | hk | hk | hk | hk | hk | hk
  · rw [bi_neg (show ¬ isU (s (50 + m)) 5 by omega)] at kk; exact v_instN hG hd hl9 (by decide) (cRM0 hb h8 h43 hk) kk
  · rw [bi_neg (show ¬ isU (s (50 + m)) 5 by omega)] at kk; exact v_instN hG hd hl9 (by decide) (cRM1 hb h8 h43 hk) kk
  · rw [bi_neg (show ¬ isU (s (50 + m)) 5 by omega)] at kk; exact v_instN hG hd hl9 (by decide) (cRM2 hb h8 h43 hk) kk
  · rw [bi_neg (show ¬ isU (s (50 + m)) 5 by omega)] at kk; exact v_instN hG hd hl9 (by decide) (cRM3 hb h8 h43 hk) kk
  · rw [bi_neg (show ¬ isU (s (50 + m)) 5 by omega)] at kk; exact v_instN hG hd hl9 (by decide) (cRM4 hb h8 h43 hk) kk
  · rw [bi_pos (show isU (s (50 + m)) 5 by omega)] at kk; exact v_instS (ci := 10) hG hd hl9 rfl rfl (cRM5 hb h8 h43 hk) kk
  · rw [bi_neg (show ¬ isU (s (50 + m)) 5 by omega)] at kk; exact v_instN hG hd hl9 (by decide) (cRM6 hb h8 h43 hk) kk
theorem c_inst6 {D : Dx} {A : Nat → Prop} {G : Gx} {cc : ByteArray} {nL : Nat} {own : String} {rm : Room} {k1 k2 pc idx : Nat} {lo : List (Nat × Value)} {st : List Value} {ad : Nat → Nat} {K s : Int → Int} {S Q qa : Nat → Int → Int} {tp : Nat → Nat} {bo e uc lr nx : Int → Int} {b : Nat} {m : Int} (hb : b < 3) (h8 : 0 ≤ m ∧ m < 8) (h43 : m < s 43) (hm : MK s m) (hG : Ok D A G cc nL own rm) (hd : decode cc pc = .ok (.instanceof idx, 3)) (hl9 : Cond.classLink own idx "MirrorPlate$Told" ∈ zTB) (kk : V G k1 k2 (CW D A ad K (uS S b s) Q qa tp bo e uc lr nx) (pc + 3) lo (vI (bi (isU (s (50 + m)) 6)) :: st)) : V G k1 k2 (CW D A ad K (uS S b s) Q qa tp bo e uc lr nx) pc lo (.ref (kM ad b m) :: st) := by
  rcases (show s (50 + m) = 0 ∨ s (50 + m) = 1 ∨ s (50 + m) = 2 ∨ s (50 + m) = 3 ∨ s (50 + m) = 4 ∨ s (50 + m) = 5 ∨ s (50 + m) = 6 by have := hm.1; omega) with hk | hk | hk | hk | hk | hk | hk
  · rw [bi_neg (show ¬ isU (s (50 + m)) 6 by omega)] at kk; exact v_instN hG hd hl9 (by decide) (cRM0 hb h8 h43 hk) kk
  · rw [bi_neg (show ¬ isU (s (50 + m)) 6 by omega)] at kk; exact v_instN hG hd hl9 (by decide) (cRM1 hb h8 h43 hk) kk
  · rw [bi_neg (show ¬ isU (s (50 + m)) 6 by omega)] at kk; exact v_instN hG hd hl9 (by decide) (cRM2 hb h8 h43 hk) kk
  · rw [bi_neg (show ¬ isU (s (50 + m)) 6 by omega)] at kk; exact v_instN hG hd hl9 (by decide) (cRM3 hb h8 h43 hk) kk
  · rw [bi_neg (show ¬ isU (s (50 + m)) 6 by omega)] at kk; exact v_instN hG hd hl9 (by decide) (cRM4 hb h8 h43 hk) kk
  · rw [bi_neg (show ¬ isU (s (50 + m)) 6 by omega)] at kk; exact v_instN hG hd hl9 (by decide) (cRM5 hb h8 h43 hk) kk
  · rw [bi_pos (show isU (s (50 + m)) 6 by omega)] at kk; exact v_instS (ci := 8) hG hd hl9 rfl rfl (cRM6 hb h8 h43 hk) kk
set_option maxHeartbeats 4000000 in
set_option maxRecDepth 100000 in
theorem kc11_isOfKind (l : Launch) (D : Dx) (A : Nat → Prop) (ad : Nat → Nat) (K : Int → Int) (S Q qa : Nat → Int → Int) (tp : Nat → Nat) (s bo e uc lr nx : Int → Int) (b : Nat) (hb : b < 3) (m : Int) (k : Int) (h8 : 0 ≤ m ∧ m < 8) (h43 : m < s 43) (hm : MK s m) (hrk : -2147483648 ≤ k ∧ k < 2147483648) : CT l D A yX11_isOfKind cX11_isOfKind 2 (some .boolean) { frames := 0, cells := 0, slots := 0, locals := 0 } [.ref (kM ad b m), vI k] (CW D A ad K (uS S b s) Q qa tp bo e uc lr nx) (fun _ : Unit => some (vI (bi (isU (s (50 + m)) k ∨ k < 0 ∨ 6 < k)))) (fun _ => True) (fun _ => CW D A ad K (uS S b s) Q qa tp bo e uc lr nx) := by
  refine ct_of (lo0 := [(0, .ref (kM ad b m)), (1, vI k)]) (by decide) (Nat.le_of_ble_eq_true rfl) rfl ?_
  intro G hG hR
  have hm1 := hm.1; have hm2 := hm.2.1; have hm3 := hm.2.2.1; have hm4 := hm.2.2.2.1; have hm5 := hm.2.2.2.2.1; have hm6 := hm.2.2.2.2.2.1; have hm7 := hm.2.2.2.2.2.2.1; have hm8 := hm.2.2.2.2.2.2.2.1
  refine v_iload_n hG dX11_isOfKind_0 rfl 1 rfl ?_
  by_cases c1 : k = 1
  · refine v_tabIn (tgt := 40) hG dX11_isOfKind_1 1 c1 (by decide) (by decide) (by decide) rfl (by decide) ?_
    refine v_aload_n hG dX11_isOfKind_40 rfl 0 rfl ?_
    refine c_inst1 hb (by omega) (by omega) (by first | assumption | exact hM _ (by omega) (by omega)) hG dX11_isOfKind_41 (ztb 440 (by decide +kernel) (by decide +kernel)) ?_
    have e2 : @Eq Int (bi (isU (s (50 + m)) k ∨ k < 0 ∨ 6 < k)) (bi (isU (s (50 + m)) 1)) := by first | (refine bi_congr ?_; omega) | (rw [bi_pos (show isU (s (50 + m)) k ∨ k < 0 ∨ 6 < k by omega)])
    exact v_zreturn hG hR dX11_isOfKind_44 (bi_01 _) () (congrArg (fun z => some (vI z)) e2) (by trivial) (fun _ hM => hM)
  by_cases c3 : k = 2
  · refine v_tabIn (tgt := 45) hG dX11_isOfKind_1 2 c3 (by decide) (by decide) (by decide) rfl (by decide) ?_
    refine v_aload_n hG dX11_isOfKind_45 rfl 0 rfl ?_
    refine c_inst2 hb (by omega) (by omega) (by first | assumption | exact hM _ (by omega) (by omega)) hG dX11_isOfKind_46 (ztb 456 (by decide +kernel) (by decide +kernel)) ?_
    have e4 : @Eq Int (bi (isU (s (50 + m)) k ∨ k < 0 ∨ 6 < k)) (bi (isU (s (50 + m)) 2)) := by first | (refine bi_congr ?_; omega) | (rw [bi_pos (show isU (s (50 + m)) k ∨ k < 0 ∨ 6 < k by omega)])
    exact v_zreturn hG hR dX11_isOfKind_49 (bi_01 _) () (congrArg (fun z => some (vI z)) e4) (by trivial) (fun _ hM => hM)
  by_cases c5 : k = 3
  · refine v_tabIn (tgt := 50) hG dX11_isOfKind_1 3 c5 (by decide) (by decide) (by decide) rfl (by decide) ?_
    refine v_aload_n hG dX11_isOfKind_50 rfl 0 rfl ?_
    refine c_inst3 hb (by omega) (by omega) (by first | assumption | exact hM _ (by omega) (by omega)) hG dX11_isOfKind_51 (ztb 472 (by decide +kernel) (by decide +kernel)) ?_
    have e6 : @Eq Int (bi (isU (s (50 + m)) k ∨ k < 0 ∨ 6 < k)) (bi (isU (s (50 + m)) 3)) := by first | (refine bi_congr ?_; omega) | (rw [bi_pos (show isU (s (50 + m)) k ∨ k < 0 ∨ 6 < k by omega)])
    exact v_zreturn hG hR dX11_isOfKind_54 (bi_01 _) () (congrArg (fun z => some (vI z)) e6) (by trivial) (fun _ hM => hM)
  by_cases c7 : k = 4
  · refine v_tabIn (tgt := 55) hG dX11_isOfKind_1 4 c7 (by decide) (by decide) (by decide) rfl (by decide) ?_
    refine v_aload_n hG dX11_isOfKind_55 rfl 0 rfl ?_
    refine c_inst4 hb (by omega) (by omega) (by first | assumption | exact hM _ (by omega) (by omega)) hG dX11_isOfKind_56 (ztb 488 (by decide +kernel) (by decide +kernel)) ?_
    have e8 : @Eq Int (bi (isU (s (50 + m)) k ∨ k < 0 ∨ 6 < k)) (bi (isU (s (50 + m)) 4)) := by first | (refine bi_congr ?_; omega) | (rw [bi_pos (show isU (s (50 + m)) k ∨ k < 0 ∨ 6 < k by omega)])
    exact v_zreturn hG hR dX11_isOfKind_59 (bi_01 _) () (congrArg (fun z => some (vI z)) e8) (by trivial) (fun _ hM => hM)
  by_cases c9 : k = 5
  · refine v_tabIn (tgt := 60) hG dX11_isOfKind_1 5 c9 (by decide) (by decide) (by decide) rfl (by decide) ?_
    refine v_aload_n hG dX11_isOfKind_60 rfl 0 rfl ?_
    refine c_inst5 hb (by omega) (by omega) (by first | assumption | exact hM _ (by omega) (by omega)) hG dX11_isOfKind_61 (ztb 504 (by decide +kernel) (by decide +kernel)) ?_
    have e10 : @Eq Int (bi (isU (s (50 + m)) k ∨ k < 0 ∨ 6 < k)) (bi (isU (s (50 + m)) 5)) := by first | (refine bi_congr ?_; omega) | (rw [bi_pos (show isU (s (50 + m)) k ∨ k < 0 ∨ 6 < k by omega)])
    exact v_zreturn hG hR dX11_isOfKind_64 (bi_01 _) () (congrArg (fun z => some (vI z)) e10) (by trivial) (fun _ hM => hM)
  by_cases c11 : k = 6
  · refine v_tabIn (tgt := 65) hG dX11_isOfKind_1 6 c11 (by decide) (by decide) (by decide) rfl (by decide) ?_
    refine v_aload_n hG dX11_isOfKind_65 rfl 0 rfl ?_
    refine c_inst6 hb (by omega) (by omega) (by first | assumption | exact hM _ (by omega) (by omega)) hG dX11_isOfKind_66 (ztb 520 (by decide +kernel) (by decide +kernel)) ?_
    have e12 : @Eq Int (bi (isU (s (50 + m)) k ∨ k < 0 ∨ 6 < k)) (bi (isU (s (50 + m)) 6)) := by first | (refine bi_congr ?_; omega) | (rw [bi_pos (show isU (s (50 + m)) k ∨ k < 0 ∨ 6 < k by omega)])
    exact v_zreturn hG hR dX11_isOfKind_69 (bi_01 _) () (congrArg (fun z => some (vI z)) e12) (by trivial) (fun _ hM => hM)
  refine v_tabOut (tgt := 70) hG dX11_isOfKind_1 (by omega) (by omega) (by decide) ?_
  refine v_iconst hG dX11_isOfKind_70 ?_
  have e14 : @Eq Int (bi (isU (s (50 + m)) k ∨ k < 0 ∨ 6 < k)) (1) := by first | (refine bi_congr ?_; omega) | (rw [bi_pos (show isU (s (50 + m)) k ∨ k < 0 ∨ 6 < k by omega)])
  exact v_zreturn hG hR dX11_isOfKind_71 (Or.inr rfl) () (congrArg (fun z => some (vI z)) e14) (by trivial) (fun _ hM => hM)
set_option maxHeartbeats 4000000 in
set_option maxRecDepth 100000 in
theorem kc11_as (l : Launch) (D : Dx) (A : Nat → Prop) (ad : Nat → Nat) (K : Int → Int) (S Q qa : Nat → Int → Int) (tp : Nat → Nat) (s bo e uc lr nx : Int → Int) (m : Int) (k : Int) (hrm : -2147483648 ≤ m ∧ m < 2147483648) (hrk : -2147483648 ≤ k ∧ k < 2147483648) (hN : NM s) (hM : GM s) : CT l D A yX11_as cX11_as 4 (some .int) { frames := 2, cells := 0, slots := 0, locals := 43 } [.ref (ad 0), vI m, vI k] (CW D A ad K (uS S 0 s) Q qa tp bo e uc lr nx) (fun _ : Unit => some (vI (a_as s m k))) (fun _ => True) (fun _ => CW D A ad K (uS S 0 s) Q qa tp bo e uc lr nx) := by
  refine ct_of (lo0 := [(0, .ref (ad 0)), (1, vI m), (2, vI k)]) (by decide) (Nat.le_of_ble_eq_true rfl) rfl ?_
  intro G hG hR
  have hN9 : 0 ≤ s 43 ∧ s 43 ≤ 8 := hN
  refine v_aload_n hG dX11_as_0 rfl 0 rfl ?_
  refine cg11 hG dX11_as_1 zf_X11_17 (k := 0) (by decide) (v := .ref (kB ad 0)) rfl ?_
  refine v_iload_n hG dX11_as_4 rfl 1 rfl ?_
  by_cases c1 : 0 ≤ m ∧ m ≤ s 43 - 1
  · skip
    refine v_callV (k1' := 0) (k2' := 0) hG dX11_as_5 zc_X0_markAt ⟨zl_X11_99, zi_X0_markAt, zs_X0_markAt⟩ (fun l => kc0_markAt_in l D A ad K S Q qa tp s bo e uc lr nx 0 (by decide) m (by assumption) (by first | exact c1 | (simp only [sU_at]; omega) | omega)) rfl (cR0 (by decide)) (fun _ h => h) ⟨by decide, by decide⟩ rfl rfl ⟨by decide, by decide⟩ (rest := []) rfl (Nat.le_of_ble_eq_true rfl) (fun u2 => [.ref (kM ad 0 m)]) (fun _ => rfl) (fun u2 hu2 => ?_)
    refine v_astore_n (lo' := [(3, .ref (kM ad 0 m)), (0, .ref (ad 0)), (1, vI m), (2, vI k)]) hG dX11_as_8 rfl (by decide) rfl ?_
    refine v_aload_n hG dX11_as_9 rfl 0 rfl ?_
    refine v_ifnull hG dX11_as_10 ?_
    refine v_iload_n hG dX11_as_13 rfl 3 rfl ?_
    refine v_iconst hG dX11_as_14 ?_
    refine v_bipush hG dX11_as_15 (by decide) ?_
    refine v_callS (k1' := 0) (k2' := 0) hG dX11_as_17 zc_X11_within ⟨zl_X11_50, zt_X11_within⟩ (fun l => kc11_within l D A (CW D A ad K (uS S 0 s) Q qa tp bo e uc lr nx) k 0 6 (by omega) (by omega) (by omega)) rfl (fun _ h => h) ⟨by decide, by decide⟩ rfl rfl ⟨by decide, by decide⟩ (rest := []) rfl (Nat.le_of_ble_eq_true rfl) (fun u3 => [vI (bi (0 ≤ k ∧ k ≤ 6))]) (fun _ => rfl) (fun u3 hu3 => ?_)
    refine v_ifb_ne (p := 0 ≤ k ∧ k ≤ 6) (tgt := 25) hG dX11_as_20 (by decide) (fun c4 => ?_) (fun c4 => ?_)
    · skip
      refine v_aload_n hG dX11_as_25 rfl 0 rfl ?_
      refine v_iload_n hG dX11_as_26 rfl 3 rfl ?_
      refine v_callS (k1' := 0) (k2' := 0) hG dX11_as_27 zc_X11_isOfKind ⟨zl_X11_282, zt_X11_isOfKind⟩ (fun l => kc11_isOfKind l D A ad K S Q qa tp s bo e uc lr nx 0 (by decide) m k (by omega) (by first | assumption | omega) (by first | assumption | exact hM _ (by omega) (by omega)) (by omega)) rfl (fun _ h => h) ⟨by decide, by decide⟩ rfl rfl ⟨by decide, by decide⟩ (rest := []) rfl (Nat.le_of_ble_eq_true rfl) (fun u5 => [vI (bi (isU (s (50 + m)) k ∨ k < 0 ∨ 6 < k))]) (fun _ => rfl) (fun u5 hu5 => ?_)
      refine v_ifb_eq (p := isU (s (50 + m)) k ∨ k < 0 ∨ 6 < k) (tgt := 40) hG dX11_as_30 (by decide) (fun c6 => ?_) (fun c6 => ?_)
      · skip
        refine v_bipush hG dX11_as_40 (by decide) ?_
        have e7 : @Eq Int (a_as s m k) (-6) := by unfold a_as; (repeat' split) <;> first | rfl | omega | (exfalso; omega)
        exact v_ireturn hG hR dX11_as_42 () (congrArg (fun z => some (vI z)) e7) (by trivial) (fun _ hM => hM)
      · skip
        refine v_aload_n hG dX11_as_33 rfl 0 rfl ?_
        refine cgM (by decide) (by omega) (by omega) hG dX11_as_34 zf_X11_108 (k := 2) (by decide) (v := vI (s (58 + m))) rfl ?_
        refine v_goto (tgt := 42) hG dX11_as_37 (by decide) ?_
        have e8 : @Eq Int (a_as s m k) (s (58 + m)) := by unfold a_as; (repeat' split) <;> first | rfl | omega | (exfalso; omega)
        exact v_ireturn hG hR dX11_as_42 () (congrArg (fun z => some (vI z)) e8) (by trivial) (fun _ hM => hM)
    · skip
      refine v_iconst hG dX11_as_23 ?_
      have e9 : @Eq Int (a_as s m k) (-1) := by unfold a_as; (repeat' split) <;> first | rfl | omega | (exfalso; omega)
      exact v_ireturn hG hR dX11_as_24 () (congrArg (fun z => some (vI z)) e9) (by trivial) (fun _ hM => hM)
  · skip
    refine v_callV (k1' := 0) (k2' := 0) hG dX11_as_5 zc_X0_markAt ⟨zl_X11_99, zi_X0_markAt, zs_X0_markAt⟩ (fun l => kc0_markAt_out l D A ad K S Q qa tp s bo e uc lr nx 0 (by decide) m (by assumption) (by omega) (by first | exact c1 | (simp only [sU_at]; omega) | omega)) rfl (cR0 (by decide)) (fun _ h => h) ⟨by decide, by decide⟩ rfl rfl ⟨by decide, by decide⟩ (rest := []) rfl (Nat.le_of_ble_eq_true rfl) (fun u10 => [.null]) (fun _ => rfl) (fun u10 hu10 => ?_)
    refine v_astoreN_n (lo' := [(3, .null), (0, .ref (ad 0)), (1, vI m), (2, vI k)]) hG dX11_as_8 rfl (by decide) rfl ?_
    refine v_aloadN_n hG dX11_as_9 rfl 0 rfl ?_
    refine v_ifnullN (tgt := 23) hG dX11_as_10 (by decide) ?_
    refine v_iconst hG dX11_as_23 ?_
    have e11 : @Eq Int (a_as s m k) (-1) := by unfold a_as; (repeat' split) <;> first | rfl | omega | (exfalso; omega)
    exact v_ireturn hG hR dX11_as_24 () (congrArg (fun z => some (vI z)) e11) (by trivial) (fun _ hM => hM)
set_option maxHeartbeats 4000000 in
set_option maxRecDepth 100000 in
theorem kc8_tell (l : Launch) (D : Dx) (A : Nat → Prop) (ad : Nat → Nat) (K : Int → Int) (S Q qa : Nat → Int → Int) (tp : Nat → Nat) (s bo e uc lr nx : Int → Int) (b : Nat) (hb : b < 3) (m : Int) (k : Int) (n : Int) (hTB : TB s) (h8 : 0 ≤ m ∧ m < 8) (h43 : m < s 43) (hm : MK s m) (hk6 : s (50 + m) = 6) (hk3 : 0 ≤ k ∧ k ≤ 3) (hn : 0 ≤ n ∧ n ≤ 9) : CT l D A yX8_tell cX8_tell 4 (some .int) { frames := 1, cells := 0, slots := 0, locals := 22 } [.ref (kM ad b m), vI k, vI n] (CW D A ad K (uS S b s) Q qa tp bo e uc lr nx) (fun _ : Unit => some (vI (s (74 + 4 * m + k)))) (fun _ => True) (fun _ => CW D A ad K (uS S b (sU s (74 + 4 * m + k) n)) Q qa tp bo e uc lr nx) := by
  refine ct_of (lo0 := [(0, .ref (kM ad b m)), (1, vI k), (2, vI n)]) (by decide) (Nat.le_of_ble_eq_true rfl) rfl ?_
  intro G hG hR
  have hm1 := hm.1; have hm2 := hm.2.1; have hm3 := hm.2.2.1; have hm4 := hm.2.2.2.1; have hm5 := hm.2.2.2.2.1; have hm6 := hm.2.2.2.2.2.1; have hm7 := hm.2.2.2.2.2.2.1; have hm8 := hm.2.2.2.2.2.2.2.1
  refine v_iload_n hG dX8_tell_0 rfl 1 rfl ?_
  refine v_iconst hG dX8_tell_1 ?_
  refine v_aload_n hG dX8_tell_2 rfl 0 rfl ?_
  refine cgR hb (by omega) (by omega) (by assumption) hG dX8_tell_3 zf_X8_9 ?_
  refine cl_r hb (by omega) (by omega) (by assumption) hG dX8_tell_6 ?_
  refine v_iconst hG dX8_tell_7 ?_
  refine v_isub hG dX8_tell_8 ?_
  refine v_callSN (k1' := 0) (k2' := 0) hG dX8_tell_9 zc_X11_within ⟨zl_X8_19, zt_X11_within⟩ (fun l => kc11_within l D A (CW D A ad K (uS S b s) Q qa tp bo e uc lr nx) k 0 (4 - 1) (by omega) (by omega) (by omega)) rfl (fun _ h => h) ⟨by decide, by decide⟩ rfl rfl ⟨by decide, by decide⟩ (rest := []) rfl (Nat.le_of_ble_eq_true rfl) (fun u1 => [vI (bi (0 ≤ k ∧ k ≤ (4 - 1)))]) (fun _ => rfl) (fun u1 hu1 => ?_)
  refine v_ifb_ne (p := 0 ≤ k ∧ k ≤ (4 - 1)) (tgt := 17) hG dX8_tell_12 (by decide) (fun c2 => ?_) (fun c2 => ?_)
  · skip
    refine v_aload_n hG dX8_tell_17 rfl 0 rfl ?_
    refine cgR hb (by omega) (by omega) (by assumption) hG dX8_tell_18 zf_X8_9 ?_
    refine v_iload_n hG dX8_tell_21 rfl 1 rfl ?_
    refine ca_r hb (by omega) (by omega) (by assumption) hG dX8_tell_22 (by omega) rfl ?_
    refine v_istore_n (lo' := [(3, vI (s (74 + 4 * m + k))), (0, .ref (kM ad b m)), (1, vI k), (2, vI n)]) hG dX8_tell_23 rfl (by decide) rfl ?_
    refine v_aload_n hG dX8_tell_24 rfl 1 rfl ?_
    refine cgR hb (by omega) (by omega) (by assumption) hG dX8_tell_25 zf_X8_9 ?_
    refine v_iload_n hG dX8_tell_28 rfl 2 rfl ?_
    refine v_iload_n hG dX8_tell_29 rfl 3 rfl ?_
    refine cs_r hb (by omega) (by omega) (by assumption) hTB hG dX8_tell_30 (by omega) ?_
    refine v_iload_n hG dX8_tell_31 rfl 0 rfl ?_
    exact v_ireturn hG hR dX8_tell_32 () rfl (by trivial) (fun _ hM => hM)
  · skip
    exfalso; omega
set_option maxHeartbeats 4000000 in
set_option maxRecDepth 100000 in
theorem kc11_row (l : Launch) (D : Dx) (A : Nat → Prop) (ad : Nat → Nat) (K : Int → Int) (S Q qa : Nat → Int → Int) (tp : Nat → Nat) (s bo e uc lr nx : Int → Int) (m : Int) (k : Int) (n : Int) (hrm : -2147483648 ≤ m ∧ m < 2147483648) (hrk : -2147483648 ≤ k ∧ k < 2147483648) (hrn : -2147483648 ≤ n ∧ n < 2147483648) (hTB : TB s) (hN : NM s) (hM : GM s) : CT l D A yX11_row cX11_row 6 (some .int) { frames := 2, cells := 0, slots := 0, locals := 45 } [.ref (ad 0), vI m, vI k, vI n] (CW D A ad K (uS S 0 s) Q qa tp bo e uc lr nx) (fun _ : Unit => some (vI (a_row s m k n))) (fun _ => True) (fun _ => CW D A ad K (uS S 0 (f_row s m k n)) Q qa tp bo e uc lr nx) := by
  refine ct_of (lo0 := [(0, .ref (ad 0)), (1, vI m), (2, vI k), (3, vI n)]) (by decide) (Nat.le_of_ble_eq_true rfl) rfl ?_
  intro G hG hR
  have hN9 : 0 ≤ s 43 ∧ s 43 ≤ 8 := hN
  refine v_aload_n hG dX11_row_0 rfl 0 rfl ?_
  refine cg11 hG dX11_row_1 zf_X11_17 (k := 0) (by decide) (v := .ref (kB ad 0)) rfl ?_
  refine v_iload_n hG dX11_row_4 rfl 1 rfl ?_
  by_cases c1 : 0 ≤ m ∧ m ≤ s 43 - 1
  · skip
    refine v_callV (k1' := 0) (k2' := 0) hG dX11_row_5 zc_X0_markAt ⟨zl_X11_99, zi_X0_markAt, zs_X0_markAt⟩ (fun l => kc0_markAt_in l D A ad K S Q qa tp s bo e uc lr nx 0 (by decide) m (by assumption) (by first | exact c1 | (simp only [sU_at]; omega) | omega)) rfl (cR0 (by decide)) (fun _ h => h) ⟨by decide, by decide⟩ rfl rfl ⟨by decide, by decide⟩ (rest := []) rfl (Nat.le_of_ble_eq_true rfl) (fun u2 => [.ref (kM ad 0 m)]) (fun _ => rfl) (fun u2 hu2 => ?_)
    refine v_astore (lo' := [(4, .ref (kM ad 0 m)), (0, .ref (ad 0)), (1, vI m), (2, vI k), (3, vI n)]) hG dX11_row_8 (by decide) rfl ?_
    refine v_aload hG dX11_row_10 0 rfl ?_
    refine v_ifnull hG dX11_row_12 ?_
    refine v_iload_n hG dX11_row_15 rfl 3 rfl ?_
    refine v_iconst hG dX11_row_16 ?_
    refine v_iconst hG dX11_row_17 ?_
    refine v_callS (k1' := 0) (k2' := 0) hG dX11_row_18 zc_X11_within ⟨zl_X11_50, zt_X11_within⟩ (fun l => kc11_within l D A (CW D A ad K (uS S 0 s) Q qa tp bo e uc lr nx) k 0 3 (by omega) (by omega) (by omega)) rfl (fun _ h => h) ⟨by decide, by decide⟩ rfl rfl ⟨by decide, by decide⟩ (rest := []) rfl (Nat.le_of_ble_eq_true rfl) (fun u3 => [vI (bi (0 ≤ k ∧ k ≤ 3))]) (fun _ => rfl) (fun u3 hu3 => ?_)
    refine v_ifb_ne (p := 0 ≤ k ∧ k ≤ 3) (tgt := 26) hG dX11_row_21 (by decide) (fun c4 => ?_) (fun c4 => ?_)
    · skip
      refine v_iload_n hG dX11_row_26 rfl 4 rfl ?_
      refine v_iconst hG dX11_row_27 ?_
      refine v_bipush hG dX11_row_28 (by decide) ?_
      refine v_callS (k1' := 0) (k2' := 0) hG dX11_row_30 zc_X11_within ⟨zl_X11_50, zt_X11_within⟩ (fun l => kc11_within l D A (CW D A ad K (uS S 0 s) Q qa tp bo e uc lr nx) n 0 9 (by omega) (by omega) (by omega)) rfl (fun _ h => h) ⟨by decide, by decide⟩ rfl rfl ⟨by decide, by decide⟩ (rest := []) rfl (Nat.le_of_ble_eq_true rfl) (fun u5 => [vI (bi (0 ≤ n ∧ n ≤ 9))]) (fun _ => rfl) (fun u5 hu5 => ?_)
      refine v_ifb_ne (p := 0 ≤ n ∧ n ≤ 9) (tgt := 39) hG dX11_row_33 (by decide) (fun c6 => ?_) (fun c6 => ?_)
      · skip
        refine v_aload hG dX11_row_39 0 rfl ?_
        refine c_inst6 (by decide) (by omega) (by omega) (by first | assumption | exact hM _ (by omega) (by omega)) hG dX11_row_41 (ztb 520 (by decide +kernel) (by decide +kernel)) ?_
        refine v_ifb_eq (p := isU (s (50 + m)) 6) (tgt := 64) hG dX11_row_44 (by decide) (fun c7 => ?_) (fun c7 => ?_)
        · skip
          refine v_bipush hG dX11_row_64 (by decide) ?_
          have e8 : s = f_row s m k n := by first | rfl | (unfold f_row; (repeat' split) <;> first | rfl | omega | (exfalso; omega) | (congr 1; omega))
          have e9 : @Eq Int (a_row s m k n) (-3) := by first | rfl | (unfold a_row; (repeat' split) <;> first | rfl | omega | (exfalso; omega) | (congr 1; omega))
          exact v_ireturn hG hR dX11_row_66 () (congrArg (fun z => some (vI z)) e9) (by trivial) (fun _ hM => by rw [← e8]; exact hM)
        · skip
          refine v_aload hG dX11_row_47 0 rfl ?_
          have h6 : s (50 + m) = 6 := by omega
          refine v_castS (ci := 8) (nm := "MirrorPlate$Told") hG dX11_row_49 (ztb 520 (by decide +kernel) (by decide +kernel)) rfl rfl (cRM6 (by decide) (by omega) (by omega) h6) ?_
          refine v_astore (lo' := [(5, .ref (kM ad 0 m)), (4, .ref (kM ad 0 m)), (0, .ref (ad 0)), (1, vI m), (2, vI k), (3, vI n)]) hG dX11_row_52 (by decide) rfl ?_
          refine v_aload hG dX11_row_54 0 rfl ?_
          refine v_iload_n hG dX11_row_56 rfl 4 rfl ?_
          refine v_iload_n hG dX11_row_57 rfl 5 rfl ?_
          refine v_callV (k1' := 0) (k2' := 0) hG dX11_row_58 zc_X8_tell ⟨zl_X11_145, zi_X8_tell, zs_X8_tell⟩ (fun l => kc8_tell l D A ad K S Q qa tp s bo e uc lr nx 0 (by decide) m k n hTB (by omega) (by omega) (hM _ (by omega) (by omega)) h6 (by omega) (by omega)) rfl (cRM6 (by decide) (by omega) (by omega) h6) (fun _ h => h) ⟨by decide, by decide⟩ rfl rfl ⟨by decide, by decide⟩ (rest := []) rfl (Nat.le_of_ble_eq_true rfl) (fun _ => vI (s (74 + 4 * m + k)) :: []) (fun _ => rfl) (fun _ _ => ?_)
          refine v_goto (tgt := 66) hG dX11_row_61 (by decide) ?_
          have e10 : sU s (74 + 4 * m + k) n = f_row s m k n := by first | rfl | (unfold f_row; (repeat' split) <;> first | rfl | omega | (exfalso; omega) | (congr 1; omega))
          have e11 : @Eq Int (a_row s m k n) (s (74 + 4 * m + k)) := by first | rfl | (unfold a_row; (repeat' split) <;> first | rfl | omega | (exfalso; omega) | (congr 1; omega))
          exact v_ireturn hG hR dX11_row_66 () (congrArg (fun z => some (vI z)) e11) (by trivial) (fun _ hM => by rw [← e10]; exact hM)
      · skip
        refine v_bipush hG dX11_row_36 (by decide) ?_
        have e12 : s = f_row s m k n := by first | rfl | (unfold f_row; (repeat' split) <;> first | rfl | omega | (exfalso; omega) | (congr 1; omega))
        have e13 : @Eq Int (a_row s m k n) (-2) := by first | rfl | (unfold a_row; (repeat' split) <;> first | rfl | omega | (exfalso; omega) | (congr 1; omega))
        exact v_ireturn hG hR dX11_row_38 () (congrArg (fun z => some (vI z)) e13) (by trivial) (fun _ hM => by rw [← e12]; exact hM)
    · skip
      refine v_iconst hG dX11_row_24 ?_
      have e14 : s = f_row s m k n := by first | rfl | (unfold f_row; (repeat' split) <;> first | rfl | omega | (exfalso; omega) | (congr 1; omega))
      have e15 : @Eq Int (a_row s m k n) (-1) := by first | rfl | (unfold a_row; (repeat' split) <;> first | rfl | omega | (exfalso; omega) | (congr 1; omega))
      exact v_ireturn hG hR dX11_row_25 () (congrArg (fun z => some (vI z)) e15) (by trivial) (fun _ hM => by rw [← e14]; exact hM)
  · skip
    refine v_callV (k1' := 0) (k2' := 0) hG dX11_row_5 zc_X0_markAt ⟨zl_X11_99, zi_X0_markAt, zs_X0_markAt⟩ (fun l => kc0_markAt_out l D A ad K S Q qa tp s bo e uc lr nx 0 (by decide) m (by assumption) (by omega) (by first | exact c1 | (simp only [sU_at]; omega) | omega)) rfl (cR0 (by decide)) (fun _ h => h) ⟨by decide, by decide⟩ rfl rfl ⟨by decide, by decide⟩ (rest := []) rfl (Nat.le_of_ble_eq_true rfl) (fun u16 => [.null]) (fun _ => rfl) (fun u16 hu16 => ?_)
    refine v_astoreN (lo' := [(4, .null), (0, .ref (ad 0)), (1, vI m), (2, vI k), (3, vI n)]) hG dX11_row_8 (by decide) rfl ?_
    refine v_aloadN hG dX11_row_10 0 rfl ?_
    refine v_ifnullN (tgt := 24) hG dX11_row_12 (by decide) ?_
    refine v_iconst hG dX11_row_24 ?_
    have e17 : s = f_row s m k n := by first | rfl | (unfold f_row; (repeat' split) <;> first | rfl | omega | (exfalso; omega) | (congr 1; omega))
    have e18 : @Eq Int (a_row s m k n) (-1) := by first | rfl | (unfold a_row; (repeat' split) <;> first | rfl | omega | (exfalso; omega) | (congr 1; omega))
    exact v_ireturn hG hR dX11_row_25 () (congrArg (fun z => some (vI z)) e18) (by trivial) (fun _ hM => by rw [← e17]; exact hM)
