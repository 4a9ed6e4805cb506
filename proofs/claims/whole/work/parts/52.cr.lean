/-! ROWS OF THE CLASS'S WORLD, by the rows that its benches stand for -/
def MA (K s mB : Int → Int) (rB : Nat → Int → Int) (b : Nat) (x : Int) : Prop := (K (50 + x) = s (50 + x) ∧ K (58 + x) = s (58 + x) ∧ K (66 + x) = s (66 + x)) ∧ (mB (3 + x) = s (3 + x) ∧ mB (11 + x) = s (11 + x) ∧ mB (19 + x) = s (19 + x) ∧ mB (27 + x) = s (27 + x) ∧ mB (35 + x) = s (35 + x)) ∧ ∀ q : Int, 0 ≤ q → q < 4 → rB (8 * b + x.toNat) q = s (74 + 4 * x + q)
/-- the tables' rows -/
def TA (s : Int → Int) (tc : Nat → Int → Int) (b : Nat) : Prop := (∀ i : Int, 0 ≤ i → i < s 48 → tc (4 * b + 0) i = s (158 + i)) ∧ (∀ i : Int, 0 ≤ i → i < s 45 → tc (4 * b + 1) (2 * i) = s (106 + i) ∧ tc (4 * b + 1) (2 * i + 1) = s (112 + i)) ∧ (∀ i : Int, 0 ≤ i → i < s 46 → tc (4 * b + 2) (2 * i) = s (118 + i) ∧ tc (4 * b + 2) (2 * i + 1) = s (126 + i)) ∧ (∀ i : Int, 0 ≤ i → i < s 47 → tc (4 * b + 3) (3 * i) = s (134 + i) ∧ tc (4 * b + 3) (3 * i + 1) = s (142 + i) ∧ tc (4 * b + 3) (3 * i + 2) = s (150 + i))
def Ag (K s hB mB : Int → Int) (rB : Nat → Int → Int) (b : Nat) (tz : Int → Int) (tc : Nat → Int → Int) : Prop := (hB 0 = s 0 ∧ hB 1 = s 1 ∧ hB 2 = s 2 ∧ hB 43 = s 43 ∧ hB 44 = s 44 ∧ hB 49 = s 49) ∧ (tz 0 = s 48 ∧ tz 1 = s 45 ∧ tz 2 = s 46 ∧ tz 3 = s 47) ∧ (∀ x : Int, 0 ≤ x → x < s 43 → x < 8 → MA K s mB rB b x) ∧ TA s tc b
def AG (K : Int → Int) (S hB mB rB tz : Nat → Int → Int) (tc : Nat → Int → Int) : Prop := ∀ b : Nat, b < 3 → Ag K (S b) (hB b) (mB b) rB b (tz b) tc
def CW (D : Dx) (A : Nat → Prop) (ad : Nat → Nat) (K : Int → Int) (S Q qa : Nat → Int → Int) (tp : Nat → Nat) (bo e uc lr nx : Int → Int) (H : Heap) : Prop := ∃ (hB mB rB tz : Nat → Int → Int) (tc : Nat → Int → Int), AG K S hB mB rB tz tc ∧ XW D A ad K hB mB rB tz tc Q qa tp bo e uc lr nx H
theorem bfs_ag {K s hB mB : Int → Int} {rB : Nat → Int → Int} {b : Nat} {tz : Int → Int} {tc : Nat → Int → Int} {ad : Nat → Nat} (h : Ag K s hB mB rB b tz tc) : bfs ad hB b = bfs ad s b := by
  obtain ⟨⟨h0, h1, h2, h3, h4, h5⟩, -⟩ := h
  unfold bfs hc
  rw [h0, h1, h2, h3, h4, h5]
theorem mkf_ag {K s mB : Int → Int} {rB : Nat → Int → Int} {b : Nat} {x : Int} {ad : Nat → Nat} (h : MA K s mB rB b x) : mkf ad K mB b x = mkf ad s s b x := by
  obtain ⟨⟨h0, h1, h2⟩, ⟨h3, h4, h5, h6, h7⟩, -⟩ := h
  unfold mkf
  rw [h0, h1, h2, h3, h4, h5, h6, h7]
theorem tz_ag {K s hB mB : Int → Int} {rB : Nat → Int → Int} {b t : Nat} {tz : Int → Int} {tc : Nat → Int → Int} (h : Ag K s hB mB rB b tz tc) (ht : t < 4) : tz t = s (tix t) := by
  obtain ⟨-, ⟨h0, h1, h2, h3⟩, -⟩ := h
  rcases (show t = 0 ∨ t = 1 ∨ t = 2 ∨ t = 3 by omega) with rfl | rfl | rfl | rfl
  · exact h0
  · exact h1
  · exact h2
  · exact h3
/-- one bench's row changes -/
theorem AG_upd {K : Int → Int} {S hB hB' mB mB' rB rB' tz tz' : Nat → Int → Int} {tc tc' : Nat → Int → Int} {b : Nat} {s s' : Int → Int} (hb : b < 3) (h : AG K (uS S b s) hB mB rB tz tc) (h1 : Ag K s (hB b) (mB b) rB b (tz b) tc → Ag K s' (hB' b) (mB' b) rB' b (tz' b) tc') (h2 : ∀ c, c ≠ b → c < 3 → Ag K (S c) (hB c) (mB c) rB c (tz c) tc → Ag K (S c) (hB' c) (mB' c) rB' c (tz' c) tc') : AG K (uS S b s') hB' mB' rB' tz' tc' := by
  intro c hc1
  have := h c hc1
  by_cases q : c = b
  · subst q
    rw [uS_eq] at this ⊢
    exact h1 this
  · rw [uS_ne q] at this ⊢
    exact h2 c q hc1 this
theorem AG.at {K : Int → Int} {S hB mB rB tz : Nat → Int → Int} {tc : Nat → Int → Int} {b : Nat} {s : Int → Int} (h : AG K (uS S b s) hB mB rB tz tc) (hb : b < 3) : Ag K s (hB b) (mB b) rB b (tz b) tc := by
  have := h b hb
  rw [uS_eq] at this
  exact this
theorem TA_eq {s s' : Int → Int} {tc : Nat → Int → Int} {b : Nat} (h45 : (0 ≤ s 45 ∧ s 45 ≤ 6) ∧ (0 ≤ s 46 ∧ s 46 ≤ 8) ∧ (0 ≤ s 47 ∧ s 47 ≤ 8) ∧ (0 ≤ s 48 ∧ s 48 ≤ 100)) (hq : ∀ q : Int, (45 ≤ q ∧ q ≤ 48) ∨ (106 ≤ q ∧ q < 258) → s' q = s q) (h : TA s tc b) : TA s' tc b := by
  obtain ⟨h1, h2, h3, h4⟩ := h
  unfold TA
  rw [hq 45 (by omega), hq 46 (by omega), hq 47 (by omega), hq 48 (by omega)]
  refine ⟨fun i g1 g2 => ?_, fun i g1 g2 => ?_, fun i g1 g2 => ?_, fun i g1 g2 => ?_⟩
  · rw [hq _ (by omega)]; exact h1 i g1 g2
  · rw [hq _ (by omega), hq _ (by omega)]; exact h2 i g1 g2
  · rw [hq _ (by omega), hq _ (by omega)]; exact h3 i g1 g2
  · rw [hq _ (by omega), hq _ (by omega), hq _ (by omega)]; exact h4 i g1 g2
/-- how many rows there may be -/
def TB (s : Int → Int) : Prop := (0 ≤ s 45 ∧ s 45 ≤ 6) ∧ (0 ≤ s 46 ∧ s 46 ≤ 8) ∧ (0 ≤ s 47 ∧ s 47 ≤ 8) ∧ (0 ≤ s 48 ∧ s 48 ≤ 100)
theorem Ag_h {K s hB mB : Int → Int} {rB : Nat → Int → Int} {b : Nat} {tz : Int → Int} {tc : Nat → Int → Int} {j z : Int} (hT : TB s) (hj : j = 0 ∨ j = 1 ∨ j = 2 ∨ j = 44 ∨ j = 49) (h : Ag K s hB mB rB b tz tc) : Ag K (sU s j z) (sU hB j z) mB rB b tz tc := by
  obtain ⟨⟨h0, h1, h2, h3, h4, h5⟩, ⟨t0, t1, t2, t3⟩, hm, ht⟩ := h
  refine ⟨?_, ?_, fun x g1 g2 g3 => ?_, TA_eq hT (fun q hq => sU_ne (by omega)) ht⟩
  · simp only [sU_at, h0, h1, h2, h3, h4, h5, and_self]
  · rw [sU_ne (by omega), sU_ne (by omega), sU_ne (by omega), sU_ne (by omega)]; exact ⟨t0, t1, t2, t3⟩
  · rw [sU_ne (by omega)] at g2
    have := hm x g1 g2 g3
    unfold MA at this ⊢
    rw [sU_ne (by omega), sU_ne (by omega), sU_ne (by omega), sU_ne (by omega), sU_ne (by omega), sU_ne (by omega), sU_ne (by omega), sU_ne (by omega)]
    exact ⟨this.1, this.2.1, fun q q0 q4 => by rw [sU_ne (by omega)]; exact this.2.2 q q0 q4⟩
theorem Ag_m {K s hB mB : Int → Int} {rB : Nat → Int → Int} {b : Nat} {tz : Int → Int} {tc : Nat → Int → Int} {j x z : Int} (hT : TB s) (hx : 0 ≤ x ∧ x < 8) (hj : j = 3 ∨ j = 11 ∨ j = 19 ∨ j = 27 ∨ j = 35) (h : Ag K s hB mB rB b tz tc) : Ag K (sU s (j + x) z) hB (sU mB (j + x) z) rB b tz tc := by
  obtain ⟨⟨h0, h1, h2, h3, h4, h5⟩, ⟨t0, t1, t2, t3⟩, hm, ht⟩ := h
  refine ⟨?_, ?_, fun y g1 g2 g3 => ?_, TA_eq hT (fun q hq => sU_ne (by omega)) ht⟩
  · rw [sU_ne (by omega), sU_ne (by omega), sU_ne (by omega), sU_ne (by omega), sU_ne (by omega), sU_ne (by omega)]; exact ⟨h0, h1, h2, h3, h4, h5⟩
  · rw [sU_ne (by omega), sU_ne (by omega), sU_ne (by omega), sU_ne (by omega)]; exact ⟨t0, t1, t2, t3⟩
  · rw [sU_ne (by omega)] at g2
    have := hm y g1 g2 g3
    unfold MA at this ⊢
    obtain ⟨a1, ⟨b1, b2, b3, b4, b5⟩, a3⟩ := this
    refine ⟨by rw [sU_ne (by omega), sU_ne (by omega), sU_ne (by omega)]; exact a1, ?_, fun q q0 q4 => by rw [sU_ne (by omega)]; exact a3 q q0 q4⟩
    simp only [sU_at, b1, b2, b3, b4, b5, and_self]
theorem Ag_r {K s hB mB : Int → Int} {rB : Nat → Int → Int} {b : Nat} {tz : Int → Int} {tc : Nat → Int → Int} {j x z : Int} (hT : TB s) (hx : 0 ≤ x ∧ x < 8) (hj : 0 ≤ j ∧ j < 4) (h : Ag K s hB mB rB b tz tc) : Ag K (sU s (74 + 4 * x + j) z) hB mB (uS rB (8 * b + x.toNat) (sU (rB (8 * b + x.toNat)) j z)) b tz tc := by
  obtain ⟨⟨h0, h1, h2, h3, h4, h5⟩, ⟨t0, t1, t2, t3⟩, hm, ht⟩ := h
  refine ⟨?_, ?_, fun y g1 g2 g3 => ?_, TA_eq hT (fun q hq => sU_ne (by omega)) ht⟩
  · rw [sU_ne (by omega), sU_ne (by omega), sU_ne (by omega), sU_ne (by omega), sU_ne (by omega), sU_ne (by omega)]; exact ⟨h0, h1, h2, h3, h4, h5⟩
  · rw [sU_ne (by omega), sU_ne (by omega), sU_ne (by omega), sU_ne (by omega)]; exact ⟨t0, t1, t2, t3⟩
  · rw [sU_ne (by omega)] at g2
    have := hm y g1 g2 g3
    unfold MA at this ⊢
    obtain ⟨a1, a2, a3⟩ := this
    refine ⟨by rw [sU_ne (by omega), sU_ne (by omega), sU_ne (by omega)]; exact a1, by rw [sU_ne (by omega), sU_ne (by omega), sU_ne (by omega), sU_ne (by omega), sU_ne (by omega)]; exact a2, fun q q0 q4 => ?_⟩
    by_cases e : y = x
    · subst e
      rw [uS_eq, sU_at, sU_at, a3 q q0 q4]
      by_cases e2 : q = j
      · rw [if_pos e2, if_pos (by omega)]
      · rw [if_neg e2, if_neg (by omega)]
    · rw [uS_ne (by omega), sU_ne (by omega)]; exact a3 q q0 q4
theorem Ag_row {K s hB mB : Int → Int} {rB rB' : Nat → Int → Int} {b : Nat} {tz : Int → Int} {tc : Nat → Int → Int} (h : Ag K s hB mB rB b tz tc) (hr : ∀ x : Int, 0 ≤ x → x < 8 → rB' (8 * b + x.toNat) = rB (8 * b + x.toNat)) : Ag K s hB mB rB' b tz tc := by
  obtain ⟨h1, h2, hm, ht⟩ := h
  refine ⟨h1, h2, fun x g1 g2 g3 => ?_, ht⟩
  have := hm x g1 g2 g3
  unfold MA at this ⊢
  rw [hr x g1 g3]
  exact this
/-- a plate's rows -/
def q4 (qa : Nat → Int → Int) (p : Nat) (w0 w1 w2 w3 : Int → Int) : Nat → Int → Int := fun k => if k = p then w0 else if k = 6 + p then w1 else if k = 12 + p then w2 else if k = 18 + p then w3 else qa k
theorem q4_self {qa : Nat → Int → Int} {p : Nat} : q4 qa p (qa (6 * 0 + p)) (qa (6 * 1 + p)) (qa (6 * 2 + p)) (qa (6 * 3 + p)) = qa := by
  funext k
  unfold q4
  by_cases h0 : k = p
  · rw [if_pos h0, h0]; congr 1; omega
  · rw [if_neg h0]
    by_cases h1 : k = 6 + p
    · rw [if_pos h1, h1]
    · rw [if_neg h1]
      by_cases h2 : k = 12 + p
      · rw [if_pos h2, h2]
      · rw [if_neg h2]
        by_cases h3 : k = 18 + p
        · rw [if_pos h3, h3]
        · rw [if_neg h3]
theorem q4_0 {qa : Nat → Int → Int} {p : Nat} {w0 w1 w2 w3 : Int → Int} (hp : p < 6) : q4 qa p w0 w1 w2 w3 (6 * 0 + p) = w0 := by
  unfold q4
  rw [if_pos (by omega)]
theorem q4u_0 {qa : Nat → Int → Int} {p : Nat} {w0 w1 w2 w3 f : Int → Int} (hp : p < 6) : uS (q4 qa p w0 w1 w2 w3) (6 * 0 + p) f = q4 qa p f w1 w2 w3 := by
  funext k
  unfold uS q4
  by_cases h : k = 6 * 0 + p
  · rw [if_pos h, if_pos (by omega)]
  · rw [if_neg h]
    (repeat' split) <;> first | rfl | omega
theorem q4_1 {qa : Nat → Int → Int} {p : Nat} {w0 w1 w2 w3 : Int → Int} (hp : p < 6) : q4 qa p w0 w1 w2 w3 (6 * 1 + p) = w1 := by
  unfold q4
  rw [if_neg (by omega), if_pos (by omega)]
theorem q4u_1 {qa : Nat → Int → Int} {p : Nat} {w0 w1 w2 w3 f : Int → Int} (hp : p < 6) : uS (q4 qa p w0 w1 w2 w3) (6 * 1 + p) f = q4 qa p w0 f w2 w3 := by
  funext k
  unfold uS q4
  by_cases h : k = 6 * 1 + p
  · rw [if_pos h, if_neg (by omega), if_pos (by omega)]
  · rw [if_neg h]
    (repeat' split) <;> first | rfl | omega
theorem q4_2 {qa : Nat → Int → Int} {p : Nat} {w0 w1 w2 w3 : Int → Int} (hp : p < 6) : q4 qa p w0 w1 w2 w3 (6 * 2 + p) = w2 := by
  unfold q4
  rw [if_neg (by omega), if_neg (by omega), if_pos (by omega)]
theorem q4u_2 {qa : Nat → Int → Int} {p : Nat} {w0 w1 w2 w3 f : Int → Int} (hp : p < 6) : uS (q4 qa p w0 w1 w2 w3) (6 * 2 + p) f = q4 qa p w0 w1 f w3 := by
  funext k
  unfold uS q4
  by_cases h : k = 6 * 2 + p
  · rw [if_pos h, if_neg (by omega), if_neg (by omega), if_pos (by omega)]
  · rw [if_neg h]
    (repeat' split) <;> first | rfl | omega
theorem q4_3 {qa : Nat → Int → Int} {p : Nat} {w0 w1 w2 w3 : Int → Int} (hp : p < 6) : q4 qa p w0 w1 w2 w3 (6 * 3 + p) = w3 := by
  unfold q4
  rw [if_neg (by omega), if_neg (by omega), if_neg (by omega), if_pos (by omega)]
theorem q4u_3 {qa : Nat → Int → Int} {p : Nat} {w0 w1 w2 w3 f : Int → Int} (hp : p < 6) : uS (q4 qa p w0 w1 w2 w3) (6 * 3 + p) f = q4 qa p w0 w1 w2 f := by
  funext k
  unfold uS q4
  by_cases h : k = 6 * 3 + p
  · rw [if_pos h, if_neg (by omega), if_neg (by omega), if_neg (by omega), if_pos (by omega)]
  · rw [if_neg h]
    (repeat' split) <;> first | rfl | omega
section CR
variable {G : Gx} {cc : ByteArray} {nL : Nat} {own ref : String} {rm : Room} {k1 k2 pc k idx : Nat} {lo : List (Nat × Value)} {st : List Value} {v : Value}
variable {D : Dx} {A : Nat → Prop} {ad : Nat → Nat} {K s q : Int → Int} {S Q qa : Nat → Int → Int} {tp : Nat → Nat} {bo e uc lr nx w0 w1 w2 w3 : Int → Int} {b p : Nat}
theorem c_open (kk : ∀ (hB mB rB tz : Nat → Int → Int) (tc : Nat → Int → Int), AG K S hB mB rB tz tc → XI A ad K → V G k1 k2 (XW D A ad K hB mB rB tz tc Q qa tp bo e uc lr nx) pc lo st) : V G k1 k2 (CW D A ad K S Q qa tp bo e uc lr nx) pc lo st := by
  obtain ⟨p, l, e, R, s, m, args, below, meth, c, A', Q⟩ := G
  intro H locs ls hP hS hl
  obtain ⟨hB, mB, rB, tz, tc, hA, hX⟩ := hP
  exact kk hB mB rB tz tc hA hX.i H locs ls hX hS hl
theorem c_close {hB mB rB tz : Nat → Int → Int} {tc : Nat → Int → Int} (hA : AG K S hB mB rB tz tc) (kk : V G k1 k2 (CW D A ad K S Q qa tp bo e uc lr nx) pc lo st) : V G k1 k2 (XW D A ad K hB mB rB tz tc Q qa tp bo e uc lr nx) pc lo st := v_P (fun _ h => ⟨_, _, _, _, _, hA, h⟩) kk
theorem cg0 (hb : b < 3) (hG : Ok D A G cc nL own rm) (hd : decode cc pc = .ok (.getfield idx, 3)) (hF : zFl own idx ref (TX0 k)) (hk : k < 11) (hv : (bfs ad s b)[k]? = some v) (kk : V G k1 k2 (CW D A ad K (uS S b s) Q qa tp bo e uc lr nx) (pc + 3) lo (v :: st)) : V G k1 k2 (CW D A ad K (uS S b s) Q qa tp bo e uc lr nx) pc lo (.ref (kB ad b) :: st) := by
  refine c_open (fun hB mB rB tz tc hA hI => ?_)
  exact xg0 hb hG hd hF hk (by rw [bfs_ag (hA.at hb)]; exact hv) (c_close hA kk)
theorem cg7 {t : Nat} (hb : b < 3) (ht : t < 4) (hG : Ok D A G cc nL own rm) (hd : decode cc pc = .ok (.getfield idx, 3)) (hF : zFl own idx ref (TX7 k)) (hk : k < 3) (hv : (tfs ad b t (s (tix t)))[k]? = some v) (kk : V G k1 k2 (CW D A ad K (uS S b s) Q qa tp bo e uc lr nx) (pc + 3) lo (v :: st)) : V G k1 k2 (CW D A ad K (uS S b s) Q qa tp bo e uc lr nx) pc lo (.ref (kT ad b t) :: st) := by
  refine c_open (fun hB mB rB tz tc hA hI => ?_)
  exact xg7 hb ht hG hd hF hk (by rw [tz_ag (hA.at hb) ht]; exact hv) (c_close hA kk)
theorem cgM {x : Int} (hb : b < 3) (hx : 0 ≤ x ∧ x < 8) (hm : x < s 43) (hG : Ok D A G cc nL own rm) (hd : decode cc pc = .ok (.getfield idx, 3)) (hF : zFl own idx ref (TX4 k)) (hk : k < 9) (hv : (mkf ad s s b x)[k]? = some v) (kk : V G k1 k2 (CW D A ad K (uS S b s) Q qa tp bo e uc lr nx) (pc + 3) lo (v :: st)) : V G k1 k2 (CW D A ad K (uS S b s) Q qa tp bo e uc lr nx) pc lo (.ref (kM ad b x) :: st) := by
  refine c_open (fun hB mB rB tz tc hA hI => ?_)
  exact xgM hb hx hG hd hI hF hk (by rw [mkf_ag ((hA.at hb).2.2.1 x hx.1 hm hx.2)]; exact hv) (c_close hA kk)
theorem cgR {x : Int} (hb : b < 3) (hx : 0 ≤ x ∧ x < 8) (hm : x < s 43) (h6 : s (50 + x) = 6) (hG : Ok D A G cc nL own rm) (hd : decode cc pc = .ok (.getfield idx, 3)) (hF : zFl own idx ref (TX8 9)) (kk : V G k1 k2 (CW D A ad K (uS S b s) Q qa tp bo e uc lr nx) (pc + 3) lo (.ref (kR ad b x) :: st)) : V G k1 k2 (CW D A ad K (uS S b s) Q qa tp bo e uc lr nx) pc lo (.ref (kM ad b x) :: st) := by
  refine c_open (fun hB mB rB tz tc hA hI => ?_)
  exact xgR hb hx (((hA.at hb).2.2.1 x hx.1 hm hx.2).1.1.trans h6) hG hd hF (c_close hA kk)
theorem cg6 (hp : p < 6) (hG : Ok D A G cc nL own rm) (hd : decode cc pc = .ok (.getfield idx, 3)) (hF : zFl own idx ref (TX6 k)) (hk : k < 11) (hv : (pfs ad (Q p) (tp p) p)[k]? = some v) (kk : V G k1 k2 (CW D A ad K S Q qa tp bo e uc lr nx) (pc + 3) lo (v :: st)) : V G k1 k2 (CW D A ad K S Q qa tp bo e uc lr nx) pc lo (.ref (kP ad p) :: st) := by
  refine c_open (fun hB mB rB tz tc hA hI => ?_)
  exact xg6 hp hG hd hF hk hv (c_close hA kk)
theorem cq6 (hp : p < 6) (hG : Ok D A G cc nL own rm) (hd : decode cc pc = .ok (.getfield idx, 3)) (hF : zFl own idx ref (TX6 k)) (hk : k < 11) (hv : (pfs ad q (tp p) p)[k]? = some v) (kk : V G k1 k2 (CW D A ad K S (uS Q p q) qa tp bo e uc lr nx) (pc + 3) lo (v :: st)) : V G k1 k2 (CW D A ad K S (uS Q p q) qa tp bo e uc lr nx) pc lo (.ref (kP ad p) :: st) := by
  refine c_open (fun hB mB rB tz tc hA hI => ?_)
  exact xg6 hp hG hd hF hk (by rw [uS_eq]; exact hv) (c_close hA kk)
theorem cg9  (hG : Ok D A G cc nL own rm) (hd : decode cc pc = .ok (.getfield idx, 3)) (hF : zFl own idx ref (TX9 k)) (hk : k < 2) (hv : ([.ref (ad 3), vI (e 0)] : List Value)[k]? = some v) (kk : V G k1 k2 (CW D A ad K S Q qa tp bo e uc lr nx) (pc + 3) lo (v :: st)) : V G k1 k2 (CW D A ad K S Q qa tp bo e uc lr nx) pc lo (.ref (ad 2) :: st) := by
  refine c_open (fun hB mB rB tz tc hA hI => ?_)
  exact xg9 hG hd hF hk hv (c_close hA kk)
theorem cg11  (hG : Ok D A G cc nL own rm) (hd : decode cc pc = .ok (.getfield idx, 3)) (hF : zFl own idx ref (TX11 k)) (hk : k < 9) (hv : (xfs ad e)[k]? = some v) (kk : V G k1 k2 (CW D A ad K S Q qa tp bo e uc lr nx) (pc + 3) lo (v :: st)) : V G k1 k2 (CW D A ad K S Q qa tp bo e uc lr nx) pc lo (.ref (ad 0) :: st) := by
  refine c_open (fun hB mB rB tz tc hA hI => ?_)
  exact xg11 hG hd hF hk hv (c_close hA kk)
theorem cp0_minute {z : Int} (hT : TB s) (hb : b < 3) (hG : Ok D A G cc nL own rm) (hd : decode cc pc = .ok (.putfield idx, 3)) (hF : zFl own idx ref (TX0 0)) (kk : V G k1 k2 (CW D A ad K (uS S b (sU s 0 z)) Q qa tp bo e uc lr nx) (pc + 3) lo st) : V G k1 k2 (CW D A ad K (uS S b s) Q qa tp bo e uc lr nx) pc lo (vI z :: .ref (kB ad b) :: st) := by
  refine c_open (fun hB mB rB tz tc hA hI => ?_)
  exact xp0_minute hb hG hd hF (c_close (AG_upd hb hA (fun h => by rw [uS_eq]; exact Ag_h hT (by omega) h) (fun c h _ g => by rw [uS_ne h]; exact g)) kk)
theorem cp0_taken {z : Int} (hT : TB s) (hb : b < 3) (hG : Ok D A G cc nL own rm) (hd : decode cc pc = .ok (.putfield idx, 3)) (hF : zFl own idx ref (TX0 1)) (kk : V G k1 k2 (CW D A ad K (uS S b (sU s 1 z)) Q qa tp bo e uc lr nx) (pc + 3) lo st) : V G k1 k2 (CW D A ad K (uS S b s) Q qa tp bo e uc lr nx) pc lo (vI z :: .ref (kB ad b) :: st) := by
  refine c_open (fun hB mB rB tz tc hA hI => ?_)
  exact xp0_taken hb hG hd hF (c_close (AG_upd hb hA (fun h => by rw [uS_eq]; exact Ag_h hT (by omega) h) (fun c h _ g => by rw [uS_ne h]; exact g)) kk)
theorem cp0_tired {z : Int} (hT : TB s) (hb : b < 3) (hG : Ok D A G cc nL own rm) (hd : decode cc pc = .ok (.putfield idx, 3)) (hF : zFl own idx ref (TX0 2)) (kk : V G k1 k2 (CW D A ad K (uS S b (sU s 2 z)) Q qa tp bo e uc lr nx) (pc + 3) lo st) : V G k1 k2 (CW D A ad K (uS S b s) Q qa tp bo e uc lr nx) pc lo (vI z :: .ref (kB ad b) :: st) := by
  refine c_open (fun hB mB rB tz tc hA hI => ?_)
  exact xp0_tired hb hG hd hF (c_close (AG_upd hb hA (fun h => by rw [uS_eq]; exact Ag_h hT (by omega) h) (fun c h _ g => by rw [uS_ne h]; exact g)) kk)
theorem cp0_pcount {z : Int} (hT : TB s) (hb : b < 3) (hG : Ok D A G cc nL own rm) (hd : decode cc pc = .ok (.putfield idx, 3)) (hF : zFl own idx ref (TX0 4)) (kk : V G k1 k2 (CW D A ad K (uS S b (sU s 44 z)) Q qa tp bo e uc lr nx) (pc + 3) lo st) : V G k1 k2 (CW D A ad K (uS S b s) Q qa tp bo e uc lr nx) pc lo (vI z :: .ref (kB ad b) :: st) := by
  refine c_open (fun hB mB rB tz tc hA hI => ?_)
  exact xp0_pcount hb hG hd hF (c_close (AG_upd hb hA (fun h => by rw [uS_eq]; exact Ag_h hT (by omega) h) (fun c h _ g => by rw [uS_ne h]; exact g)) kk)
theorem cp0_held {p : Nat} {z : Int} (hT : TB s) (hb : b < 3) (hp : p < 6) (hz : (if z = -1 then 5 else z.toNat) = p) (hG : Ok D A G cc nL own rm) (hd : decode cc pc = .ok (.putfield idx, 3)) (hF : zFl own idx ref (TX0 5)) (kk : V G k1 k2 (CW D A ad K (uS S b (sU s 49 z)) Q qa tp bo e uc lr nx) (pc + 3) lo st) : V G k1 k2 (CW D A ad K (uS S b s) Q qa tp bo e uc lr nx) pc lo (.ref (kP ad p) :: .ref (kB ad b) :: st) := by
  refine c_open (fun hB mB rB tz tc hA hI => ?_)
  exact xp0_held (f := sU (hB b) 49 z) hb hp (by unfold hc; rw [sU_eq]; exact hz) ⟨sU_ne (by omega), sU_ne (by omega), sU_ne (by omega), sU_ne (by omega), sU_ne (by omega)⟩ hG hd hF (c_close (AG_upd hb hA (fun h => by rw [uS_eq]; exact Ag_h hT (by omega) h) (fun c h _ g => by rw [uS_ne h]; exact g)) kk)
theorem cpM_depth {x z : Int} (hT : TB s) (hb : b < 3) (hx : 0 ≤ x ∧ x < 8) (hG : Ok D A G cc nL own rm) (hd : decode cc pc = .ok (.putfield idx, 3)) (hF : zFl own idx ref (TX4 4)) (kk : V G k1 k2 (CW D A ad K (uS S b (sU s (3 + x) z)) Q qa tp bo e uc lr nx) (pc + 3) lo st) : V G k1 k2 (CW D A ad K (uS S b s) Q qa tp bo e uc lr nx) pc lo (vI z :: .ref (kM ad b x) :: st) := by
  refine c_open (fun hB mB rB tz tc hA hI => ?_)
  exact xpM_depth hb hx hG hd hI hF (c_close (AG_upd hb hA (fun h => by rw [uS_eq]; exact Ag_m hT hx (by omega) h) (fun c h _ g => by rw [uS_ne h]; exact g)) kk)
theorem cpM_isCut {x z : Int} (hT : TB s) (hb : b < 3) (hx : 0 ≤ x ∧ x < 8) (hG : Ok D A G cc nL own rm) (hd : decode cc pc = .ok (.putfield idx, 3)) (hF : zFl own idx ref (TX4 5)) (hz : z = 0 ∨ z = 1) (kk : V G k1 k2 (CW D A ad K (uS S b (sU s (11 + x) z)) Q qa tp bo e uc lr nx) (pc + 3) lo st) : V G k1 k2 (CW D A ad K (uS S b s) Q qa tp bo e uc lr nx) pc lo (vI z :: .ref (kM ad b x) :: st) := by
  refine c_open (fun hB mB rB tz tc hA hI => ?_)
  exact xpM_isCut hb hx hG hd hI hF hz (c_close (AG_upd hb hA (fun h => by rw [uS_eq]; exact Ag_m hT hx (by omega) h) (fun c h _ g => by rw [uS_ne h]; exact g)) kk)
theorem cpM_flaw {x z : Int} (hT : TB s) (hb : b < 3) (hx : 0 ≤ x ∧ x < 8) (hG : Ok D A G cc nL own rm) (hd : decode cc pc = .ok (.putfield idx, 3)) (hF : zFl own idx ref (TX4 6)) (kk : V G k1 k2 (CW D A ad K (uS S b (sU s (19 + x) z)) Q qa tp bo e uc lr nx) (pc + 3) lo st) : V G k1 k2 (CW D A ad K (uS S b s) Q qa tp bo e uc lr nx) pc lo (vI z :: .ref (kM ad b x) :: st) := by
  refine c_open (fun hB mB rB tz tc hA hI => ?_)
  exact xpM_flaw hb hx hG hd hI hF (c_close (AG_upd hb hA (fun h => by rw [uS_eq]; exact Ag_m hT hx (by omega) h) (fun c h _ g => by rw [uS_ne h]; exact g)) kk)
theorem cpM_worn {x z : Int} (hT : TB s) (hb : b < 3) (hx : 0 ≤ x ∧ x < 8) (hG : Ok D A G cc nL own rm) (hd : decode cc pc = .ok (.putfield idx, 3)) (hF : zFl own idx ref (TX4 7)) (kk : V G k1 k2 (CW D A ad K (uS S b (sU s (27 + x) z)) Q qa tp bo e uc lr nx) (pc + 3) lo st) : V G k1 k2 (CW D A ad K (uS S b s) Q qa tp bo e uc lr nx) pc lo (vI z :: .ref (kM ad b x) :: st) := by
  refine c_open (fun hB mB rB tz tc hA hI => ?_)
  exact xpM_worn hb hx hG hd hI hF (c_close (AG_upd hb hA (fun h => by rw [uS_eq]; exact Ag_m hT hx (by omega) h) (fun c h _ g => by rw [uS_ne h]; exact g)) kk)
theorem cpM_mended {x z : Int} (hT : TB s) (hb : b < 3) (hx : 0 ≤ x ∧ x < 8) (hG : Ok D A G cc nL own rm) (hd : decode cc pc = .ok (.putfield idx, 3)) (hF : zFl own idx ref (TX4 8)) (kk : V G k1 k2 (CW D A ad K (uS S b (sU s (35 + x) z)) Q qa tp bo e uc lr nx) (pc + 3) lo st) : V G k1 k2 (CW D A ad K (uS S b s) Q qa tp bo e uc lr nx) pc lo (vI z :: .ref (kM ad b x) :: st) := by
  refine c_open (fun hB mB rB tz tc hA hI => ?_)
  exact xpM_mended hb hx hG hd hI hF (c_close (AG_upd hb hA (fun h => by rw [uS_eq]; exact Ag_m hT hx (by omega) h) (fun c h _ g => by rw [uS_ne h]; exact g)) kk)
theorem cp6_cc {z : Int} (hp : p < 6) (hG : Ok D A G cc nL own rm) (hd : decode cc pc = .ok (.putfield idx, 3)) (hF : zFl own idx ref (TX6 4)) (kk : V G k1 k2 (CW D A ad K S (uS Q p (sU q 0 z)) qa tp bo e uc lr nx) (pc + 3) lo st) : V G k1 k2 (CW D A ad K S (uS Q p q) qa tp bo e uc lr nx) pc lo (vI z :: .ref (kP ad p) :: st) := by
  refine c_open (fun hB mB rB tz tc hA hI => ?_)
  refine xp6_cc hp hG hd hF ?_
  rw [uS_uS, uS_eq]
  exact c_close hA kk
theorem cp6_kc {z : Int} (hp : p < 6) (hG : Ok D A G cc nL own rm) (hd : decode cc pc = .ok (.putfield idx, 3)) (hF : zFl own idx ref (TX6 5)) (kk : V G k1 k2 (CW D A ad K S (uS Q p (sU q 1 z)) qa tp bo e uc lr nx) (pc + 3) lo st) : V G k1 k2 (CW D A ad K S (uS Q p q) qa tp bo e uc lr nx) pc lo (vI z :: .ref (kP ad p) :: st) := by
  refine c_open (fun hB mB rB tz tc hA hI => ?_)
  refine xp6_kc hp hG hd hF ?_
  rw [uS_uS, uS_eq]
  exact c_close hA kk
theorem cp6_tsize {z : Int} (hp : p < 6) (hG : Ok D A G cc nL own rm) (hd : decode cc pc = .ok (.putfield idx, 3)) (hF : zFl own idx ref (TX6 7)) (kk : V G k1 k2 (CW D A ad K S (uS Q p (sU q 2 z)) qa tp bo e uc lr nx) (pc + 3) lo st) : V G k1 k2 (CW D A ad K S (uS Q p q) qa tp bo e uc lr nx) pc lo (vI z :: .ref (kP ad p) :: st) := by
  refine c_open (fun hB mB rB tz tc hA hI => ?_)
  refine xp6_tsize hp hG hd hF ?_
  rw [uS_uS, uS_eq]
  exact c_close hA kk
theorem cp6_at {z : Int} (hp : p < 6) (hG : Ok D A G cc nL own rm) (hd : decode cc pc = .ok (.putfield idx, 3)) (hF : zFl own idx ref (TX6 8)) (kk : V G k1 k2 (CW D A ad K S (uS Q p (sU q 3 z)) qa tp bo e uc lr nx) (pc + 3) lo st) : V G k1 k2 (CW D A ad K S (uS Q p q) qa tp bo e uc lr nx) pc lo (vI z :: .ref (kP ad p) :: st) := by
  refine c_open (fun hB mB rB tz tc hA hI => ?_)
  refine xp6_at hp hG hd hF ?_
  rw [uS_uS, uS_eq]
  exact c_close hA kk
theorem cp6_wear {z : Int} (hp : p < 6) (hG : Ok D A G cc nL own rm) (hd : decode cc pc = .ok (.putfield idx, 3)) (hF : zFl own idx ref (TX6 9)) (kk : V G k1 k2 (CW D A ad K S (uS Q p (sU q 4 z)) qa tp bo e uc lr nx) (pc + 3) lo st) : V G k1 k2 (CW D A ad K S (uS Q p q) qa tp bo e uc lr nx) pc lo (vI z :: .ref (kP ad p) :: st) := by
  refine c_open (fun hB mB rB tz tc hA hI => ?_)
  refine xp6_wear hp hG hd hF ?_
  rw [uS_uS, uS_eq]
  exact c_close hA kk
theorem cp6_mend {z : Int} (hp : p < 6) (hG : Ok D A G cc nL own rm) (hd : decode cc pc = .ok (.putfield idx, 3)) (hF : zFl own idx ref (TX6 10)) (kk : V G k1 k2 (CW D A ad K S (uS Q p (sU q 5 z)) qa tp bo e uc lr nx) (pc + 3) lo st) : V G k1 k2 (CW D A ad K S (uS Q p q) qa tp bo e uc lr nx) pc lo (vI z :: .ref (kP ad p) :: st) := by
  refine c_open (fun hB mB rB tz tc hA hI => ?_)
  refine xp6_mend hp hG hd hF ?_
  rw [uS_uS, uS_eq]
  exact c_close hA kk
theorem cp6_tape {t : Nat} (hp : p < 6) (hG : Ok D A G cc nL own rm) (hd : decode cc pc = .ok (.putfield idx, 3)) (hF : zFl own idx ref (TX6 6)) (kk : V G k1 k2 (CW D A ad K S Q qa (uN tp p t) bo e uc lr nx) (pc + 3) lo st) : V G k1 k2 (CW D A ad K S Q qa tp bo e uc lr nx) pc lo (.ref t :: .ref (kP ad p) :: st) := by
  refine c_open (fun hB mB rB tz tc hA hI => ?_)
  exact xp6_tape hp hG hd hF (c_close hA kk)
theorem cp9_ran {z : Int} (hG : Ok D A G cc nL own rm) (hd : decode cc pc = .ok (.putfield idx, 3)) (hF : zFl own idx ref (TX9 1)) (kk : V G k1 k2 (CW D A ad K S Q qa tp bo (sU e 0 z) uc lr nx) (pc + 3) lo st) : V G k1 k2 (CW D A ad K S Q qa tp bo e uc lr nx) pc lo (vI z :: .ref (ad 2) :: st) := by
  refine c_open (fun hB mB rB tz tc hA hI => ?_)
  exact xp9_ran hG hd hF (c_close hA kk)
theorem cp11_it {z : Int} (hz : z = 0 ∨ z = 1) (hG : Ok D A G cc nL own rm) (hd : decode cc pc = .ok (.putfield idx, 3)) (hF : zFl own idx ref (TX11 8)) (kk : V G k1 k2 (CW D A ad K S Q qa tp bo (sU e 1 z) uc lr nx) (pc + 3) lo st) : V G k1 k2 (CW D A ad K S Q qa tp bo e uc lr nx) pc lo (vI z :: .ref (ad 0) :: st) := by
  refine c_open (fun hB mB rB tz tc hA hI => ?_)
  exact xp11_it hG hd hF hz (c_close hA kk)
theorem ca_bo {x z : Int} (hG : Ok D A G cc nL own rm) (hd : decode cc pc = .ok (.iaload, 1)) (hx : 0 ≤ x ∧ x < 20) (hz : bo x = z) (kk : V G k1 k2 (CW D A ad K S Q qa tp bo e uc lr nx) (pc + 1) lo (vI z :: st)) : V G k1 k2 (CW D A ad K S Q qa tp bo e uc lr nx) pc lo (vI x :: .ref (ad 3) :: st) := by
  refine c_open (fun hB mB rB tz tc hA hI => ?_)
  exact xa_bo hG hd hx hz (c_close hA kk)
theorem cs_bo {x z : Int} (hG : Ok D A G cc nL own rm) (hd : decode cc pc = .ok (.iastore, 1)) (hx : 0 ≤ x ∧ x < 20) (kk : V G k1 k2 (CW D A ad K S Q qa tp (sU bo x z) e uc lr nx) (pc + 1) lo st) : V G k1 k2 (CW D A ad K S Q qa tp bo e uc lr nx) pc lo (vI z :: vI x :: .ref (ad 3) :: st) := by
  refine c_open (fun hB mB rB tz tc hA hI => ?_)
  exact xt_bo hG hd hx (c_close hA kk)
theorem ca_uc {x z : Int} (hG : Ok D A G cc nL own rm) (hd : decode cc pc = .ok (.iaload, 1)) (hx : 0 ≤ x ∧ x < 8) (hz : uc x = z) (kk : V G k1 k2 (CW D A ad K S Q qa tp bo e uc lr nx) (pc + 1) lo (vI z :: st)) : V G k1 k2 (CW D A ad K S Q qa tp bo e uc lr nx) pc lo (vI x :: .ref (ad 4) :: st) := by
  refine c_open (fun hB mB rB tz tc hA hI => ?_)
  exact xa_uc hG hd hx hz (c_close hA kk)
theorem cs_uc {x z : Int} (hG : Ok D A G cc nL own rm) (hd : decode cc pc = .ok (.iastore, 1)) (hx : 0 ≤ x ∧ x < 8) (kk : V G k1 k2 (CW D A ad K S Q qa tp bo e (sU uc x z) lr nx) (pc + 1) lo st) : V G k1 k2 (CW D A ad K S Q qa tp bo e uc lr nx) pc lo (vI z :: vI x :: .ref (ad 4) :: st) := by
  refine c_open (fun hB mB rB tz tc hA hI => ?_)
  exact xt_uc hG hd hx (c_close hA kk)
theorem ca_lr {x z : Int} (hG : Ok D A G cc nL own rm) (hd : decode cc pc = .ok (.iaload, 1)) (hx : 0 ≤ x ∧ x < 64) (hz : lr x = z) (kk : V G k1 k2 (CW D A ad K S Q qa tp bo e uc lr nx) (pc + 1) lo (vI z :: st)) : V G k1 k2 (CW D A ad K S Q qa tp bo e uc lr nx) pc lo (vI x :: .ref (ad 5) :: st) := by
  refine c_open (fun hB mB rB tz tc hA hI => ?_)
  exact xa_lr hG hd hx hz (c_close hA kk)
theorem cs_lr {x z : Int} (hG : Ok D A G cc nL own rm) (hd : decode cc pc = .ok (.iastore, 1)) (hx : 0 ≤ x ∧ x < 64) (kk : V G k1 k2 (CW D A ad K S Q qa tp bo e uc (sU lr x z) nx) (pc + 1) lo st) : V G k1 k2 (CW D A ad K S Q qa tp bo e uc lr nx) pc lo (vI z :: vI x :: .ref (ad 5) :: st) := by
  refine c_open (fun hB mB rB tz tc hA hI => ?_)
  exact xt_lr hG hd hx (c_close hA kk)
theorem ca_nx {x z : Int} (hG : Ok D A G cc nL own rm) (hd : decode cc pc = .ok (.iaload, 1)) (hx : 0 ≤ x ∧ x < 64) (hz : nx x = z) (kk : V G k1 k2 (CW D A ad K S Q qa tp bo e uc lr nx) (pc + 1) lo (vI z :: st)) : V G k1 k2 (CW D A ad K S Q qa tp bo e uc lr nx) pc lo (vI x :: .ref (ad 6) :: st) := by
  refine c_open (fun hB mB rB tz tc hA hI => ?_)
  exact xa_nx hG hd hx hz (c_close hA kk)
theorem cs_nx {x z : Int} (hG : Ok D A G cc nL own rm) (hd : decode cc pc = .ok (.iastore, 1)) (hx : 0 ≤ x ∧ x < 64) (kk : V G k1 k2 (CW D A ad K S Q qa tp bo e uc lr (sU nx x z)) (pc + 1) lo st) : V G k1 k2 (CW D A ad K S Q qa tp bo e uc lr nx) pc lo (vI z :: vI x :: .ref (ad 6) :: st) := by
  refine c_open (fun hB mB rB tz tc hA hI => ?_)
  exact xt_nx hG hd hx (c_close hA kk)
theorem cl_bo  (hG : Ok D A G cc nL own rm) (hd : decode cc pc = .ok (.arraylength, 1)) (kk : V G k1 k2 (CW D A ad K S Q qa tp bo e uc lr nx) (pc + 1) lo (vI 20 :: st)) : V G k1 k2 (CW D A ad K S Q qa tp bo e uc lr nx) pc lo (.ref (ad 3) :: st) := by
  refine c_open (fun hB mB rB tz tc hA hI => ?_)
  exact xl_bo hG hd (c_close hA kk)
theorem ca_q0 {x z : Int} (hp : p < 6) (hG : Ok D A G cc nL own rm) (hd : decode cc pc = .ok (.iaload, 1)) (hx : 0 ≤ x ∧ x < 10) (hz : w0 x = z) (kk : V G k1 k2 (CW D A ad K S Q (q4 qa p w0 w1 w2 w3) tp bo e uc lr nx) (pc + 1) lo (vI z :: st)) : V G k1 k2 (CW D A ad K S Q (q4 qa p w0 w1 w2 w3) tp bo e uc lr nx) pc lo (vI x :: .ref (kQ ad 0 p) :: st) := by
  refine c_open (fun hB mB rB tz tc hA hI => ?_)
  exact xa_q (by decide) hp hG hd hx (by rw [q4_0 hp]; exact hz) (c_close hA kk)
theorem cb_q0 {x z : Int} (hp : p < 6) (hG : Ok D A G cc nL own rm) (hd : decode cc pc = .ok (.iaload, 1)) (hx : 0 ≤ x ∧ x < 10) (hz : qa (6 * 0 + p) x = z) (kk : V G k1 k2 (CW D A ad K S Q qa tp bo e uc lr nx) (pc + 1) lo (vI z :: st)) : V G k1 k2 (CW D A ad K S Q qa tp bo e uc lr nx) pc lo (vI x :: .ref (kQ ad 0 p) :: st) := by
  refine c_open (fun hB mB rB tz tc hA hI => ?_)
  exact xa_q (by decide) hp hG hd hx hz (c_close hA kk)
theorem cs_q0 {x z : Int} (hp : p < 6) (hG : Ok D A G cc nL own rm) (hd : decode cc pc = .ok (.iastore, 1)) (hx : 0 ≤ x ∧ x < 10) (kk : V G k1 k2 (CW D A ad K S Q (q4 qa p (sU w0 x z) w1 w2 w3) tp bo e uc lr nx) (pc + 1) lo st) : V G k1 k2 (CW D A ad K S Q (q4 qa p w0 w1 w2 w3) tp bo e uc lr nx) pc lo (vI z :: vI x :: .ref (kQ ad 0 p) :: st) := by
  refine c_open (fun hB mB rB tz tc hA hI => ?_)
  refine xt_q (j := 0) (by decide) hp hG hd hx ?_
  rw [q4_0 hp, q4u_0 hp]
  exact c_close hA kk
theorem ca_q1 {x z : Int} (hp : p < 6) (hG : Ok D A G cc nL own rm) (hd : decode cc pc = .ok (.iaload, 1)) (hx : 0 ≤ x ∧ x < 10) (hz : w1 x = z) (kk : V G k1 k2 (CW D A ad K S Q (q4 qa p w0 w1 w2 w3) tp bo e uc lr nx) (pc + 1) lo (vI z :: st)) : V G k1 k2 (CW D A ad K S Q (q4 qa p w0 w1 w2 w3) tp bo e uc lr nx) pc lo (vI x :: .ref (kQ ad 1 p) :: st) := by
  refine c_open (fun hB mB rB tz tc hA hI => ?_)
  exact xa_q (by decide) hp hG hd hx (by rw [q4_1 hp]; exact hz) (c_close hA kk)
theorem cb_q1 {x z : Int} (hp : p < 6) (hG : Ok D A G cc nL own rm) (hd : decode cc pc = .ok (.iaload, 1)) (hx : 0 ≤ x ∧ x < 10) (hz : qa (6 * 1 + p) x = z) (kk : V G k1 k2 (CW D A ad K S Q qa tp bo e uc lr nx) (pc + 1) lo (vI z :: st)) : V G k1 k2 (CW D A ad K S Q qa tp bo e uc lr nx) pc lo (vI x :: .ref (kQ ad 1 p) :: st) := by
  refine c_open (fun hB mB rB tz tc hA hI => ?_)
  exact xa_q (by decide) hp hG hd hx hz (c_close hA kk)
theorem cs_q1 {x z : Int} (hp : p < 6) (hG : Ok D A G cc nL own rm) (hd : decode cc pc = .ok (.iastore, 1)) (hx : 0 ≤ x ∧ x < 10) (kk : V G k1 k2 (CW D A ad K S Q (q4 qa p w0 (sU w1 x z) w2 w3) tp bo e uc lr nx) (pc + 1) lo st) : V G k1 k2 (CW D A ad K S Q (q4 qa p w0 w1 w2 w3) tp bo e uc lr nx) pc lo (vI z :: vI x :: .ref (kQ ad 1 p) :: st) := by
  refine c_open (fun hB mB rB tz tc hA hI => ?_)
  refine xt_q (j := 1) (by decide) hp hG hd hx ?_
  rw [q4_1 hp, q4u_1 hp]
  exact c_close hA kk
theorem ca_q2 {x z : Int} (hp : p < 6) (hG : Ok D A G cc nL own rm) (hd : decode cc pc = .ok (.iaload, 1)) (hx : 0 ≤ x ∧ x < 10) (hz : w2 x = z) (kk : V G k1 k2 (CW D A ad K S Q (q4 qa p w0 w1 w2 w3) tp bo e uc lr nx) (pc + 1) lo (vI z :: st)) : V G k1 k2 (CW D A ad K S Q (q4 qa p w0 w1 w2 w3) tp bo e uc lr nx) pc lo (vI x :: .ref (kQ ad 2 p) :: st) := by
  refine c_open (fun hB mB rB tz tc hA hI => ?_)
  exact xa_q (by decide) hp hG hd hx (by rw [q4_2 hp]; exact hz) (c_close hA kk)
theorem cb_q2 {x z : Int} (hp : p < 6) (hG : Ok D A G cc nL own rm) (hd : decode cc pc = .ok (.iaload, 1)) (hx : 0 ≤ x ∧ x < 10) (hz : qa (6 * 2 + p) x = z) (kk : V G k1 k2 (CW D A ad K S Q qa tp bo e uc lr nx) (pc + 1) lo (vI z :: st)) : V G k1 k2 (CW D A ad K S Q qa tp bo e uc lr nx) pc lo (vI x :: .ref (kQ ad 2 p) :: st) := by
  refine c_open (fun hB mB rB tz tc hA hI => ?_)
  exact xa_q (by decide) hp hG hd hx hz (c_close hA kk)
theorem cs_q2 {x z : Int} (hp : p < 6) (hG : Ok D A G cc nL own rm) (hd : decode cc pc = .ok (.iastore, 1)) (hx : 0 ≤ x ∧ x < 10) (kk : V G k1 k2 (CW D A ad K S Q (q4 qa p w0 w1 (sU w2 x z) w3) tp bo e uc lr nx) (pc + 1) lo st) : V G k1 k2 (CW D A ad K S Q (q4 qa p w0 w1 w2 w3) tp bo e uc lr nx) pc lo (vI z :: vI x :: .ref (kQ ad 2 p) :: st) := by
  refine c_open (fun hB mB rB tz tc hA hI => ?_)
  refine xt_q (j := 2) (by decide) hp hG hd hx ?_
  rw [q4_2 hp, q4u_2 hp]
  exact c_close hA kk
theorem ca_q3 {x z : Int} (hp : p < 6) (hG : Ok D A G cc nL own rm) (hd : decode cc pc = .ok (.iaload, 1)) (hx : 0 ≤ x ∧ x < 100) (hz : w3 x = z) (kk : V G k1 k2 (CW D A ad K S Q (q4 qa p w0 w1 w2 w3) tp bo e uc lr nx) (pc + 1) lo (vI z :: st)) : V G k1 k2 (CW D A ad K S Q (q4 qa p w0 w1 w2 w3) tp bo e uc lr nx) pc lo (vI x :: .ref (kQ ad 3 p) :: st) := by
  refine c_open (fun hB mB rB tz tc hA hI => ?_)
  exact xa_q (by decide) hp hG hd hx (by rw [q4_3 hp]; exact hz) (c_close hA kk)
theorem cb_q3 {x z : Int} (hp : p < 6) (hG : Ok D A G cc nL own rm) (hd : decode cc pc = .ok (.iaload, 1)) (hx : 0 ≤ x ∧ x < 100) (hz : qa (6 * 3 + p) x = z) (kk : V G k1 k2 (CW D A ad K S Q qa tp bo e uc lr nx) (pc + 1) lo (vI z :: st)) : V G k1 k2 (CW D A ad K S Q qa tp bo e uc lr nx) pc lo (vI x :: .ref (kQ ad 3 p) :: st) := by
  refine c_open (fun hB mB rB tz tc hA hI => ?_)
  exact xa_q (by decide) hp hG hd hx hz (c_close hA kk)
theorem cs_q3 {x z : Int} (hp : p < 6) (hG : Ok D A G cc nL own rm) (hd : decode cc pc = .ok (.iastore, 1)) (hx : 0 ≤ x ∧ x < 100) (kk : V G k1 k2 (CW D A ad K S Q (q4 qa p w0 w1 w2 (sU w3 x z)) tp bo e uc lr nx) (pc + 1) lo st) : V G k1 k2 (CW D A ad K S Q (q4 qa p w0 w1 w2 w3) tp bo e uc lr nx) pc lo (vI z :: vI x :: .ref (kQ ad 3 p) :: st) := by
  refine c_open (fun hB mB rB tz tc hA hI => ?_)
  refine xt_q (j := 3) (by decide) hp hG hd hx ?_
  rw [q4_3 hp, q4u_3 hp]
  exact c_close hA kk
theorem cl_q3 (hp : p < 6) (hG : Ok D A G cc nL own rm) (hd : decode cc pc = .ok (.arraylength, 1)) (kk : V G k1 k2 (CW D A ad K S Q qa tp bo e uc lr nx) (pc + 1) lo (vI 100 :: st)) : V G k1 k2 (CW D A ad K S Q qa tp bo e uc lr nx) pc lo (.ref (kQ ad 3 p) :: st) := by
  refine c_open (fun hB mB rB tz tc hA hI => ?_)
  exact xl_q (j := 3) (by decide) hp hG hd (c_close hA kk)
theorem cl_c {t : Nat} (hb : b < 3) (ht : t < 4) (hG : Ok D A G cc nL own rm) (hd : decode cc pc = .ok (.arraylength, 1)) (kk : V G k1 k2 (CW D A ad K S Q qa tp bo e uc lr nx) (pc + 1) lo (vI (tlen t : Nat) :: st)) : V G k1 k2 (CW D A ad K S Q qa tp bo e uc lr nx) pc lo (.ref (kC ad b t) :: st) := by
  refine c_open (fun hB mB rB tz tc hA hI => ?_)
  exact xl_c hb ht hG hd (c_close hA kk)
theorem ca_tape {x z : Int} (hb : b < 3) (hG : Ok D A G cc nL own rm) (hd : decode cc pc = .ok (.iaload, 1)) (hx : 0 ≤ x ∧ x < s 48) (h48 : s 48 ≤ 100) (hz : s (158 + x) = z) (kk : V G k1 k2 (CW D A ad K (uS S b s) Q qa tp bo e uc lr nx) (pc + 1) lo (vI z :: st)) : V G k1 k2 (CW D A ad K (uS S b s) Q qa tp bo e uc lr nx) pc lo (vI x :: .ref (kC ad b 0) :: st) := by
  refine c_open (fun hB mB rB tz tc hA hI => ?_)
  exact xa_c hb (by decide) hG hd (by show 0 ≤ x ∧ x < ((100 : Nat) : Int); omega) (((hA.at hb).2.2.2.1 x hx.1 hx.2).trans hz) (c_close hA kk)
theorem ca_M {x : Int} (hb : b < 3) (hx : 0 ≤ x ∧ x < 8) (hG : Ok D A G cc nL own rm) (hd : decode cc pc = .ok (.aaload, 1)) (kk : V G k1 k2 (CW D A ad K S Q qa tp bo e uc lr nx) (pc + 1) lo (.ref (kM ad b x) :: st)) : V G k1 k2 (CW D A ad K S Q qa tp bo e uc lr nx) pc lo (vI x :: .ref (kA ad b) :: st) := by
  refine c_open (fun hB mB rB tz tc hA hI => ?_)
  exact xa_M hb hx hG hd (c_close hA kk)
theorem ca_P {x : Int} (hx : 0 ≤ x ∧ x < 5) (hG : Ok D A G cc nL own rm) (hd : decode cc pc = .ok (.aaload, 1)) (kk : V G k1 k2 (CW D A ad K S Q qa tp bo e uc lr nx) (pc + 1) lo (.ref (kP ad x.toNat) :: st)) : V G k1 k2 (CW D A ad K S Q qa tp bo e uc lr nx) pc lo (vI x :: .ref (ad 1) :: st) := by
  refine c_open (fun hB mB rB tz tc hA hI => ?_)
  exact xa_P hx hG hd (c_close hA kk)
theorem ca_r {x0 : Int} (hb : b < 3) (hx0 : 0 ≤ x0 ∧ x0 < 8) (hm : x0 < s 43) (h6 : s (50 + x0) = 6) {x z : Int} (hG : Ok D A G cc nL own rm) (hd : decode cc pc = .ok (.iaload, 1)) (hx : 0 ≤ x ∧ x < 4) (hz : s (74 + 4 * x0 + x) = z) (kk : V G k1 k2 (CW D A ad K (uS S b s) Q qa tp bo e uc lr nx) (pc + 1) lo (vI z :: st)) : V G k1 k2 (CW D A ad K (uS S b s) Q qa tp bo e uc lr nx) pc lo (vI x :: .ref (kR ad b x0) :: st) := by
  refine c_open (fun hB mB rB tz tc hA hI => ?_)
  have g := (hA.at hb).2.2.1 x0 hx0.1 hm hx0.2
  exact xa_r hb hx0 (g.1.1.trans h6) hG hd hx ((g.2.2 x hx.1 hx.2).trans hz) (c_close hA kk)
theorem cs_r {x0 : Int} (hb : b < 3) (hx0 : 0 ≤ x0 ∧ x0 < 8) (hm : x0 < s 43) (h6 : s (50 + x0) = 6) {x z : Int} (hT : TB s) (hG : Ok D A G cc nL own rm) (hd : decode cc pc = .ok (.iastore, 1)) (hx : 0 ≤ x ∧ x < 4) (kk : V G k1 k2 (CW D A ad K (uS S b (sU s (74 + 4 * x0 + x) z)) Q qa tp bo e uc lr nx) (pc + 1) lo st) : V G k1 k2 (CW D A ad K (uS S b s) Q qa tp bo e uc lr nx) pc lo (vI z :: vI x :: .ref (kR ad b x0) :: st) := by
  refine c_open (fun hB mB rB tz tc hA hI => ?_)
  have g := (hA.at hb).2.2.1 x0 hx0.1 hm hx0.2
  exact xt_r hb hx0 (g.1.1.trans h6) hG hd hx (c_close (AG_upd hb hA (fun h => Ag_r hT hx0 hx h) (fun c h _ g => Ag_row g (fun y _ _ => uS_ne (by omega)))) kk)
theorem cl_r {x0 : Int} (hb : b < 3) (hx0 : 0 ≤ x0 ∧ x0 < 8) (hm : x0 < s 43) (h6 : s (50 + x0) = 6) (hG : Ok D A G cc nL own rm) (hd : decode cc pc = .ok (.arraylength, 1)) (kk : V G k1 k2 (CW D A ad K (uS S b s) Q qa tp bo e uc lr nx) (pc + 1) lo (vI 4 :: st)) : V G k1 k2 (CW D A ad K (uS S b s) Q qa tp bo e uc lr nx) pc lo (.ref (kR ad b x0) :: st) := by
  refine c_open (fun hB mB rB tz tc hA hI => ?_)
  have g := (hA.at hb).2.2.1 x0 hx0.1 hm hx0.2
  exact xl_r hb hx0 (g.1.1.trans h6) hG hd (c_close hA kk)
theorem cR0 (hb : b < 3) : zRv D (CW D A ad K S Q qa tp bo e uc lr nx) (kB ad b) RX0 := fun H ⟨_, _, _, _, _, _, h⟩ => xR0 hb H h
theorem cR7 {t : Nat} (hb : b < 3) (ht : t < 4) : zRv D (CW D A ad K S Q qa tp bo e uc lr nx) (kT ad b t) RX7 := fun H ⟨_, _, _, _, _, _, h⟩ => xR7 hb ht H h
theorem cR6 (hp : p < 6) : zRv D (CW D A ad K S Q qa tp bo e uc lr nx) (kP ad p) RX6 := fun H ⟨_, _, _, _, _, _, h⟩ => xR6 hp H h
theorem cR9  : zRv D (CW D A ad K S Q qa tp bo e uc lr nx) (ad 2) RX9 := fun H ⟨_, _, _, _, _, _, h⟩ => xR9  H h
theorem cR11  : zRv D (CW D A ad K S Q qa tp bo e uc lr nx) (ad 0) RX11 := fun H ⟨_, _, _, _, _, _, h⟩ => xR11  H h
theorem cRM0 {x : Int} (hb : b < 3) (hx : 0 ≤ x ∧ x < 8) (hm : x < s 43) (hk : s (50 + x) = 0) : zRv D (CW D A ad K (uS S b s) Q qa tp bo e uc lr nx) (kM ad b x) RX4 := fun H ⟨_, _, _, _, _, hA, h⟩ => xRM0 hb hx ((((AG.at hA hb).2.2.1 x hx.1 hm hx.2).1.1).trans hk) H h
theorem cRM1 {x : Int} (hb : b < 3) (hx : 0 ≤ x ∧ x < 8) (hm : x < s 43) (hk : s (50 + x) = 1) : zRv D (CW D A ad K (uS S b s) Q qa tp bo e uc lr nx) (kM ad b x) RX3 := fun H ⟨_, _, _, _, _, hA, h⟩ => xRM1 hb hx ((((AG.at hA hb).2.2.1 x hx.1 hm hx.2).1.1).trans hk) H h
theorem cRM2 {x : Int} (hb : b < 3) (hx : 0 ≤ x ∧ x < 8) (hm : x < s 43) (hk : s (50 + x) = 2) : zRv D (CW D A ad K (uS S b s) Q qa tp bo e uc lr nx) (kM ad b x) RX2 := fun H ⟨_, _, _, _, _, hA, h⟩ => xRM2 hb hx ((((AG.at hA hb).2.2.1 x hx.1 hm hx.2).1.1).trans hk) H h
theorem cRM3 {x : Int} (hb : b < 3) (hx : 0 ≤ x ∧ x < 8) (hm : x < s 43) (hk : s (50 + x) = 3) : zRv D (CW D A ad K (uS S b s) Q qa tp bo e uc lr nx) (kM ad b x) RX5 := fun H ⟨_, _, _, _, _, hA, h⟩ => xRM3 hb hx ((((AG.at hA hb).2.2.1 x hx.1 hm hx.2).1.1).trans hk) H h
theorem cRM4 {x : Int} (hb : b < 3) (hx : 0 ≤ x ∧ x < 8) (hm : x < s 43) (hk : s (50 + x) = 4) : zRv D (CW D A ad K (uS S b s) Q qa tp bo e uc lr nx) (kM ad b x) RX1 := fun H ⟨_, _, _, _, _, hA, h⟩ => xRM4 hb hx ((((AG.at hA hb).2.2.1 x hx.1 hm hx.2).1.1).trans hk) H h
theorem cRM5 {x : Int} (hb : b < 3) (hx : 0 ≤ x ∧ x < 8) (hm : x < s 43) (hk : s (50 + x) = 5) : zRv D (CW D A ad K (uS S b s) Q qa tp bo e uc lr nx) (kM ad b x) RX10 := fun H ⟨_, _, _, _, _, hA, h⟩ => xRM5 hb hx ((((AG.at hA hb).2.2.1 x hx.1 hm hx.2).1.1).trans hk) H h
theorem cRM6 {x : Int} (hb : b < 3) (hx : 0 ≤ x ∧ x < 8) (hm : x < s 43) (hk : s (50 + x) = 6) : zRv D (CW D A ad K (uS S b s) Q qa tp bo e uc lr nx) (kM ad b x) RX8 := fun H ⟨_, _, _, _, _, hA, h⟩ => xRM6 hb hx ((((AG.at hA hb).2.2.1 x hx.1 hm hx.2).1.1).trans hk) H h
end CR
