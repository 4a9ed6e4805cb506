/-! A NEW MARK IN ALL THREE BENCHES -/
theorem rq_ext {D : Dx} {a : Nat} {cA : ClassId} {n : Nat} {f g : Nat → Option Nat} {H : Heap} (e : ∀ q, q < n → f q = g q) (h : va_at D.1 vwCl (a, .inl (cA, n, .inr (.inr (.inr (.inr f))))) H) : va_at D.1 vwCl (a, .inl (cA, n, .inr (.inr (.inr (.inr g))))) H := by
  have e2 : arrV cA n (fun j => va_rf (f j)) = arrV cA n (fun j => va_rf (g j)) := by
    unfold arrV
    congr 1
    apply Array.ext
    · simp
    · intro i h1 h2
      simp only [Array.getElem_ofFn]
      rw [e i (by simpa using h1)]
  have h2 : H[a]? = some (arrV cA n (fun j => va_rf (f j))) := h
  rw [e2] at h2
  exact h2
section XL
variable {D : Dx} {A : Nat → Prop} {ad : Nat → Nat} {K : Int → Int} {hB mB rB tz : Nat → Int → Int} {tc : Nat → Int → Int} {Q qa : Nat → Int → Int} {tp : Nat → Nat} {bo e uc lr nx : Int → Int} {H H0 : Heap}
theorem XW.lt {k : Nat} (h : XW D A ad K hB mB rB tz tc Q qa tp bo e uc lr nx H) (hk : dom K k) : ad k < H.size := by
  rcases hk with (h1 | h1 | h1 | h1 | h1 | h1 | h1 | h1) | ⟨h1, h2, h3⟩
  · rcases (show k = 0 ∨ k = 1 ∨ k = 2 ∨ k = 3 ∨ k = 4 ∨ k = 5 ∨ k = 6 by omega) with rfl | rfl | rfl | rfl | rfl | rfl | rfl
    · exact h.f0.lt
    · exact h.f1.lt
    · exact h.f2.lt
    · exact h.f3.lt
    · exact h.f4.lt
    · exact h.f5.lt
    · exact h.f6.lt
  · have g := (h.fb (k - 10) (by omega)).lt
    rw [show 10 + (k - 10) = k by omega] at g; exact g
  · have g := (h.fa (k - 20) (by omega)).lt
    rw [show 20 + (k - 20) = k by omega] at g; exact g
  · have g := (h.ft ((k - 30) / 4) ((k - 30) % 4) (by omega) (by omega)).lt
    rw [show 30 + 4 * ((k - 30) / 4) + (k - 30) % 4 = k by omega] at g; exact g
  · have g := (h.fc ((k - 50) / 4) ((k - 50) % 4) (by omega) (by omega)).lt
    rw [show 50 + 4 * ((k - 50) / 4) + (k - 50) % 4 = k by omega] at g; exact g
  · have g := (h.fm ((k - 100) / 8) (((k - 100) % 8 : Nat) : Int) (by omega) (by omega) (by omega)).lt
    rw [show 100 + 8 * ((k - 100) / 8) + (((k - 100) % 8 : Nat) : Int).toNat = k by omega] at g; exact g
  · have g := (h.fp (k - 300) (by omega)).lt
    rw [show 300 + (k - 300) = k by omega] at g; exact g
  · have g := (h.fq ((k - 310) / 6) ((k - 310) % 6) (by omega) (by omega)).lt
    rw [show 310 + 6 * ((k - 310) / 6) + (k - 310) % 6 = k by omega] at g; exact g
  · have g := (h.fr ((k - 200) / 8) (((k - 200) % 8 : Nat) : Int) (by omega) (by omega) (by omega) h3).lt
    rw [show 200 + 8 * ((k - 200) / 8) + (((k - 200) % 8 : Nat) : Int).toNat = k by omega] at g; exact g
def adm (ad : Nat → Nat) (N w x : Nat) : Nat → Nat := fun k => if 100 ≤ k ∧ k < 124 ∧ (k - 100) % 8 = x then N + (k - 100) / 8 * w else if 200 ≤ k ∧ k < 224 ∧ (k - 200) % 8 = x then N + (k - 200) / 8 * w + 1 else ad k
def Km (K : Int → Int) (x kd vv pl : Int) : Int → Int := sU (sU (sU K (50 + x) kd) (58 + x) vv) (66 + x) pl
theorem adm_lo {N w x k : Nat} (h : k < 100 ∨ (124 ≤ k ∧ k < 200) ∨ 224 ≤ k) : adm ad N w x k = ad k := by
  unfold adm
  rw [if_neg (by omega), if_neg (by omega)]
theorem adm_M {N w x b : Nat} (hx : x < 8) (hb : b < 3) : adm ad N w x (100 + 8 * b + x) = N + b * w := by
  unfold adm
  rw [if_pos (by omega), show (100 + 8 * b + x - 100) / 8 = b by omega]
theorem adm_R {N w x b : Nat} (hx : x < 8) (hb : b < 3) : adm ad N w x (200 + 8 * b + x) = N + b * w + 1 := by
  unfold adm
  rw [if_neg (by omega), if_pos (by omega), show (200 + 8 * b + x - 200) / 8 = b by omega]
theorem adm_Mo {N w x b y : Nat} (hy : y < 8) (hb : b < 3) (h : y ≠ x) : adm ad N w x (100 + 8 * b + y) = ad (100 + 8 * b + y) := by
  unfold adm
  rw [if_neg (by omega), if_neg (by omega)]
theorem adm_Ro {N w x b y : Nat} (hy : y < 8) (hb : b < 3) (h : y ≠ x) : adm ad N w x (200 + 8 * b + y) = ad (200 + 8 * b + y) := by
  unfold adm
  rw [if_neg (by omega), if_neg (by omega)]
theorem Km_50 {x kd vv pl : Int} (hx : 0 ≤ x ∧ x < 8) : Km K x kd vv pl (50 + x) = kd ∧ Km K x kd vv pl (58 + x) = vv ∧ Km K x kd vv pl (66 + x) = pl := by
  unfold Km
  refine ⟨?_, ?_, sU_eq⟩
  · rw [sU_ne (by omega), sU_ne (by omega), sU_eq]
  · rw [sU_ne (by omega), sU_eq]
theorem Km_o {x y kd vv pl : Int} (hx : 0 ≤ x ∧ x < 8) (hy : 0 ≤ y ∧ y < 8) (h : y ≠ x) : Km K x kd vv pl (50 + y) = K (50 + y) ∧ Km K x kd vv pl (58 + y) = K (58 + y) ∧ Km K x kd vv pl (66 + y) = K (66 + y) := by
  unfold Km
  refine ⟨?_, ?_, ?_⟩ <;> rw [sU_ne (by omega), sU_ne (by omega), sU_ne (by omega)]
theorem adm_case {N x : Nat} {kd vv pl : Int} {k : Nat} (hX : XW D A ad K hB mB rB tz tc Q qa tp bo e uc lr nx H0) (hN : H0.size = N) (hx : x < 8) (hk : dom (Km K (x : Int) kd vv pl) k) : (∃ b, b < 3 ∧ k = 100 + 8 * b + x ∧ adm ad N (nwd kd) x k = N + b * nwd kd) ∨ (∃ b, b < 3 ∧ k = 200 + 8 * b + x ∧ kd = 6 ∧ adm ad N (nwd kd) x k = N + b * nwd kd + 1) ∨ (dom K k ∧ adm ad N (nwd kd) x k = ad k ∧ ad k < N) := by
  by_cases h1 : 100 ≤ k ∧ k < 124 ∧ (k - 100) % 8 = x
  · refine Or.inl ⟨(k - 100) / 8, by omega, by omega, ?_⟩
    unfold adm
    rw [if_pos h1]
  · by_cases h2 : 200 ≤ k ∧ k < 224 ∧ (k - 200) % 8 = x
    · refine Or.inr (Or.inl ⟨(k - 200) / 8, by omega, by omega, ?_, ?_⟩)
      · rcases hk with q | ⟨q1, q2, q3⟩
        · omega
        · rw [h2.2.2, (Km_50 (by omega)).1] at q3; exact q3
      · unfold adm
        rw [if_neg h1, if_pos h2]
    · have hd : dom K k := by
        rcases hk with q | ⟨q1, q2, q3⟩
        · exact Or.inl q
        · refine Or.inr ⟨q1, q2, ?_⟩
          rw [(Km_o (by omega) (by omega) (by omega)).1] at q3
          exact q3
      refine Or.inr (Or.inr ⟨hd, ?_, by rw [← hN]; exact hX.lt hd⟩)
      unfold adm
      rw [if_neg h1, if_neg h2]
theorem adm_XI {N x : Nat} {kd vv pl : Int} (hX : XW D A ad K hB mB rB tz tc Q qa tp bo e uc lr nx H0) (hN : H0.size = N) (hx : x < 8) (hkd : 0 ≤ kd ∧ kd ≤ 6) (hA : ∀ q, N ≤ q → A q) : XI A (adm ad N (nwd kd) x) (Km K (x : Int) kd vv pl) := by
  refine ⟨fun j k hj hk he => ?_, fun k hk => ?_, fun y h0 h8 => ?_⟩
  · have hw : nwd kd = 1 ∨ nwd kd = 2 := by unfold nwd; split <;> omega
    have hw6 : kd = 6 → nwd kd = 2 := fun q => if_pos q
    rcases adm_case hX hN hx hj with ⟨b, b1, b2, b3⟩ | ⟨b, b1, b2, b3, b4⟩ | ⟨b1, b2, b3⟩ <;> rcases adm_case hX hN hx hk with ⟨c, c1, c2, c3⟩ | ⟨c, c1, c2, c3, c4⟩ | ⟨c1, c2, c3⟩
    · rw [b3, c3] at he
      rcases hw with w | w <;> rw [w] at he <;> omega
    · rw [b3, c4, hw6 c3] at he; omega
    · rw [b3, c2] at he; omega
    · rw [b4, c3, hw6 b3] at he; omega
    · rw [b4, c4, hw6 b3] at he; omega
    · rw [b4, c2] at he; omega
    · rw [b2, c3] at he; omega
    · rw [b2, c4] at he; omega
    · rw [b2, c2] at he; exact hX.i.1 j k b1 c1 he
  · rcases adm_case hX hN hx hk with ⟨b, b1, b2, b3⟩ | ⟨b, b1, b2, b3, b4⟩ | ⟨b1, b2, b3⟩
    · rw [b3]; exact hA _ (by omega)
    · rw [b4]; exact hA _ (by omega)
    · rw [b2]; exact hX.i.2.1 k b1
  · by_cases q : y = (x : Int)
    · subst q; rw [(Km_50 (by omega)).1]; exact hkd
    · rw [(Km_o (by omega) (by omega) q).1]; exact hX.i.2.2 y h0 h8
theorem mk8_at {s : Int → Int} {m kd vv pl dp : Int} : (mk8 s m kd vv pl dp (50 + m) = kd ∧ mk8 s m kd vv pl dp (58 + m) = vv ∧ mk8 s m kd vv pl dp (66 + m) = pl) ∧ mk8 s m kd vv pl dp (3 + m) = dp ∧ mk8 s m kd vv pl dp (11 + m) = 0 ∧ mk8 s m kd vv pl dp (19 + m) = 0 ∧ mk8 s m kd vv pl dp (27 + m) = 0 ∧ mk8 s m kd vv pl dp (35 + m) = 0 := by
  unfold mk8
  refine ⟨⟨?_, ?_, ?_⟩, ?_, ?_, ?_, ?_, ?_⟩
  · rw [sU_ne (by omega), sU_ne (by omega), sU_ne (by omega), sU_ne (by omega), sU_ne (by omega), sU_ne (by omega), sU_ne (by omega), sU_eq]
  · rw [sU_ne (by omega), sU_ne (by omega), sU_ne (by omega), sU_ne (by omega), sU_ne (by omega), sU_ne (by omega), sU_eq]
  · rw [sU_ne (by omega), sU_ne (by omega), sU_ne (by omega), sU_ne (by omega), sU_ne (by omega), sU_eq]
  · rw [sU_ne (by omega), sU_ne (by omega), sU_ne (by omega), sU_ne (by omega), sU_eq]
  · rw [sU_ne (by omega), sU_ne (by omega), sU_ne (by omega), sU_eq]
  · rw [sU_ne (by omega), sU_ne (by omega), sU_eq]
  · rw [sU_ne (by omega), sU_eq]
  · rw [sU_eq]
/-- the row with the mark in it -/
def mkr (s : Int → Int) (m kd vv pl dp : Int) : Int → Int := rowk (mk8 s m kd vv pl dp) m 4
theorem mkr_new {s : Int → Int} {m kd vv pl dp : Int} (hm : 0 ≤ m ∧ m < 8) : (mkr s m kd vv pl dp (50 + m) = kd ∧ mkr s m kd vv pl dp (58 + m) = vv ∧ mkr s m kd vv pl dp (66 + m) = pl) ∧ (mkr s m kd vv pl dp (3 + m) = dp ∧ mkr s m kd vv pl dp (11 + m) = 0 ∧ mkr s m kd vv pl dp (19 + m) = 0 ∧ mkr s m kd vv pl dp (27 + m) = 0 ∧ mkr s m kd vv pl dp (35 + m) = 0) ∧ ∀ q : Int, 0 ≤ q → q < 4 → mkr s m kd vv pl dp (74 + 4 * m + q) = 0 := by
  obtain ⟨⟨a1, a2, a3⟩, a4, a5, a6, a7, a8⟩ := mk8_at (s := s) (m := m) (kd := kd) (vv := vv) (pl := pl) (dp := dp)
  have hj : ∀ j : Int, ¬ (74 + 4 * m ≤ j ∧ j < 74 + 4 * m + 4) → mkr s m kd vv pl dp j = mk8 s m kd vv pl dp j := fun j h => if_neg h
  exact ⟨⟨(hj _ (by omega)).trans a1, (hj _ (by omega)).trans a2, (hj _ (by omega)).trans a3⟩, ⟨(hj _ (by omega)).trans a4, (hj _ (by omega)).trans a5, (hj _ (by omega)).trans a6, (hj _ (by omega)).trans a7, (hj _ (by omega)).trans a8⟩, fun q q0 q4 => if_pos (by omega)⟩
theorem mkr_old {s : Int → Int} {m kd vv pl dp j : Int} (hm : 0 ≤ m ∧ m < 8) (h : j ≠ 50 + m ∧ j ≠ 58 + m ∧ j ≠ 66 + m ∧ j ≠ 3 + m ∧ j ≠ 11 + m ∧ j ≠ 19 + m ∧ j ≠ 27 + m ∧ j ≠ 35 + m) (h2 : ¬ (74 + 4 * m ≤ j ∧ j < 74 + 4 * m + 4)) : mkr s m kd vv pl dp j = s j := by
  unfold mkr rowk mk8
  rw [if_neg h2]
  rw [sU_ne (by omega), sU_ne (by omega), sU_ne (by omega), sU_ne (by omega), sU_ne (by omega), sU_ne (by omega), sU_ne (by omega), sU_ne (by omega)]
/-- a row says what a bench holds, the new mark in it -/
theorem Ag_mk {s hBb mBb : Int → Int} {b x : Nat} {tzb : Int → Int} {kd vv pl dp : Int} {z : Int} (hT : TB s) (hx : x < 8) (h : Ag K s hBb mBb rB b tzb tc) (hz : z = s 43 ∨ (z = (x : Int) + 1 ∧ s 43 = x)) : Ag (Km K x kd vv pl) (sU (mkr s x kd vv pl dp) 43 z) (sU hBb 43 z) (mk8 mBb x kd vv pl dp) (fun k => if k % 8 = x then fun _ => 0 else rB k) b tzb tc := by
  obtain ⟨⟨h0, h1, h2, h3, h4, h5⟩, ⟨t0, t1, t2, t3⟩, hm, ht⟩ := h
  have hx8 : 0 ≤ (x : Int) ∧ (x : Int) < 8 := by omega
  have ho : ∀ j : Int, (j < 3 ∨ (43 < j ∧ j < 50) ∨ 106 ≤ j) → sU (mkr s x kd vv pl dp) 43 z j = s j := fun j hj => by
    rw [sU_ne (by omega), mkr_old hx8 (by omega) (by omega)]
  refine ⟨?_, ?_, fun y g1 g2 g3 => ?_, TA_eq hT (fun q hq => ho q (by omega)) ht⟩
  · rw [ho 0 (by omega), ho 1 (by omega), ho 2 (by omega), ho 44 (by omega), ho 49 (by omega)]
    exact ⟨(sU_ne (by decide)).trans h0, (sU_ne (by decide)).trans h1, (sU_ne (by decide)).trans h2, sU_eq.trans sU_eq.symm, (sU_ne (by decide)).trans h4, (sU_ne (by decide)).trans h5⟩
  · rw [ho 48 (by omega), ho 45 (by omega), ho 46 (by omega), ho 47 (by omega)]
    exact ⟨t0, t1, t2, t3⟩
  · rw [sU_eq] at g2
    by_cases q : y = (x : Int)
    · subst q
      obtain ⟨a1, a2, a3⟩ := mkr_new (s := s) (kd := kd) (vv := vv) (pl := pl) (dp := dp) hx8
      obtain ⟨k1, k2, k3⟩ := Km_50 (K := K) (kd := kd) (vv := vv) (pl := pl) hx8
      unfold MA
      rw [sU_ne (by omega), sU_ne (by omega), sU_ne (by omega), sU_ne (by omega), sU_ne (by omega), sU_ne (by omega), sU_ne (by omega), sU_ne (by omega)]
      refine ⟨⟨k1.trans a1.1.symm, k2.trans a1.2.1.symm, k3.trans a1.2.2.symm⟩, ?_, fun q q0 q4 => ?_⟩
      · rw [a2.1, a2.2.1, a2.2.2.1, a2.2.2.2.1, a2.2.2.2.2]
        exact (mk8_at (s := mBb) (m := (x : Int)) (kd := kd) (vv := vv) (pl := pl) (dp := dp)).2
      · rw [sU_ne (by omega), a3 q q0 q4]
        show (if (8 * b + (x : Int).toNat) % 8 = x then (fun _ => (0 : Int)) else rB (8 * b + (x : Int).toNat)) q = 0
        rw [if_pos (by omega)]
    · have hy : y < s 43 := by omega
      have h9 := hm y g1 hy g3
      obtain ⟨k1, k2, k3⟩ := Km_o (K := K) (kd := kd) (vv := vv) (pl := pl) hx8 ⟨g1, g3⟩ q
      unfold MA at h9 ⊢
      have hn : ∀ j : Int, (j = 50 + y ∨ j = 58 + y ∨ j = 66 + y ∨ j = 3 + y ∨ j = 11 + y ∨ j = 19 + y ∨ j = 27 + y ∨ j = 35 + y) → sU (mkr s x kd vv pl dp) 43 z j = s j := fun j hj => by
        rw [sU_ne (by omega), mkr_old hx8 (by omega) (by omega)]
      have hn8 : ∀ j : Int, (j = 3 + y ∨ j = 11 + y ∨ j = 19 + y ∨ j = 27 + y ∨ j = 35 + y) → mk8 mBb x kd vv pl dp j = mBb j := fun j hj => by
        unfold mk8
        rw [sU_ne (by omega), sU_ne (by omega), sU_ne (by omega), sU_ne (by omega), sU_ne (by omega), sU_ne (by omega), sU_ne (by omega), sU_ne (by omega)]
      rw [k1, k2, k3, hn (50 + y) (by omega), hn (58 + y) (by omega), hn (66 + y) (by omega), hn (3 + y) (by omega), hn (11 + y) (by omega), hn (19 + y) (by omega), hn (27 + y) (by omega), hn (35 + y) (by omega), hn8 (3 + y) (by omega), hn8 (11 + y) (by omega), hn8 (19 + y) (by omega), hn8 (27 + y) (by omega), hn8 (35 + y) (by omega)]
      refine ⟨h9.1, h9.2.1, fun q q0 q4 => ?_⟩
      show (if (8 * b + y.toNat) % 8 = x then (fun _ => (0 : Int)) else rB (8 * b + y.toNat)) q = _
      rw [if_neg (by omega), sU_ne (by omega), mkr_old hx8 (by omega) (by omega)]
      exact h9.2.2 q q0 q4
/-- of a bench that isn't changed, whose marks are fewer -/
theorem Ag_km {s hBb mBb : Int → Int} {b x : Nat} {tzb : Int → Int} {kd vv pl dp : Int} (hx : x < 8) (hs : s 43 ≤ x) (h : Ag K s hBb mBb rB b tzb tc) : Ag (Km K x kd vv pl) s hBb (mk8 mBb x kd vv pl dp) (fun k => if k % 8 = x then fun _ => 0 else rB k) b tzb tc := by
  obtain ⟨h1, h2, hm, ht⟩ := h
  have hx8 : 0 ≤ (x : Int) ∧ (x : Int) < 8 := by omega
  refine ⟨h1, h2, fun y g1 g2 g3 => ?_, ht⟩
  have h9 := hm y g1 g2 g3
  obtain ⟨k1, k2, k3⟩ := Km_o (K := K) (kd := kd) (vv := vv) (pl := pl) hx8 ⟨g1, g3⟩ (by omega)
  unfold MA at h9 ⊢
  have hn8 : ∀ j : Int, (j = 3 + y ∨ j = 11 + y ∨ j = 19 + y ∨ j = 27 + y ∨ j = 35 + y) → mk8 mBb x kd vv pl dp j = mBb j := fun j hj => by
    unfold mk8
    rw [sU_ne (by omega), sU_ne (by omega), sU_ne (by omega), sU_ne (by omega), sU_ne (by omega), sU_ne (by omega), sU_ne (by omega), sU_ne (by omega)]
  rw [k1, k2, k3, hn8 (3 + y) (by omega), hn8 (11 + y) (by omega), hn8 (19 + y) (by omega), hn8 (27 + y) (by omega), hn8 (35 + y) (by omega)]
  refine ⟨h9.1, h9.2.1, fun q q0 q4 => ?_⟩
  show (if (8 * b + y.toNat) % 8 = x then (fun _ => (0 : Int)) else rB (8 * b + y.toNat)) q = _
  rw [if_neg (by omega)]
  exact h9.2.2 q q0 q4
/-- what has come of the heap when the first i arrays hold their new mark -/
def MSr (D : Dx) (ad : Nat → Nat) (H0 : Heap) (kd : Int) (x : Nat) (vv pl dp : Int) (i : Nat) (H : Heap) : Prop := (∀ q, q < H0.size → (∀ b, b < i → q ≠ kA ad b) → H[q]? = H0[q]?) ∧ ∀ b, b < i → (va_at D.1 vwCl (kA ad b, .inl (D.2.2.2.1, rq 8 (fun q => if q = x then H0.size + b * nwd kd else kM ad b (q : Int)))) H ∧ NMO D (H0.size + b * nwd kd) kd x vv pl dp H)
theorem MSr.kept {H' : Heap} {kd vv pl dp : Int} {x i : Nat} (hX : XW D A ad K hB mB rB tz tc Q qa tp bo e uc lr nx H0) (hi : i ≤ 3) (h : MSr D ad H0 kd x vv pl dp i H) (hz : H.size = H0.size + i * nwd kd) (ho : ∀ q, q < H.size → H'[q]? = H[q]?) : MSr D ad H0 kd x vv pl dp i H' := by
  have hw : nwd kd = 1 ∨ nwd kd = 2 := by unfold nwd; split <;> omega
  refine ⟨fun q h1 h2 => (ho q (by omega)).trans (h.1 q h1 h2), fun b hb => ?_⟩
  obtain ⟨h1, h2⟩ := h.2 b hb
  refine ⟨h1.kept (ho _ h1.lt), h2.kept (fun q q1 q2 => ho q ?_)⟩
  have : b * nwd kd + nwd kd ≤ i * nwd kd := by
    rw [← Nat.succ_mul]; exact Nat.mul_le_mul_right _ hb
  omega
theorem MSr_0 {kd vv pl dp : Int} {x : Nat} : MSr D ad H0 kd x vv pl dp 0 H0 := ⟨fun _ _ _ => rfl, fun b hb => absurd hb (Nat.not_lt_zero b)⟩
theorem kA_ne (hX : XW D A ad K hB mB rB tz tc Q qa tp bo e uc lr nx H0) {b c : Nat} (hb : b < 3) (hc : c < 3) (h : b ≠ c) : kA ad b ≠ kA ad c := hX.i.ne (Or.inl (by omega)) (Or.inl (by omega)) (by omega)
/-- the new mark is put into the i-th array -/
theorem MSr.put {H' : Heap} {kd vv pl dp : Int} {x i : Nat} (hX : XW D A ad K hB mB rB tz tc Q qa tp bo e uc lr nx H0) (hi : i < 3) (h : MSr D ad H0 kd x vv pl dp i H) (hn : NMO D (H0.size + i * nwd kd) kd x vv pl dp H) (hx : va_at D.1 vwCl (kA ad i, .inl (D.2.2.2.1, 8, .inr (.inr (.inr (.inr (fun q => if q = (x : Int).toNat then some (H0.size + i * nwd kd) else (fun q => some (kM ad i (q : Int))) q)))))) H') (ho : ∀ q, q ≠ kA ad i → H'[q]? = H[q]?) : MSr D ad H0 kd x vv pl dp (i + 1) H' := by
  have hlt : kA ad i < H0.size := hX.lt (Or.inl (by omega))
  refine ⟨fun q h1 h2 => (ho q (h2 i (Nat.lt_succ_self i))).trans (h.1 q h1 (fun b hb => h2 b (Nat.lt_succ_of_lt hb))), fun b hb => ?_⟩
  by_cases e : b = i
  · subst e
    refine ⟨rq_ext (fun q _ => ?_) hx, hn.kept (fun q q1 q2 => ho q (by omega))⟩
    show (if q = (x : Int).toNat then some (H0.size + b * nwd kd) else some (kM ad b (q : Int))) = some (if q = x then H0.size + b * nwd kd else kM ad b (q : Int))
    rw [Int.toNat_natCast]
    by_cases q9 : q = x
    · rw [if_pos q9, if_pos q9]
    · rw [if_neg q9, if_neg q9]
  · obtain ⟨h1, h2⟩ := h.2 b (by omega)
    exact ⟨h1.kept (ho _ (kA_ne hX (by omega) hi e)), h2.kept (fun q q1 q2 => ho q (by omega))⟩
theorem kcl_cast {kd : Int} (h : 0 ≤ kd ∧ kd ≤ 6) : ∃ r : vw_C, vwCl[kcl kd]? = some r ∧ (r.1 = "MirrorPlate$Mark" ∨ Cond.castable r.1 "MirrorPlate$Mark" ∈ zNB) := by
  rcases (show kd = 0 ∨ kd = 1 ∨ kd = 2 ∨ kd = 3 ∨ kd = 4 ∨ kd = 5 ∨ kd = 6 by omega) with rfl | rfl | rfl | rfl | rfl | rfl | rfl
  · exact ⟨_, rfl, Or.inl rfl⟩
  · exact ⟨_, rfl, Or.inr (znb 1563 (by decide +kernel) (by decide +kernel))⟩
  · exact ⟨_, rfl, Or.inr (znb 1564 (by decide +kernel) (by decide +kernel))⟩
  · exact ⟨_, rfl, Or.inr (znb 1565 (by decide +kernel) (by decide +kernel))⟩
  · exact ⟨_, rfl, Or.inr (znb 1566 (by decide +kernel) (by decide +kernel))⟩
  · exact ⟨_, rfl, Or.inr (znb 1567 (by decide +kernel) (by decide +kernel))⟩
  · exact ⟨_, rfl, Or.inr (znb 1568 (by decide +kernel) (by decide +kernel))⟩
/-- at the end -/
theorem mark_XW {H' : Heap} {kd vv pl dp : Int} {x : Nat} (hX : XW D A ad K hB mB rB tz tc Q qa tp bo e uc lr nx H0) (hx : x < 8) (hkd : 0 ≤ kd ∧ kd ≤ 6) (hA : ∀ q, H0.size ≤ q → A q) (h : MSr D ad H0 kd x vv pl dp 3 H) (hb : va_at D.1 vwCl (kB ad 0, .inr (0, bfs ad (sU (hB 0) 43 (x + 1)) 0)) H') (ho : ∀ q, q ≠ kB ad 0 → H'[q]? = H[q]?) : XW D A (adm ad H0.size (nwd kd) x) (Km K x kd vv pl) (uS hB 0 (sU (hB 0) 43 (x + 1))) (fun b => mk8 (mB b) x kd vv pl dp) (fun k => if k % 8 = x then fun _ => 0 else rB k) tz tc Q qa tp bo e uc lr nx H' := by
  have hx8 : 0 ≤ (x : Int) ∧ (x : Int) < 8 := by omega
  have hB0 : kB ad 0 < H0.size := hX.lt (Or.inl (by omega))
  have keep : ∀ {k : Nat} {v : va_E}, dom K k → (k < 20 ∨ 23 ≤ k) → k ≠ 10 → va_at D.1 vwCl (ad k, v) H0 → va_at D.1 vwCl (ad k, v) H' := fun {k v} hk h1 h2 hv => by
    have e1 : ad k ≠ kB ad 0 := hX.i.ne hk (Or.inl (by omega)) h2
    refine hv.kept ((ho _ e1).trans (h.1 _ (hX.lt hk) (fun b hb => hX.i.ne hk (Or.inl (by omega)) (by omega))))
  have hAk : ∀ b, b < 3 → kA ad b ≠ kB ad 0 := fun b hb => hX.i.ne (Or.inl (by omega)) (Or.inl (by omega)) (by omega)
  have lo : ∀ {k : Nat}, k < 100 ∨ (124 ≤ k ∧ k < 200) ∨ 224 ≤ k → adm ad H0.size (nwd kd) x k = ad k := fun {k} hk => adm_lo hk
  have hNM : ∀ b, b < 3 → NMO D (H0.size + b * nwd kd) kd x vv pl dp H' := fun b hb => (h.2 b hb).2.kept (fun q q1 q2 => ho q (by omega))
  refine ⟨adm_XI hX rfl hx hkd hA, ?_, ?_, ?_, ?_, ?_, ?_, ?_, fun b hb3 => ?_, fun b hb3 => ?_, fun b t hb3 ht => ?_, fun b t hb3 ht => ?_, fun b y hb3 h0 h8 => ?_, fun b y hb3 h0 h8 h6 => ?_, fun p hp => ?_, fun j p hj hp => ?_⟩
  · have g := keep (Or.inl (by omega)) (by omega) (by omega) hX.f0
    have e1 : xfs (adm ad H0.size (nwd kd) x) e = xfs ad e := by
      unfold xfs kB
      rw [lo (by omega), lo (by omega), lo (by omega), lo (by omega), lo (by omega), lo (by omega), lo (by omega), lo (by omega)]
    rw [e1, lo (by omega)]; exact g
  · have g := keep (Or.inl (by omega)) (by omega) (by omega) hX.f1
    have e1 : (fun q => kP (adm ad H0.size (nwd kd) x) q) = (fun q => kP ad q) := by
      funext q; exact lo (by omega)
    rw [e1, lo (by omega)]; exact g
  · have g := keep (Or.inl (by omega)) (by omega) (by omega) hX.f2
    rw [lo (by omega), lo (by omega)]; exact g
  · have g := keep (Or.inl (by omega)) (by omega) (by omega) hX.f3
    rw [lo (by omega)]; exact g
  · have g := keep (Or.inl (by omega)) (by omega) (by omega) hX.f4
    rw [lo (by omega)]; exact g
  · have g := keep (Or.inl (by omega)) (by omega) (by omega) hX.f5
    rw [lo (by omega)]; exact g
  · have g := keep (Or.inl (by omega)) (by omega) (by omega) hX.f6
    rw [lo (by omega)]; exact g
  · have e1 : ∀ f, bfs (adm ad H0.size (nwd kd) x) f b = bfs ad f b := fun f => by
      unfold bfs kP kA kT
      rw [lo (by omega), lo (by omega), lo (by omega), lo (by omega), lo (by omega), lo (by omega)]
    rw [e1, lo (by omega)]
    by_cases q : b = 0
    · subst q; rw [uS_eq]; exact hb
    · rw [uS_ne q]
      exact keep (Or.inl (by omega)) (by omega) (by omega) (hX.fb b hb3)
  · rw [lo (by omega)]
    refine rq_ext (fun q hq => ?_) ((h.2 b hb3).1.kept (ho _ (hAk b hb3)))
    show some (if q = x then H0.size + b * nwd kd else kM ad b (q : Int)) = some (kM (adm ad H0.size (nwd kd) x) b (q : Int))
    unfold kM
    rw [Int.toNat_natCast]
    by_cases e9 : q = x
    · subst e9; rw [if_pos rfl, adm_M hx hb3]
    · rw [if_neg e9, adm_Mo hq hb3 e9]
  · have e1 : tfs (adm ad H0.size (nwd kd) x) b t (tz b t) = tfs ad b t (tz b t) := by
      unfold tfs kC
      rw [lo (by omega)]
    rw [e1, lo (by omega)]
    exact keep (Or.inl (by omega)) (by omega) (by omega) (hX.ft b t hb3 ht)
  · rw [lo (by omega)]
    exact keep (Or.inl (by omega)) (by omega) (by omega) (hX.fc b t hb3 ht)
  · by_cases q : y = (x : Int)
    · subst q
      rw [Int.toNat_natCast, adm_M hx hb3]
      obtain ⟨k1, k2, k3⟩ := Km_50 (K := K) (kd := kd) (vv := vv) (pl := pl) hx8
      have e1 : mkf (adm ad H0.size (nwd kd) x) (Km K x kd vv pl) (mk8 (mB b) x kd vv pl dp) b x = [vI kd, vI (x : Int), vI vv, vI pl, vI dp, vI 0, vI 0, vI 0, vI 0] ++ (if kd = 6 then [.ref (H0.size + b * nwd kd + 1)] else []) := by
        unfold mkf kR
        rw [k1, k2, k3, Int.toNat_natCast, adm_R hx hb3]
        obtain ⟨-, m3, m4, m5, m6, m7⟩ := mk8_at (s := mB b) (m := (x : Int)) (kd := kd) (vv := vv) (pl := pl) (dp := dp)
        rw [m3, m4, m5, m6, m7]
      rw [e1, k1]
      exact (hNM b hb3).1
    · obtain ⟨k1, k2, k3⟩ := Km_o (K := K) (kd := kd) (vv := vv) (pl := pl) hx8 ⟨h0, h8⟩ q
      rw [adm_Mo (by omega) hb3 (by omega)]
      have hn8 : ∀ j : Int, (j = 3 + y ∨ j = 11 + y ∨ j = 19 + y ∨ j = 27 + y ∨ j = 35 + y) → mk8 (mB b) x kd vv pl dp j = mB b j := fun j hj => by
        unfold mk8
        rw [sU_ne (by omega), sU_ne (by omega), sU_ne (by omega), sU_ne (by omega), sU_ne (by omega), sU_ne (by omega), sU_ne (by omega), sU_ne (by omega)]
      have e1 : mkf (adm ad H0.size (nwd kd) x) (Km K x kd vv pl) (mk8 (mB b) x kd vv pl dp) b y = mkf ad K (mB b) b y := by
        unfold mkf kR
        rw [k1, k2, k3, adm_Ro (by omega) hb3 (by omega), hn8 (3 + y) (by omega), hn8 (11 + y) (by omega), hn8 (19 + y) (by omega), hn8 (27 + y) (by omega), hn8 (35 + y) (by omega)]
      rw [e1, k1]
      exact keep (Or.inl (by omega)) (by omega) (by omega) (hX.fm b y hb3 h0 h8)
  · by_cases q : y = (x : Int)
    · subst q
      rw [(Km_50 (K := K) (kd := kd) (vv := vv) (pl := pl) hx8).1] at h6
      rw [Int.toNat_natCast, adm_R hx hb3]
      show va_at D.1 vwCl (_, .inl (D.2.1, ra 4 (if (8 * b + x) % 8 = x then fun _ => (0 : Int) else rB (8 * b + x)))) H'
      rw [if_pos (by omega)]
      exact (hNM b hb3).2 h6
    · rw [(Km_o (K := K) (kd := kd) (vv := vv) (pl := pl) hx8 ⟨h0, h8⟩ q).1] at h6
      rw [adm_Ro (by omega) hb3 (by omega)]
      show va_at D.1 vwCl (_, .inl (D.2.1, ra 4 (if (8 * b + y.toNat) % 8 = x then fun _ => (0 : Int) else rB (8 * b + y.toNat)))) H'
      rw [if_neg (by omega)]
      exact keep (dom_row hb3 h0 h8 h6) (by omega) (by omega) (hX.fr b y hb3 h0 h8 h6)
  · have e1 : pfs (adm ad H0.size (nwd kd) x) (Q p) (tp p) p = pfs ad (Q p) (tp p) p := by
      unfold pfs kQ
      rw [lo (by omega), lo (by omega), lo (by omega), lo (by omega)]
    rw [e1, lo (by omega)]
    exact keep (Or.inl (by omega)) (by omega) (by omega) (hX.fp p hp)
  · rw [lo (by omega)]
    exact keep (Or.inl (by omega)) (by omega) (by omega) (hX.fq j p hj hp)
theorem mark_CW {H' : Heap} {S : Nat → Int → Int} {s : Int → Int} {kd vv pl dp : Int} {x : Nat} (hAG : AG K (uS S 0 s) hB mB rB tz tc) (hX : XW D A ad K hB mB rB tz tc Q qa tp bo e uc lr nx H0) (hx : x < 8) (h43 : s 43 = x) (hT0 : TB s) (hT2 : TB (S 2)) (hS1 : S 1 43 ≤ x) (hkd : 0 ≤ kd ∧ kd ≤ 6) (hA : ∀ q, H0.size ≤ q → A q) (h : MSr D ad H0 kd x vv pl dp 3 H) (hb : va_at D.1 vwCl (kB ad 0, .inr (0, bfs ad (sU (hB 0) 43 (x + 1)) 0)) H') (ho : ∀ q, q ≠ kB ad 0 → H'[q]? = H[q]?) : CW D A (adm ad H0.size (nwd kd) x) (Km K x kd vv pl) (uS (uS S 2 (sU (mkr (S 2) x kd vv pl dp) 43 (S 2 43))) 0 (p_mark s kd vv pl dp)) Q qa tp bo e uc lr nx H' := by
  refine ⟨_, _, _, _, _, fun b hb3 => ?_, mark_XW hX hx hkd hA h hb ho⟩
  have hp : p_mark s kd vv pl dp = sU (mkr s x kd vv pl dp) 43 ((x : Int) + 1) := by unfold p_mark mkr; rw [h43]
  rcases (show b = 0 ∨ b = 1 ∨ b = 2 by omega) with rfl | rfl | rfl
  · rw [uS_eq, uS_eq, hp]
    exact Ag_mk hT0 hx (hAG.at (by omega)) (Or.inr ⟨rfl, h43⟩)
  · rw [uS_ne (by omega), uS_ne (by omega), uS_ne (by omega)]
    have h1 := hAG 1 (by omega)
    rw [uS_ne (by omega)] at h1
    exact Ag_km hx hS1 h1
  · rw [uS_ne (by omega), uS_eq, uS_ne (by omega)]
    have h1 := hAG 2 (by omega)
    rw [uS_ne (by omega)] at h1
    have h2 := Ag_mk (kd := kd) (vv := vv) (pl := pl) (dp := dp) (z := S 2 43) hT2 hx h1 (Or.inl rfl)
    have e1 : sU (hB 2) 43 (S 2 43) = hB 2 := by
      have := h1.1.2.2.2.1
      rw [← this]; exact sU_self
    rw [e1] at h2
    exact h2
end XL
