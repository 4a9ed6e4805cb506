/-! THE CLASS: copies of benches -/
def cpm (f g : Int → Int) (m : Int) : Int → Int := sU (sU (sU (sU (sU f (3 + m) (g (3 + m))) (11 + m) (g (11 + m))) (19 + m) (g (19 + m))) (27 + m) (g (27 + m))) (35 + m) (g (35 + m))
def rcp (K : Int → Int) (R : Nat → Int → Int) (b c : Nat) (m : Int) : Nat → Int → Int := if K (50 + m) = 6 then uS R (8 * b + m.toNat) (cpy 4 (R (8 * c + m.toNat)) (R (8 * b + m.toNat))) else R
def hcp (h g : Int → Int) : Int → Int := sU (sU (sU (sU (sU (sU h 0 (g 0)) 1 (g 1)) 2 (g 2)) 43 (g 43)) 44 (g 44)) 49 (g 49)
def CPF (K mc : Int → Int) (R : Nat → Int → Int) (b c : Nat) (n : Int) (f2 : Int → Int) (R2 : Nat → Int → Int) : Prop := (∀ x : Int, 0 ≤ x → x < n → f2 (3 + x) = mc (3 + x) ∧ f2 (11 + x) = mc (11 + x) ∧ f2 (19 + x) = mc (19 + x) ∧ f2 (27 + x) = mc (27 + x) ∧ f2 (35 + x) = mc (35 + x)) ∧ (∀ x : Int, 0 ≤ x → x < n → K (50 + x) = 6 → ∀ q : Int, 0 ≤ q → q < 4 → R2 (8 * b + x.toNat) q = R (8 * c + x.toNat) q) ∧ ∀ i : Nat, ¬ (8 * b ≤ i ∧ i < 8 * b + 8) → R2 i = R i
theorem CPF_0 {K mc : Int → Int} {R : Nat → Int → Int} {b c : Nat} {f : Int → Int} : CPF K mc R b c 0 f R := ⟨fun x h1 h2 => by omega, fun x h1 h2 => by omega, fun i _ => rfl⟩
theorem CPF_step {K mc : Int → Int} {R R1 : Nat → Int → Int} {b c k : Nat} {f : Int → Int} (hcb : c ≠ b) (hk : k < 8) (h : CPF K mc R b c k f R1) : CPF K mc R b c ((k + 1 : Nat) : Int) (cpm f mc k) (rcp K R1 b c k) := by
  obtain ⟨h1, h2, h3⟩ := h
  refine ⟨fun x g1 g2 => ?_, fun x g1 g2 g6 q q0 q4 => ?_, fun i hi => ?_⟩
  · unfold cpm
    simp only [sU_at]
    by_cases e : x = k
    · subst e
      refine ⟨?_, ?_, ?_, ?_, ?_⟩ <;> (repeat' split) <;> first | rfl | (exfalso; omega)
    · obtain ⟨i1, i2, i3, i4, i5⟩ := h1 x g1 (by omega)
      refine ⟨?_, ?_, ?_, ?_, ?_⟩ <;> (repeat' split) <;> first | assumption | (exfalso; omega)
  · unfold rcp
    by_cases e : x = k
    · subst e
      rw [if_pos g6, uS_eq, cpy_in (by omega), h3 (8 * c + (k : Int).toNat) (by omega)]
    · have := h2 x g1 (by omega) g6 q q0 q4
      split
      · rw [uS_ne (by omega)]; exact this
      · exact this
  · unfold rcp
    split
    · rw [uS_ne (by omega)]; exact h3 i hi
    · exact h3 i hi
set_option maxHeartbeats 4000000 in
set_option maxRecDepth 100000 in
theorem kc4_copyFrom (l : Launch) (D : Dx) (A : Nat → Prop) (ad : Nat → Nat) (K : Int → Int) (hB mB tz : Nat → Int → Int) (tc : Nat → Int → Int) (Q qa : Nat → Int → Int) (tp : Nat → Nat) (bo e uc lr nx : Int → Int) (R : Nat → Int → Int) (b c : Nat) (h f : Int → Int) (hb : b < 3) (hc3 : c < 3) (hcb : c ≠ b) (m : Int) (h8 : 0 ≤ m ∧ m < 8) (h01 : mB c (11 + m) = 0 ∨ mB c (11 + m) = 1) : CT l D A yX4_copyFrom cX4_copyFrom 2 none { frames := 0, cells := 0, slots := 0, locals := 0 } [.ref (kM ad b m), .ref (kM ad c m)] (XW D A ad K (uS hB b h) (uS mB b f) R tz tc Q qa tp bo e uc lr nx) (fun _ : Unit => none) (fun _ => True) (fun _ => XW D A ad K (uS hB b h) (uS mB b (cpm f (mB c) m)) R tz tc Q qa tp bo e uc lr nx) := by
  refine ct_of (lo0 := [(0, .ref (kM ad b m)), (1, .ref (kM ad c m))]) (by decide) (Nat.le_of_ble_eq_true rfl) rfl ?_
  intro G hG hR
  refine x_open (fun hI => ?_)
  refine v_aload_n hG dX4_copyFrom_0 rfl 0 rfl ?_
  refine v_aload_n hG dX4_copyFrom_1 rfl 1 rfl ?_
  refine xgM hc3 (by omega) hG dX4_copyFrom_2 hI zf_X4_22 (k := 4) (by decide) (v := vI (mB c (3 + m))) (by rw [uS_ne hcb]; rfl) ?_
  refine xpM_depth hb (by omega) hG dX4_copyFrom_5 hI zf_X4_22 ?_
  rw [uS_uS, uS_eq]
  refine v_aload_n hG dX4_copyFrom_8 rfl 0 rfl ?_
  refine v_aload_n hG dX4_copyFrom_9 rfl 1 rfl ?_
  refine xgM hc3 (by omega) hG dX4_copyFrom_10 hI zf_X4_25 (k := 5) (by decide) (v := vI (mB c (11 + m))) (by rw [uS_ne hcb]; rfl) ?_
  refine xpM_isCut hb (by omega) hG dX4_copyFrom_13 hI zf_X4_25 h01 ?_
  rw [uS_uS, uS_eq]
  refine v_aload_n hG dX4_copyFrom_16 rfl 0 rfl ?_
  refine v_aload_n hG dX4_copyFrom_17 rfl 1 rfl ?_
  refine xgM hc3 (by omega) hG dX4_copyFrom_18 hI zf_X4_29 (k := 6) (by decide) (v := vI (mB c (19 + m))) (by rw [uS_ne hcb]; rfl) ?_
  refine xpM_flaw hb (by omega) hG dX4_copyFrom_21 hI zf_X4_29 ?_
  rw [uS_uS, uS_eq]
  refine v_aload_n hG dX4_copyFrom_24 rfl 0 rfl ?_
  refine v_aload_n hG dX4_copyFrom_25 rfl 1 rfl ?_
  refine xgM hc3 (by omega) hG dX4_copyFrom_26 hI zf_X4_32 (k := 7) (by decide) (v := vI (mB c (27 + m))) (by rw [uS_ne hcb]; rfl) ?_
  refine xpM_worn hb (by omega) hG dX4_copyFrom_29 hI zf_X4_32 ?_
  rw [uS_uS, uS_eq]
  refine v_aload_n hG dX4_copyFrom_32 rfl 0 rfl ?_
  refine v_aload_n hG dX4_copyFrom_33 rfl 1 rfl ?_
  refine xgM hc3 (by omega) hG dX4_copyFrom_34 hI zf_X4_35 (k := 8) (by decide) (v := vI (mB c (35 + m))) (by rw [uS_ne hcb]; rfl) ?_
  refine xpM_mended hb (by omega) hG dX4_copyFrom_37 hI zf_X4_35 ?_
  rw [uS_uS, uS_eq]
  have e1 : sU (sU (sU (sU (sU f (3 + m) (mB c (3 + m))) (11 + m) (mB c (11 + m))) (19 + m) (mB c (19 + m))) (27 + m) (mB c (27 + m))) (35 + m) (mB c (35 + m)) = cpm f (mB c) m := by first | rfl | omega | (exact bi_congr (by omega)) | (simp []; done)
  exact v_return hG hR dX4_copyFrom_40 () rfl (by trivial) (fun _ hM => by rw [← e1]; exact hM)
set_option maxHeartbeats 4000000 in
set_option maxRecDepth 100000 in
theorem kc8_copyFrom (l : Launch) (D : Dx) (A : Nat → Prop) (ad : Nat → Nat) (K : Int → Int) (hB mB tz : Nat → Int → Int) (tc : Nat → Int → Int) (Q qa : Nat → Int → Int) (tp : Nat → Nat) (bo e uc lr nx : Int → Int) (R : Nat → Int → Int) (b c : Nat) (m : Int) (h f g : Int → Int) (hb : b < 3) (hc3 : c < 3) (hcb : c ≠ b) (h8 : 0 ≤ m ∧ m < 8) (h01 : mB c (11 + m) = 0 ∨ mB c (11 + m) = 1) (hk6 : K (50 + m) = 6) : CT l D A yX8_copyFrom cX8_copyFrom 4 none { frames := 1, cells := 0, slots := 0, locals := 21 } [.ref (kM ad b m), .ref (kM ad c m)] (XW D A ad K (uS hB b h) (uS mB b f) (uS R (8 * b + m.toNat) g) tz tc Q qa tp bo e uc lr nx) (fun _ : Unit => none) (fun _ => True) (fun _ => XW D A ad K (uS hB b h) (uS mB b (cpm f (mB c) m)) (uS R (8 * b + m.toNat) (cpy 4 (R (8 * c + m.toNat)) g)) tz tc Q qa tp bo e uc lr nx) := by
  refine ct_of (lo0 := [(0, .ref (kM ad b m)), (1, .ref (kM ad c m))]) (by decide) (Nat.le_of_ble_eq_true rfl) rfl ?_
  intro G hG hR
  refine x_open (fun hI => ?_)
  refine v_aload_n hG dX8_copyFrom_0 rfl 0 rfl ?_
  refine v_aload_n hG dX8_copyFrom_1 rfl 1 rfl ?_
  refine v_callSX (x := ⟨"MirrorPlate$Numeral", "copyFrom", "(LMirrorPlate$Mark;)V"⟩) (k1' := 0) (k2' := 0) hG dX8_copyFrom_2 zc_X4_copyFrom ⟨zl_X8_15, (ztb 866 (by decide +kernel) (by decide +kernel)), (ztb 538 (by decide +kernel) (by decide +kernel)), (ztb 487 (by decide +kernel) (by decide +kernel)), zi_X4_copyFrom⟩ rfl (by decide) (ci := 8) rfl rfl (fun l => kc4_copyFrom l D A ad K hB mB tz tc Q qa tp bo e uc lr nx (uS R (8 * b + m.toNat) g) b c h f hb hc3 hcb m h8 h01) rfl (xRM6 hb h8 hk6) (fun _ h => h) ⟨by decide, by decide⟩ rfl rfl ⟨by decide, by decide⟩ (As := [.ref (kM ad c m)]) (rest := []) rfl (Nat.le_of_ble_eq_true rfl) (fun _ => []) (fun _ => rfl) (fun _ _ => ?_)
  refine v_aload_n hG dX8_copyFrom_5 rfl 1 rfl ?_
  refine v_instS (ci := 8) (nm := "MirrorPlate$Told") hG dX8_copyFrom_6 (ztb 868 (by decide +kernel) (by decide +kernel)) rfl rfl (xRM6 hc3 h8 hk6) ?_
  refine v_if_eq (tgt := 55) hG dX8_copyFrom_9 (by decide) (by omega) (fun c1 => ?_) (fun c1 => ?_)
  · skip
    exfalso; omega
  · skip
    refine v_aload_n hG dX8_copyFrom_12 rfl 1 rfl ?_
    refine v_castS (ci := 8) (nm := "MirrorPlate$Told") hG dX8_copyFrom_13 (ztb 868 (by decide +kernel) (by decide +kernel)) rfl rfl (xRM6 hc3 h8 hk6) ?_
    refine v_astore_n (lo' := [(2, .ref (kM ad c m)), (0, .ref (kM ad b m)), (1, .ref (kM ad c m))]) hG dX8_copyFrom_16 rfl (by decide) rfl ?_
    refine v_iconst hG dX8_copyFrom_17 ?_
    refine v_istore_n (lo' := [(3, vI 0), (2, .ref (kM ad c m)), (0, .ref (kM ad b m)), (1, .ref (kM ad c m))]) hG dX8_copyFrom_18 rfl (by decide) rfl ?_
    refine v_lo [2, 3, 1, 0] (lo' := [(0, .ref (kM ad b m)), (1, .ref (kM ad c m)), (2, .ref (kM ad c m)), (3, vI 0)]) rfl ?_
    have L4 : ∀ mz : Nat, ∀ (k : Nat), ((k : Int) ≤ 4) → (4 - (k : Int)).toNat = mz → ∀ x2 : Int, x2 = ((k : Int)) → ∀ x3 : Int → Int, x3 = (cpy (k : Int) (R (8 * c + m.toNat)) g) → V G 0 0 (XW D A ad K (uS hB b h) (uS mB b (cpm f (mB c) m)) (uS R (8 * b + m.toNat) x3) tz tc Q qa tp bo e uc lr nx) 19 [(0, .ref (kM ad b m)), (1, .ref (kM ad c m)), (2, .ref (kM ad c m)), (3, vI x2)] [] := by
      intro dL4
      induction dL4 using Nat.strongRecOn with
      | ind dL4 ihL4 =>
        intro k hq5 hq6
        intro x2 hx2
        subst hx2
        intro x3 hx3
        subst hx3
        refine v_iload_n hG dX8_copyFrom_19 rfl 3 rfl ?_
        refine v_aload_n hG dX8_copyFrom_20 rfl 0 rfl ?_
        refine xgR hb h8 hk6 hG dX8_copyFrom_21 zf_X8_9 ?_
        refine xl_r hb h8 hk6 hG dX8_copyFrom_24 ?_
        refine v_icmp_ge (tgt := 55) hG dX8_copyFrom_25 (by decide) (by omega) (by omega) (fun c7 => ?_) (fun c7 => ?_)
        · skip
          have e8 : cpy (k : Int) (R (8 * c + m.toNat)) g = cpy 4 (R (8 * c + m.toNat)) g := by first | rfl | rw [show (k : Int) = 4 by omega]
          exact v_return hG hR dX8_copyFrom_55 () rfl (by trivial) (fun _ hM => by rw [← e8]; exact hM)
        · skip
          refine v_iload_n hG dX8_copyFrom_28 rfl 3 rfl ?_
          refine v_aload_n hG dX8_copyFrom_29 rfl 2 rfl ?_
          refine xgR hc3 h8 hk6 hG dX8_copyFrom_30 zf_X8_9 ?_
          refine xl_r hc3 h8 hk6 hG dX8_copyFrom_33 ?_
          refine v_icmp_ge (tgt := 55) hG dX8_copyFrom_34 (by decide) (by omega) (by omega) (fun c9 => ?_) (fun c9 => ?_)
          · skip
            have e10 : cpy (k : Int) (R (8 * c + m.toNat)) g = cpy 4 (R (8 * c + m.toNat)) g := by first | rfl | rw [show (k : Int) = 4 by omega]
            exact v_return hG hR dX8_copyFrom_55 () rfl (by trivial) (fun _ hM => by rw [← e10]; exact hM)
          · skip
            refine v_aload_n hG dX8_copyFrom_37 rfl 0 rfl ?_
            refine xgR hb h8 hk6 hG dX8_copyFrom_38 zf_X8_9 ?_
            refine v_iload_n hG dX8_copyFrom_41 rfl 3 rfl ?_
            refine v_aload_n hG dX8_copyFrom_42 rfl 2 rfl ?_
            refine xgR hc3 h8 hk6 hG dX8_copyFrom_43 zf_X8_9 ?_
            refine v_iload_n hG dX8_copyFrom_46 rfl 3 rfl ?_
            refine xa_r hc3 h8 hk6 hG dX8_copyFrom_47 (by omega) (by rw [uS_ne (by omega)]) ?_
            refine xt_r hb h8 hk6 hG dX8_copyFrom_48 (by omega) ?_
            rw [uS_uS, uS_eq]
            refine v_iinc (lo' := [(3, vI ((k : Int) + 1)), (0, .ref (kM ad b m)), (1, .ref (kM ad c m)), (2, .ref (kM ad c m))]) hG dX8_copyFrom_49 3 rfl (by decide) rfl ?_
            refine v_goto (tgt := 19) hG dX8_copyFrom_52 (by decide) ?_
            refine v_lo [1, 2, 3, 0] (lo' := [(0, .ref (kM ad b m)), (1, .ref (kM ad c m)), (2, .ref (kM ad c m)), (3, vI ((k : Int) + 1))]) rfl ?_
            exact ihL4 _ (by omega) (k + 1) (by omega) rfl _ (by first | omega | rfl | (simp [c1, c7, c9]; done)) _ (by exact cpy_step)
    exact L4 _ 0 (by omega) rfl _ (by first | omega | rfl | (simp [c1]; done)) _ (by exact cpy_0.symm)
set_option maxHeartbeats 1000000 in
theorem cv_copyFrom {G : Gx} {cc : ByteArray} {nL : Nat} {own : String} {rm : Room} {pc idx : Nat} {lo : List (Nat × Value)} {st : List Value} {D : Dx} {A : Nat → Prop} {ad : Nat → Nat} {K : Int → Int} {hB mB tz : Nat → Int → Int} {tc : Nat → Int → Int} {Q qa : Nat → Int → Int} {tp : Nat → Nat} {bo e uc lr nx : Int → Int} {R : Nat → Int → Int} {b c : Nat} {h f : Int → Int} {m : Int} (hb : b < 3) (hc3 : c < 3) (hcb : c ≠ b) (h8 : 0 ≤ m ∧ m < 8) (h01 : mB c (11 + m) = 0 ∨ mB c (11 + m) = 1) (hI : XI A ad K) (hG : Ok D A G cc nL own rm) (hd : decode cc pc = .ok (.invokevirtual idx, 3)) (hl : Cond.methodLink own idx yX4_copyFrom ∈ zTB) (hroom : 2 ≤ rm.frames ∧ 44 ≤ rm.locals) (hw : (st.map fun v => v.category).sum ≤ 8) (kk : V G 0 0 (XW D A ad K (uS hB b h) (uS mB b (cpm f (mB c) m)) (rcp K R b c m) tz tc Q qa tp bo e uc lr nx) (pc + 3) lo st) : V G 0 0 (XW D A ad K (uS hB b h) (uS mB b f) R tz tc Q qa tp bo e uc lr nx) pc lo (.ref (kM ad c m) :: .ref (kM ad b m) :: st) := by
  have hk9 := hI.2.2 m h8.1 h8.2
  rcases (show K (50 + m) = 0 ∨ K (50 + m) = 1 ∨ K (50 + m) = 2 ∨ K (50 + m) = 3 ∨ K (50 + m) = 4 ∨ K (50 + m) = 5 ∨ K (50 + m) = 6 by omega) with hk | hk | hk | hk | hk | hk | hk
  · refine v_callU (k1' := 0) (k2' := 0) (As := [.ref (kM ad c m)]) (C := RX4) (owner := RX4) (x := yX4_copyFrom) hG hd zc_X4_copyFrom ⟨hl, (ztb 857 (by decide +kernel) (by decide +kernel)), (ztb 856 (by decide +kernel) (by decide +kernel)), zi_X4_copyFrom, zi_X4_copyFrom, ⟨_, _, _, zc_X4_copyFrom.1⟩, ⟨by decide, by decide⟩, rfl⟩ (fun l => kc4_copyFrom l D A ad K hB mB tz tc Q qa tp bo e uc lr nx R b c h f hb hc3 hcb m h8 h01) rfl (xRM0 hb h8 hk) (fun _ h => h) ⟨Nat.le_trans (by decide) hroom.1, Nat.le_trans (by decide) hroom.2⟩ rfl rfl ⟨Nat.zero_le _, Nat.zero_le _⟩ rfl hw (fun _ => st) (fun _ => rfl) (fun _ _ => by rw [show rcp K R b c m = R from if_neg (by omega)] at kk; exact kk)
  · refine v_callU (k1' := 0) (k2' := 0) (As := [.ref (kM ad c m)]) (C := RX3) (owner := RX4) (x := yX4_copyFrom) hG hd zc_X4_copyFrom ⟨hl, (ztb 857 (by decide +kernel) (by decide +kernel)), (ztb 860 (by decide +kernel) (by decide +kernel)), zi_X4_copyFrom, zi_X4_copyFrom, ⟨_, _, _, zc_X4_copyFrom.1⟩, ⟨by decide, by decide⟩, rfl⟩ (fun l => kc4_copyFrom l D A ad K hB mB tz tc Q qa tp bo e uc lr nx R b c h f hb hc3 hcb m h8 h01) rfl (xRM1 hb h8 hk) (fun _ h => h) ⟨Nat.le_trans (by decide) hroom.1, Nat.le_trans (by decide) hroom.2⟩ rfl rfl ⟨Nat.zero_le _, Nat.zero_le _⟩ rfl hw (fun _ => st) (fun _ => rfl) (fun _ _ => by rw [show rcp K R b c m = R from if_neg (by omega)] at kk; exact kk)
  · refine v_callU (k1' := 0) (k2' := 0) (As := [.ref (kM ad c m)]) (C := RX2) (owner := RX4) (x := yX4_copyFrom) hG hd zc_X4_copyFrom ⟨hl, (ztb 857 (by decide +kernel) (by decide +kernel)), (ztb 859 (by decide +kernel) (by decide +kernel)), zi_X4_copyFrom, zi_X4_copyFrom, ⟨_, _, _, zc_X4_copyFrom.1⟩, ⟨by decide, by decide⟩, rfl⟩ (fun l => kc4_copyFrom l D A ad K hB mB tz tc Q qa tp bo e uc lr nx R b c h f hb hc3 hcb m h8 h01) rfl (xRM2 hb h8 hk) (fun _ h => h) ⟨Nat.le_trans (by decide) hroom.1, Nat.le_trans (by decide) hroom.2⟩ rfl rfl ⟨Nat.zero_le _, Nat.zero_le _⟩ rfl hw (fun _ => st) (fun _ => rfl) (fun _ _ => by rw [show rcp K R b c m = R from if_neg (by omega)] at kk; exact kk)
  · refine v_callU (k1' := 0) (k2' := 0) (As := [.ref (kM ad c m)]) (C := RX5) (owner := RX4) (x := yX4_copyFrom) hG hd zc_X4_copyFrom ⟨hl, (ztb 857 (by decide +kernel) (by decide +kernel)), (ztb 861 (by decide +kernel) (by decide +kernel)), zi_X4_copyFrom, zi_X4_copyFrom, ⟨_, _, _, zc_X4_copyFrom.1⟩, ⟨by decide, by decide⟩, rfl⟩ (fun l => kc4_copyFrom l D A ad K hB mB tz tc Q qa tp bo e uc lr nx R b c h f hb hc3 hcb m h8 h01) rfl (xRM3 hb h8 hk) (fun _ h => h) ⟨Nat.le_trans (by decide) hroom.1, Nat.le_trans (by decide) hroom.2⟩ rfl rfl ⟨Nat.zero_le _, Nat.zero_le _⟩ rfl hw (fun _ => st) (fun _ => rfl) (fun _ _ => by rw [show rcp K R b c m = R from if_neg (by omega)] at kk; exact kk)
  · refine v_callU (k1' := 0) (k2' := 0) (As := [.ref (kM ad c m)]) (C := RX1) (owner := RX4) (x := yX4_copyFrom) hG hd zc_X4_copyFrom ⟨hl, (ztb 857 (by decide +kernel) (by decide +kernel)), (ztb 858 (by decide +kernel) (by decide +kernel)), zi_X4_copyFrom, zi_X4_copyFrom, ⟨_, _, _, zc_X4_copyFrom.1⟩, ⟨by decide, by decide⟩, rfl⟩ (fun l => kc4_copyFrom l D A ad K hB mB tz tc Q qa tp bo e uc lr nx R b c h f hb hc3 hcb m h8 h01) rfl (xRM4 hb h8 hk) (fun _ h => h) ⟨Nat.le_trans (by decide) hroom.1, Nat.le_trans (by decide) hroom.2⟩ rfl rfl ⟨Nat.zero_le _, Nat.zero_le _⟩ rfl hw (fun _ => st) (fun _ => rfl) (fun _ _ => by rw [show rcp K R b c m = R from if_neg (by omega)] at kk; exact kk)
  · refine v_callU (k1' := 0) (k2' := 0) (As := [.ref (kM ad c m)]) (C := RX10) (owner := RX4) (x := yX4_copyFrom) hG hd zc_X4_copyFrom ⟨hl, (ztb 857 (by decide +kernel) (by decide +kernel)), (ztb 869 (by decide +kernel) (by decide +kernel)), zi_X4_copyFrom, zi_X4_copyFrom, ⟨_, _, _, zc_X4_copyFrom.1⟩, ⟨by decide, by decide⟩, rfl⟩ (fun l => kc4_copyFrom l D A ad K hB mB tz tc Q qa tp bo e uc lr nx R b c h f hb hc3 hcb m h8 h01) rfl (xRM5 hb h8 hk) (fun _ h => h) ⟨Nat.le_trans (by decide) hroom.1, Nat.le_trans (by decide) hroom.2⟩ rfl rfl ⟨Nat.zero_le _, Nat.zero_le _⟩ rfl hw (fun _ => st) (fun _ => rfl) (fun _ _ => by rw [show rcp K R b c m = R from if_neg (by omega)] at kk; exact kk)
  · refine v_callU (k1' := 0) (k2' := 0) (As := [.ref (kM ad c m)]) (C := RX8) (owner := RX4) (x := yX4_copyFrom) hG hd zc_X8_copyFrom ⟨hl, (ztb 857 (by decide +kernel) (by decide +kernel)), (ztb 862 (by decide +kernel) (by decide +kernel)), zi_X8_copyFrom, zi_X4_copyFrom, ⟨_, _, _, zc_X4_copyFrom.1⟩, ⟨by decide, by decide⟩, rfl⟩ (fun l => kc8_copyFrom l D A ad K hB mB tz tc Q qa tp bo e uc lr nx R b c m h f (R (8 * b + m.toNat)) hb hc3 hcb h8 h01 hk) rfl (xRM6 hb h8 hk) (fun _ h => by rw [uS_self]; exact h) ⟨Nat.le_trans (by decide) hroom.1, Nat.le_trans (by decide) hroom.2⟩ rfl rfl ⟨Nat.zero_le _, Nat.zero_le _⟩ rfl hw (fun _ => st) (fun _ => rfl) (fun _ _ => by rw [show rcp K R b c m = uS R (8 * b + m.toNat) (cpy 4 (R (8 * c + m.toNat)) (R (8 * b + m.toNat))) from if_pos hk] at kk; exact kk)
set_option maxHeartbeats 4000000 in
set_option maxRecDepth 100000 in
theorem kc0_copyWork (l : Launch) (D : Dx) (A : Nat → Prop) (ad : Nat → Nat) (K : Int → Int) (hB mB tz : Nat → Int → Int) (tc : Nat → Int → Int) (Q qa : Nat → Int → Int) (tp : Nat → Nat) (bo e uc lr nx : Int → Int) (R : Nat → Int → Int) (b c : Nat) (h f : Int → Int) (hb : b < 3) (hc3 : c < 3) (hcb : c ≠ b) (hn8 : 0 ≤ hB c 43 ∧ hB c 43 ≤ 8) (hp6 : hc (hB c) < 6) (h01 : ∀ x : Int, 0 ≤ x → x < hB c 43 → mB c (11 + x) = 0 ∨ mB c (11 + x) = 1) : CT l D A yX0_copyWork cX0_copyWork 3 none { frames := 2, cells := 0, slots := 0, locals := 44 } [.ref (kB ad b), .ref (kB ad c)] (XW D A ad K (uS hB b h) (uS mB b f) R tz tc Q qa tp bo e uc lr nx) (fun u : (Int → Int) × (Nat → Int → Int) => none) (fun u => CPF K (mB c) R b c (hB c 43) u.1 u.2) (fun u => XW D A ad K (uS hB b (hcp h (hB c))) (uS mB b u.1) u.2 tz tc Q qa tp bo e uc lr nx) := by
  refine ct_of (lo0 := [(0, .ref (kB ad b)), (1, .ref (kB ad c))]) (by decide) (Nat.le_of_ble_eq_true rfl) rfl ?_
  intro G hG hR
  refine x_open (fun hI => ?_)
  refine v_aload_n hG dX0_copyWork_0 rfl 0 rfl ?_
  refine v_aload_n hG dX0_copyWork_1 rfl 1 rfl ?_
  refine xg0 hc3 hG dX0_copyWork_2 zf_X0_50 (k := 0) (by decide) (v := vI (hB c 0)) (by rw [uS_ne hcb]; rfl) ?_
  refine xp0_minute hb hG dX0_copyWork_5 zf_X0_50 ?_
  rw [uS_uS, uS_eq]
  refine v_aload_n hG dX0_copyWork_8 rfl 0 rfl ?_
  refine v_aload_n hG dX0_copyWork_9 rfl 1 rfl ?_
  refine xg0 hc3 hG dX0_copyWork_10 zf_X0_53 (k := 1) (by decide) (v := vI (hB c 1)) (by rw [uS_ne hcb]; rfl) ?_
  refine xp0_taken hb hG dX0_copyWork_13 zf_X0_53 ?_
  rw [uS_uS, uS_eq]
  refine v_aload_n hG dX0_copyWork_16 rfl 0 rfl ?_
  refine v_aload_n hG dX0_copyWork_17 rfl 1 rfl ?_
  refine xg0 hc3 hG dX0_copyWork_18 zf_X0_56 (k := 2) (by decide) (v := vI (hB c 2)) (by rw [uS_ne hcb]; rfl) ?_
  refine xp0_tired hb hG dX0_copyWork_21 zf_X0_56 ?_
  rw [uS_uS, uS_eq]
  refine v_aload_n hG dX0_copyWork_24 rfl 0 rfl ?_
  refine v_aload_n hG dX0_copyWork_25 rfl 1 rfl ?_
  refine xg0 hc3 hG dX0_copyWork_26 zf_X0_42 (k := 3) (by decide) (v := vI (hB c 43)) (by rw [uS_ne hcb]; rfl) ?_
  refine xp0_size hb hG dX0_copyWork_29 zf_X0_42 ?_
  rw [uS_uS, uS_eq]
  refine v_aload_n hG dX0_copyWork_32 rfl 0 rfl ?_
  refine v_aload_n hG dX0_copyWork_33 rfl 1 rfl ?_
  refine xg0 hc3 hG dX0_copyWork_34 zf_X0_59 (k := 4) (by decide) (v := vI (hB c 44)) (by rw [uS_ne hcb]; rfl) ?_
  refine xp0_pcount hb hG dX0_copyWork_37 zf_X0_59 ?_
  rw [uS_uS, uS_eq]
  refine v_aload_n hG dX0_copyWork_40 rfl 0 rfl ?_
  refine v_aload_n hG dX0_copyWork_41 rfl 1 rfl ?_
  refine xg0 hc3 hG dX0_copyWork_42 zf_X0_9 (k := 5) (by decide) (v := .ref (kP ad (hc (hB c)))) (by rw [uS_ne hcb]; rfl) ?_
  refine xp0_held (f := sU (sU (sU (sU (sU (sU h 0 (hB c 0)) 1 (hB c 1)) 2 (hB c 2)) 43 (hB c 43)) 44 (hB c 44)) 49 (hB c 49)) hb hp6 (hc_eq sU_eq) (by rw [uS_eq]; exact ⟨sU_ne (by omega), sU_ne (by omega), sU_ne (by omega), sU_ne (by omega), sU_ne (by omega)⟩) hG dX0_copyWork_45 zf_X0_9 ?_
  rw [uS_uS]
  refine v_iconst hG dX0_copyWork_48 ?_
  refine v_istore_n (lo' := [(2, vI 0), (0, .ref (kB ad b)), (1, .ref (kB ad c))]) hG dX0_copyWork_49 rfl (by decide) rfl ?_
  refine v_lo [1, 2, 0] (lo' := [(0, .ref (kB ad b)), (1, .ref (kB ad c)), (2, vI 0)]) rfl ?_
  have L4 : ∀ mz : Nat, ∀ (k : Nat), ((k : Int) ≤ hB c 43) → (hB c 43 - (k : Int)).toNat = mz → ∀ x1 : Int, x1 = ((k : Int)) → ∀ x2 : Int → Int, ∀ x3 : Nat → Int → Int, CPF K (mB c) R b c (k : Int) x2 x3 → V G 0 0 (XW D A ad K (uS hB b (sU (sU (sU (sU (sU (sU h 0 (hB c 0)) 1 (hB c 1)) 2 (hB c 2)) 43 (hB c 43)) 44 (hB c 44)) 49 (hB c 49))) (uS mB b x2) x3 tz tc Q qa tp bo e uc lr nx) 50 [(0, .ref (kB ad b)), (1, .ref (kB ad c)), (2, vI x1)] [] := by
    intro dL4
    induction dL4 using Nat.strongRecOn with
    | ind dL4 ihL4 =>
      intro k hq5 hq6
      intro x1 hx1
      subst hx1
      intro x2
      intro x3 hcpf
      refine v_iload_n hG dX0_copyWork_50 rfl 2 rfl ?_
      refine v_aload_n hG dX0_copyWork_51 rfl 0 rfl ?_
      refine xg0 hb hG dX0_copyWork_52 zf_X0_42 (k := 3) (by decide) (v := vI (hB c 43)) (by rw [uS_eq]; exact (congrArg (fun z => some (vI z)) (show (sU (sU (sU (sU (sU (sU h 0 (hB c 0)) 1 (hB c 1)) 2 (hB c 2)) 43 (hB c 43)) 44 (hB c 44)) 49 (hB c 49)) 43 = hB c 43 from by rw [sU_ne (by omega), sU_ne (by omega), sU_eq]))) ?_
      refine v_icmp_ge (tgt := 79) hG dX0_copyWork_55 (by decide) (by omega) (by omega) (fun c7 => ?_) (fun c7 => ?_)
      · skip
        have e8 : sU (sU (sU (sU (sU (sU h 0 (hB c 0)) 1 (hB c 1)) 2 (hB c 2)) 43 (hB c 43)) 44 (hB c 44)) 49 (hB c 49) = hcp h (hB c) := by first | rfl | omega | (exact bi_congr (by omega)) | (simp [c7]; done)
        exact v_return hG hR dX0_copyWork_79 (x2, x3) rfl (by rw [show hB c 43 = (k : Int) by omega]; assumption) (fun _ hM => by rw [← e8]; exact hM)
      · skip
        refine v_aload_n hG dX0_copyWork_58 rfl 0 rfl ?_
        refine xg0 hb hG dX0_copyWork_59 zf_X0_17 (k := 6) (by decide) (v := .ref (kA ad b)) rfl ?_
        refine v_iload_n hG dX0_copyWork_62 rfl 2 rfl ?_
        refine xa_M (x := (k : Int)) hb (by omega) hG dX0_copyWork_63 ?_
        refine v_aload_n hG dX0_copyWork_64 rfl 1 rfl ?_
        refine xg0 hc3 hG dX0_copyWork_65 zf_X0_17 (k := 6) (by decide) (v := .ref (kA ad c)) rfl ?_
        refine v_iload_n hG dX0_copyWork_68 rfl 2 rfl ?_
        refine xa_M (x := (k : Int)) hc3 (by omega) hG dX0_copyWork_69 ?_
        refine cv_copyFrom (m := (k : Int)) hb hc3 hcb (by omega) (h01 _ (by omega) (by omega)) hI hG dX0_copyWork_70 zl_X0_62 ⟨by decide, by decide⟩ (Nat.le_of_ble_eq_true rfl) ?_
        refine v_iinc (lo' := [(2, vI ((k : Int) + 1)), (0, .ref (kB ad b)), (1, .ref (kB ad c))]) hG dX0_copyWork_73 2 rfl (by decide) rfl ?_
        refine v_goto (tgt := 50) hG dX0_copyWork_76 (by decide) ?_
        refine v_lo [1, 2, 0] (lo' := [(0, .ref (kB ad b)), (1, .ref (kB ad c)), (2, vI ((k : Int) + 1))]) rfl ?_
        exact ihL4 _ (by omega) (k + 1) (by omega) rfl _ (by first | omega | rfl | (simp [c7]; done)) _ _ (CPF_step hcb (by omega) hcpf)
  exact L4 _ 0 (by omega) rfl _ (by first | omega | rfl | (simp []; done)) _ _ CPF_0
