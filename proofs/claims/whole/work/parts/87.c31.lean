/-! THE CLASS: mark() -/
theorem v_fix {G : Gx} {k1 k2 pc : Nat} {P : Heap → Prop} {lo : List (Nat × Value)} {st : List Value} (kk : ∀ H0, P H0 → V G k1 k2 (fun H => H = H0) pc lo st) : V G k1 k2 P pc lo st := by
  obtain ⟨p, l, e, R, s, m, args, below, meth, c, A', Q⟩ := G
  intro H locs ls hP hS hl
  exact kk H hP H locs ls rfl hS hl
theorem MSr.at {D : Dx} {A : Nat → Prop} {ad : Nat → Nat} {K : Int → Int} {hB mB rB tz : Nat → Int → Int} {tc : Nat → Int → Int} {Q qa : Nat → Int → Int} {tp : Nat → Nat} {bo e uc lr nx : Int → Int} {H H0 : Heap} {kd vv pl dp : Int} {x i k : Nat} {v : va_E} (h : MSr D ad H0 kd x vv pl dp i H) (hX : XW D A ad K hB mB rB tz tc Q qa tp bo e uc lr nx H0) (hi : i ≤ 3) (hk : dom K k) (hne : k < 20 + 0 ∨ 20 + i ≤ k) (hv : va_at D.1 vwCl (ad k, v) H0) : va_at D.1 vwCl (ad k, v) H :=
  hv.kept (h.1 _ (hX.lt hk) (fun b hb => hX.i.ne hk (Or.inl (by omega)) (by omega)))
set_option maxHeartbeats 4000000 in
set_option maxRecDepth 100000 in
theorem kc11_mark (l : Launch) (D : Dx) (A : Nat → Prop) (N0 : Nat) (ad : Nat → Nat) (K : Int → Int) (S Q qa : Nat → Int → Int) (tp : Nat → Nat) (s bo e uc lr nx : Int → Int) (kd vv pl dp : Int) (hA : ∀ q, N0 ≤ q → A q) (hTB : TB s) (hT2 : TB (S 2)) (h43 : 0 ≤ s 43 ∧ s 43 ≤ 8) (hS1 : S 1 43 ≤ s 43) (hr0 : -2147483648 ≤ kd ∧ kd < 2147483648) (hr1 : -2147483648 ≤ vv ∧ vv < 2147483648) (hr2 : -2147483648 ≤ pl ∧ pl < 2147483648) (hr3 : -2147483648 ≤ dp ∧ dp < 2147483648) : CT l D A yX11_mark cX11_mark 6 (some .int) { frames := 6, cells := 6, slots := 42, locals := 200 } [.ref (ad 0), vI kd, vI vv, vI pl, vI dp] (fun H => CW D A ad K (uS S 0 s) Q qa tp bo e uc lr nx H ∧ N0 ≤ H.size) (fun _ : (Nat → Nat) × (Int → Int) × (Int → Int) => some (vI (a_mark s kd vv pl dp))) (fun u => u.1 0 = ad 0 ∧ TB u.2.2) (fun u => CW D A u.1 u.2.1 (uS (uS S 2 u.2.2) 0 (f_mark s kd vv pl dp)) Q qa tp bo e uc lr nx) := by
  refine ct_of (lo0 := [(0, .ref (ad 0)), (1, vI kd), (2, vI vv), (3, vI pl), (4, vI dp)]) (by decide) (Nat.le_of_ble_eq_true rfl) rfl ?_
  intro G hG hR
  refine v_fix (fun H0 hH0 => ?_)
  obtain ⟨hCW, hN0⟩ := hH0
  obtain ⟨hB, mB, rB, tz, tc, hAG, hX⟩ := id hCW
  obtain ⟨x, hx⟩ : ∃ x : Nat, s 43 = (x : Int) := ⟨(s 43).toNat, by omega⟩
  have hB43 : hB 0 43 = (x : Int) := (hAG.at (by decide)).1.2.2.2.1.trans hx
  have hAu : ∀ q, H0.size ≤ q → A q := fun q hq => hA q (by omega)
  refine v_iload_n hG dX11_mark_0 rfl 1 rfl ?_
  refine v_iconst hG dX11_mark_1 ?_
  refine v_bipush hG dX11_mark_2 (by decide) ?_
  refine v_callS (k1' := 0) (k2' := 0) hG dX11_mark_4 zc_X11_within ⟨zl_X11_50, zt_X11_within⟩ (fun l => kc11_within l D A (fun H => H = H0) kd 0 6 (by omega) (by omega) (by omega)) rfl (fun _ h => h) ⟨by decide, by decide⟩ rfl rfl ⟨by decide, by decide⟩ (rest := []) rfl (Nat.le_of_ble_eq_true rfl) (fun u1 => [vI (bi (0 ≤ kd ∧ kd ≤ 6))]) (fun _ => rfl) (fun u1 hu1 => ?_)
  refine v_ifb_ne (p := 0 ≤ kd ∧ kd ≤ 6) (tgt := 12) hG dX11_mark_7 (by decide) (fun c2 => ?_) (fun c2 => ?_)
  · skip
    refine v_iload_n hG dX11_mark_12 rfl 2 rfl ?_
    refine v_iconst hG dX11_mark_13 ?_
    refine v_bipush hG dX11_mark_14 (by decide) ?_
    refine v_callS (k1' := 0) (k2' := 0) hG dX11_mark_16 zc_X11_within ⟨zl_X11_50, zt_X11_within⟩ (fun l => kc11_within l D A (fun H => H = H0) vv 0 9 (by omega) (by omega) (by omega)) rfl (fun _ h => h) ⟨by decide, by decide⟩ rfl rfl ⟨by decide, by decide⟩ (rest := []) rfl (Nat.le_of_ble_eq_true rfl) (fun u3 => [vI (bi (0 ≤ vv ∧ vv ≤ 9))]) (fun _ => rfl) (fun u3 hu3 => ?_)
    refine v_ifb_eq (p := 0 ≤ vv ∧ vv ≤ 9) (tgt := 43) hG dX11_mark_19 (by decide) (fun c4 => ?_) (fun c4 => ?_)
    · skip
      refine v_bipush hG dX11_mark_43 (by decide) ?_
      refine v_widen (k1' := 6) (k2' := 42) (by decide) (by decide) ?_
      obtain ⟨ha, hf⟩ : a_mark s kd vv pl dp = -2 ∧ f_mark s kd vv pl dp = s := by unfold a_mark f_mark; (repeat' split) <;> first | exact ⟨rfl, rfl⟩ | (exfalso; omega)
      exact v_ireturn hG hR dX11_mark_45 (ad, K, S 2) (by rw [ha]) ⟨rfl, hT2⟩ (fun H h => by rw [h, hf]; show CW D A ad K (uS (uS S 2 (S 2)) 0 s) Q qa tp bo e uc lr nx H0; rw [uS_self]; exact hCW)
    · skip
      refine v_iload_n hG dX11_mark_22 rfl 3 rfl ?_
      refine v_iconst hG dX11_mark_23 ?_
      refine v_bipush hG dX11_mark_24 (by decide) ?_
      refine v_callS (k1' := 0) (k2' := 0) hG dX11_mark_26 zc_X11_within ⟨zl_X11_50, zt_X11_within⟩ (fun l => kc11_within l D A (fun H => H = H0) pl 0 99 (by omega) (by omega) (by omega)) rfl (fun _ h => h) ⟨by decide, by decide⟩ rfl rfl ⟨by decide, by decide⟩ (rest := []) rfl (Nat.le_of_ble_eq_true rfl) (fun u5 => [vI (bi (0 ≤ pl ∧ pl ≤ 99))]) (fun _ => rfl) (fun u5 hu5 => ?_)
      refine v_ifb_eq (p := 0 ≤ pl ∧ pl ≤ 99) (tgt := 43) hG dX11_mark_29 (by decide) (fun c6 => ?_) (fun c6 => ?_)
      · skip
        refine v_bipush hG dX11_mark_43 (by decide) ?_
        refine v_widen (k1' := 6) (k2' := 42) (by decide) (by decide) ?_
        obtain ⟨ha, hf⟩ : a_mark s kd vv pl dp = -2 ∧ f_mark s kd vv pl dp = s := by unfold a_mark f_mark; (repeat' split) <;> first | exact ⟨rfl, rfl⟩ | (exfalso; omega)
        exact v_ireturn hG hR dX11_mark_45 (ad, K, S 2) (by rw [ha]) ⟨rfl, hT2⟩ (fun H h => by rw [h, hf]; show CW D A ad K (uS (uS S 2 (S 2)) 0 s) Q qa tp bo e uc lr nx H0; rw [uS_self]; exact hCW)
      · skip
        refine v_iload hG dX11_mark_32 4 rfl ?_
        refine v_iconst hG dX11_mark_34 ?_
        refine v_bipush hG dX11_mark_35 (by decide) ?_
        refine v_callS (k1' := 0) (k2' := 0) hG dX11_mark_37 zc_X11_within ⟨zl_X11_50, zt_X11_within⟩ (fun l => kc11_within l D A (fun H => H = H0) dp 1 9 (by omega) (by omega) (by omega)) rfl (fun _ h => h) ⟨by decide, by decide⟩ rfl rfl ⟨by decide, by decide⟩ (rest := []) rfl (Nat.le_of_ble_eq_true rfl) (fun u7 => [vI (bi (1 ≤ dp ∧ dp ≤ 9))]) (fun _ => rfl) (fun u7 hu7 => ?_)
        refine v_ifb_ne (p := 1 ≤ dp ∧ dp ≤ 9) (tgt := 46) hG dX11_mark_40 (by decide) (fun c8 => ?_) (fun c8 => ?_)
        · skip
          refine v_aload_n hG dX11_mark_46 rfl 0 rfl ?_
          refine v_get hG dX11_mark_47 zcl11 0 zf_X11_17 (by decide) (fun H h => by rw [h]; exact hX.f0) (rfl : (xfs ad e)[0]? = some _) ?_
          refine v_get hG dX11_mark_50 zcl0 3 zf_X11_90 (by decide) (fun H h => by rw [h]; exact hX.fb 0 (by decide)) (rfl : (bfs ad (hB 0) 0)[3]? = some _) ?_
          rw [hB43]
          refine v_istore (lo' := [(5, vI (x : Int)), (0, .ref (ad 0)), (1, vI kd), (2, vI vv), (3, vI pl), (4, vI dp)]) hG dX11_mark_53 (by decide) rfl ?_
          refine v_iload hG dX11_mark_55 0 rfl ?_
          refine v_bipush hG dX11_mark_57 (by decide) ?_
          refine v_icmp_lt (tgt := 65) hG dX11_mark_59 (by decide) (by omega) (by omega) (fun c9 => ?_) (fun c9 => ?_)
          · skip
            have hkd : 0 ≤ kd ∧ kd ≤ 6 := by assumption
            obtain ⟨r, hr, hE⟩ := kcl_cast hkd
            have eqb : (bfs ad (hB 0) 0).set 3 (vI ((x : Int) + 1)) = bfs ad (sU (hB 0) 43 ((x : Int) + 1)) 0 := by
              have h49 : hc (sU (hB 0) 43 ((x : Int) + 1)) = hc (hB 0) := hc_eq (sU_ne (by decide))
              unfold bfs
              rw [h49, sU_eq, sU_ne (show (0 : Int) ≠ 43 by decide), sU_ne (show (1 : Int) ≠ 43 by decide), sU_ne (show (2 : Int) ≠ 43 by decide), sU_ne (show (44 : Int) ≠ 43 by decide)]
              rfl
            refine v_P (P' := fun H => H.size = H0.size + 0 * nwd kd ∧ MSr D ad H0 kd x vv pl dp 0 H) (fun H h => by rw [h]; exact ⟨by rw [Nat.zero_mul]; rfl, MSr_0⟩) ?_
            refine v_aload_n hG dX11_mark_65 rfl 1 rfl ?_
            refine v_get hG dX11_mark_66 zcl11 0 zf_X11_17 (by decide) (fun H h => h.2.at hX (by omega) (Or.inl (by omega)) (by omega) hX.f0) (rfl : (xfs ad e)[0]? = some _) ?_
            refine v_get hG dX11_mark_69 zcl0 6 zf_X11_91 (by decide) (fun H h => h.2.at hX (by omega) (Or.inl (by omega)) (by omega) (hX.fb 0 (by decide))) (rfl : (bfs ad (hB 0) 0)[6]? = some _) ?_
            refine v_iload hG dX11_mark_72 0 rfl ?_
            refine v_iload_n hG dX11_mark_74 rfl 2 rfl ?_
            refine v_iload hG dX11_mark_75 0 rfl ?_
            refine v_iload_n hG dX11_mark_77 rfl 3 rfl ?_
            refine v_iload_n hG dX11_mark_78 rfl 4 rfl ?_
            refine v_iload hG dX11_mark_79 5 rfl ?_
            refine v_callS (k1' := 2) (k2' := 14) hG dX11_mark_81 zc_X11_newMark ⟨zl_X11_95, zt_X11_newMark⟩ (fun l => CT_fr (A := A) (F := fun H => MSr D ad H0 kd x vv pl dp 0 H) (fun q (hq : H0.size + 0 * nwd kd ≤ q) => hAu q (by omega)) (fun H H' hF (hP : H.size = H0.size + 0 * nwd kd) hz ho => hF.kept hX (by omega) hP (fun q hq => ho q hq (by show ¬ (H0.size + 0 * nwd kd ≤ q); omega))) (knewM l D (H0.size + 0 * nwd kd) kd x vv pl dp hkd)) rfl (fun _ h => h) ⟨by decide, by decide⟩ rfl rfl ⟨by decide, by decide⟩ (rest := [vI (x : Int), .ref (kA ad 0)]) rfl (Nat.le_of_ble_eq_true rfl) (fun _ => [.ref (H0.size + 0 * nwd kd), vI (x : Int), .ref (kA ad 0)]) (fun _ => rfl) (fun _ _ => ?_)
            refine v_aast (P' := fun H => H.size = H0.size + 1 * nwd kd ∧ MSr D ad H0 kd x vv pl dp 1 H) (a := kA ad 0) (n := 8) (t0 := 2) (f := fun q => some (kM ad 0 (q : Int))) hG dX11_mark_84 rfl (by decide) ⟨by omega, by omega⟩ (fun H h => ⟨h.2.at hX (by omega) (Or.inl (by omega)) (by omega) (hX.fa 0 (by decide)), hX.i.2.1 _ (Or.inl (by omega))⟩) (fun H h => h.1.2.1) hr hE (fun H H' h hx9 hz ho => ⟨by rw [hz, h.1.1]; omega, h.2.put hX (by omega) h.1.2 hx9 ho⟩) ?_
            refine v_aload_n hG dX11_mark_85 rfl 1 rfl ?_
            refine v_get hG dX11_mark_86 zcl11 1 zf_X11_23 (by decide) (fun H h => h.2.at hX (by omega) (Or.inl (by omega)) (by omega) hX.f0) (rfl : (xfs ad e)[1]? = some _) ?_
            refine v_get hG dX11_mark_89 zcl0 6 zf_X11_91 (by decide) (fun H h => h.2.at hX (by omega) (Or.inl (by omega)) (by omega) (hX.fb 1 (by decide))) (rfl : (bfs ad (hB 1) 1)[6]? = some _) ?_
            refine v_iload hG dX11_mark_92 0 rfl ?_
            refine v_iload_n hG dX11_mark_94 rfl 2 rfl ?_
            refine v_iload hG dX11_mark_95 0 rfl ?_
            refine v_iload_n hG dX11_mark_97 rfl 3 rfl ?_
            refine v_iload_n hG dX11_mark_98 rfl 4 rfl ?_
            refine v_iload hG dX11_mark_99 5 rfl ?_
            refine v_callS (k1' := 4) (k2' := 28) hG dX11_mark_101 zc_X11_newMark ⟨zl_X11_95, zt_X11_newMark⟩ (fun l => CT_fr (A := A) (F := fun H => MSr D ad H0 kd x vv pl dp 1 H) (fun q (hq : H0.size + 1 * nwd kd ≤ q) => hAu q (by omega)) (fun H H' hF (hP : H.size = H0.size + 1 * nwd kd) hz ho => hF.kept hX (by omega) hP (fun q hq => ho q hq (by show ¬ (H0.size + 1 * nwd kd ≤ q); omega))) (knewM l D (H0.size + 1 * nwd kd) kd x vv pl dp hkd)) rfl (fun _ h => h) ⟨by decide, by decide⟩ rfl rfl ⟨by decide, by decide⟩ (rest := [vI (x : Int), .ref (kA ad 1)]) rfl (Nat.le_of_ble_eq_true rfl) (fun _ => [.ref (H0.size + 1 * nwd kd), vI (x : Int), .ref (kA ad 1)]) (fun _ => rfl) (fun _ _ => ?_)
            refine v_aast (P' := fun H => H.size = H0.size + 2 * nwd kd ∧ MSr D ad H0 kd x vv pl dp 2 H) (a := kA ad 1) (n := 8) (t0 := 2) (f := fun q => some (kM ad 1 (q : Int))) hG dX11_mark_104 rfl (by decide) ⟨by omega, by omega⟩ (fun H h => ⟨h.2.at hX (by omega) (Or.inl (by omega)) (by omega) (hX.fa 1 (by decide)), hX.i.2.1 _ (Or.inl (by omega))⟩) (fun H h => h.1.2.1) hr hE (fun H H' h hx9 hz ho => ⟨by rw [hz, h.1.1]; omega, h.2.put hX (by omega) h.1.2 hx9 ho⟩) ?_
            refine v_aload_n hG dX11_mark_105 rfl 1 rfl ?_
            refine v_get hG dX11_mark_106 zcl11 2 zf_X11_26 (by decide) (fun H h => h.2.at hX (by omega) (Or.inl (by omega)) (by omega) hX.f0) (rfl : (xfs ad e)[2]? = some _) ?_
            refine v_get hG dX11_mark_109 zcl0 6 zf_X11_91 (by decide) (fun H h => h.2.at hX (by omega) (Or.inl (by omega)) (by omega) (hX.fb 2 (by decide))) (rfl : (bfs ad (hB 2) 2)[6]? = some _) ?_
            refine v_iload hG dX11_mark_112 0 rfl ?_
            refine v_iload_n hG dX11_mark_114 rfl 2 rfl ?_
            refine v_iload hG dX11_mark_115 0 rfl ?_
            refine v_iload_n hG dX11_mark_117 rfl 3 rfl ?_
            refine v_iload_n hG dX11_mark_118 rfl 4 rfl ?_
            refine v_iload hG dX11_mark_119 5 rfl ?_
            refine v_callS (k1' := 6) (k2' := 42) hG dX11_mark_121 zc_X11_newMark ⟨zl_X11_95, zt_X11_newMark⟩ (fun l => CT_fr (A := A) (F := fun H => MSr D ad H0 kd x vv pl dp 2 H) (fun q (hq : H0.size + 2 * nwd kd ≤ q) => hAu q (by omega)) (fun H H' hF (hP : H.size = H0.size + 2 * nwd kd) hz ho => hF.kept hX (by omega) hP (fun q hq => ho q hq (by show ¬ (H0.size + 2 * nwd kd ≤ q); omega))) (knewM l D (H0.size + 2 * nwd kd) kd x vv pl dp hkd)) rfl (fun _ h => h) ⟨by decide, by decide⟩ rfl rfl ⟨by decide, by decide⟩ (rest := [vI (x : Int), .ref (kA ad 2)]) rfl (Nat.le_of_ble_eq_true rfl) (fun _ => [.ref (H0.size + 2 * nwd kd), vI (x : Int), .ref (kA ad 2)]) (fun _ => rfl) (fun _ _ => ?_)
            refine v_aast (P' := fun H => H.size = H0.size + 3 * nwd kd ∧ MSr D ad H0 kd x vv pl dp 3 H) (a := kA ad 2) (n := 8) (t0 := 2) (f := fun q => some (kM ad 2 (q : Int))) hG dX11_mark_124 rfl (by decide) ⟨by omega, by omega⟩ (fun H h => ⟨h.2.at hX (by omega) (Or.inl (by omega)) (by omega) (hX.fa 2 (by decide)), hX.i.2.1 _ (Or.inl (by omega))⟩) (fun H h => h.1.2.1) hr hE (fun H H' h hx9 hz ho => ⟨by rw [hz, h.1.1]; omega, h.2.put hX (by omega) h.1.2 hx9 ho⟩) ?_
            refine v_aload_n hG dX11_mark_125 rfl 1 rfl ?_
            refine v_get hG dX11_mark_126 zcl11 0 zf_X11_17 (by decide) (fun H h => h.2.at hX (by omega) (Or.inl (by omega)) (by omega) hX.f0) (rfl : (xfs ad e)[0]? = some _) ?_
            refine v_iload hG dX11_mark_129 0 rfl ?_
            refine v_iconst hG dX11_mark_131 ?_
            refine v_iadd hG dX11_mark_132 ?_
            refine v_put (P' := fun H => ∃ H1, MSr D ad H0 kd x vv pl dp 3 H1 ∧ va_at D.1 vwCl (kB ad 0, .inr (0, bfs ad (sU (hB 0) 43 ((x : Int) + 1)) 0)) H ∧ ∀ q, q ≠ kB ad 0 → H[q]? = H1[q]?) hG dX11_mark_133 zcl0 3 zf_X11_90 (by decide) rfl rfl rfl (Nat.le_of_ble_eq_true rfl) (fun H h => ⟨h.2.at hX (by omega) (Or.inl (by omega)) (by omega) (hX.fb 0 (by decide)), hX.i.2.1 _ (Or.inl (by omega))⟩) (fun H H' h hx9 hz ho => ⟨H, h.2, by rw [← eqb]; exact hx9, ho⟩) ?_
            refine v_iload hG dX11_mark_136 0 rfl ?_
            obtain ⟨ha, hf⟩ : a_mark s kd vv pl dp = (x : Int) ∧ f_mark s kd vv pl dp = p_mark s kd vv pl dp := by unfold a_mark f_mark; (repeat' split) <;> first | exact ⟨hx, rfl⟩ | (exfalso; omega)
            exact v_ireturn hG hR dX11_mark_138 (adm ad H0.size (nwd kd) x, Km K x kd vv pl, sU (mkr (S 2) x kd vv pl dp) 43 (S 2 43)) (by rw [ha]) ⟨adm_lo (ad := ad) (N := H0.size) (w := nwd kd) (x := x) (k := 0) (Or.inl (by decide)), TB_of hT2 (fun q hq => (sU_ne (by omega)).trans (mkr_old (by omega) (by omega) (by omega)))⟩ (fun H ⟨H1, h1, h2, h3⟩ => by rw [hf]; exact mark_CW hAG hX (by omega) hx hTB hT2 (by omega) hkd hAu h1 h2 h3)
          · skip
            refine v_bipush hG dX11_mark_62 (by decide) ?_
            refine v_widen (k1' := 6) (k2' := 42) (by decide) (by decide) ?_
            obtain ⟨ha, hf⟩ : a_mark s kd vv pl dp = -4 ∧ f_mark s kd vv pl dp = s := by unfold a_mark f_mark; (repeat' split) <;> first | exact ⟨rfl, rfl⟩ | (exfalso; omega)
            exact v_ireturn hG hR dX11_mark_64 (ad, K, S 2) (by rw [ha]) ⟨rfl, hT2⟩ (fun H h => by rw [h, hf]; show CW D A ad K (uS (uS S 2 (S 2)) 0 s) Q qa tp bo e uc lr nx H0; rw [uS_self]; exact hCW)
        · skip
          refine v_bipush hG dX11_mark_43 (by decide) ?_
          refine v_widen (k1' := 6) (k2' := 42) (by decide) (by decide) ?_
          obtain ⟨ha, hf⟩ : a_mark s kd vv pl dp = -2 ∧ f_mark s kd vv pl dp = s := by unfold a_mark f_mark; (repeat' split) <;> first | exact ⟨rfl, rfl⟩ | (exfalso; omega)
          exact v_ireturn hG hR dX11_mark_45 (ad, K, S 2) (by rw [ha]) ⟨rfl, hT2⟩ (fun H h => by rw [h, hf]; show CW D A ad K (uS (uS S 2 (S 2)) 0 s) Q qa tp bo e uc lr nx H0; rw [uS_self]; exact hCW)
  · skip
    refine v_iconst hG dX11_mark_10 ?_
    refine v_widen (k1' := 6) (k2' := 42) (by decide) (by decide) ?_
    obtain ⟨ha, hf⟩ : a_mark s kd vv pl dp = -1 ∧ f_mark s kd vv pl dp = s := by unfold a_mark f_mark; (repeat' split) <;> first | exact ⟨rfl, rfl⟩ | (exfalso; omega)
    exact v_ireturn hG hR dX11_mark_11 (ad, K, S 2) (by rw [ha]) ⟨rfl, hT2⟩ (fun H h => by rw [h, hf]; show CW D A ad K (uS (uS S 2 (S 2)) 0 s) Q qa tp bo e uc lr nx H0; rw [uS_self]; exact hCW)
