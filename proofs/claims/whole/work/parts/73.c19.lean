/-! THE CLASS: the order of cutting -/
theorem drop_next {l t : List Int} {i : Nat} {e : Int} (h : l.drop i = e :: t) : l.drop (i + 1) = t := by
  have h2 : l.drop (i + 1) = (l.drop i).tail := by simp [List.tail_drop]
  rw [h2, h]; rfl
theorem drop_getD {l t : List Int} {i : Nat} {e : Int} {u : Int → Int} (h : l.drop i = e :: t) : (l.map u).getD i 0 = u e := by
  have h2 : l[i]? = some e := by
    have h3 : (l.drop i)[0]? = l[i + 0]? := List.getElem?_drop
    rw [h, Nat.add_zero] at h3
    rw [← h3]; rfl
  rw [List.getD_eq_getElem?_getD, List.getElem?_map, h2]
  rfl
theorem rem_top {s : Int → Int} {x : Nat} (hx : x < pM s) (h : rem x (q_uncut s).toNat ≠ 0) : x < pM s - 1 := by
  by_cases e : x = 2 ^ (q_uncut s).toNat - 1
  · rw [e, rem_all _ _ (Nat.le_refl _)] at h; exact absurd rfl h
  · unfold pM at hx ⊢; omega
set_option maxHeartbeats 4000000 in
set_option maxRecDepth 100000 in
theorem kc11_order (l : Launch) (D : Dx) (A : Nat → Prop) (ad : Nat → Nat) (K : Int → Int) (S Q qa : Nat → Int → Int) (tp : Nat → Nat) (s bo e uc lr nx : Int → Int) (k : Int) (hrk : -2147483648 ≤ k ∧ k < 2147483648) (SL : List Int) (hN : NM s) (hM : GM s) (hP : PL s) (hCH : CHP Q qa s SL) (hT : TI s) : CT l D A yX11_order cX11_order 5 (some .int) { frames := 5, cells := 0, slots := 0, locals := 125 } [.ref (ad 0), vI k] (CW D A ad K (uS S 0 s) Q qa tp bo e uc lr nx) (fun u : (Int → Int) × (Int → Int) × (Int → Int) => some (vI (a_order s SL k))) (fun _ => True) (fun u => CW D A ad K (uS S 0 s) Q qa tp bo e u.1 u.2.1 u.2.2) := by
  refine ct_of (lo0 := [(0, .ref (ad 0)), (1, vI k)]) (by decide) (Nat.le_of_ble_eq_true rfl) rfl ?_
  intro G hG hR
  have hN9 : 0 ≤ s 43 ∧ s 43 ≤ 8 := hN
  obtain ⟨hhc, hpls, hwe, hmd⟩ := id hCH
  have hwr := q_wear_rng hP
  have hT2 : 0 ≤ s 2 ∧ s 2 ≤ 99 := hT
  refine v_iload_n hG dX11_order_0 rfl 1 rfl ?_
  refine v_iconst hG dX11_order_1 ?_
  refine v_iconst hG dX11_order_2 ?_
  refine v_callS (k1' := 0) (k2' := 0) hG dX11_order_3 zc_X11_within ⟨zl_X11_50, zt_X11_within⟩ (fun l => kc11_within l D A (CW D A ad K (uS S 0 s) Q qa tp bo e uc lr nx) k (-1) 5 (by omega) (by omega) (by omega)) rfl (fun _ h => h) ⟨by decide, by decide⟩ rfl rfl ⟨by decide, by decide⟩ (rest := []) rfl (Nat.le_of_ble_eq_true rfl) (fun u1 => [vI (bi ((-1) ≤ k ∧ k ≤ 5))]) (fun _ => rfl) (fun u1 hu1 => ?_)
  refine v_ifb_ne (p := (-1) ≤ k ∧ k ≤ 5) (tgt := 11) hG dX11_order_6 (by decide) (fun c2 => ?_) (fun c2 => ?_)
  · skip
    refine v_aload_n hG dX11_order_11 rfl 0 rfl ?_
    refine v_callV (k1' := 0) (k2' := 0) hG dX11_order_12 zc_X11_gatherUncut ⟨zl_X11_196, zi_X11_gatherUncut, zs_X11_gatherUncut⟩ (fun l => kc11_gatherUncut l D A ad K S Q qa tp s bo e uc lr nx (by assumption) (by assumption)) rfl cR11 (fun _ h => h) ⟨by decide, by decide⟩ rfl rfl ⟨by decide, by decide⟩ (rest := []) rfl (Nat.le_of_ble_eq_true rfl) (fun u3 => [vI (q_uncut s)]) (fun _ => rfl) (fun u3 hu3 => ?_)
    have fu3 : UC s (s 43).toNat u3 ∧ 0 ≤ q_uncut s ∧ q_uncut s ≤ 8 := hu3
    obtain ⟨hUC, huc0, huc8⟩ := fu3
    refine v_istore_n (lo' := [(2, vI (q_uncut s)), (0, .ref (ad 0)), (1, vI k)]) hG dX11_order_15 rfl (by decide) rfl ?_
    refine v_iload_n hG dX11_order_16 rfl 0 rfl ?_
    refine v_bipush hG dX11_order_17 (by decide) ?_
    refine v_icmp_le (tgt := 25) hG dX11_order_19 (by decide) (by omega) (by omega) (fun c4 => ?_) (fun c4 => ?_)
    · skip
      refine v_aload_n hG dX11_order_25 rfl 1 rfl ?_
      refine v_iload_n hG dX11_order_26 rfl 0 rfl ?_
      refine v_callV (k1' := 0) (k2' := 0) hG dX11_order_27 zc_X11_findOrder ⟨zl_X11_199, zi_X11_findOrder, zs_X11_findOrder⟩ (fun l => kc11_findOrder l D A ad K S Q qa tp s bo e u3 lr nx SL (by assumption) (by assumption) (by assumption) (by assumption) (by assumption) (by assumption) (by omega)) rfl cR11 (fun _ h => h) ⟨by decide, by decide⟩ rfl rfl ⟨by decide, by decide⟩ (rest := []) rfl (Nat.le_of_ble_eq_true rfl) (fun u5 => []) (fun _ => rfl) (fun u5 hu5 => ?_)
      have fu5 : OKs s u3 SL 0 u5.1 u5.2 := hu5
      have hOK := fu5
      have hpm := pM_rng (s := s) (by omega)
      refine v_iload_n hG dX11_order_30 rfl 2 rfl ?_
      refine v_iconst hG dX11_order_31 ?_
      refine v_icmp_ne (tgt := 42) hG dX11_order_32 (by decide) (by omega) (by omega) (fun c6 => ?_) (fun c6 => ?_)
      · skip
        refine v_iload_n hG dX11_order_42 rfl 2 rfl ?_
        refine v_iload_n hG dX11_order_43 rfl 0 rfl ?_
        refine v_icmp_lt (tgt := 50) hG dX11_order_44 (by decide) (by omega) (by omega) (fun c7 => ?_) (fun c7 => ?_)
        · skip
          refine v_iconst hG dX11_order_50 ?_
          refine v_istore_n (lo' := [(3, vI 0), (2, vI (q_uncut s)), (0, .ref (ad 0)), (1, vI k)]) hG dX11_order_51 rfl (by decide) rfl ?_
          refine v_iconst hG dX11_order_52 ?_
          refine v_istore (lo' := [(4, vI 0), (3, vI 0), (2, vI (q_uncut s)), (0, .ref (ad 0)), (1, vI k)]) hG dX11_order_53 (by decide) rfl ?_
          refine v_lo [3, 4, 2, 1, 0] (lo' := [(0, .ref (ad 0)), (1, vI k), (2, vI (q_uncut s)), (3, vI 0), (4, vI 0)]) rfl ?_
          have L10 : ∀ mz : Nat, ∀ (i x : Nat), ((i : Int) ≤ k) → (x < pM s) → (rem x (q_uncut s).toNat + i = (q_uncut s).toNat) → ((oO s u3 SL (q_uncut s).toNat 0).2.drop i = (oO s u3 SL (q_uncut s).toNat x).2) → (k - (i : Int)).toNat = mz → ∀ x8 : Int, x8 = ((i : Int)) → ∀ x9 : Int, x9 = ((x : Int)) → V G 0 0 (CW D A ad K (uS S 0 s) Q qa tp bo e u3 u5.1 u5.2) 55 [(0, .ref (ad 0)), (1, vI k), (2, vI (q_uncut s)), (3, vI x9), (4, vI x8)] [] := by
            intro dL10
            induction dL10 using Nat.strongRecOn with
            | ind dL10 ihL10 =>
              intro i x hq11 hq12 hq13 hq14 hq15
              intro x8 hx8
              subst hx8
              intro x9 hx9
              subst hx9
              refine v_iload hG dX11_order_55 4 rfl ?_
              refine v_iload_n hG dX11_order_57 rfl 1 rfl ?_
              refine v_icmp_ge (tgt := 78) hG dX11_order_58 (by decide) (by omega) (by omega) (fun c16 => ?_) (fun c16 => ?_)
              · skip
                obtain ⟨e9, he1, he2, he3, he4⟩ := (hOK x (Nat.zero_le _) (by omega)).2 (rem_top (by omega) (by omega))
                refine v_aload_n hG dX11_order_78 rfl 0 rfl ?_
                refine cg11 hG dX11_order_79 zf_X11_40 (k := 5) (by decide) (v := .ref (ad 4)) rfl ?_
                refine v_aload_n hG dX11_order_82 rfl 0 rfl ?_
                refine cg11 hG dX11_order_83 zf_X11_47 (k := 7) (by decide) (v := .ref (ad 6)) rfl ?_
                refine v_iload_n hG dX11_order_86 rfl 3 rfl ?_
                refine ca_nx hG dX11_order_87 (by omega) rfl ?_
                rw [he2]
                refine ca_uc hG dX11_order_88 (by omega) rfl ?_
                have e17 : @Eq Int (a_order s SL k) (u3 (e9 : Int)) := by unfold a_order; rw [if_pos (by omega), if_pos (by omega), if_neg (by omega), if_neg (by omega), (oO_0 (SL := SL) hUC).2, show k.toNat = i by omega]; exact drop_getD ((show _ = _ by assumption).trans he4)
                exact v_ireturn hG hR dX11_order_89 (u3, u5.1, u5.2) (congrArg (fun z => some (vI z)) e17) (by trivial) (fun _ hM => hM)
              · skip
                obtain ⟨e9, he1, he2, he3, he4⟩ := (hOK x (Nat.zero_le _) (by omega)).2 (rem_top (by omega) (by omega))
                refine v_iload_n hG dX11_order_61 rfl 3 rfl ?_
                refine v_iconst hG dX11_order_62 ?_
                refine v_aload_n hG dX11_order_63 rfl 0 rfl ?_
                refine cg11 hG dX11_order_64 zf_X11_47 (k := 7) (by decide) (v := .ref (ad 6)) rfl ?_
                refine v_iload_n hG dX11_order_67 rfl 3 rfl ?_
                refine ca_nx hG dX11_order_68 (by omega) rfl ?_
                rw [he2]
                refine v_ishl hG dX11_order_69 (by omega) ?_
                refine v_ior hG dX11_order_70 ?_
                have hor := or_lt (s := s) (y := x) (i := e9) (by omega) he1
                rw [ior_pow (by omega)]
                refine v_istore_n (lo' := [(3, vI ((x ||| 2 ^ e9 : Nat) : Int)), (0, .ref (ad 0)), (1, vI k), (2, vI (q_uncut s)), (4, vI (i : Int))]) hG dX11_order_71 rfl (by decide) rfl ?_
                refine v_iinc (lo' := [(4, vI ((i : Int) + 1)), (3, vI ((x ||| 2 ^ e9 : Nat) : Int)), (0, .ref (ad 0)), (1, vI k), (2, vI (q_uncut s))]) hG dX11_order_72 4 rfl (by decide) rfl ?_
                refine v_goto (tgt := 55) hG dX11_order_75 (by decide) ?_
                refine v_lo [2, 3, 4, 1, 0] (lo' := [(0, .ref (ad 0)), (1, vI k), (2, vI (q_uncut s)), (3, vI ((x ||| 2 ^ e9 : Nat) : Int)), (4, vI ((i : Int) + 1))]) rfl ?_
                exact ihL10 _ (by omega) (i + 1) (x ||| 2 ^ e9) (by omega) (by exact hor) (by have h9 := rem_or he3 (q_uncut s).toNat; rw [if_pos (by omega)] at h9; omega) (by exact drop_next ((show _ = _ by assumption).trans he4)) rfl _ (by first | omega | rfl | (simp [c2, c4, c6, c7, c16]; done)) _ (by rfl)
          exact L10 _ 0 0 (by omega) (by omega) (by rw [rem_0, Nat.add_zero]) (by rfl) rfl _ (by rfl) _ (by rfl)
        · skip
          refine v_bipush hG dX11_order_47 (by decide) ?_
          have e18 : @Eq Int (a_order s SL k) (-5) := by unfold a_order; rw [if_pos (by omega), if_pos (by omega), if_neg (by omega), if_pos (by omega)]
          exact v_ireturn hG hR dX11_order_49 (u3, u5.1, u5.2) (congrArg (fun z => some (vI z)) e18) (by trivial) (fun _ hM => hM)
      · skip
        refine v_aload_n hG dX11_order_35 rfl 1 rfl ?_
        refine cg11 hG dX11_order_36 zf_X11_44 (k := 6) (by decide) (v := .ref (ad 5)) rfl ?_
        refine v_iconst hG dX11_order_39 ?_
        refine ca_lr hG dX11_order_40 (by omega) rfl ?_
        have e19 : @Eq Int (a_order s SL k) (u5.1 0) := by unfold a_order; rw [if_pos (by omega), if_pos (by omega), if_pos (by omega), (oO_0 (SL := SL) hUC).1]; exact (hOK 0 (Nat.zero_le _) (by omega)).1
        exact v_ireturn hG hR dX11_order_41 (u3, u5.1, u5.2) (congrArg (fun z => some (vI z)) e19) (by trivial) (fun _ hM => hM)
    · skip
      refine v_bipush hG dX11_order_22 (by decide) ?_
      have e20 : @Eq Int (a_order s SL k) (-9) := by unfold a_order; rw [if_pos (by omega), if_neg (by omega)]
      exact v_ireturn hG hR dX11_order_24 (u3, lr, nx) (congrArg (fun z => some (vI z)) e20) (by trivial) (fun _ hM => hM)
  · skip
    refine v_iconst hG dX11_order_9 ?_
    have e21 : @Eq Int (a_order s SL k) (-1) := by unfold a_order; rw [if_neg (by assumption)]
    exact v_ireturn hG hR dX11_order_10 (uc, lr, nx) (congrArg (fun z => some (vI z)) e21) (by trivial) (fun _ hM => hM)
