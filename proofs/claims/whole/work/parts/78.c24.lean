/-! THE CLASS: reading a tape, by levels -/
theorem getD_l {L M : List Int} {i : Nat} (h : i < L.length) : (L ++ M).getD i 0 = L.getD i 0 := by
  rw [List.getD_eq_getElem?_getD, List.getD_eq_getElem?_getD, List.getElem?_append_left h]
theorem getD_r {L M : List Int} {i : Nat} (h : L.length ≤ i) : (L ++ M).getD i 0 = M.getD (i - L.length) 0 := by
  rw [List.getD_eq_getElem?_getD, List.getD_eq_getElem?_getD, List.getElem?_append_right h]
theorem EM_0 {q w : Int → Int} {p : Nat} (h3 : q 3 = (p : Int)) (hk : 0 ≤ q 1 ∧ q 1 ≤ 100) : EM q w (p, true, []) q w := ⟨fun _ _ _ => rfl, h3, hk, fun _ => ⟨by show q 1 = q 1 + ((0 : Nat) : Int); omega, fun _ _ _ => rfl, fun i hi => absurd hi (Nat.not_lt_zero i)⟩⟩
theorem EM_app {q w y v y' v' : Int → Int} {P : Nat} {L : List Int} {r : R3} (h : EM q w (P, true, L) y v) (h2 : EM y v r y' v') (hk : 0 ≤ q 1) (hr : r.2.1 = true) : EM q w (r.1, true, L ++ r.2.2) y' v' := by
  obtain ⟨a1, a2, a3, a4⟩ := h
  obtain ⟨b1, b2, b3, b4⟩ := h2
  obtain ⟨c1, c2, c3⟩ := a4 rfl
  obtain ⟨d1, d2, d3⟩ := b4 hr
  have c1' : y 1 = q 1 + (L.length : Int) := c1
  refine ⟨fun k g1 g2 => (b1 k g1 g2).trans (a1 k g1 g2), b2, b3, fun _ => ⟨?_, fun j g1 g2 => (d2 j g1 (by omega)).trans (c2 j g1 g2), fun i hi => ?_⟩⟩
  · show y' 1 = q 1 + ((L ++ r.2.2).length : Int)
    rw [List.length_append]
    omega
  · show v' (q 1 + (i : Int)) = cvO ((L ++ r.2.2).getD i 0)
    have hi2 : i < (L ++ r.2.2).length := hi
    rw [List.length_append] at hi2
    by_cases e : i < L.length
    · rw [d2 _ (by omega) (by omega), getD_l e]
      exact c3 i e
    · rw [getD_r (by omega), ← d3 (i - L.length) (by omega)]
      congr 1
      omega
theorem EM_keep {q w y v y' v' : Int → Int} {p : Nat} {L : List Int} {op : Int} (h : EM q w (p, true, L) y v) (hop : op < 0) (hlt : y 1 < 100) (h2 : KP y v op y' v') (hk : 0 ≤ q 1) : EM q w (p, true, L ++ [op]) y' v' := by
  obtain ⟨b1, b2, b3⟩ := h2
  obtain ⟨b4, b5, b6⟩ := b3 hlt
  have h3 : EM y v (p, true, [op]) y' v' := ⟨fun k g1 _ => b1 k g1, (b1 3 (by decide)).trans h.2.1, b2, fun _ => ⟨b4, fun j _ g2 => b5 j (by omega), fun i hi => by
    have hi0 : i = 0 := by have : i < 1 := hi; omega
    subst hi0
    rw [show y 1 + ((0 : Nat) : Int) = y 1 by omega, b6]
    exact (if_pos hop).symm⟩⟩
  exact EM_app h h3 hk rfl
theorem EM_place {q w y v : Int → Int} {p p' : Nat} {L : List Int} (h : EM q w (p, true, L) y v) : EM q w (p', true, L) (sU y 3 (p' : Int)) v := by
  obtain ⟨a1, a2, a3, a4⟩ := h
  obtain ⟨c1, c2, c3⟩ := a4 rfl
  exact ⟨fun k g1 g2 => (sU_ne g2).trans (a1 k g1 g2), sU_eq, by rw [sU_ne (by omega)]; exact a3, fun _ => ⟨(sU_ne (by omega)).trans c1, c2, c3⟩⟩
theorem EM_failc {q w y v y' v' : Int → Int} {P : Nat} {L : List Int} {r R : R3} (h : EM q w (P, true, L) y v) (h2 : EM y v r y' v') (e1 : R.1 = r.1) (e2 : R.2.1 = false) : EM q w R y' v' := EM_fail (fun k g1 g2 => (h2.1 k g1 g2).trans (h.1 k g1 g2)) (by rw [e1]; exact h2.2.1) h2.2.2.1 e2
theorem EM_n {q w y v : Int → Int} {p : Nat} {L : List Int} (h : EM q w (p, true, L) y v) : y 1 = q 1 + (L.length : Int) := (h.2.2.2 rfl).1
def nxF (f : Nat → R3) (op : Int) (t : Nat) (L : List Int) (P : Nat) : R3 := ((f P).1, (f P).2.1, L ++ (f P).2.2 ++ (if (f P).2.1 = true ∧ 1 < t then [op] else []))
theorem nx_1 {f : Nat → R3} {op : Int} {P : Nat} : nxF f op 1 [] P = f P := by
  unfold nxF
  rw [if_neg (fun q => absurd q.2 (Nat.lt_irrefl 1)), List.nil_append, List.append_nil]
theorem nx_go {f : Nat → R3} {op : Int} {t : Nat} {r : R3} (ht : 1 ≤ t) : ((f (r.1 + 1)).1, (f (r.1 + 1)).2.1, r.2.2 ++ (f (r.1 + 1)).2.2 ++ (if (f (r.1 + 1)).2.1 = true then [op] else [])) = nxF f op (t + 1) r.2.2 (r.1 + 1) := by
  unfold nxF
  by_cases h : (f (r.1 + 1)).2.1 = true
  · rw [if_pos h, if_pos ⟨h, by omega⟩]
  · rw [if_neg h, if_neg (fun q => h q.1)]
theorem nx_len {f : Nat → R3} {op : Int} {t P : Nat} {L : List Int} : (nxF f op t L P).2.2.length ≤ L.length + (f P).2.2.length + (if 1 < t then 1 else 0) := by
  show (L ++ (f P).2.2 ++ (if (f P).2.1 = true ∧ 1 < t then [op] else [])).length ≤ _
  rw [List.length_append, List.length_append]
  by_cases h : 1 < t
  · rw [if_pos h]; split <;> simp
  · rw [if_neg h, if_neg (fun q => h q.2)]; simp
theorem EM_nx1 {q w y v y' v' : Int → Int} {f : Nat → R3} {op : Int} {t P : Nat} {L : List Int} (h : EM q w (P, true, L) y v) (h2 : EM y v (f P) y' v') (hk : 0 ≤ q 1) (hr : (f P).2.1 = true) (ht : t ≤ 1) : EM q w ((f P).1, true, (nxF f op t L P).2.2) y' v' := by
  have e : (nxF f op t L P).2.2 = L ++ (f P).2.2 := by
    show L ++ (f P).2.2 ++ (if (f P).2.1 = true ∧ 1 < t then [op] else []) = _
    rw [if_neg (fun q => by omega), List.append_nil]
  rw [e]
  exact EM_app h h2 hk hr
theorem EM_nx2 {q w y v y' v' y2 v2 : Int → Int} {f : Nat → R3} {op : Int} {t P : Nat} {L : List Int} (h : EM q w (P, true, L) y v) (h2 : EM y v (f P) y' v') (hk : 0 ≤ q 1) (hr : (f P).2.1 = true) (ht : 1 < t) (hop : op < 0) (hlt : y' 1 < 100) (h3 : KP y' v' op y2 v2) : EM q w ((f P).1, true, (nxF f op t L P).2.2) y2 v2 := by
  have e : (nxF f op t L P).2.2 = L ++ (f P).2.2 ++ [op] := by
    show L ++ (f P).2.2 ++ (if (f P).2.1 = true ∧ 1 < t then [op] else []) = _
    rw [if_pos ⟨hr, ht⟩]
  rw [e]
  exact EM_keep (EM_app h h2 hk hr) hop hlt h3 hk
theorem fac_end {c : Nat → Int} {n : Nat} (h : c n = -1) : ∀ o : Nat, facF c o n = (n, false, [])
  | 0 => by rw [fac_0]; exact atom_1 (by rw [h]; exact zix_end (by decide))
  | o + 1 => by
    show (if c n = 33 then _ else if c n = 40 then _ else atomF c n) = _
    rw [h, if_neg (by decide), if_neg (by decide)]
    exact atom_1 (by rw [h]; exact zix_end (by decide))
theorem every_end {c : Nat → Int} {n o : Nat} (h : c n = -1) : everyF (facF c o) c n = (n, false, []) := by
  unfold everyF
  rw [fac_end h, evL_stop (Or.inl rfl)]
set_option maxHeartbeats 4000000 in
set_option maxRecDepth 100000 in
theorem kc6_readBoth0 (l : Launch) (D : Dx) (A : Nat → Prop) (ad : Nat → Nat) (K : Int → Int) (S Q qa : Nat → Int → Int) (tp : Nat → Nat) (s q w0 w1 w2 w3 bo e uc lr nx : Int → Int) (p : Nat) (hp : p < 6) (pp : Nat) (hq2 : q 2 = s 48) (h3 : q 3 = (pp : Int)) (hTS : TS s) (hpn : (pp : Int) ≤ s 48) (htp : tp p = kC ad 0 0) (hkp : 0 ≤ q 1 ∧ q 1 ≤ (pp : Int)) : CT l D A yX6_readBoth cX6_readBoth 3 (some .boolean) { frames := 6, cells := 0, slots := 0, locals := 137 } [.ref (kP ad p), vI 5] (CW D A ad K (uS S 0 s) (uS Q p q) (q4 qa p w0 w1 w2 w3) tp bo e uc lr nx) (fun u : (Int → Int) × (Int → Int) => some (vI (bi ((everyF (facF (chT s) 0) (chT s) pp).2.1 = true)))) (fun u => EM q w3 (everyF (facF (chT s) 0) (chT s) pp) u.1 u.2) (fun u => CW D A ad K (uS S 0 s) (uS Q p u.1) (q4 qa p w0 w1 w2 u.2) tp bo e uc lr nx) := by
  refine ct_of (lo0 := [(0, .ref (kP ad p)), (1, vI 5)]) (by decide) (Nat.le_of_ble_eq_true rfl) rfl ?_
  intro G hG hR
  have hT1 := hTS.1
  have hCE := chT_CE hTS
  refine v_iconst hG dX6_readBoth_0 ?_
  refine v_istore_n (lo' := [(2, vI 1), (0, .ref (kP ad p)), (1, vI 5)]) hG dX6_readBoth_1 rfl (by decide) rfl ?_
  refine v_lo [1, 2, 0] (lo' := [(0, .ref (kP ad p)), (1, vI 5), (2, vI 1)]) rfl ?_
  have L4 : ∀ mz : Nat, ∀ (t F P : Nat) (L : List Int), (1 ≤ t ∧ t + pp ≤ P + 1 ∧ F + t = 102) → ((everyF (facF (chT s) 0) (chT s) pp) = evL (facF (chT s) 0) (chT s) 38 (-2) F (nxF (facF (chT s) 0) (-2) t L P)) → (L.length + pp ≤ P ∧ (1 < t → L.length + pp + 1 ≤ P) ∧ (P : Int) ≤ s 48) → 102 - t = mz → ∀ x1 : Int, x1 = ((t : Int)) → ∀ x2 : Int → Int, True → ∀ x3 : Int → Int, EM q w3 (P, true, L) x2 x3 → V G 0 0 (CW D A ad K (uS S 0 s) (uS Q p x2) (q4 qa p w0 w1 w2 x3) tp bo e uc lr nx) 2 [(0, .ref (kP ad p)), (1, vI 5), (2, vI x1)] [] := by
    intro dL4
    induction dL4 using Nat.strongRecOn with
    | ind dL4 ihL4 =>
      intro t F P L hq5 hq6 hq7 hq8
      intro x1 hx1
      subst hx1
      intro x2 hx2
      intro x3 hx3
      refine v_iload_n hG dX6_readBoth_2 rfl 2 rfl ?_
      refine v_bipush hG dX6_readBoth_3 (by decide) ?_
      refine v_icmp_gt (tgt := 46) hG dX6_readBoth_5 (by decide) (by omega) (by omega) (fun c9 => ?_) (fun c9 => ?_)
      · skip
        refine v_iconst hG dX6_readBoth_46 ?_
        have hE0 : EM q w3 (P, true, L) x2 x3 := by assumption
        have hpe : chT s P = -1 := (hCE P).1.mpr (by omega)
        have hfe : (facF (chT s) 0) P = (P, false, []) := fac_end hpe 0
        have hst : (everyF (facF (chT s) 0) (chT s) pp) = nxF (facF (chT s) 0) (-2) t L P := ‹(everyF (facF (chT s) 0) (chT s) pp) = evL (facF (chT s) 0) (chT s) 38 (-2) F (nxF (facF (chT s) 0) (-2) t L P)›.trans (evL_stop (Or.inl (by show ((facF (chT s) 0) P).2.1 = false; rw [hfe])))
        have hfb : (nxF (facF (chT s) 0) (-2) t L P).2.1 = false := by show ((facF (chT s) 0) P).2.1 = false; rw [hfe]
        have e10 : @Eq Int (bi ((everyF (facF (chT s) 0) (chT s) pp).2.1 = true)) (0) := by rw [hst, bi_neg (fun h => by rw [hfb] at h; exact Bool.noConfusion h)]
        exact v_zreturn hG hR dX6_readBoth_47 (Or.inl rfl) (x2, x3) (congrArg (fun z => some (vI z)) e10) (by rw [hst]; exact EM_fail hE0.1 (by show _ = ((((facF (chT s) 0) P).1 : Nat) : Int); rw [hfe]; exact hE0.2.1) hE0.2.2.1 hfb) (fun _ hM => hM)
      · skip
        have hE0 : EM q w3 (P, true, L) x2 x3 := by assumption
        have hy1 := EM_n hE0
        have hy2 := (hE0.1 2 (by decide) (by decide)).trans hq2
        have hy3 : _ = (P : Int) := hE0.2.1
        obtain ⟨hg1, hg2, hg3⟩ := facF_rng hCE 0 P (by omega)
        refine v_aload_n hG dX6_readBoth_8 rfl 0 rfl ?_
        refine v_iload_n hG dX6_readBoth_9 rfl 1 rfl ?_
        refine v_callV (k1' := 0) (k2' := 0) hG dX6_readBoth_10 zc_X6_readOne ⟨zl_X6_92, zi_X6_readOne, zs_X6_readOne⟩ (fun l => kc6_readOne0 l D A ad K S Q qa tp s x2 w0 w1 w2 x3 bo e uc lr nx p hp P (by exact hy2) (by exact hy3) (by assumption) (by omega) (by assumption) (by omega)) rfl (cR6 hp) (fun _ h => h) ⟨by decide, by decide⟩ rfl rfl ⟨by decide, by decide⟩ (rest := []) rfl (Nat.le_of_ble_eq_true rfl) (fun u11 => [vI (bi ((facF (chT s) 0 P).2.1 = true))]) (fun _ => rfl) (fun u11 hu11 => ?_)
        have fu11 : EM x2 x3 (facF (chT s) 0 P) u11.1 u11.2 := hu11
        have hE1 := fu11
        refine v_ifb_ne (p := (facF (chT s) 0 P).2.1 = true) (tgt := 18) hG dX6_readBoth_13 (by decide) (fun c12 => ?_) (fun c12 => ?_)
        · skip
          have hfk : ((facF (chT s) 0) P).2.1 = true := by assumption
          obtain ⟨hdd1, hdd2, hdd3⟩ := hE1.2.2.2 hfk
          refine v_iload_n hG dX6_readBoth_18 rfl 2 rfl ?_
          refine v_iconst hG dX6_readBoth_19 ?_
          refine v_icmp_le (tgt := 29) hG dX6_readBoth_20 (by decide) (by omega) (by omega) (fun c13 => ?_) (fun c13 => ?_)
          · skip
            have hE2 : EM q w3 (((facF (chT s) 0) P).1, true, (nxF (facF (chT s) 0) (-2) t L P).2.2) u11.1 u11.2 := by first | exact EM_nx2 hE0 hE1 hkp.1 hfk (by omega) (by decide) (by omega) (by assumption) | exact EM_nx1 hE0 hE1 hkp.1 hfk (by omega)
            have hnl := EM_n hE2
            have hnk : (nxF (facF (chT s) 0) (-2) t L P).2.1 = true := hfk
            have hn1 : (nxF (facF (chT s) 0) (-2) t L P).1 = ((facF (chT s) 0) P).1 := rfl
            have hnl9 : (nxF (facF (chT s) 0) (-2) t L P).2.2.length ≤ L.length + ((facF (chT s) 0) P).2.2.length + (if 1 < t then 1 else 0) := nx_len
            refine v_aload_n hG dX6_readBoth_29 rfl 0 rfl ?_
            refine v_bipush hG dX6_readBoth_30 (by decide) ?_
            refine v_callV (k1' := 0) (k2' := 0) hG dX6_readBoth_32 zc_X6_skip ⟨zl_X6_56, zi_X6_skip, zs_X6_skip⟩ (fun l => kc6_skip l D A ad K S Q qa tp s u11.1 w0 w1 w2 u11.2 bo e uc lr nx p hp (((facF (chT s) 0) P).1) 38 (by exact (hE2.1 2 (by decide) (by decide)).trans hq2) (by exact hE2.2.1) (by assumption) (by omega) (by assumption) (by omega)) rfl (cR6 hp) (fun _ h => h) ⟨by decide, by decide⟩ rfl rfl ⟨by decide, by decide⟩ (rest := []) rfl (Nat.le_of_ble_eq_true rfl) (fun u14 => [vI (bi (chT s (((facF (chT s) 0) P).1) = 38))]) (fun _ => rfl) (fun u14 hu14 => ?_)
            refine v_ifb_ne (p := chT s (((facF (chT s) 0) P).1) = 38) (tgt := 40) hG dX6_readBoth_35 (by decide) (fun c15 => ?_) (fun c15 => ?_)
            · skip
              skip
              refine v_iinc (lo' := [(2, vI ((t : Int) + 1)), (0, .ref (kP ad p)), (1, vI 5)]) hG dX6_readBoth_40 2 rfl (by decide) rfl ?_
              refine v_goto (tgt := 2) hG dX6_readBoth_43 (by decide) ?_
              refine v_lo [1, 2, 0] (lo' := [(0, .ref (kP ad p)), (1, vI 5), (2, vI ((t : Int) + 1))]) rfl ?_
              exact ihL4 _ (by omega) (t + 1) (F - 1) (((facF (chT s) 0) P).1 + 1) ((nxF (facF (chT s) 0) (-2) t L P).2.2) (by omega) (by show (everyF (facF (chT s) 0) (chT s) pp) = evL (facF (chT s) 0) (chT s) 38 (-2) (F - 1) (nxF (facF (chT s) 0) (-2) (t + 1) (nxF (facF (chT s) 0) (-2) t L P).2.2 ((nxF (facF (chT s) 0) (-2) t L P).1 + 1)); rw [← nx_go (r := nxF (facF (chT s) 0) (-2) t L P) (by omega)]; exact ‹(everyF (facF (chT s) 0) (chT s) pp) = evL (facF (chT s) 0) (chT s) 38 (-2) F (nxF (facF (chT s) 0) (-2) t L P)›.trans (evL_go (by omega) hnk (show chT s (nxF (facF (chT s) 0) (-2) t L P).1 = 38 from (show chT s ((facF (chT s) 0) P).1 = 38 by assumption)))) (by have hlt9 := hCE.lt (p := ((facF (chT s) 0) P).1) (fun e => absurd (e.symm.trans (show chT s ((facF (chT s) 0) P).1 = 38 by assumption)) (by decide)); split at hnl9 <;> omega) rfl _ (by omega) _ (by trivial) _ (by rw [show mustF (chT s) 38 (((facF (chT s) 0) P).1, true) = (((facF (chT s) 0) P).1 + 1, true) from if_pos ⟨rfl, by assumption⟩]; exact EM_place hE2)
            · skip
              have hst : (everyF (facF (chT s) 0) (chT s) pp) = nxF (facF (chT s) 0) (-2) t L P := ‹(everyF (facF (chT s) 0) (chT s) pp) = evL (facF (chT s) 0) (chT s) 38 (-2) F (nxF (facF (chT s) 0) (-2) t L P)›.trans (evL_stop (Or.inr (show ¬ chT s (nxF (facF (chT s) 0) (-2) t L P).1 = 38 from (show ¬ chT s ((facF (chT s) 0) P).1 = 38 by assumption))))
              refine v_iconst hG dX6_readBoth_38 ?_
              have e16 : @Eq Int (bi ((everyF (facF (chT s) 0) (chT s) pp).2.1 = true)) (1) := by rw [hst, bi_pos hnk]
              exact v_zreturn hG hR dX6_readBoth_39 (Or.inr rfl) (sU u11.1 3 ((mustF (chT s) 38 ((((facF (chT s) 0) P).1), true)).1 : Nat), u11.2) (congrArg (fun z => some (vI z)) e16) (by rw [hst]; exact (show EM q w3 (nxF (facF (chT s) 0) (-2) t L P) _ _ from (show (nxF (facF (chT s) 0) (-2) t L P) = (((facF (chT s) 0) P).1, true, (nxF (facF (chT s) 0) (-2) t L P).2.2) from Prod.ext rfl (Prod.ext hfk rfl)) ▸ (show EM q w3 (((facF (chT s) 0) P).1, true, (nxF (facF (chT s) 0) (-2) t L P).2.2) _ _ from by rw [show mustF (chT s) 38 (((facF (chT s) 0) P).1, true) = (((facF (chT s) 0) P).1, false) from if_neg (fun h => absurd h.2 (by assumption))]; exact EM_place hE2))) (fun _ hM => hM)
          · skip
            refine v_aload_n hG dX6_readBoth_23 rfl 0 rfl ?_
            refine v_bipush hG dX6_readBoth_24 (by decide) ?_
            refine v_callV (k1' := 0) (k2' := 0) hG dX6_readBoth_26 zc_X6_keep ⟨zl_X6_88, zi_X6_keep, zs_X6_keep⟩ (fun l => kc6_keepG l D A ad K S Q qa tp s u11.1 w0 w1 w2 u11.2 bo e uc lr nx p hp (-2) (by omega)) rfl (cR6 hp) (fun _ h => h) ⟨by decide, by decide⟩ rfl rfl ⟨by decide, by decide⟩ (rest := []) rfl (Nat.le_of_ble_eq_true rfl) (fun u17 => []) (fun _ => rfl) (fun u17 hu17 => ?_)
            have fu17 : KP u11.1 u11.2 (-2) u17.1 u17.2 := hu17
            have hE2 : EM q w3 (((facF (chT s) 0) P).1, true, (nxF (facF (chT s) 0) (-2) t L P).2.2) u17.1 u17.2 := by first | exact EM_nx2 hE0 hE1 hkp.1 hfk (by omega) (by decide) (by omega) (by assumption) | exact EM_nx1 hE0 hE1 hkp.1 hfk (by omega)
            have hnl := EM_n hE2
            have hnk : (nxF (facF (chT s) 0) (-2) t L P).2.1 = true := hfk
            have hn1 : (nxF (facF (chT s) 0) (-2) t L P).1 = ((facF (chT s) 0) P).1 := rfl
            have hnl9 : (nxF (facF (chT s) 0) (-2) t L P).2.2.length ≤ L.length + ((facF (chT s) 0) P).2.2.length + (if 1 < t then 1 else 0) := nx_len
            refine v_aload_n hG dX6_readBoth_29 rfl 0 rfl ?_
            refine v_bipush hG dX6_readBoth_30 (by decide) ?_
            refine v_callV (k1' := 0) (k2' := 0) hG dX6_readBoth_32 zc_X6_skip ⟨zl_X6_56, zi_X6_skip, zs_X6_skip⟩ (fun l => kc6_skip l D A ad K S Q qa tp s u17.1 w0 w1 w2 u17.2 bo e uc lr nx p hp (((facF (chT s) 0) P).1) 38 (by exact (hE2.1 2 (by decide) (by decide)).trans hq2) (by exact hE2.2.1) (by assumption) (by omega) (by assumption) (by omega)) rfl (cR6 hp) (fun _ h => h) ⟨by decide, by decide⟩ rfl rfl ⟨by decide, by decide⟩ (rest := []) rfl (Nat.le_of_ble_eq_true rfl) (fun u18 => [vI (bi (chT s (((facF (chT s) 0) P).1) = 38))]) (fun _ => rfl) (fun u18 hu18 => ?_)
            refine v_ifb_ne (p := chT s (((facF (chT s) 0) P).1) = 38) (tgt := 40) hG dX6_readBoth_35 (by decide) (fun c19 => ?_) (fun c19 => ?_)
            · skip
              skip
              refine v_iinc (lo' := [(2, vI ((t : Int) + 1)), (0, .ref (kP ad p)), (1, vI 5)]) hG dX6_readBoth_40 2 rfl (by decide) rfl ?_
              refine v_goto (tgt := 2) hG dX6_readBoth_43 (by decide) ?_
              refine v_lo [1, 2, 0] (lo' := [(0, .ref (kP ad p)), (1, vI 5), (2, vI ((t : Int) + 1))]) rfl ?_
              exact ihL4 _ (by omega) (t + 1) (F - 1) (((facF (chT s) 0) P).1 + 1) ((nxF (facF (chT s) 0) (-2) t L P).2.2) (by omega) (by show (everyF (facF (chT s) 0) (chT s) pp) = evL (facF (chT s) 0) (chT s) 38 (-2) (F - 1) (nxF (facF (chT s) 0) (-2) (t + 1) (nxF (facF (chT s) 0) (-2) t L P).2.2 ((nxF (facF (chT s) 0) (-2) t L P).1 + 1)); rw [← nx_go (r := nxF (facF (chT s) 0) (-2) t L P) (by omega)]; exact ‹(everyF (facF (chT s) 0) (chT s) pp) = evL (facF (chT s) 0) (chT s) 38 (-2) F (nxF (facF (chT s) 0) (-2) t L P)›.trans (evL_go (by omega) hnk (show chT s (nxF (facF (chT s) 0) (-2) t L P).1 = 38 from (show chT s ((facF (chT s) 0) P).1 = 38 by assumption)))) (by have hlt9 := hCE.lt (p := ((facF (chT s) 0) P).1) (fun e => absurd (e.symm.trans (show chT s ((facF (chT s) 0) P).1 = 38 by assumption)) (by decide)); split at hnl9 <;> omega) rfl _ (by omega) _ (by trivial) _ (by rw [show mustF (chT s) 38 (((facF (chT s) 0) P).1, true) = (((facF (chT s) 0) P).1 + 1, true) from if_pos ⟨rfl, by assumption⟩]; exact EM_place hE2)
            · skip
              have hst : (everyF (facF (chT s) 0) (chT s) pp) = nxF (facF (chT s) 0) (-2) t L P := ‹(everyF (facF (chT s) 0) (chT s) pp) = evL (facF (chT s) 0) (chT s) 38 (-2) F (nxF (facF (chT s) 0) (-2) t L P)›.trans (evL_stop (Or.inr (show ¬ chT s (nxF (facF (chT s) 0) (-2) t L P).1 = 38 from (show ¬ chT s ((facF (chT s) 0) P).1 = 38 by assumption))))
              refine v_iconst hG dX6_readBoth_38 ?_
              have e20 : @Eq Int (bi ((everyF (facF (chT s) 0) (chT s) pp).2.1 = true)) (1) := by rw [hst, bi_pos hnk]
              exact v_zreturn hG hR dX6_readBoth_39 (Or.inr rfl) (sU u17.1 3 ((mustF (chT s) 38 ((((facF (chT s) 0) P).1), true)).1 : Nat), u17.2) (congrArg (fun z => some (vI z)) e20) (by rw [hst]; exact (show EM q w3 (nxF (facF (chT s) 0) (-2) t L P) _ _ from (show (nxF (facF (chT s) 0) (-2) t L P) = (((facF (chT s) 0) P).1, true, (nxF (facF (chT s) 0) (-2) t L P).2.2) from Prod.ext rfl (Prod.ext hfk rfl)) ▸ (show EM q w3 (((facF (chT s) 0) P).1, true, (nxF (facF (chT s) 0) (-2) t L P).2.2) _ _ from by rw [show mustF (chT s) 38 (((facF (chT s) 0) P).1, true) = (((facF (chT s) 0) P).1, false) from if_neg (fun h => absurd h.2 (by assumption))]; exact EM_place hE2))) (fun _ hM => hM)
        · skip
          have hfb : ((facF (chT s) 0) P).2.1 = false := by
            cases q9 : ((facF (chT s) 0) P).2.1
            · rfl
            · exact absurd q9 (by assumption)
          refine v_iconst hG dX6_readBoth_16 ?_
          have e21 : @Eq Int (bi ((everyF (facF (chT s) 0) (chT s) pp).2.1 = true)) (0) := by have hst : (everyF (facF (chT s) 0) (chT s) pp) = nxF (facF (chT s) 0) (-2) t L P := ‹(everyF (facF (chT s) 0) (chT s) pp) = evL (facF (chT s) 0) (chT s) 38 (-2) F (nxF (facF (chT s) 0) (-2) t L P)›.trans (evL_stop (Or.inl hfb)); rw [hst, bi_neg (show ¬ (nxF (facF (chT s) 0) (-2) t L P).2.1 = true from fun h => by rw [show (nxF (facF (chT s) 0) (-2) t L P).2.1 = false from hfb] at h; exact Bool.noConfusion h)]
          exact v_zreturn hG hR dX6_readBoth_17 (Or.inl rfl) (u11.1, u11.2) (congrArg (fun z => some (vI z)) e21) (by rw [show (everyF (facF (chT s) 0) (chT s) pp) = nxF (facF (chT s) 0) (-2) t L P from ‹(everyF (facF (chT s) 0) (chT s) pp) = evL (facF (chT s) 0) (chT s) 38 (-2) F (nxF (facF (chT s) 0) (-2) t L P)›.trans (evL_stop (Or.inl hfb))]; exact EM_failc hE0 hE1 rfl hfb) (fun _ hM => hM)
  exact L4 _ 1 101 pp ([]) (by omega) (by rw [nx_1]; rfl) (by show 0 + pp ≤ pp ∧ (1 < 1 → 0 + pp + 1 ≤ pp) ∧ (pp : Int) ≤ s 48; omega) rfl _ (by rfl) _ (by trivial) _ (by exact EM_0 h3 (by omega))
set_option maxHeartbeats 4000000 in
set_option maxRecDepth 100000 in
theorem kc6_readEither0 (l : Launch) (D : Dx) (A : Nat → Prop) (ad : Nat → Nat) (K : Int → Int) (S Q qa : Nat → Int → Int) (tp : Nat → Nat) (s q w0 w1 w2 w3 bo e uc lr nx : Int → Int) (p : Nat) (hp : p < 6) (pp : Nat) (hq2 : q 2 = s 48) (h3 : q 3 = (pp : Int)) (hTS : TS s) (hpn : (pp : Int) ≤ s 48) (htp : tp p = kC ad 0 0) (hkp : 0 ≤ q 1 ∧ q 1 ≤ (pp : Int)) : CT l D A yX6_readEither cX6_readEither 3 (some .boolean) { frames := 7, cells := 0, slots := 0, locals := 159 } [.ref (kP ad p), vI 5] (CW D A ad K (uS S 0 s) (uS Q p q) (q4 qa p w0 w1 w2 w3) tp bo e uc lr nx) (fun u : (Int → Int) × (Int → Int) => some (vI (bi ((someF (facF (chT s) 0) (chT s) pp).2.1 = true)))) (fun u => EM q w3 (someF (facF (chT s) 0) (chT s) pp) u.1 u.2) (fun u => CW D A ad K (uS S 0 s) (uS Q p u.1) (q4 qa p w0 w1 w2 u.2) tp bo e uc lr nx) := by
  refine ct_of (lo0 := [(0, .ref (kP ad p)), (1, vI 5)]) (by decide) (Nat.le_of_ble_eq_true rfl) rfl ?_
  intro G hG hR
  have hT1 := hTS.1
  have hCE := chT_CE hTS
  refine v_iconst hG dX6_readEither_0 ?_
  refine v_istore_n (lo' := [(2, vI 1), (0, .ref (kP ad p)), (1, vI 5)]) hG dX6_readEither_1 rfl (by decide) rfl ?_
  refine v_lo [1, 2, 0] (lo' := [(0, .ref (kP ad p)), (1, vI 5), (2, vI 1)]) rfl ?_
  have L4 : ∀ mz : Nat, ∀ (t F P : Nat) (L : List Int), (1 ≤ t ∧ t + pp ≤ P + 1 ∧ F + t = 102) → ((someF (facF (chT s) 0) (chT s) pp) = evL (everyF (facF (chT s) 0) (chT s)) (chT s) 124 (-3) F (nxF (everyF (facF (chT s) 0) (chT s)) (-3) t L P)) → (L.length + pp ≤ P ∧ (1 < t → L.length + pp + 1 ≤ P) ∧ (P : Int) ≤ s 48) → 102 - t = mz → ∀ x1 : Int, x1 = ((t : Int)) → ∀ x2 : Int → Int, True → ∀ x3 : Int → Int, EM q w3 (P, true, L) x2 x3 → V G 0 0 (CW D A ad K (uS S 0 s) (uS Q p x2) (q4 qa p w0 w1 w2 x3) tp bo e uc lr nx) 2 [(0, .ref (kP ad p)), (1, vI 5), (2, vI x1)] [] := by
    intro dL4
    induction dL4 using Nat.strongRecOn with
    | ind dL4 ihL4 =>
      intro t F P L hq5 hq6 hq7 hq8
      intro x1 hx1
      subst hx1
      intro x2 hx2
      intro x3 hx3
      refine v_iload_n hG dX6_readEither_2 rfl 2 rfl ?_
      refine v_bipush hG dX6_readEither_3 (by decide) ?_
      refine v_icmp_gt (tgt := 46) hG dX6_readEither_5 (by decide) (by omega) (by omega) (fun c9 => ?_) (fun c9 => ?_)
      · skip
        refine v_iconst hG dX6_readEither_46 ?_
        have hE0 : EM q w3 (P, true, L) x2 x3 := by assumption
        have hpe : chT s P = -1 := (hCE P).1.mpr (by omega)
        have hfe : (everyF (facF (chT s) 0) (chT s)) P = (P, false, []) := every_end hpe
        have hst : (someF (facF (chT s) 0) (chT s) pp) = nxF (everyF (facF (chT s) 0) (chT s)) (-3) t L P := ‹(someF (facF (chT s) 0) (chT s) pp) = evL (everyF (facF (chT s) 0) (chT s)) (chT s) 124 (-3) F (nxF (everyF (facF (chT s) 0) (chT s)) (-3) t L P)›.trans (evL_stop (Or.inl (by show ((everyF (facF (chT s) 0) (chT s)) P).2.1 = false; rw [hfe])))
        have hfb : (nxF (everyF (facF (chT s) 0) (chT s)) (-3) t L P).2.1 = false := by show ((everyF (facF (chT s) 0) (chT s)) P).2.1 = false; rw [hfe]
        have e10 : @Eq Int (bi ((someF (facF (chT s) 0) (chT s) pp).2.1 = true)) (0) := by rw [hst, bi_neg (fun h => by rw [hfb] at h; exact Bool.noConfusion h)]
        exact v_zreturn hG hR dX6_readEither_47 (Or.inl rfl) (x2, x3) (congrArg (fun z => some (vI z)) e10) (by rw [hst]; exact EM_fail hE0.1 (by show _ = ((((everyF (facF (chT s) 0) (chT s)) P).1 : Nat) : Int); rw [hfe]; exact hE0.2.1) hE0.2.2.1 hfb) (fun _ hM => hM)
      · skip
        have hE0 : EM q w3 (P, true, L) x2 x3 := by assumption
        have hy1 := EM_n hE0
        have hy2 := (hE0.1 2 (by decide) (by decide)).trans hq2
        have hy3 : _ = (P : Int) := hE0.2.1
        obtain ⟨hg1, hg2, hg3⟩ := everyF_rng hCE (fun x hx => facF_rng hCE 0 x hx) (p := P) (by omega)
        refine v_aload_n hG dX6_readEither_8 rfl 0 rfl ?_
        refine v_iload_n hG dX6_readEither_9 rfl 1 rfl ?_
        refine v_callV (k1' := 0) (k2' := 0) hG dX6_readEither_10 zc_X6_readBoth ⟨zl_X6_85, zi_X6_readBoth, zs_X6_readBoth⟩ (fun l => kc6_readBoth0 l D A ad K S Q qa tp s x2 w0 w1 w2 x3 bo e uc lr nx p hp P (by exact hy2) (by exact hy3) (by assumption) (by omega) (by assumption) (by omega)) rfl (cR6 hp) (fun _ h => h) ⟨by decide, by decide⟩ rfl rfl ⟨by decide, by decide⟩ (rest := []) rfl (Nat.le_of_ble_eq_true rfl) (fun u11 => [vI (bi ((everyF (facF (chT s) 0) (chT s) P).2.1 = true))]) (fun _ => rfl) (fun u11 hu11 => ?_)
        have fu11 : EM x2 x3 (everyF (facF (chT s) 0) (chT s) P) u11.1 u11.2 := hu11
        have hE1 := fu11
        refine v_ifb_ne (p := (everyF (facF (chT s) 0) (chT s) P).2.1 = true) (tgt := 18) hG dX6_readEither_13 (by decide) (fun c12 => ?_) (fun c12 => ?_)
        · skip
          have hfk : ((everyF (facF (chT s) 0) (chT s)) P).2.1 = true := by assumption
          obtain ⟨hdd1, hdd2, hdd3⟩ := hE1.2.2.2 hfk
          refine v_iload_n hG dX6_readEither_18 rfl 2 rfl ?_
          refine v_iconst hG dX6_readEither_19 ?_
          refine v_icmp_le (tgt := 29) hG dX6_readEither_20 (by decide) (by omega) (by omega) (fun c13 => ?_) (fun c13 => ?_)
          · skip
            have hE2 : EM q w3 (((everyF (facF (chT s) 0) (chT s)) P).1, true, (nxF (everyF (facF (chT s) 0) (chT s)) (-3) t L P).2.2) u11.1 u11.2 := by first | exact EM_nx2 hE0 hE1 hkp.1 hfk (by omega) (by decide) (by omega) (by assumption) | exact EM_nx1 hE0 hE1 hkp.1 hfk (by omega)
            have hnl := EM_n hE2
            have hnk : (nxF (everyF (facF (chT s) 0) (chT s)) (-3) t L P).2.1 = true := hfk
            have hn1 : (nxF (everyF (facF (chT s) 0) (chT s)) (-3) t L P).1 = ((everyF (facF (chT s) 0) (chT s)) P).1 := rfl
            have hnl9 : (nxF (everyF (facF (chT s) 0) (chT s)) (-3) t L P).2.2.length ≤ L.length + ((everyF (facF (chT s) 0) (chT s)) P).2.2.length + (if 1 < t then 1 else 0) := nx_len
            refine v_aload_n hG dX6_readEither_29 rfl 0 rfl ?_
            refine v_bipush hG dX6_readEither_30 (by decide) ?_
            refine v_callV (k1' := 0) (k2' := 0) hG dX6_readEither_32 zc_X6_skip ⟨zl_X6_56, zi_X6_skip, zs_X6_skip⟩ (fun l => kc6_skip l D A ad K S Q qa tp s u11.1 w0 w1 w2 u11.2 bo e uc lr nx p hp (((everyF (facF (chT s) 0) (chT s)) P).1) 124 (by exact (hE2.1 2 (by decide) (by decide)).trans hq2) (by exact hE2.2.1) (by assumption) (by omega) (by assumption) (by omega)) rfl (cR6 hp) (fun _ h => h) ⟨by decide, by decide⟩ rfl rfl ⟨by decide, by decide⟩ (rest := []) rfl (Nat.le_of_ble_eq_true rfl) (fun u14 => [vI (bi (chT s (((everyF (facF (chT s) 0) (chT s)) P).1) = 124))]) (fun _ => rfl) (fun u14 hu14 => ?_)
            refine v_ifb_ne (p := chT s (((everyF (facF (chT s) 0) (chT s)) P).1) = 124) (tgt := 40) hG dX6_readEither_35 (by decide) (fun c15 => ?_) (fun c15 => ?_)
            · skip
              skip
              refine v_iinc (lo' := [(2, vI ((t : Int) + 1)), (0, .ref (kP ad p)), (1, vI 5)]) hG dX6_readEither_40 2 rfl (by decide) rfl ?_
              refine v_goto (tgt := 2) hG dX6_readEither_43 (by decide) ?_
              refine v_lo [1, 2, 0] (lo' := [(0, .ref (kP ad p)), (1, vI 5), (2, vI ((t : Int) + 1))]) rfl ?_
              exact ihL4 _ (by omega) (t + 1) (F - 1) (((everyF (facF (chT s) 0) (chT s)) P).1 + 1) ((nxF (everyF (facF (chT s) 0) (chT s)) (-3) t L P).2.2) (by omega) (by show (someF (facF (chT s) 0) (chT s) pp) = evL (everyF (facF (chT s) 0) (chT s)) (chT s) 124 (-3) (F - 1) (nxF (everyF (facF (chT s) 0) (chT s)) (-3) (t + 1) (nxF (everyF (facF (chT s) 0) (chT s)) (-3) t L P).2.2 ((nxF (everyF (facF (chT s) 0) (chT s)) (-3) t L P).1 + 1)); rw [← nx_go (r := nxF (everyF (facF (chT s) 0) (chT s)) (-3) t L P) (by omega)]; exact ‹(someF (facF (chT s) 0) (chT s) pp) = evL (everyF (facF (chT s) 0) (chT s)) (chT s) 124 (-3) F (nxF (everyF (facF (chT s) 0) (chT s)) (-3) t L P)›.trans (evL_go (by omega) hnk (show chT s (nxF (everyF (facF (chT s) 0) (chT s)) (-3) t L P).1 = 124 from (show chT s ((everyF (facF (chT s) 0) (chT s)) P).1 = 124 by assumption)))) (by have hlt9 := hCE.lt (p := ((everyF (facF (chT s) 0) (chT s)) P).1) (fun e => absurd (e.symm.trans (show chT s ((everyF (facF (chT s) 0) (chT s)) P).1 = 124 by assumption)) (by decide)); split at hnl9 <;> omega) rfl _ (by omega) _ (by trivial) _ (by rw [show mustF (chT s) 124 (((everyF (facF (chT s) 0) (chT s)) P).1, true) = (((everyF (facF (chT s) 0) (chT s)) P).1 + 1, true) from if_pos ⟨rfl, by assumption⟩]; exact EM_place hE2)
            · skip
              have hst : (someF (facF (chT s) 0) (chT s) pp) = nxF (everyF (facF (chT s) 0) (chT s)) (-3) t L P := ‹(someF (facF (chT s) 0) (chT s) pp) = evL (everyF (facF (chT s) 0) (chT s)) (chT s) 124 (-3) F (nxF (everyF (facF (chT s) 0) (chT s)) (-3) t L P)›.trans (evL_stop (Or.inr (show ¬ chT s (nxF (everyF (facF (chT s) 0) (chT s)) (-3) t L P).1 = 124 from (show ¬ chT s ((everyF (facF (chT s) 0) (chT s)) P).1 = 124 by assumption))))
              refine v_iconst hG dX6_readEither_38 ?_
              have e16 : @Eq Int (bi ((someF (facF (chT s) 0) (chT s) pp).2.1 = true)) (1) := by rw [hst, bi_pos hnk]
              exact v_zreturn hG hR dX6_readEither_39 (Or.inr rfl) (sU u11.1 3 ((mustF (chT s) 124 ((((everyF (facF (chT s) 0) (chT s)) P).1), true)).1 : Nat), u11.2) (congrArg (fun z => some (vI z)) e16) (by rw [hst]; exact (show EM q w3 (nxF (everyF (facF (chT s) 0) (chT s)) (-3) t L P) _ _ from (show (nxF (everyF (facF (chT s) 0) (chT s)) (-3) t L P) = (((everyF (facF (chT s) 0) (chT s)) P).1, true, (nxF (everyF (facF (chT s) 0) (chT s)) (-3) t L P).2.2) from Prod.ext rfl (Prod.ext hfk rfl)) ▸ (show EM q w3 (((everyF (facF (chT s) 0) (chT s)) P).1, true, (nxF (everyF (facF (chT s) 0) (chT s)) (-3) t L P).2.2) _ _ from by rw [show mustF (chT s) 124 (((everyF (facF (chT s) 0) (chT s)) P).1, true) = (((everyF (facF (chT s) 0) (chT s)) P).1, false) from if_neg (fun h => absurd h.2 (by assumption))]; exact EM_place hE2))) (fun _ hM => hM)
          · skip
            refine v_aload_n hG dX6_readEither_23 rfl 0 rfl ?_
            refine v_bipush hG dX6_readEither_24 (by decide) ?_
            refine v_callV (k1' := 0) (k2' := 0) hG dX6_readEither_26 zc_X6_keep ⟨zl_X6_88, zi_X6_keep, zs_X6_keep⟩ (fun l => kc6_keepG l D A ad K S Q qa tp s u11.1 w0 w1 w2 u11.2 bo e uc lr nx p hp (-3) (by omega)) rfl (cR6 hp) (fun _ h => h) ⟨by decide, by decide⟩ rfl rfl ⟨by decide, by decide⟩ (rest := []) rfl (Nat.le_of_ble_eq_true rfl) (fun u17 => []) (fun _ => rfl) (fun u17 hu17 => ?_)
            have fu17 : KP u11.1 u11.2 (-3) u17.1 u17.2 := hu17
            have hE2 : EM q w3 (((everyF (facF (chT s) 0) (chT s)) P).1, true, (nxF (everyF (facF (chT s) 0) (chT s)) (-3) t L P).2.2) u17.1 u17.2 := by first | exact EM_nx2 hE0 hE1 hkp.1 hfk (by omega) (by decide) (by omega) (by assumption) | exact EM_nx1 hE0 hE1 hkp.1 hfk (by omega)
            have hnl := EM_n hE2
            have hnk : (nxF (everyF (facF (chT s) 0) (chT s)) (-3) t L P).2.1 = true := hfk
            have hn1 : (nxF (everyF (facF (chT s) 0) (chT s)) (-3) t L P).1 = ((everyF (facF (chT s) 0) (chT s)) P).1 := rfl
            have hnl9 : (nxF (everyF (facF (chT s) 0) (chT s)) (-3) t L P).2.2.length ≤ L.length + ((everyF (facF (chT s) 0) (chT s)) P).2.2.length + (if 1 < t then 1 else 0) := nx_len
            refine v_aload_n hG dX6_readEither_29 rfl 0 rfl ?_
            refine v_bipush hG dX6_readEither_30 (by decide) ?_
            refine v_callV (k1' := 0) (k2' := 0) hG dX6_readEither_32 zc_X6_skip ⟨zl_X6_56, zi_X6_skip, zs_X6_skip⟩ (fun l => kc6_skip l D A ad K S Q qa tp s u17.1 w0 w1 w2 u17.2 bo e uc lr nx p hp (((everyF (facF (chT s) 0) (chT s)) P).1) 124 (by exact (hE2.1 2 (by decide) (by decide)).trans hq2) (by exact hE2.2.1) (by assumption) (by omega) (by assumption) (by omega)) rfl (cR6 hp) (fun _ h => h) ⟨by decide, by decide⟩ rfl rfl ⟨by decide, by decide⟩ (rest := []) rfl (Nat.le_of_ble_eq_true rfl) (fun u18 => [vI (bi (chT s (((everyF (facF (chT s) 0) (chT s)) P).1) = 124))]) (fun _ => rfl) (fun u18 hu18 => ?_)
            refine v_ifb_ne (p := chT s (((everyF (facF (chT s) 0) (chT s)) P).1) = 124) (tgt := 40) hG dX6_readEither_35 (by decide) (fun c19 => ?_) (fun c19 => ?_)
            · skip
              skip
              refine v_iinc (lo' := [(2, vI ((t : Int) + 1)), (0, .ref (kP ad p)), (1, vI 5)]) hG dX6_readEither_40 2 rfl (by decide) rfl ?_
              refine v_goto (tgt := 2) hG dX6_readEither_43 (by decide) ?_
              refine v_lo [1, 2, 0] (lo' := [(0, .ref (kP ad p)), (1, vI 5), (2, vI ((t : Int) + 1))]) rfl ?_
              exact ihL4 _ (by omega) (t + 1) (F - 1) (((everyF (facF (chT s) 0) (chT s)) P).1 + 1) ((nxF (everyF (facF (chT s) 0) (chT s)) (-3) t L P).2.2) (by omega) (by show (someF (facF (chT s) 0) (chT s) pp) = evL (everyF (facF (chT s) 0) (chT s)) (chT s) 124 (-3) (F - 1) (nxF (everyF (facF (chT s) 0) (chT s)) (-3) (t + 1) (nxF (everyF (facF (chT s) 0) (chT s)) (-3) t L P).2.2 ((nxF (everyF (facF (chT s) 0) (chT s)) (-3) t L P).1 + 1)); rw [← nx_go (r := nxF (everyF (facF (chT s) 0) (chT s)) (-3) t L P) (by omega)]; exact ‹(someF (facF (chT s) 0) (chT s) pp) = evL (everyF (facF (chT s) 0) (chT s)) (chT s) 124 (-3) F (nxF (everyF (facF (chT s) 0) (chT s)) (-3) t L P)›.trans (evL_go (by omega) hnk (show chT s (nxF (everyF (facF (chT s) 0) (chT s)) (-3) t L P).1 = 124 from (show chT s ((everyF (facF (chT s) 0) (chT s)) P).1 = 124 by assumption)))) (by have hlt9 := hCE.lt (p := ((everyF (facF (chT s) 0) (chT s)) P).1) (fun e => absurd (e.symm.trans (show chT s ((everyF (facF (chT s) 0) (chT s)) P).1 = 124 by assumption)) (by decide)); split at hnl9 <;> omega) rfl _ (by omega) _ (by trivial) _ (by rw [show mustF (chT s) 124 (((everyF (facF (chT s) 0) (chT s)) P).1, true) = (((everyF (facF (chT s) 0) (chT s)) P).1 + 1, true) from if_pos ⟨rfl, by assumption⟩]; exact EM_place hE2)
            · skip
              have hst : (someF (facF (chT s) 0) (chT s) pp) = nxF (everyF (facF (chT s) 0) (chT s)) (-3) t L P := ‹(someF (facF (chT s) 0) (chT s) pp) = evL (everyF (facF (chT s) 0) (chT s)) (chT s) 124 (-3) F (nxF (everyF (facF (chT s) 0) (chT s)) (-3) t L P)›.trans (evL_stop (Or.inr (show ¬ chT s (nxF (everyF (facF (chT s) 0) (chT s)) (-3) t L P).1 = 124 from (show ¬ chT s ((everyF (facF (chT s) 0) (chT s)) P).1 = 124 by assumption))))
              refine v_iconst hG dX6_readEither_38 ?_
              have e20 : @Eq Int (bi ((someF (facF (chT s) 0) (chT s) pp).2.1 = true)) (1) := by rw [hst, bi_pos hnk]
              exact v_zreturn hG hR dX6_readEither_39 (Or.inr rfl) (sU u17.1 3 ((mustF (chT s) 124 ((((everyF (facF (chT s) 0) (chT s)) P).1), true)).1 : Nat), u17.2) (congrArg (fun z => some (vI z)) e20) (by rw [hst]; exact (show EM q w3 (nxF (everyF (facF (chT s) 0) (chT s)) (-3) t L P) _ _ from (show (nxF (everyF (facF (chT s) 0) (chT s)) (-3) t L P) = (((everyF (facF (chT s) 0) (chT s)) P).1, true, (nxF (everyF (facF (chT s) 0) (chT s)) (-3) t L P).2.2) from Prod.ext rfl (Prod.ext hfk rfl)) ▸ (show EM q w3 (((everyF (facF (chT s) 0) (chT s)) P).1, true, (nxF (everyF (facF (chT s) 0) (chT s)) (-3) t L P).2.2) _ _ from by rw [show mustF (chT s) 124 (((everyF (facF (chT s) 0) (chT s)) P).1, true) = (((everyF (facF (chT s) 0) (chT s)) P).1, false) from if_neg (fun h => absurd h.2 (by assumption))]; exact EM_place hE2))) (fun _ hM => hM)
        · skip
          have hfb : ((everyF (facF (chT s) 0) (chT s)) P).2.1 = false := by
            cases q9 : ((everyF (facF (chT s) 0) (chT s)) P).2.1
            · rfl
            · exact absurd q9 (by assumption)
          refine v_iconst hG dX6_readEither_16 ?_
          have e21 : @Eq Int (bi ((someF (facF (chT s) 0) (chT s) pp).2.1 = true)) (0) := by have hst : (someF (facF (chT s) 0) (chT s) pp) = nxF (everyF (facF (chT s) 0) (chT s)) (-3) t L P := ‹(someF (facF (chT s) 0) (chT s) pp) = evL (everyF (facF (chT s) 0) (chT s)) (chT s) 124 (-3) F (nxF (everyF (facF (chT s) 0) (chT s)) (-3) t L P)›.trans (evL_stop (Or.inl hfb)); rw [hst, bi_neg (show ¬ (nxF (everyF (facF (chT s) 0) (chT s)) (-3) t L P).2.1 = true from fun h => by rw [show (nxF (everyF (facF (chT s) 0) (chT s)) (-3) t L P).2.1 = false from hfb] at h; exact Bool.noConfusion h)]
          exact v_zreturn hG hR dX6_readEither_17 (Or.inl rfl) (u11.1, u11.2) (congrArg (fun z => some (vI z)) e21) (by rw [show (someF (facF (chT s) 0) (chT s) pp) = nxF (everyF (facF (chT s) 0) (chT s)) (-3) t L P from ‹(someF (facF (chT s) 0) (chT s) pp) = evL (everyF (facF (chT s) 0) (chT s)) (chT s) 124 (-3) F (nxF (everyF (facF (chT s) 0) (chT s)) (-3) t L P)›.trans (evL_stop (Or.inl hfb))]; exact EM_failc hE0 hE1 rfl hfb) (fun _ hM => hM)
  exact L4 _ 1 101 pp ([]) (by omega) (by rw [nx_1]; rfl) (by show 0 + pp ≤ pp ∧ (1 < 1 → 0 + pp + 1 ≤ pp) ∧ (pp : Int) ≤ s 48; omega) rfl _ (by rfl) _ (by trivial) _ (by exact EM_0 h3 (by omega))
