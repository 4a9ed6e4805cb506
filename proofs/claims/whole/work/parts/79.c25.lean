/-! THE CLASS: reading a tape, the levels above -/
theorem fac_als {c : Nat → Int} {o p : Nat} (h : ¬ c p = 33) (h2 : ¬ c p = 40) : facF c (o + 1) p = atomF c p := by
  show (if c p = 33 then _ else if c p = 40 then _ else atomF c p) = _
  rw [if_neg h, if_neg h2]
theorem fac_not {c : Nat → Int} {o p : Nat} (h : c p = 33) : facF c (o + 1) p = ((facF c o (p + 1)).1, (facF c o (p + 1)).2.1, (facF c o (p + 1)).2.2 ++ (if (facF c o (p + 1)).2.1 = true then [-1] else [])) := if_pos h
theorem fac_par {c : Nat → Int} {o p : Nat} (h : c p = 40) : facF c (o + 1) p = ((mustF c 41 ((someF (facF c o) c (p + 1)).1, (someF (facF c o) c (p + 1)).2.1)).1, (mustF c 41 ((someF (facF c o) c (p + 1)).1, (someF (facF c o) c (p + 1)).2.1)).2, (someF (facF c o) c (p + 1)).2.2) := by
  have h33 : ¬ c p = 33 := by rw [h]; decide
  show (if c p = 33 then _ else if c p = 40 then _ else atomF c p) = _
  rw [if_neg h33, if_pos h]
theorem fac_pA {c : Nat → Int} {o p : Nat} (h : c p = 40) (h2 : (someF (facF c o) c (p + 1)).2.1 = false) : facF c (o + 1) p = ((someF (facF c o) c (p + 1)).1, false, (someF (facF c o) c (p + 1)).2.2) := by
  have e : mustF c 41 ((someF (facF c o) c (p + 1)).1, (someF (facF c o) c (p + 1)).2.1) = ((someF (facF c o) c (p + 1)).1, false) := if_neg (fun q => by
    have q1 : (someF (facF c o) c (p + 1)).2.1 = true := q.1
    rw [h2] at q1; exact Bool.noConfusion q1)
  rw [fac_par h, e]
theorem fac_pB {c : Nat → Int} {o p : Nat} (h : c p = 40) (h2 : ¬ c (someF (facF c o) c (p + 1)).1 = 41) : facF c (o + 1) p = ((someF (facF c o) c (p + 1)).1, false, (someF (facF c o) c (p + 1)).2.2) := by
  have e : mustF c 41 ((someF (facF c o) c (p + 1)).1, (someF (facF c o) c (p + 1)).2.1) = ((someF (facF c o) c (p + 1)).1, false) := if_neg (fun q => h2 q.2)
  rw [fac_par h, e]
theorem fac_pC {c : Nat → Int} {o p : Nat} (h : c p = 40) (h2 : (someF (facF c o) c (p + 1)).2.1 = true) (h3 : c (someF (facF c o) c (p + 1)).1 = 41) : facF c (o + 1) p = ((someF (facF c o) c (p + 1)).1 + 1, true, (someF (facF c o) c (p + 1)).2.2) := by
  have e : mustF c 41 ((someF (facF c o) c (p + 1)).1, (someF (facF c o) c (p + 1)).2.1) = ((someF (facF c o) c (p + 1)).1 + 1, true) := if_pos ⟨h2, h3⟩
  rw [fac_par h, e]
theorem mst_n {c : Nat → Int} {x : Int} {p : Nat} (h : ¬ c p = x) : (((mustF c x (p, true)).1 : Nat) : Int) = (p : Int) := by
  rw [show mustF c x (p, true) = (p, false) from if_neg (fun q => h q.2)]
theorem mst_y {c : Nat → Int} {x : Int} {p : Nat} (h : c p = x) : (((mustF c x (p, true)).1 : Nat) : Int) = ((p + 1 : Nat) : Int) := by
  rw [show mustF c x (p, true) = (p + 1, true) from if_pos ⟨rfl, h⟩]
theorem EM_in {q w y v : Int → Int} {p : Nat} {r : R3} (h3 : q 3 = (p : Int)) (hk : 0 ≤ q 1 ∧ q 1 ≤ 100) (h : EM (sU q 3 ((p + 1 : Nat) : Int)) w r y v) : EM q w r y v := by
  obtain ⟨a1, a2, a3, a4⟩ := h
  refine ⟨fun k g1 g2 => (a1 k g1 g2).trans (sU_ne g2), a2, a3, fun hr => ?_⟩
  have h4 := a4 hr
  rw [sU_ne (show (1 : Int) ≠ 3 by decide)] at h4
  exact h4
theorem EM_not {q w y v y' v' : Int → Int} {r : R3} (h : EM q w r y v) (hK : KP y v (-1) y' v') (hk : 0 ≤ q 1) (hlt : r.2.1 = true → y 1 < 100) : EM q w (r.1, r.2.1, r.2.2 ++ (if r.2.1 = true then [-1] else [])) y' v' := by
  by_cases hr : r.2.1 = true
  · rw [if_pos hr, hr]
    have h2 : EM q w (r.1, true, r.2.2) y v := by
      have e : r = (r.1, true, r.2.2) := Prod.ext rfl (Prod.ext hr rfl)
      rw [e] at h; exact h
    exact EM_keep h2 (by decide) (hlt hr) hK hk
  · exact EM_fail (fun k g1 g2 => (hK.1 k g1).trans (h.1 k g1 g2)) ((hK.1 3 (by decide)).trans h.2.1) hK.2.1 (by cases q : r.2.1; rfl; exact absurd q hr)
theorem EM_t {q w y v : Int → Int} {r : R3} (h : EM q w r y v) (hr : r.2.1 = true) : EM q w (r.1, true, r.2.2) y v := by
  have e : r = (r.1, true, r.2.2) := Prod.ext rfl (Prod.ext hr rfl)
  rw [e] at h; exact h
theorem EM_failp {q w y v : Int → Int} {r R : R3} {x : Int} (h : EM q w r y v) (hx : x = (R.1 : Int)) (hR : R.2.1 = false) : EM q w R (sU y 3 x) v := EM_fail (fun k g1 g2 => (sU_ne g2).trans (h.1 k g1 g2)) (by rw [sU_eq]; exact hx) (by rw [sU_ne (show (1 : Int) ≠ 3 by decide)]; exact h.2.2.1) hR
theorem EM_lt {q w y v : Int → Int} {r : R3} {n p : Nat} (h : EM q w r y v) (hr : r.2.1 = true) (hb : RB n (p + 1) r) (hk : q 1 ≤ (p : Int)) (hn : n ≤ 100) : y 1 < 100 := by
  have h1 := (h.2.2.2 hr).1
  obtain ⟨b1, b2, b3⟩ := hb
  omega
set_option maxHeartbeats 4000000 in
set_option maxRecDepth 100000 in
theorem kc6_readOne1 (l : Launch) (D : Dx) (A : Nat → Prop) (ad : Nat → Nat) (K : Int → Int) (S Q qa : Nat → Int → Int) (tp : Nat → Nat) (s q w0 w1 w2 w3 bo e uc lr nx : Int → Int) (p : Nat) (hp : p < 6) (pp : Nat) (hq2 : q 2 = s 48) (h3 : q 3 = (pp : Int)) (hTS : TS s) (hpn : (pp : Int) ≤ s 48) (htp : tp p = kC ad 0 0) (hkp : 0 ≤ q 1 ∧ q 1 ≤ (pp : Int)) : CT l D A yX6_readOne cX6_readOne 5 (some .boolean) { frames := 8, cells := 0, slots := 0, locals := 181 } [.ref (kP ad p), vI 4] (CW D A ad K (uS S 0 s) (uS Q p q) (q4 qa p w0 w1 w2 w3) tp bo e uc lr nx) (fun u : (Int → Int) × (Int → Int) => some (vI (bi ((facF (chT s) 1 pp).2.1 = true)))) (fun u => EM q w3 (facF (chT s) 1 pp) u.1 u.2) (fun u => CW D A ad K (uS S 0 s) (uS Q p u.1) (q4 qa p w0 w1 w2 u.2) tp bo e uc lr nx) := by
  refine ct_of (lo0 := [(0, .ref (kP ad p)), (1, vI 4)]) (by decide) (Nat.le_of_ble_eq_true rfl) rfl ?_
  intro G hG hR
  have hT1 := hTS.1
  have hCE := chT_CE hTS
  have hz1 := zix_b (i := 1) (by decide) (chT s pp)
  have hz2 := zix_b (i := 2) (by decide) (chT s (pp + 1))
  have hfr := figF_rng (ok := true) hCE (p := pp + 2)
  refine v_iload_n hG dX6_readOne_0 rfl 1 rfl ?_
  refine v_iconst hG dX6_readOne_1 ?_
  refine v_icmp_ge (tgt := 63) hG dX6_readOne_2 (by decide) (by omega) (by omega) (fun c1 => ?_) (fun c1 => ?_)
  · skip
    exfalso; omega
  · skip
    refine v_aload_n hG dX6_readOne_5 rfl 0 rfl ?_
    refine v_bipush hG dX6_readOne_6 (by decide) ?_
    refine v_callV (k1' := 0) (k2' := 0) hG dX6_readOne_8 zc_X6_skip ⟨zl_X6_56, zi_X6_skip, zs_X6_skip⟩ (fun l => kc6_skip l D A ad K S Q qa tp s q w0 w1 w2 w3 bo e uc lr nx p hp pp 33 (by first | assumption | (rw [sU_ne (by omega)]; assumption) | (simp only [sU_at]; (repeat' split) <;> first | assumption | (exfalso; omega))) (by first | exact sU_eq | assumption) (by assumption) (by omega) (by assumption) (by omega)) rfl (cR6 hp) (fun _ h => h) ⟨by decide, by decide⟩ rfl rfl ⟨by decide, by decide⟩ (rest := []) rfl (Nat.le_of_ble_eq_true rfl) (fun u2 => [vI (bi (chT s pp = 33))]) (fun _ => rfl) (fun u2 hu2 => ?_)
    refine v_ifb_eq (p := chT s pp = 33) (tgt := 29) hG dX6_readOne_11 (by decide) (fun c3 => ?_) (fun c3 => ?_)
    · skip
      rw [mst_n (show ¬ chT s pp = 33 by assumption), ← sU_at3 h3]
      refine v_aload_n hG dX6_readOne_29 rfl 0 rfl ?_
      refine v_bipush hG dX6_readOne_30 (by decide) ?_
      refine v_callV (k1' := 0) (k2' := 0) hG dX6_readOne_32 zc_X6_skip ⟨zl_X6_56, zi_X6_skip, zs_X6_skip⟩ (fun l => kc6_skip l D A ad K S Q qa tp s q w0 w1 w2 w3 bo e uc lr nx p hp pp 40 (by first | assumption | (rw [sU_ne (by omega)]; assumption) | (simp only [sU_at]; (repeat' split) <;> first | assumption | (exfalso; omega))) (by first | exact sU_eq | assumption) (by assumption) (by omega) (by assumption) (by omega)) rfl (cR6 hp) (fun _ h => h) ⟨by decide, by decide⟩ rfl rfl ⟨by decide, by decide⟩ (rest := []) rfl (Nat.le_of_ble_eq_true rfl) (fun u4 => [vI (bi (chT s pp = 40))]) (fun _ => rfl) (fun u4 hu4 => ?_)
      refine v_ifb_eq (p := chT s pp = 40) (tgt := 63) hG dX6_readOne_35 (by decide) (fun c5 => ?_) (fun c5 => ?_)
      · skip
        rw [mst_n (show ¬ chT s pp = 40 by assumption), ← sU_at3 h3]
        refine v_aload_n hG dX6_readOne_63 rfl 0 rfl ?_
        refine v_ldcS (i := 1) (tx := "mkdxtv") hG dX6_readOne_64 (by decide) ?_
        refine v_callV (k1' := 0) (k2' := 0) hG dX6_readOne_66 zc_X6_readOneOf ⟨zl_X6_97, zi_X6_readOneOf, zs_X6_readOneOf⟩ (fun l => kc6_readOneOf l D A ad K S Q qa tp s q w0 w1 w2 w3 bo e uc lr nx p hp pp 1 (by first | assumption | (rw [sU_ne (by omega)]; assumption) | (simp only [sU_at]; (repeat' split) <;> first | assumption | (exfalso; omega))) (by first | exact sU_eq | assumption) (by assumption) (by omega) (by assumption) (by first | assumption | decide)) rfl (cR6 hp) (fun _ h => h) ⟨by decide, by decide⟩ rfl rfl ⟨by decide, by decide⟩ (rest := []) rfl (Nat.le_of_ble_eq_true rfl) (fun u6 => [vI (zix 1 (chT s pp))]) (fun _ => rfl) (fun u6 hu6 => ?_)
        have fu6 : -1 ≤ zix 1 (chT s pp) ∧ zix 1 (chT s pp) ≤ 16 := hu6
        refine v_istore_n (lo' := [(2, vI (zix 1 (chT s pp))), (0, .ref (kP ad p)), (1, vI 4)]) hG dX6_readOne_69 rfl (by decide) rfl ?_
        refine v_iload_n hG dX6_readOne_70 rfl 0 rfl ?_
        refine v_if_ge (tgt := 78) hG dX6_readOne_71 (by decide) (by omega) (fun c7 => ?_) (fun c7 => ?_)
        · skip
          rw [show ((if zix 1 (chT s pp) = -1 then pp else pp + 1 : Nat) : Int) = ((pp + 1 : Nat) : Int) from by rw [if_neg (by omega)]]
          have hlt1 : pp < (s 48).toNat := hCE.lt (fun e => by
              have h9 : zix 1 (chT s pp) = -1 := (by rw [e]; exact zix_end (by decide))
              omega)
          refine v_aload_n hG dX6_readOne_78 rfl 1 rfl ?_
          refine v_ldcS (i := 2) (tx := "<=>") hG dX6_readOne_79 (by decide) ?_
          refine v_callV (k1' := 0) (k2' := 0) hG dX6_readOne_81 zc_X6_readOneOf ⟨zl_X6_97, zi_X6_readOneOf, zs_X6_readOneOf⟩ (fun l => kc6_readOneOf l D A ad K S Q qa tp s (sU q 3 ((pp + 1 : Nat) : Int)) w0 w1 w2 w3 bo e uc lr nx p hp (pp + 1) 2 (by first | assumption | (rw [sU_ne (by omega)]; assumption) | (simp only [sU_at]; (repeat' split) <;> first | assumption | (exfalso; omega))) (by exact sU_eq) (by assumption) (by omega) (by assumption) (by first | assumption | decide)) rfl (cR6 hp) (fun _ h => h) ⟨by decide, by decide⟩ rfl rfl ⟨by decide, by decide⟩ (rest := []) rfl (Nat.le_of_ble_eq_true rfl) (fun u8 => [vI (zix 2 (chT s (pp + 1)))]) (fun _ => rfl) (fun u8 hu8 => ?_)
          have fu8 : -1 ≤ zix 2 (chT s (pp + 1)) ∧ zix 2 (chT s (pp + 1)) ≤ 16 := hu8
          rw [sU_sU]
          refine v_istore_n (lo' := [(3, vI (zix 2 (chT s (pp + 1)))), (2, vI (zix 1 (chT s pp))), (0, .ref (kP ad p)), (1, vI 4)]) hG dX6_readOne_84 rfl (by decide) rfl ?_
          refine v_iload_n hG dX6_readOne_85 rfl 0 rfl ?_
          refine v_if_ge (tgt := 93) hG dX6_readOne_86 (by decide) (by omega) (fun c9 => ?_) (fun c9 => ?_)
          · skip
            rw [show ((if zix 2 (chT s (pp + 1)) = -1 then pp + 1 else pp + 1 + 1 : Nat) : Int) = ((pp + 2 : Nat) : Int) from by rw [if_neg (by omega)]]
            have hlt2 : pp + 1 < (s 48).toNat := hCE.lt (fun e => by
                have h9 : zix 2 (chT s (pp + 1)) = -1 := (by rw [e]; exact zix_end (by decide))
                omega)
            have hf2 := hfr (by omega)
            refine v_aload_n hG dX6_readOne_93 rfl 2 rfl ?_
            refine v_callV (k1' := 0) (k2' := 0) hG dX6_readOne_94 zc_X6_readNumber ⟨zl_X6_64, zi_X6_readNumber, zs_X6_readNumber⟩ (fun l => kc6_readNumber l D A ad K S Q qa tp s (sU q 3 ((pp + 2 : Nat) : Int)) w0 w1 w2 w3 bo e uc lr nx p hp (pp + 2) (by first | assumption | (rw [sU_ne (by omega)]; assumption) | (simp only [sU_at]; (repeat' split) <;> first | assumption | (exfalso; omega))) (by exact sU_eq) (by assumption) (by omega) (by assumption)) rfl (cR6 hp) (fun _ h => h) ⟨by decide, by decide⟩ rfl rfl ⟨by decide, by decide⟩ (rest := []) rfl (Nat.le_of_ble_eq_true rfl) (fun u10 => [vI (if (figF (chT s) ((pp + 2), true)).1.2 = true then (figF (chT s) ((pp + 2), true)).2 else -1)]) (fun _ => rfl) (fun u10 hu10 => ?_)
            rw [sU_sU]
            refine v_istore (lo' := [(4, vI (if (figF (chT s) ((pp + 2), true)).1.2 = true then (figF (chT s) ((pp + 2), true)).2 else -1)), (3, vI (zix 2 (chT s (pp + 1)))), (2, vI (zix 1 (chT s pp))), (0, .ref (kP ad p)), (1, vI 4)]) hG dX6_readOne_97 (by decide) rfl ?_
            refine v_iload hG dX6_readOne_99 0 rfl ?_
            refine v_if_ge (tgt := 106) hG dX6_readOne_101 (by decide) (by omega) (fun c11 => ?_) (fun c11 => ?_)
            · skip
              have hft : (figF (chT s) (pp + 2, true)).1.2 = true := by
                apply Decidable.byContradiction
                intro q9
                have e9 : (if (figF (chT s) (pp + 2, true)).1.2 = true then (figF (chT s) (pp + 2, true)).2 else (-1 : Int)) = -1 := if_neg q9
                omega
              refine v_aload_n hG dX6_readOne_106 rfl 3 rfl ?_
              refine v_iload_n hG dX6_readOne_107 rfl 2 rfl ?_
              refine v_iconst hG dX6_readOne_108 ?_
              refine v_imul hG dX6_readOne_109 ?_
              refine v_iload_n hG dX6_readOne_110 rfl 1 rfl ?_
              refine v_iadd hG dX6_readOne_111 ?_
              refine v_bipush hG dX6_readOne_112 (by decide) ?_
              refine v_imul hG dX6_readOne_114 ?_
              refine v_iload hG dX6_readOne_115 0 rfl ?_
              refine v_iadd hG dX6_readOne_117 ?_
              refine v_callV (k1' := 0) (k2' := 0) hG dX6_readOne_118 zc_X6_keep ⟨zl_X6_88, zi_X6_keep, zs_X6_keep⟩ (fun l => kc6_keepG l D A ad K S Q qa tp s (sU q 3 (((figF (chT s) (pp + 2, true)).1.1 : Nat) : Int)) w0 w1 w2 w3 bo e uc lr nx p hp (((((zix 1 (chT s pp)) * 3) + (zix 2 (chT s (pp + 1)))) * 100) + (if (figF (chT s) ((pp + 2), true)).1.2 = true then (figF (chT s) ((pp + 2), true)).2 else -1)) (by rw [sU_ne (by omega)]; omega)) rfl (cR6 hp) (fun _ h => h) ⟨by decide, by decide⟩ rfl rfl ⟨by decide, by decide⟩ (rest := []) rfl (Nat.le_of_ble_eq_true rfl) (fun u12 => []) (fun _ => rfl) (fun u12 hu12 => ?_)
              have fu12 : KP (sU q 3 (((figF (chT s) (pp + 2, true)).1.1 : Nat) : Int)) w3 (((((zix 1 (chT s pp)) * 3) + (zix 2 (chT s (pp + 1)))) * 100) + (if (figF (chT s) ((pp + 2), true)).1.2 = true then (figF (chT s) ((pp + 2), true)).2 else -1)) u12.1 u12.2 := hu12
              have hKP := fu12
              refine v_iconst hG dX6_readOne_121 ?_
              have e13 : @Eq Int (bi ((facF (chT s) 1 pp).2.1 = true)) (1) := by have hx : (facF (chT s) 1 pp).2.1 = true := (by rw [fac_als (by assumption) (by assumption), atom_3 (by omega) (by omega)]; exact hft); rw [bi_pos hx]
              exact v_zreturn hG hR dX6_readOne_122 (Or.inr rfl) (u12.1, u12.2) (congrArg (fun z => some (vI z)) e13) (by rw [fac_als (by assumption) (by assumption)]; exact EM_atom (by omega) (by omega) hft (by rw [if_pos hft]) (fun k h => sU_ne h) sU_eq (by omega) hKP) (fun _ hM => hM)
            · skip
              have hfn : (figF (chT s) (pp + 2, true)).1.2 = false := by
                cases q9 : (figF (chT s) (pp + 2, true)).1.2
                · rfl
                · have e9 : (if (figF (chT s) (pp + 2, true)).1.2 = true then (figF (chT s) (pp + 2, true)).2 else (-1 : Int)) = (figF (chT s) (pp + 2, true)).2 := if_pos q9
                  omega
              refine v_iconst hG dX6_readOne_104 ?_
              have e14 : @Eq Int (bi ((facF (chT s) 1 pp).2.1 = true)) (0) := by first | (have hx : ¬ (facF (chT s) 1 pp).2.1 = true := (by rw [fac_als (by assumption) (by assumption), atom_3 (by omega) (by omega), hfn]; exact Bool.false_ne_true); rw [bi_neg hx]; done) | (have hx : ¬ (facF (chT s) 1 pp).2.1 = true := (by rw [fac_als (by assumption) (by assumption), atom_1 (by omega)]; exact Bool.false_ne_true); rw [bi_neg hx]; done) | (have hx : ¬ (facF (chT s) 1 pp).2.1 = true := (by rw [fac_als (by assumption) (by assumption), atom_2 (by omega) (by omega)]; exact Bool.false_ne_true); rw [bi_neg hx]; done)
              exact v_zreturn hG hR dX6_readOne_105 (Or.inl rfl) (sU q 3 (((figF (chT s) (pp + 2, true)).1.1 : Nat) : Int), w3) (congrArg (fun z => some (vI z)) e14) (by first | (rw [fac_als (by assumption) (by assumption), atom_3 (by omega) (by omega)]; exact EM_fail3 rfl (by omega) hfn) | (rw [fac_als (by assumption) (by assumption), atom_1 (by omega)]; exact EM_fail3 rfl (by omega) rfl) | (rw [fac_als (by assumption) (by assumption), atom_2 (by omega) (by omega)]; exact EM_fail3 rfl (by omega) rfl)) (fun _ hM => hM)
          · skip
            rw [show ((if zix 2 (chT s (pp + 1)) = -1 then pp + 1 else pp + 1 + 1 : Nat) : Int) = ((pp + 1 : Nat) : Int) from by rw [if_pos (by omega)]]
            refine v_iconst hG dX6_readOne_89 ?_
            refine v_goto (tgt := 97) hG dX6_readOne_90 (by decide) ?_
            refine v_istore (lo' := [(4, vI (-1)), (3, vI (zix 2 (chT s (pp + 1)))), (2, vI (zix 1 (chT s pp))), (0, .ref (kP ad p)), (1, vI 4)]) hG dX6_readOne_97 (by decide) rfl ?_
            refine v_iload hG dX6_readOne_99 0 rfl ?_
            refine v_if_ge (tgt := 106) hG dX6_readOne_101 (by decide) (by omega) (fun c15 => ?_) (fun c15 => ?_)
            · skip
              exfalso; omega
            · skip
              refine v_iconst hG dX6_readOne_104 ?_
              have e16 : @Eq Int (bi ((facF (chT s) 1 pp).2.1 = true)) (0) := by first | (have hx : ¬ (facF (chT s) 1 pp).2.1 = true := (by rw [fac_als (by assumption) (by assumption), atom_3 (by omega) (by omega), hfn]; exact Bool.false_ne_true); rw [bi_neg hx]; done) | (have hx : ¬ (facF (chT s) 1 pp).2.1 = true := (by rw [fac_als (by assumption) (by assumption), atom_1 (by omega)]; exact Bool.false_ne_true); rw [bi_neg hx]; done) | (have hx : ¬ (facF (chT s) 1 pp).2.1 = true := (by rw [fac_als (by assumption) (by assumption), atom_2 (by omega) (by omega)]; exact Bool.false_ne_true); rw [bi_neg hx]; done)
              exact v_zreturn hG hR dX6_readOne_105 (Or.inl rfl) (sU q 3 ((pp + 1 : Nat) : Int), w3) (congrArg (fun z => some (vI z)) e16) (by first | (rw [fac_als (by assumption) (by assumption), atom_3 (by omega) (by omega)]; exact EM_fail3 rfl (by omega) hfn) | (rw [fac_als (by assumption) (by assumption), atom_1 (by omega)]; exact EM_fail3 rfl (by omega) rfl) | (rw [fac_als (by assumption) (by assumption), atom_2 (by omega) (by omega)]; exact EM_fail3 rfl (by omega) rfl)) (fun _ hM => hM)
        · skip
          rw [show ((if zix 1 (chT s pp) = -1 then pp else pp + 1 : Nat) : Int) = ((pp : Nat) : Int) from by rw [if_pos (by omega)]]
          refine v_iconst hG dX6_readOne_74 ?_
          refine v_goto (tgt := 84) hG dX6_readOne_75 (by decide) ?_
          refine v_istore_n (lo' := [(3, vI (-1)), (2, vI (zix 1 (chT s pp))), (0, .ref (kP ad p)), (1, vI 4)]) hG dX6_readOne_84 rfl (by decide) rfl ?_
          refine v_iload_n hG dX6_readOne_85 rfl 0 rfl ?_
          refine v_if_ge (tgt := 93) hG dX6_readOne_86 (by decide) (by omega) (fun c17 => ?_) (fun c17 => ?_)
          · skip
            exfalso; omega
          · skip
            refine v_iconst hG dX6_readOne_89 ?_
            refine v_goto (tgt := 97) hG dX6_readOne_90 (by decide) ?_
            refine v_istore (lo' := [(4, vI (-1)), (3, vI (-1)), (2, vI (zix 1 (chT s pp))), (0, .ref (kP ad p)), (1, vI 4)]) hG dX6_readOne_97 (by decide) rfl ?_
            refine v_iload hG dX6_readOne_99 0 rfl ?_
            refine v_if_ge (tgt := 106) hG dX6_readOne_101 (by decide) (by omega) (fun c18 => ?_) (fun c18 => ?_)
            · skip
              exfalso; omega
            · skip
              refine v_iconst hG dX6_readOne_104 ?_
              have e19 : @Eq Int (bi ((facF (chT s) 1 pp).2.1 = true)) (0) := by first | (have hx : ¬ (facF (chT s) 1 pp).2.1 = true := (by rw [fac_als (by assumption) (by assumption), atom_3 (by omega) (by omega), hfn]; exact Bool.false_ne_true); rw [bi_neg hx]; done) | (have hx : ¬ (facF (chT s) 1 pp).2.1 = true := (by rw [fac_als (by assumption) (by assumption), atom_1 (by omega)]; exact Bool.false_ne_true); rw [bi_neg hx]; done) | (have hx : ¬ (facF (chT s) 1 pp).2.1 = true := (by rw [fac_als (by assumption) (by assumption), atom_2 (by omega) (by omega)]; exact Bool.false_ne_true); rw [bi_neg hx]; done)
              exact v_zreturn hG hR dX6_readOne_105 (Or.inl rfl) (sU q 3 ((pp : Nat) : Int), w3) (congrArg (fun z => some (vI z)) e19) (by first | (rw [fac_als (by assumption) (by assumption), atom_3 (by omega) (by omega)]; exact EM_fail3 rfl (by omega) hfn) | (rw [fac_als (by assumption) (by assumption), atom_1 (by omega)]; exact EM_fail3 rfl (by omega) rfl) | (rw [fac_als (by assumption) (by assumption), atom_2 (by omega) (by omega)]; exact EM_fail3 rfl (by omega) rfl)) (fun _ hM => hM)
      · skip
        rw [mst_y (show chT s pp = 40 by assumption)]
        have hlt1 : pp < (s 48).toNat := hCE.lt (fun e => absurd (e.symm.trans (show chT s pp = 40 by assumption)) (by decide))
        refine v_aload_n hG dX6_readOne_38 rfl 0 rfl ?_
        refine v_iload_n hG dX6_readOne_39 rfl 1 rfl ?_
        refine v_iconst hG dX6_readOne_40 ?_
        refine v_iadd hG dX6_readOne_41 ?_
        rw [show (4 : Int) + 1 = 5 from rfl]
        refine v_callV (k1' := 0) (k2' := 0) hG dX6_readOne_42 zc_X6_readEither ⟨zl_X6_70, zi_X6_readEither, zs_X6_readEither⟩ (fun l => kc6_readEither0 l D A ad K S Q qa tp s (sU q 3 ((pp + 1 : Nat) : Int)) w0 w1 w2 w3 bo e uc lr nx p hp (pp + 1) (by first | assumption | (rw [sU_ne (by omega)]; assumption) | (simp only [sU_at]; (repeat' split) <;> first | assumption | (exfalso; omega))) (by exact sU_eq) (by assumption) (by omega) (by assumption) (by first | assumption | (rw [sU_ne (by omega)]; omega) | omega)) rfl (cR6 hp) (fun _ h => h) ⟨by decide, by decide⟩ rfl rfl ⟨by decide, by decide⟩ (rest := []) rfl (Nat.le_of_ble_eq_true rfl) (fun u20 => [vI (bi ((someF (facF (chT s) 0) (chT s) (pp + 1)).2.1 = true))]) (fun _ => rfl) (fun u20 hu20 => ?_)
        have fu20 : EM (sU q 3 ((pp + 1 : Nat) : Int)) w3 (someF (facF (chT s) 0) (chT s) (pp + 1)) u20.1 u20.2 := hu20
        have hE1 := EM_in h3 (by omega) fu20
        refine v_ifb_eq (p := (someF (facF (chT s) 0) (chT s) (pp + 1)).2.1 = true) (tgt := 61) hG dX6_readOne_45 (by decide) (fun c21 => ?_) (fun c21 => ?_)
        · skip
          refine v_iconst hG dX6_readOne_61 ?_
          have e22 : @Eq Int (bi ((facF (chT s) 1 pp).2.1 = true)) (0) := by first | (have hx : (facF (chT s) 1 pp).2.1 = true := (by rw [fac_pC (show chT s pp = 40 by assumption) hxk (by assumption)]); rw [bi_pos hx]; done) | (have hx : ¬ (facF (chT s) 1 pp).2.1 = true := (by rw [fac_pB (show chT s pp = 40 by assumption) (by assumption)]; exact Bool.false_ne_true); rw [bi_neg hx]; done) | (have hx : ¬ (facF (chT s) 1 pp).2.1 = true := (by rw [fac_pA (show chT s pp = 40 by assumption) (Bool.eq_false_iff.mpr (by assumption))]; exact Bool.false_ne_true); rw [bi_neg hx]; done)
          exact v_zreturn hG hR dX6_readOne_62 (Or.inl rfl) (u20.1, u20.2) (congrArg (fun z => some (vI z)) e22) (by first | (rw [fac_pC (show chT s pp = 40 by assumption) hxk (by assumption), mst_y (show chT s (someF (facF (chT s) 0) (chT s) (pp + 1)).1 = 41 by assumption)]; exact EM_place (EM_t hE1 hxk)) | (rw [fac_pB (show chT s pp = 40 by assumption) (by assumption)]; exact EM_failp hE1 (mst_n (show ¬ chT s (someF (facF (chT s) 0) (chT s) (pp + 1)).1 = 41 by assumption)) rfl) | (rw [fac_pA (show chT s pp = 40 by assumption) (Bool.eq_false_iff.mpr (by assumption))]; exact EM_fail hE1.1 hE1.2.1 hE1.2.2.1 rfl)) (fun _ hM => hM)
        · skip
          have hxk : (someF (facF (chT s) 0) (chT s) (pp + 1)).2.1 = true := by assumption
          obtain ⟨hs1, hs2, hs3⟩ := someF_rng hCE (fun x hx => facF_rng hCE 0 x hx) (p := pp + 1) (by omega)
          refine v_aload_n hG dX6_readOne_48 rfl 0 rfl ?_
          refine v_bipush hG dX6_readOne_49 (by decide) ?_
          refine v_callV (k1' := 0) (k2' := 0) hG dX6_readOne_51 zc_X6_skip ⟨zl_X6_56, zi_X6_skip, zs_X6_skip⟩ (fun l => kc6_skip l D A ad K S Q qa tp s u20.1 w0 w1 w2 u20.2 bo e uc lr nx p hp ((someF (facF (chT s) 0) (chT s) (pp + 1)).1) 41 (by exact (hE1.1 2 (by decide) (by decide)).trans hq2) (by exact hE1.2.1) (by assumption) (by omega) (by assumption) (by omega)) rfl (cR6 hp) (fun _ h => h) ⟨by decide, by decide⟩ rfl rfl ⟨by decide, by decide⟩ (rest := []) rfl (Nat.le_of_ble_eq_true rfl) (fun u23 => [vI (bi (chT s ((someF (facF (chT s) 0) (chT s) (pp + 1)).1) = 41))]) (fun _ => rfl) (fun u23 hu23 => ?_)
          refine v_ifb_eq (p := chT s ((someF (facF (chT s) 0) (chT s) (pp + 1)).1) = 41) (tgt := 61) hG dX6_readOne_54 (by decide) (fun c24 => ?_) (fun c24 => ?_)
          · skip
            refine v_iconst hG dX6_readOne_61 ?_
            have e25 : @Eq Int (bi ((facF (chT s) 1 pp).2.1 = true)) (0) := by first | (have hx : (facF (chT s) 1 pp).2.1 = true := (by rw [fac_pC (show chT s pp = 40 by assumption) hxk (by assumption)]); rw [bi_pos hx]; done) | (have hx : ¬ (facF (chT s) 1 pp).2.1 = true := (by rw [fac_pB (show chT s pp = 40 by assumption) (by assumption)]; exact Bool.false_ne_true); rw [bi_neg hx]; done) | (have hx : ¬ (facF (chT s) 1 pp).2.1 = true := (by rw [fac_pA (show chT s pp = 40 by assumption) (Bool.eq_false_iff.mpr (by assumption))]; exact Bool.false_ne_true); rw [bi_neg hx]; done)
            exact v_zreturn hG hR dX6_readOne_62 (Or.inl rfl) (sU u20.1 3 ((mustF (chT s) 41 (((someF (facF (chT s) 0) (chT s) (pp + 1)).1), true)).1 : Nat), u20.2) (congrArg (fun z => some (vI z)) e25) (by first | (rw [fac_pC (show chT s pp = 40 by assumption) hxk (by assumption), mst_y (show chT s (someF (facF (chT s) 0) (chT s) (pp + 1)).1 = 41 by assumption)]; exact EM_place (EM_t hE1 hxk)) | (rw [fac_pB (show chT s pp = 40 by assumption) (by assumption)]; exact EM_failp hE1 (mst_n (show ¬ chT s (someF (facF (chT s) 0) (chT s) (pp + 1)).1 = 41 by assumption)) rfl) | (rw [fac_pA (show chT s pp = 40 by assumption) (Bool.eq_false_iff.mpr (by assumption))]; exact EM_fail hE1.1 hE1.2.1 hE1.2.2.1 rfl)) (fun _ hM => hM)
          · skip
            refine v_iconst hG dX6_readOne_57 ?_
            refine v_goto (tgt := 62) hG dX6_readOne_58 (by decide) ?_
            have e26 : @Eq Int (bi ((facF (chT s) 1 pp).2.1 = true)) (1) := by first | (have hx : (facF (chT s) 1 pp).2.1 = true := (by rw [fac_pC (show chT s pp = 40 by assumption) hxk (by assumption)]); rw [bi_pos hx]; done) | (have hx : ¬ (facF (chT s) 1 pp).2.1 = true := (by rw [fac_pB (show chT s pp = 40 by assumption) (by assumption)]; exact Bool.false_ne_true); rw [bi_neg hx]; done) | (have hx : ¬ (facF (chT s) 1 pp).2.1 = true := (by rw [fac_pA (show chT s pp = 40 by assumption) (Bool.eq_false_iff.mpr (by assumption))]; exact Bool.false_ne_true); rw [bi_neg hx]; done)
            exact v_zreturn hG hR dX6_readOne_62 (Or.inr rfl) (sU u20.1 3 ((mustF (chT s) 41 (((someF (facF (chT s) 0) (chT s) (pp + 1)).1), true)).1 : Nat), u20.2) (congrArg (fun z => some (vI z)) e26) (by first | (rw [fac_pC (show chT s pp = 40 by assumption) hxk (by assumption), mst_y (show chT s (someF (facF (chT s) 0) (chT s) (pp + 1)).1 = 41 by assumption)]; exact EM_place (EM_t hE1 hxk)) | (rw [fac_pB (show chT s pp = 40 by assumption) (by assumption)]; exact EM_failp hE1 (mst_n (show ¬ chT s (someF (facF (chT s) 0) (chT s) (pp + 1)).1 = 41 by assumption)) rfl) | (rw [fac_pA (show chT s pp = 40 by assumption) (Bool.eq_false_iff.mpr (by assumption))]; exact EM_fail hE1.1 hE1.2.1 hE1.2.2.1 rfl)) (fun _ hM => hM)
    · skip
      rw [mst_y (show chT s pp = 33 by assumption)]
      have hlt1 : pp < (s 48).toNat := hCE.lt (fun e => absurd (e.symm.trans (show chT s pp = 33 by assumption)) (by decide))
      refine v_aload_n hG dX6_readOne_14 rfl 0 rfl ?_
      refine v_iload_n hG dX6_readOne_15 rfl 1 rfl ?_
      refine v_iconst hG dX6_readOne_16 ?_
      refine v_iadd hG dX6_readOne_17 ?_
      rw [show (4 : Int) + 1 = 5 from rfl]
      refine v_callV (k1' := 0) (k2' := 0) hG dX6_readOne_18 zc_X6_readOne ⟨zl_X6_92, zi_X6_readOne, zs_X6_readOne⟩ (fun l => kc6_readOne0 l D A ad K S Q qa tp s (sU q 3 ((pp + 1 : Nat) : Int)) w0 w1 w2 w3 bo e uc lr nx p hp (pp + 1) (by first | assumption | (rw [sU_ne (by omega)]; assumption) | (simp only [sU_at]; (repeat' split) <;> first | assumption | (exfalso; omega))) (by exact sU_eq) (by assumption) (by omega) (by assumption) (by first | assumption | (rw [sU_ne (by omega)]; omega) | omega)) rfl (cR6 hp) (fun _ h => h) ⟨by decide, by decide⟩ rfl rfl ⟨by decide, by decide⟩ (rest := []) rfl (Nat.le_of_ble_eq_true rfl) (fun u27 => [vI (bi ((facF (chT s) 0 (pp + 1)).2.1 = true))]) (fun _ => rfl) (fun u27 hu27 => ?_)
      have fu27 : EM (sU q 3 ((pp + 1 : Nat) : Int)) w3 (facF (chT s) 0 (pp + 1)) u27.1 u27.2 := hu27
      have hE1 := EM_in h3 (by omega) fu27
      refine v_istore_n (lo' := [(2, vI (bi ((facF (chT s) 0 (pp + 1)).2.1 = true))), (0, .ref (kP ad p)), (1, vI 4)]) hG dX6_readOne_21 rfl (by decide) rfl ?_
      refine v_aload_n hG dX6_readOne_22 rfl 1 rfl ?_
      refine v_iconst hG dX6_readOne_23 ?_
      refine v_callV (k1' := 0) (k2' := 0) hG dX6_readOne_24 zc_X6_keep ⟨zl_X6_88, zi_X6_keep, zs_X6_keep⟩ (fun l => kc6_keepG l D A ad K S Q qa tp s u27.1 w0 w1 w2 u27.2 bo e uc lr nx p hp (-1) (by exact hE1.2.2.1)) rfl (cR6 hp) (fun _ h => h) ⟨by decide, by decide⟩ rfl rfl ⟨by decide, by decide⟩ (rest := []) rfl (Nat.le_of_ble_eq_true rfl) (fun u28 => []) (fun _ => rfl) (fun u28 hu28 => ?_)
      have fu28 : KP u27.1 u27.2 (-1) u28.1 u28.2 := hu28
      have hKP := fu28
      refine v_iload_n hG dX6_readOne_27 rfl 0 rfl ?_
      have e29 : @Eq Int (bi ((facF (chT s) 1 pp).2.1 = true)) (bi ((facF (chT s) 0 (pp + 1)).2.1 = true)) := by rw [fac_not (show chT s pp = 33 by assumption)]
      exact v_zreturn hG hR dX6_readOne_28 (bi_01 _) (u28.1, u28.2) (congrArg (fun z => some (vI z)) e29) (by rw [fac_not (show chT s pp = 33 by assumption)]; exact EM_not hE1 hKP hkp.1 (fun h => EM_lt hE1 h (facF_rng hCE 0 (pp + 1) (by omega)) (by omega) (by omega))) (fun _ hM => hM)
set_option maxHeartbeats 4000000 in
set_option maxRecDepth 100000 in
theorem kc6_readBoth1 (l : Launch) (D : Dx) (A : Nat → Prop) (ad : Nat → Nat) (K : Int → Int) (S Q qa : Nat → Int → Int) (tp : Nat → Nat) (s q w0 w1 w2 w3 bo e uc lr nx : Int → Int) (p : Nat) (hp : p < 6) (pp : Nat) (hq2 : q 2 = s 48) (h3 : q 3 = (pp : Int)) (hTS : TS s) (hpn : (pp : Int) ≤ s 48) (htp : tp p = kC ad 0 0) (hkp : 0 ≤ q 1 ∧ q 1 ≤ (pp : Int)) : CT l D A yX6_readBoth cX6_readBoth 3 (some .boolean) { frames := 9, cells := 0, slots := 0, locals := 205 } [.ref (kP ad p), vI 4] (CW D A ad K (uS S 0 s) (uS Q p q) (q4 qa p w0 w1 w2 w3) tp bo e uc lr nx) (fun u : (Int → Int) × (Int → Int) => some (vI (bi ((everyF (facF (chT s) 1) (chT s) pp).2.1 = true)))) (fun u => EM q w3 (everyF (facF (chT s) 1) (chT s) pp) u.1 u.2) (fun u => CW D A ad K (uS S 0 s) (uS Q p u.1) (q4 qa p w0 w1 w2 u.2) tp bo e uc lr nx) := by
  refine ct_of (lo0 := [(0, .ref (kP ad p)), (1, vI 4)]) (by decide) (Nat.le_of_ble_eq_true rfl) rfl ?_
  intro G hG hR
  have hT1 := hTS.1
  have hCE := chT_CE hTS
  refine v_iconst hG dX6_readBoth_0 ?_
  refine v_istore_n (lo' := [(2, vI 1), (0, .ref (kP ad p)), (1, vI 4)]) hG dX6_readBoth_1 rfl (by decide) rfl ?_
  refine v_lo [1, 2, 0] (lo' := [(0, .ref (kP ad p)), (1, vI 4), (2, vI 1)]) rfl ?_
  have L4 : ∀ mz : Nat, ∀ (t F P : Nat) (L : List Int), (1 ≤ t ∧ t + pp ≤ P + 1 ∧ F + t = 102) → ((everyF (facF (chT s) 1) (chT s) pp) = evL (facF (chT s) 1) (chT s) 38 (-2) F (nxF (facF (chT s) 1) (-2) t L P)) → (L.length + pp ≤ P ∧ (1 < t → L.length + pp + 1 ≤ P) ∧ (P : Int) ≤ s 48) → 102 - t = mz → ∀ x1 : Int, x1 = ((t : Int)) → ∀ x2 : Int → Int, True → ∀ x3 : Int → Int, EM q w3 (P, true, L) x2 x3 → V G 0 0 (CW D A ad K (uS S 0 s) (uS Q p x2) (q4 qa p w0 w1 w2 x3) tp bo e uc lr nx) 2 [(0, .ref (kP ad p)), (1, vI 4), (2, vI x1)] [] := by
    intro dL4
    induction dL4 using Nat.strongRecOn with
    | ind dL4 ihL4 =>
      intro t F P L hq5 hq6 hq7 hq8
      intro x1 hx1
      subst hx1
      intro x2 hx2
      intro x3 hx3
      refine v_iload_n hG dX6_readBoth_2 rfl 2 rfl ?_
      refine v_bipush hG dX6_readBoth_3 (by decide) ?_
      refine v_icmp_gt (tgt := 46) hG dX6_readBoth_5 (by decide) (by omega) (by omega) (fun c9 => ?_) (fun c9 => ?_)
      · skip
        refine v_iconst hG dX6_readBoth_46 ?_
        have hE0 : EM q w3 (P, true, L) x2 x3 := by assumption
        have hpe : chT s P = -1 := (hCE P).1.mpr (by omega)
        have hfe : (facF (chT s) 1) P = (P, false, []) := fac_end hpe 1
        have hst : (everyF (facF (chT s) 1) (chT s) pp) = nxF (facF (chT s) 1) (-2) t L P := ‹(everyF (facF (chT s) 1) (chT s) pp) = evL (facF (chT s) 1) (chT s) 38 (-2) F (nxF (facF (chT s) 1) (-2) t L P)›.trans (evL_stop (Or.inl (by show ((facF (chT s) 1) P).2.1 = false; rw [hfe])))
        have hfb : (nxF (facF (chT s) 1) (-2) t L P).2.1 = false := by show ((facF (chT s) 1) P).2.1 = false; rw [hfe]
        have e10 : @Eq Int (bi ((everyF (facF (chT s) 1) (chT s) pp).2.1 = true)) (0) := by rw [hst, bi_neg (fun h => by rw [hfb] at h; exact Bool.noConfusion h)]
        exact v_zreturn hG hR dX6_readBoth_47 (Or.inl rfl) (x2, x3) (congrArg (fun z => some (vI z)) e10) (by rw [hst]; exact EM_fail hE0.1 (by show _ = ((((facF (chT s) 1) P).1 : Nat) : Int); rw [hfe]; exact hE0.2.1) hE0.2.2.1 hfb) (fun _ hM => hM)
      · skip
        have hE0 : EM q w3 (P, true, L) x2 x3 := by assumption
        have hy1 := EM_n hE0
        have hy2 := (hE0.1 2 (by decide) (by decide)).trans hq2
        have hy3 : _ = (P : Int) := hE0.2.1
        obtain ⟨hg1, hg2, hg3⟩ := facF_rng hCE 1 P (by omega)
        refine v_aload_n hG dX6_readBoth_8 rfl 0 rfl ?_
        refine v_iload_n hG dX6_readBoth_9 rfl 1 rfl ?_
        refine v_callV (k1' := 0) (k2' := 0) hG dX6_readBoth_10 zc_X6_readOne ⟨zl_X6_92, zi_X6_readOne, zs_X6_readOne⟩ (fun l => kc6_readOne1 l D A ad K S Q qa tp s x2 w0 w1 w2 x3 bo e uc lr nx p hp P (by exact hy2) (by exact hy3) (by assumption) (by omega) (by assumption) (by omega)) rfl (cR6 hp) (fun _ h => h) ⟨by decide, by decide⟩ rfl rfl ⟨by decide, by decide⟩ (rest := []) rfl (Nat.le_of_ble_eq_true rfl) (fun u11 => [vI (bi ((facF (chT s) 1 P).2.1 = true))]) (fun _ => rfl) (fun u11 hu11 => ?_)
        have fu11 : EM x2 x3 (facF (chT s) 1 P) u11.1 u11.2 := hu11
        have hE1 := fu11
        refine v_ifb_ne (p := (facF (chT s) 1 P).2.1 = true) (tgt := 18) hG dX6_readBoth_13 (by decide) (fun c12 => ?_) (fun c12 => ?_)
        · skip
          have hfk : ((facF (chT s) 1) P).2.1 = true := by assumption
          obtain ⟨hdd1, hdd2, hdd3⟩ := hE1.2.2.2 hfk
          refine v_iload_n hG dX6_readBoth_18 rfl 2 rfl ?_
          refine v_iconst hG dX6_readBoth_19 ?_
          refine v_icmp_le (tgt := 29) hG dX6_readBoth_20 (by decide) (by omega) (by omega) (fun c13 => ?_) (fun c13 => ?_)
          · skip
            have hE2 : EM q w3 (((facF (chT s) 1) P).1, true, (nxF (facF (chT s) 1) (-2) t L P).2.2) u11.1 u11.2 := by first | exact EM_nx2 hE0 hE1 hkp.1 hfk (by omega) (by decide) (by omega) (by assumption) | exact EM_nx1 hE0 hE1 hkp.1 hfk (by omega)
            have hnl := EM_n hE2
            have hnk : (nxF (facF (chT s) 1) (-2) t L P).2.1 = true := hfk
            have hn1 : (nxF (facF (chT s) 1) (-2) t L P).1 = ((facF (chT s) 1) P).1 := rfl
            have hnl9 : (nxF (facF (chT s) 1) (-2) t L P).2.2.length ≤ L.length + ((facF (chT s) 1) P).2.2.length + (if 1 < t then 1 else 0) := nx_len
            refine v_aload_n hG dX6_readBoth_29 rfl 0 rfl ?_
            refine v_bipush hG dX6_readBoth_30 (by decide) ?_
            refine v_callV (k1' := 0) (k2' := 0) hG dX6_readBoth_32 zc_X6_skip ⟨zl_X6_56, zi_X6_skip, zs_X6_skip⟩ (fun l => kc6_skip l D A ad K S Q qa tp s u11.1 w0 w1 w2 u11.2 bo e uc lr nx p hp (((facF (chT s) 1) P).1) 38 (by exact (hE2.1 2 (by decide) (by decide)).trans hq2) (by exact hE2.2.1) (by assumption) (by omega) (by assumption) (by omega)) rfl (cR6 hp) (fun _ h => h) ⟨by decide, by decide⟩ rfl rfl ⟨by decide, by decide⟩ (rest := []) rfl (Nat.le_of_ble_eq_true rfl) (fun u14 => [vI (bi (chT s (((facF (chT s) 1) P).1) = 38))]) (fun _ => rfl) (fun u14 hu14 => ?_)
            refine v_ifb_ne (p := chT s (((facF (chT s) 1) P).1) = 38) (tgt := 40) hG dX6_readBoth_35 (by decide) (fun c15 => ?_) (fun c15 => ?_)
            · skip
              skip
              refine v_iinc (lo' := [(2, vI ((t : Int) + 1)), (0, .ref (kP ad p)), (1, vI 4)]) hG dX6_readBoth_40 2 rfl (by decide) rfl ?_
              refine v_goto (tgt := 2) hG dX6_readBoth_43 (by decide) ?_
              refine v_lo [1, 2, 0] (lo' := [(0, .ref (kP ad p)), (1, vI 4), (2, vI ((t : Int) + 1))]) rfl ?_
              exact ihL4 _ (by omega) (t + 1) (F - 1) (((facF (chT s) 1) P).1 + 1) ((nxF (facF (chT s) 1) (-2) t L P).2.2) (by omega) (by show (everyF (facF (chT s) 1) (chT s) pp) = evL (facF (chT s) 1) (chT s) 38 (-2) (F - 1) (nxF (facF (chT s) 1) (-2) (t + 1) (nxF (facF (chT s) 1) (-2) t L P).2.2 ((nxF (facF (chT s) 1) (-2) t L P).1 + 1)); rw [← nx_go (r := nxF (facF (chT s) 1) (-2) t L P) (by omega)]; exact ‹(everyF (facF (chT s) 1) (chT s) pp) = evL (facF (chT s) 1) (chT s) 38 (-2) F (nxF (facF (chT s) 1) (-2) t L P)›.trans (evL_go (by omega) hnk (show chT s (nxF (facF (chT s) 1) (-2) t L P).1 = 38 from (show chT s ((facF (chT s) 1) P).1 = 38 by assumption)))) (by have hlt9 := hCE.lt (p := ((facF (chT s) 1) P).1) (fun e => absurd (e.symm.trans (show chT s ((facF (chT s) 1) P).1 = 38 by assumption)) (by decide)); split at hnl9 <;> omega) rfl _ (by omega) _ (by trivial) _ (by rw [show mustF (chT s) 38 (((facF (chT s) 1) P).1, true) = (((facF (chT s) 1) P).1 + 1, true) from if_pos ⟨rfl, by assumption⟩]; exact EM_place hE2)
            · skip
              have hst : (everyF (facF (chT s) 1) (chT s) pp) = nxF (facF (chT s) 1) (-2) t L P := ‹(everyF (facF (chT s) 1) (chT s) pp) = evL (facF (chT s) 1) (chT s) 38 (-2) F (nxF (facF (chT s) 1) (-2) t L P)›.trans (evL_stop (Or.inr (show ¬ chT s (nxF (facF (chT s) 1) (-2) t L P).1 = 38 from (show ¬ chT s ((facF (chT s) 1) P).1 = 38 by assumption))))
              refine v_iconst hG dX6_readBoth_38 ?_
              have e16 : @Eq Int (bi ((everyF (facF (chT s) 1) (chT s) pp).2.1 = true)) (1) := by rw [hst, bi_pos hnk]
              exact v_zreturn hG hR dX6_readBoth_39 (Or.inr rfl) (sU u11.1 3 ((mustF (chT s) 38 ((((facF (chT s) 1) P).1), true)).1 : Nat), u11.2) (congrArg (fun z => some (vI z)) e16) (by rw [hst]; exact (show EM q w3 (nxF (facF (chT s) 1) (-2) t L P) _ _ from (show (nxF (facF (chT s) 1) (-2) t L P) = (((facF (chT s) 1) P).1, true, (nxF (facF (chT s) 1) (-2) t L P).2.2) from Prod.ext rfl (Prod.ext hfk rfl)) ▸ (show EM q w3 (((facF (chT s) 1) P).1, true, (nxF (facF (chT s) 1) (-2) t L P).2.2) _ _ from by rw [show mustF (chT s) 38 (((facF (chT s) 1) P).1, true) = (((facF (chT s) 1) P).1, false) from if_neg (fun h => absurd h.2 (by assumption))]; exact EM_place hE2))) (fun _ hM => hM)
          · skip
            refine v_aload_n hG dX6_readBoth_23 rfl 0 rfl ?_
            refine v_bipush hG dX6_readBoth_24 (by decide) ?_
            refine v_callV (k1' := 0) (k2' := 0) hG dX6_readBoth_26 zc_X6_keep ⟨zl_X6_88, zi_X6_keep, zs_X6_keep⟩ (fun l => kc6_keepG l D A ad K S Q qa tp s u11.1 w0 w1 w2 u11.2 bo e uc lr nx p hp (-2) (by omega)) rfl (cR6 hp) (fun _ h => h) ⟨by decide, by decide⟩ rfl rfl ⟨by decide, by decide⟩ (rest := []) rfl (Nat.le_of_ble_eq_true rfl) (fun u17 => []) (fun _ => rfl) (fun u17 hu17 => ?_)
            have fu17 : KP u11.1 u11.2 (-2) u17.1 u17.2 := hu17
            have hE2 : EM q w3 (((facF (chT s) 1) P).1, true, (nxF (facF (chT s) 1) (-2) t L P).2.2) u17.1 u17.2 := by first | exact EM_nx2 hE0 hE1 hkp.1 hfk (by omega) (by decide) (by omega) (by assumption) | exact EM_nx1 hE0 hE1 hkp.1 hfk (by omega)
            have hnl := EM_n hE2
            have hnk : (nxF (facF (chT s) 1) (-2) t L P).2.1 = true := hfk
            have hn1 : (nxF (facF (chT s) 1) (-2) t L P).1 = ((facF (chT s) 1) P).1 := rfl
            have hnl9 : (nxF (facF (chT s) 1) (-2) t L P).2.2.length ≤ L.length + ((facF (chT s) 1) P).2.2.length + (if 1 < t then 1 else 0) := nx_len
            refine v_aload_n hG dX6_readBoth_29 rfl 0 rfl ?_
            refine v_bipush hG dX6_readBoth_30 (by decide) ?_
            refine v_callV (k1' := 0) (k2' := 0) hG dX6_readBoth_32 zc_X6_skip ⟨zl_X6_56, zi_X6_skip, zs_X6_skip⟩ (fun l => kc6_skip l D A ad K S Q qa tp s u17.1 w0 w1 w2 u17.2 bo e uc lr nx p hp (((facF (chT s) 1) P).1) 38 (by exact (hE2.1 2 (by decide) (by decide)).trans hq2) (by exact hE2.2.1) (by assumption) (by omega) (by assumption) (by omega)) rfl (cR6 hp) (fun _ h => h) ⟨by decide, by decide⟩ rfl rfl ⟨by decide, by decide⟩ (rest := []) rfl (Nat.le_of_ble_eq_true rfl) (fun u18 => [vI (bi (chT s (((facF (chT s) 1) P).1) = 38))]) (fun _ => rfl) (fun u18 hu18 => ?_)
            refine v_ifb_ne (p := chT s (((facF (chT s) 1) P).1) = 38) (tgt := 40) hG dX6_readBoth_35 (by decide) (fun c19 => ?_) (fun c19 => ?_)
            · skip
              skip
              refine v_iinc (lo' := [(2, vI ((t : Int) + 1)), (0, .ref (kP ad p)), (1, vI 4)]) hG dX6_readBoth_40 2 rfl (by decide) rfl ?_
              refine v_goto (tgt := 2) hG dX6_readBoth_43 (by decide) ?_
              refine v_lo [1, 2, 0] (lo' := [(0, .ref (kP ad p)), (1, vI 4), (2, vI ((t : Int) + 1))]) rfl ?_
              exact ihL4 _ (by omega) (t + 1) (F - 1) (((facF (chT s) 1) P).1 + 1) ((nxF (facF (chT s) 1) (-2) t L P).2.2) (by omega) (by show (everyF (facF (chT s) 1) (chT s) pp) = evL (facF (chT s) 1) (chT s) 38 (-2) (F - 1) (nxF (facF (chT s) 1) (-2) (t + 1) (nxF (facF (chT s) 1) (-2) t L P).2.2 ((nxF (facF (chT s) 1) (-2) t L P).1 + 1)); rw [← nx_go (r := nxF (facF (chT s) 1) (-2) t L P) (by omega)]; exact ‹(everyF (facF (chT s) 1) (chT s) pp) = evL (facF (chT s) 1) (chT s) 38 (-2) F (nxF (facF (chT s) 1) (-2) t L P)›.trans (evL_go (by omega) hnk (show chT s (nxF (facF (chT s) 1) (-2) t L P).1 = 38 from (show chT s ((facF (chT s) 1) P).1 = 38 by assumption)))) (by have hlt9 := hCE.lt (p := ((facF (chT s) 1) P).1) (fun e => absurd (e.symm.trans (show chT s ((facF (chT s) 1) P).1 = 38 by assumption)) (by decide)); split at hnl9 <;> omega) rfl _ (by omega) _ (by trivial) _ (by rw [show mustF (chT s) 38 (((facF (chT s) 1) P).1, true) = (((facF (chT s) 1) P).1 + 1, true) from if_pos ⟨rfl, by assumption⟩]; exact EM_place hE2)
            · skip
              have hst : (everyF (facF (chT s) 1) (chT s) pp) = nxF (facF (chT s) 1) (-2) t L P := ‹(everyF (facF (chT s) 1) (chT s) pp) = evL (facF (chT s) 1) (chT s) 38 (-2) F (nxF (facF (chT s) 1) (-2) t L P)›.trans (evL_stop (Or.inr (show ¬ chT s (nxF (facF (chT s) 1) (-2) t L P).1 = 38 from (show ¬ chT s ((facF (chT s) 1) P).1 = 38 by assumption))))
              refine v_iconst hG dX6_readBoth_38 ?_
              have e20 : @Eq Int (bi ((everyF (facF (chT s) 1) (chT s) pp).2.1 = true)) (1) := by rw [hst, bi_pos hnk]
              exact v_zreturn hG hR dX6_readBoth_39 (Or.inr rfl) (sU u17.1 3 ((mustF (chT s) 38 ((((facF (chT s) 1) P).1), true)).1 : Nat), u17.2) (congrArg (fun z => some (vI z)) e20) (by rw [hst]; exact (show EM q w3 (nxF (facF (chT s) 1) (-2) t L P) _ _ from (show (nxF (facF (chT s) 1) (-2) t L P) = (((facF (chT s) 1) P).1, true, (nxF (facF (chT s) 1) (-2) t L P).2.2) from Prod.ext rfl (Prod.ext hfk rfl)) ▸ (show EM q w3 (((facF (chT s) 1) P).1, true, (nxF (facF (chT s) 1) (-2) t L P).2.2) _ _ from by rw [show mustF (chT s) 38 (((facF (chT s) 1) P).1, true) = (((facF (chT s) 1) P).1, false) from if_neg (fun h => absurd h.2 (by assumption))]; exact EM_place hE2))) (fun _ hM => hM)
        · skip
          have hfb : ((facF (chT s) 1) P).2.1 = false := by
            cases q9 : ((facF (chT s) 1) P).2.1
            · rfl
            · exact absurd q9 (by assumption)
          refine v_iconst hG dX6_readBoth_16 ?_
          have e21 : @Eq Int (bi ((everyF (facF (chT s) 1) (chT s) pp).2.1 = true)) (0) := by have hst : (everyF (facF (chT s) 1) (chT s) pp) = nxF (facF (chT s) 1) (-2) t L P := ‹(everyF (facF (chT s) 1) (chT s) pp) = evL (facF (chT s) 1) (chT s) 38 (-2) F (nxF (facF (chT s) 1) (-2) t L P)›.trans (evL_stop (Or.inl hfb)); rw [hst, bi_neg (show ¬ (nxF (facF (chT s) 1) (-2) t L P).2.1 = true from fun h => by rw [show (nxF (facF (chT s) 1) (-2) t L P).2.1 = false from hfb] at h; exact Bool.noConfusion h)]
          exact v_zreturn hG hR dX6_readBoth_17 (Or.inl rfl) (u11.1, u11.2) (congrArg (fun z => some (vI z)) e21) (by rw [show (everyF (facF (chT s) 1) (chT s) pp) = nxF (facF (chT s) 1) (-2) t L P from ‹(everyF (facF (chT s) 1) (chT s) pp) = evL (facF (chT s) 1) (chT s) 38 (-2) F (nxF (facF (chT s) 1) (-2) t L P)›.trans (evL_stop (Or.inl hfb))]; exact EM_failc hE0 hE1 rfl hfb) (fun _ hM => hM)
  exact L4 _ 1 101 pp ([]) (by omega) (by rw [nx_1]; rfl) (by show 0 + pp ≤ pp ∧ (1 < 1 → 0 + pp + 1 ≤ pp) ∧ (pp : Int) ≤ s 48; omega) rfl _ (by rfl) _ (by trivial) _ (by exact EM_0 h3 (by omega))
set_option maxHeartbeats 4000000 in
set_option maxRecDepth 100000 in
theorem kc6_readEither1 (l : Launch) (D : Dx) (A : Nat → Prop) (ad : Nat → Nat) (K : Int → Int) (S Q qa : Nat → Int → Int) (tp : Nat → Nat) (s q w0 w1 w2 w3 bo e uc lr nx : Int → Int) (p : Nat) (hp : p < 6) (pp : Nat) (hq2 : q 2 = s 48) (h3 : q 3 = (pp : Int)) (hTS : TS s) (hpn : (pp : Int) ≤ s 48) (htp : tp p = kC ad 0 0) (hkp : 0 ≤ q 1 ∧ q 1 ≤ (pp : Int)) : CT l D A yX6_readEither cX6_readEither 3 (some .boolean) { frames := 10, cells := 0, slots := 0, locals := 227 } [.ref (kP ad p), vI 4] (CW D A ad K (uS S 0 s) (uS Q p q) (q4 qa p w0 w1 w2 w3) tp bo e uc lr nx) (fun u : (Int → Int) × (Int → Int) => some (vI (bi ((someF (facF (chT s) 1) (chT s) pp).2.1 = true)))) (fun u => EM q w3 (someF (facF (chT s) 1) (chT s) pp) u.1 u.2) (fun u => CW D A ad K (uS S 0 s) (uS Q p u.1) (q4 qa p w0 w1 w2 u.2) tp bo e uc lr nx) := by
  refine ct_of (lo0 := [(0, .ref (kP ad p)), (1, vI 4)]) (by decide) (Nat.le_of_ble_eq_true rfl) rfl ?_
  intro G hG hR
  have hT1 := hTS.1
  have hCE := chT_CE hTS
  refine v_iconst hG dX6_readEither_0 ?_
  refine v_istore_n (lo' := [(2, vI 1), (0, .ref (kP ad p)), (1, vI 4)]) hG dX6_readEither_1 rfl (by decide) rfl ?_
  refine v_lo [1, 2, 0] (lo' := [(0, .ref (kP ad p)), (1, vI 4), (2, vI 1)]) rfl ?_
  have L4 : ∀ mz : Nat, ∀ (t F P : Nat) (L : List Int), (1 ≤ t ∧ t + pp ≤ P + 1 ∧ F + t = 102) → ((someF (facF (chT s) 1) (chT s) pp) = evL (everyF (facF (chT s) 1) (chT s)) (chT s) 124 (-3) F (nxF (everyF (facF (chT s) 1) (chT s)) (-3) t L P)) → (L.length + pp ≤ P ∧ (1 < t → L.length + pp + 1 ≤ P) ∧ (P : Int) ≤ s 48) → 102 - t = mz → ∀ x1 : Int, x1 = ((t : Int)) → ∀ x2 : Int → Int, True → ∀ x3 : Int → Int, EM q w3 (P, true, L) x2 x3 → V G 0 0 (CW D A ad K (uS S 0 s) (uS Q p x2) (q4 qa p w0 w1 w2 x3) tp bo e uc lr nx) 2 [(0, .ref (kP ad p)), (1, vI 4), (2, vI x1)] [] := by
    intro dL4
    induction dL4 using Nat.strongRecOn with
    | ind dL4 ihL4 =>
      intro t F P L hq5 hq6 hq7 hq8
      intro x1 hx1
      subst hx1
      intro x2 hx2
      intro x3 hx3
      refine v_iload_n hG dX6_readEither_2 rfl 2 rfl ?_
      refine v_bipush hG dX6_readEither_3 (by decide) ?_
      refine v_icmp_gt (tgt := 46) hG dX6_readEither_5 (by decide) (by omega) (by omega) (fun c9 => ?_) (fun c9 => ?_)
      · skip
        refine v_iconst hG dX6_readEither_46 ?_
        have hE0 : EM q w3 (P, true, L) x2 x3 := by assumption
        have hpe : chT s P = -1 := (hCE P).1.mpr (by omega)
        have hfe : (everyF (facF (chT s) 1) (chT s)) P = (P, false, []) := every_end hpe
        have hst : (someF (facF (chT s) 1) (chT s) pp) = nxF (everyF (facF (chT s) 1) (chT s)) (-3) t L P := ‹(someF (facF (chT s) 1) (chT s) pp) = evL (everyF (facF (chT s) 1) (chT s)) (chT s) 124 (-3) F (nxF (everyF (facF (chT s) 1) (chT s)) (-3) t L P)›.trans (evL_stop (Or.inl (by show ((everyF (facF (chT s) 1) (chT s)) P).2.1 = false; rw [hfe])))
        have hfb : (nxF (everyF (facF (chT s) 1) (chT s)) (-3) t L P).2.1 = false := by show ((everyF (facF (chT s) 1) (chT s)) P).2.1 = false; rw [hfe]
        have e10 : @Eq Int (bi ((someF (facF (chT s) 1) (chT s) pp).2.1 = true)) (0) := by rw [hst, bi_neg (fun h => by rw [hfb] at h; exact Bool.noConfusion h)]
        exact v_zreturn hG hR dX6_readEither_47 (Or.inl rfl) (x2, x3) (congrArg (fun z => some (vI z)) e10) (by rw [hst]; exact EM_fail hE0.1 (by show _ = ((((everyF (facF (chT s) 1) (chT s)) P).1 : Nat) : Int); rw [hfe]; exact hE0.2.1) hE0.2.2.1 hfb) (fun _ hM => hM)
      · skip
        have hE0 : EM q w3 (P, true, L) x2 x3 := by assumption
        have hy1 := EM_n hE0
        have hy2 := (hE0.1 2 (by decide) (by decide)).trans hq2
        have hy3 : _ = (P : Int) := hE0.2.1
        obtain ⟨hg1, hg2, hg3⟩ := everyF_rng hCE (fun x hx => facF_rng hCE 1 x hx) (p := P) (by omega)
        refine v_aload_n hG dX6_readEither_8 rfl 0 rfl ?_
        refine v_iload_n hG dX6_readEither_9 rfl 1 rfl ?_
        refine v_callV (k1' := 0) (k2' := 0) hG dX6_readEither_10 zc_X6_readBoth ⟨zl_X6_85, zi_X6_readBoth, zs_X6_readBoth⟩ (fun l => kc6_readBoth1 l D A ad K S Q qa tp s x2 w0 w1 w2 x3 bo e uc lr nx p hp P (by exact hy2) (by exact hy3) (by assumption) (by omega) (by assumption) (by omega)) rfl (cR6 hp) (fun _ h => h) ⟨by decide, by decide⟩ rfl rfl ⟨by decide, by decide⟩ (rest := []) rfl (Nat.le_of_ble_eq_true rfl) (fun u11 => [vI (bi ((everyF (facF (chT s) 1) (chT s) P).2.1 = true))]) (fun _ => rfl) (fun u11 hu11 => ?_)
        have fu11 : EM x2 x3 (everyF (facF (chT s) 1) (chT s) P) u11.1 u11.2 := hu11
        have hE1 := fu11
        refine v_ifb_ne (p := (everyF (facF (chT s) 1) (chT s) P).2.1 = true) (tgt := 18) hG dX6_readEither_13 (by decide) (fun c12 => ?_) (fun c12 => ?_)
        · skip
          have hfk : ((everyF (facF (chT s) 1) (chT s)) P).2.1 = true := by assumption
          obtain ⟨hdd1, hdd2, hdd3⟩ := hE1.2.2.2 hfk
          refine v_iload_n hG dX6_readEither_18 rfl 2 rfl ?_
          refine v_iconst hG dX6_readEither_19 ?_
          refine v_icmp_le (tgt := 29) hG dX6_readEither_20 (by decide) (by omega) (by omega) (fun c13 => ?_) (fun c13 => ?_)
          · skip
            have hE2 : EM q w3 (((everyF (facF (chT s) 1) (chT s)) P).1, true, (nxF (everyF (facF (chT s) 1) (chT s)) (-3) t L P).2.2) u11.1 u11.2 := by first | exact EM_nx2 hE0 hE1 hkp.1 hfk (by omega) (by decide) (by omega) (by assumption) | exact EM_nx1 hE0 hE1 hkp.1 hfk (by omega)
            have hnl := EM_n hE2
            have hnk : (nxF (everyF (facF (chT s) 1) (chT s)) (-3) t L P).2.1 = true := hfk
            have hn1 : (nxF (everyF (facF (chT s) 1) (chT s)) (-3) t L P).1 = ((everyF (facF (chT s) 1) (chT s)) P).1 := rfl
            have hnl9 : (nxF (everyF (facF (chT s) 1) (chT s)) (-3) t L P).2.2.length ≤ L.length + ((everyF (facF (chT s) 1) (chT s)) P).2.2.length + (if 1 < t then 1 else 0) := nx_len
            refine v_aload_n hG dX6_readEither_29 rfl 0 rfl ?_
            refine v_bipush hG dX6_readEither_30 (by decide) ?_
            refine v_callV (k1' := 0) (k2' := 0) hG dX6_readEither_32 zc_X6_skip ⟨zl_X6_56, zi_X6_skip, zs_X6_skip⟩ (fun l => kc6_skip l D A ad K S Q qa tp s u11.1 w0 w1 w2 u11.2 bo e uc lr nx p hp (((everyF (facF (chT s) 1) (chT s)) P).1) 124 (by exact (hE2.1 2 (by decide) (by decide)).trans hq2) (by exact hE2.2.1) (by assumption) (by omega) (by assumption) (by omega)) rfl (cR6 hp) (fun _ h => h) ⟨by decide, by decide⟩ rfl rfl ⟨by decide, by decide⟩ (rest := []) rfl (Nat.le_of_ble_eq_true rfl) (fun u14 => [vI (bi (chT s (((everyF (facF (chT s) 1) (chT s)) P).1) = 124))]) (fun _ => rfl) (fun u14 hu14 => ?_)
            refine v_ifb_ne (p := chT s (((everyF (facF (chT s) 1) (chT s)) P).1) = 124) (tgt := 40) hG dX6_readEither_35 (by decide) (fun c15 => ?_) (fun c15 => ?_)
            · skip
              skip
              refine v_iinc (lo' := [(2, vI ((t : Int) + 1)), (0, .ref (kP ad p)), (1, vI 4)]) hG dX6_readEither_40 2 rfl (by decide) rfl ?_
              refine v_goto (tgt := 2) hG dX6_readEither_43 (by decide) ?_
              refine v_lo [1, 2, 0] (lo' := [(0, .ref (kP ad p)), (1, vI 4), (2, vI ((t : Int) + 1))]) rfl ?_
              exact ihL4 _ (by omega) (t + 1) (F - 1) (((everyF (facF (chT s) 1) (chT s)) P).1 + 1) ((nxF (everyF (facF (chT s) 1) (chT s)) (-3) t L P).2.2) (by omega) (by show (someF (facF (chT s) 1) (chT s) pp) = evL (everyF (facF (chT s) 1) (chT s)) (chT s) 124 (-3) (F - 1) (nxF (everyF (facF (chT s) 1) (chT s)) (-3) (t + 1) (nxF (everyF (facF (chT s) 1) (chT s)) (-3) t L P).2.2 ((nxF (everyF (facF (chT s) 1) (chT s)) (-3) t L P).1 + 1)); rw [← nx_go (r := nxF (everyF (facF (chT s) 1) (chT s)) (-3) t L P) (by omega)]; exact ‹(someF (facF (chT s) 1) (chT s) pp) = evL (everyF (facF (chT s) 1) (chT s)) (chT s) 124 (-3) F (nxF (everyF (facF (chT s) 1) (chT s)) (-3) t L P)›.trans (evL_go (by omega) hnk (show chT s (nxF (everyF (facF (chT s) 1) (chT s)) (-3) t L P).1 = 124 from (show chT s ((everyF (facF (chT s) 1) (chT s)) P).1 = 124 by assumption)))) (by have hlt9 := hCE.lt (p := ((everyF (facF (chT s) 1) (chT s)) P).1) (fun e => absurd (e.symm.trans (show chT s ((everyF (facF (chT s) 1) (chT s)) P).1 = 124 by assumption)) (by decide)); split at hnl9 <;> omega) rfl _ (by omega) _ (by trivial) _ (by rw [show mustF (chT s) 124 (((everyF (facF (chT s) 1) (chT s)) P).1, true) = (((everyF (facF (chT s) 1) (chT s)) P).1 + 1, true) from if_pos ⟨rfl, by assumption⟩]; exact EM_place hE2)
            · skip
              have hst : (someF (facF (chT s) 1) (chT s) pp) = nxF (everyF (facF (chT s) 1) (chT s)) (-3) t L P := ‹(someF (facF (chT s) 1) (chT s) pp) = evL (everyF (facF (chT s) 1) (chT s)) (chT s) 124 (-3) F (nxF (everyF (facF (chT s) 1) (chT s)) (-3) t L P)›.trans (evL_stop (Or.inr (show ¬ chT s (nxF (everyF (facF (chT s) 1) (chT s)) (-3) t L P).1 = 124 from (show ¬ chT s ((everyF (facF (chT s) 1) (chT s)) P).1 = 124 by assumption))))
              refine v_iconst hG dX6_readEither_38 ?_
              have e16 : @Eq Int (bi ((someF (facF (chT s) 1) (chT s) pp).2.1 = true)) (1) := by rw [hst, bi_pos hnk]
              exact v_zreturn hG hR dX6_readEither_39 (Or.inr rfl) (sU u11.1 3 ((mustF (chT s) 124 ((((everyF (facF (chT s) 1) (chT s)) P).1), true)).1 : Nat), u11.2) (congrArg (fun z => some (vI z)) e16) (by rw [hst]; exact (show EM q w3 (nxF (everyF (facF (chT s) 1) (chT s)) (-3) t L P) _ _ from (show (nxF (everyF (facF (chT s) 1) (chT s)) (-3) t L P) = (((everyF (facF (chT s) 1) (chT s)) P).1, true, (nxF (everyF (facF (chT s) 1) (chT s)) (-3) t L P).2.2) from Prod.ext rfl (Prod.ext hfk rfl)) ▸ (show EM q w3 (((everyF (facF (chT s) 1) (chT s)) P).1, true, (nxF (everyF (facF (chT s) 1) (chT s)) (-3) t L P).2.2) _ _ from by rw [show mustF (chT s) 124 (((everyF (facF (chT s) 1) (chT s)) P).1, true) = (((everyF (facF (chT s) 1) (chT s)) P).1, false) from if_neg (fun h => absurd h.2 (by assumption))]; exact EM_place hE2))) (fun _ hM => hM)
          · skip
            refine v_aload_n hG dX6_readEither_23 rfl 0 rfl ?_
            refine v_bipush hG dX6_readEither_24 (by decide) ?_
            refine v_callV (k1' := 0) (k2' := 0) hG dX6_readEither_26 zc_X6_keep ⟨zl_X6_88, zi_X6_keep, zs_X6_keep⟩ (fun l => kc6_keepG l D A ad K S Q qa tp s u11.1 w0 w1 w2 u11.2 bo e uc lr nx p hp (-3) (by omega)) rfl (cR6 hp) (fun _ h => h) ⟨by decide, by decide⟩ rfl rfl ⟨by decide, by decide⟩ (rest := []) rfl (Nat.le_of_ble_eq_true rfl) (fun u17 => []) (fun _ => rfl) (fun u17 hu17 => ?_)
            have fu17 : KP u11.1 u11.2 (-3) u17.1 u17.2 := hu17
            have hE2 : EM q w3 (((everyF (facF (chT s) 1) (chT s)) P).1, true, (nxF (everyF (facF (chT s) 1) (chT s)) (-3) t L P).2.2) u17.1 u17.2 := by first | exact EM_nx2 hE0 hE1 hkp.1 hfk (by omega) (by decide) (by omega) (by assumption) | exact EM_nx1 hE0 hE1 hkp.1 hfk (by omega)
            have hnl := EM_n hE2
            have hnk : (nxF (everyF (facF (chT s) 1) (chT s)) (-3) t L P).2.1 = true := hfk
            have hn1 : (nxF (everyF (facF (chT s) 1) (chT s)) (-3) t L P).1 = ((everyF (facF (chT s) 1) (chT s)) P).1 := rfl
            have hnl9 : (nxF (everyF (facF (chT s) 1) (chT s)) (-3) t L P).2.2.length ≤ L.length + ((everyF (facF (chT s) 1) (chT s)) P).2.2.length + (if 1 < t then 1 else 0) := nx_len
            refine v_aload_n hG dX6_readEither_29 rfl 0 rfl ?_
            refine v_bipush hG dX6_readEither_30 (by decide) ?_
            refine v_callV (k1' := 0) (k2' := 0) hG dX6_readEither_32 zc_X6_skip ⟨zl_X6_56, zi_X6_skip, zs_X6_skip⟩ (fun l => kc6_skip l D A ad K S Q qa tp s u17.1 w0 w1 w2 u17.2 bo e uc lr nx p hp (((everyF (facF (chT s) 1) (chT s)) P).1) 124 (by exact (hE2.1 2 (by decide) (by decide)).trans hq2) (by exact hE2.2.1) (by assumption) (by omega) (by assumption) (by omega)) rfl (cR6 hp) (fun _ h => h) ⟨by decide, by decide⟩ rfl rfl ⟨by decide, by decide⟩ (rest := []) rfl (Nat.le_of_ble_eq_true rfl) (fun u18 => [vI (bi (chT s (((everyF (facF (chT s) 1) (chT s)) P).1) = 124))]) (fun _ => rfl) (fun u18 hu18 => ?_)
            refine v_ifb_ne (p := chT s (((everyF (facF (chT s) 1) (chT s)) P).1) = 124) (tgt := 40) hG dX6_readEither_35 (by decide) (fun c19 => ?_) (fun c19 => ?_)
            · skip
              skip
              refine v_iinc (lo' := [(2, vI ((t : Int) + 1)), (0, .ref (kP ad p)), (1, vI 4)]) hG dX6_readEither_40 2 rfl (by decide) rfl ?_
              refine v_goto (tgt := 2) hG dX6_readEither_43 (by decide) ?_
              refine v_lo [1, 2, 0] (lo' := [(0, .ref (kP ad p)), (1, vI 4), (2, vI ((t : Int) + 1))]) rfl ?_
              exact ihL4 _ (by omega) (t + 1) (F - 1) (((everyF (facF (chT s) 1) (chT s)) P).1 + 1) ((nxF (everyF (facF (chT s) 1) (chT s)) (-3) t L P).2.2) (by omega) (by show (someF (facF (chT s) 1) (chT s) pp) = evL (everyF (facF (chT s) 1) (chT s)) (chT s) 124 (-3) (F - 1) (nxF (everyF (facF (chT s) 1) (chT s)) (-3) (t + 1) (nxF (everyF (facF (chT s) 1) (chT s)) (-3) t L P).2.2 ((nxF (everyF (facF (chT s) 1) (chT s)) (-3) t L P).1 + 1)); rw [← nx_go (r := nxF (everyF (facF (chT s) 1) (chT s)) (-3) t L P) (by omega)]; exact ‹(someF (facF (chT s) 1) (chT s) pp) = evL (everyF (facF (chT s) 1) (chT s)) (chT s) 124 (-3) F (nxF (everyF (facF (chT s) 1) (chT s)) (-3) t L P)›.trans (evL_go (by omega) hnk (show chT s (nxF (everyF (facF (chT s) 1) (chT s)) (-3) t L P).1 = 124 from (show chT s ((everyF (facF (chT s) 1) (chT s)) P).1 = 124 by assumption)))) (by have hlt9 := hCE.lt (p := ((everyF (facF (chT s) 1) (chT s)) P).1) (fun e => absurd (e.symm.trans (show chT s ((everyF (facF (chT s) 1) (chT s)) P).1 = 124 by assumption)) (by decide)); split at hnl9 <;> omega) rfl _ (by omega) _ (by trivial) _ (by rw [show mustF (chT s) 124 (((everyF (facF (chT s) 1) (chT s)) P).1, true) = (((everyF (facF (chT s) 1) (chT s)) P).1 + 1, true) from if_pos ⟨rfl, by assumption⟩]; exact EM_place hE2)
            · skip
              have hst : (someF (facF (chT s) 1) (chT s) pp) = nxF (everyF (facF (chT s) 1) (chT s)) (-3) t L P := ‹(someF (facF (chT s) 1) (chT s) pp) = evL (everyF (facF (chT s) 1) (chT s)) (chT s) 124 (-3) F (nxF (everyF (facF (chT s) 1) (chT s)) (-3) t L P)›.trans (evL_stop (Or.inr (show ¬ chT s (nxF (everyF (facF (chT s) 1) (chT s)) (-3) t L P).1 = 124 from (show ¬ chT s ((everyF (facF (chT s) 1) (chT s)) P).1 = 124 by assumption))))
              refine v_iconst hG dX6_readEither_38 ?_
              have e20 : @Eq Int (bi ((someF (facF (chT s) 1) (chT s) pp).2.1 = true)) (1) := by rw [hst, bi_pos hnk]
              exact v_zreturn hG hR dX6_readEither_39 (Or.inr rfl) (sU u17.1 3 ((mustF (chT s) 124 ((((everyF (facF (chT s) 1) (chT s)) P).1), true)).1 : Nat), u17.2) (congrArg (fun z => some (vI z)) e20) (by rw [hst]; exact (show EM q w3 (nxF (everyF (facF (chT s) 1) (chT s)) (-3) t L P) _ _ from (show (nxF (everyF (facF (chT s) 1) (chT s)) (-3) t L P) = (((everyF (facF (chT s) 1) (chT s)) P).1, true, (nxF (everyF (facF (chT s) 1) (chT s)) (-3) t L P).2.2) from Prod.ext rfl (Prod.ext hfk rfl)) ▸ (show EM q w3 (((everyF (facF (chT s) 1) (chT s)) P).1, true, (nxF (everyF (facF (chT s) 1) (chT s)) (-3) t L P).2.2) _ _ from by rw [show mustF (chT s) 124 (((everyF (facF (chT s) 1) (chT s)) P).1, true) = (((everyF (facF (chT s) 1) (chT s)) P).1, false) from if_neg (fun h => absurd h.2 (by assumption))]; exact EM_place hE2))) (fun _ hM => hM)
        · skip
          have hfb : ((everyF (facF (chT s) 1) (chT s)) P).2.1 = false := by
            cases q9 : ((everyF (facF (chT s) 1) (chT s)) P).2.1
            · rfl
            · exact absurd q9 (by assumption)
          refine v_iconst hG dX6_readEither_16 ?_
          have e21 : @Eq Int (bi ((someF (facF (chT s) 1) (chT s) pp).2.1 = true)) (0) := by have hst : (someF (facF (chT s) 1) (chT s) pp) = nxF (everyF (facF (chT s) 1) (chT s)) (-3) t L P := ‹(someF (facF (chT s) 1) (chT s) pp) = evL (everyF (facF (chT s) 1) (chT s)) (chT s) 124 (-3) F (nxF (everyF (facF (chT s) 1) (chT s)) (-3) t L P)›.trans (evL_stop (Or.inl hfb)); rw [hst, bi_neg (show ¬ (nxF (everyF (facF (chT s) 1) (chT s)) (-3) t L P).2.1 = true from fun h => by rw [show (nxF (everyF (facF (chT s) 1) (chT s)) (-3) t L P).2.1 = false from hfb] at h; exact Bool.noConfusion h)]
          exact v_zreturn hG hR dX6_readEither_17 (Or.inl rfl) (u11.1, u11.2) (congrArg (fun z => some (vI z)) e21) (by rw [show (someF (facF (chT s) 1) (chT s) pp) = nxF (everyF (facF (chT s) 1) (chT s)) (-3) t L P from ‹(someF (facF (chT s) 1) (chT s) pp) = evL (everyF (facF (chT s) 1) (chT s)) (chT s) 124 (-3) F (nxF (everyF (facF (chT s) 1) (chT s)) (-3) t L P)›.trans (evL_stop (Or.inl hfb))]; exact EM_failc hE0 hE1 rfl hfb) (fun _ hM => hM)
  exact L4 _ 1 101 pp ([]) (by omega) (by rw [nx_1]; rfl) (by show 0 + pp ≤ pp ∧ (1 < 1 → 0 + pp + 1 ≤ pp) ∧ (pp : Int) ≤ s 48; omega) rfl _ (by rfl) _ (by trivial) _ (by exact EM_0 h3 (by omega))
set_option maxHeartbeats 4000000 in
set_option maxRecDepth 100000 in
theorem kc6_readOne2 (l : Launch) (D : Dx) (A : Nat → Prop) (ad : Nat → Nat) (K : Int → Int) (S Q qa : Nat → Int → Int) (tp : Nat → Nat) (s q w0 w1 w2 w3 bo e uc lr nx : Int → Int) (p : Nat) (hp : p < 6) (pp : Nat) (hq2 : q 2 = s 48) (h3 : q 3 = (pp : Int)) (hTS : TS s) (hpn : (pp : Int) ≤ s 48) (htp : tp p = kC ad 0 0) (hkp : 0 ≤ q 1 ∧ q 1 ≤ (pp : Int)) : CT l D A yX6_readOne cX6_readOne 5 (some .boolean) { frames := 11, cells := 0, slots := 0, locals := 249 } [.ref (kP ad p), vI 3] (CW D A ad K (uS S 0 s) (uS Q p q) (q4 qa p w0 w1 w2 w3) tp bo e uc lr nx) (fun u : (Int → Int) × (Int → Int) => some (vI (bi ((facF (chT s) 2 pp).2.1 = true)))) (fun u => EM q w3 (facF (chT s) 2 pp) u.1 u.2) (fun u => CW D A ad K (uS S 0 s) (uS Q p u.1) (q4 qa p w0 w1 w2 u.2) tp bo e uc lr nx) := by
  refine ct_of (lo0 := [(0, .ref (kP ad p)), (1, vI 3)]) (by decide) (Nat.le_of_ble_eq_true rfl) rfl ?_
  intro G hG hR
  have hT1 := hTS.1
  have hCE := chT_CE hTS
  have hz1 := zix_b (i := 1) (by decide) (chT s pp)
  have hz2 := zix_b (i := 2) (by decide) (chT s (pp + 1))
  have hfr := figF_rng (ok := true) hCE (p := pp + 2)
  refine v_iload_n hG dX6_readOne_0 rfl 1 rfl ?_
  refine v_iconst hG dX6_readOne_1 ?_
  refine v_icmp_ge (tgt := 63) hG dX6_readOne_2 (by decide) (by omega) (by omega) (fun c1 => ?_) (fun c1 => ?_)
  · skip
    exfalso; omega
  · skip
    refine v_aload_n hG dX6_readOne_5 rfl 0 rfl ?_
    refine v_bipush hG dX6_readOne_6 (by decide) ?_
    refine v_callV (k1' := 0) (k2' := 0) hG dX6_readOne_8 zc_X6_skip ⟨zl_X6_56, zi_X6_skip, zs_X6_skip⟩ (fun l => kc6_skip l D A ad K S Q qa tp s q w0 w1 w2 w3 bo e uc lr nx p hp pp 33 (by first | assumption | (rw [sU_ne (by omega)]; assumption) | (simp only [sU_at]; (repeat' split) <;> first | assumption | (exfalso; omega))) (by first | exact sU_eq | assumption) (by assumption) (by omega) (by assumption) (by omega)) rfl (cR6 hp) (fun _ h => h) ⟨by decide, by decide⟩ rfl rfl ⟨by decide, by decide⟩ (rest := []) rfl (Nat.le_of_ble_eq_true rfl) (fun u2 => [vI (bi (chT s pp = 33))]) (fun _ => rfl) (fun u2 hu2 => ?_)
    refine v_ifb_eq (p := chT s pp = 33) (tgt := 29) hG dX6_readOne_11 (by decide) (fun c3 => ?_) (fun c3 => ?_)
    · skip
      rw [mst_n (show ¬ chT s pp = 33 by assumption), ← sU_at3 h3]
      refine v_aload_n hG dX6_readOne_29 rfl 0 rfl ?_
      refine v_bipush hG dX6_readOne_30 (by decide) ?_
      refine v_callV (k1' := 0) (k2' := 0) hG dX6_readOne_32 zc_X6_skip ⟨zl_X6_56, zi_X6_skip, zs_X6_skip⟩ (fun l => kc6_skip l D A ad K S Q qa tp s q w0 w1 w2 w3 bo e uc lr nx p hp pp 40 (by first | assumption | (rw [sU_ne (by omega)]; assumption) | (simp only [sU_at]; (repeat' split) <;> first | assumption | (exfalso; omega))) (by first | exact sU_eq | assumption) (by assumption) (by omega) (by assumption) (by omega)) rfl (cR6 hp) (fun _ h => h) ⟨by decide, by decide⟩ rfl rfl ⟨by decide, by decide⟩ (rest := []) rfl (Nat.le_of_ble_eq_true rfl) (fun u4 => [vI (bi (chT s pp = 40))]) (fun _ => rfl) (fun u4 hu4 => ?_)
      refine v_ifb_eq (p := chT s pp = 40) (tgt := 63) hG dX6_readOne_35 (by decide) (fun c5 => ?_) (fun c5 => ?_)
      · skip
        rw [mst_n (show ¬ chT s pp = 40 by assumption), ← sU_at3 h3]
        refine v_aload_n hG dX6_readOne_63 rfl 0 rfl ?_
        refine v_ldcS (i := 1) (tx := "mkdxtv") hG dX6_readOne_64 (by decide) ?_
        refine v_callV (k1' := 0) (k2' := 0) hG dX6_readOne_66 zc_X6_readOneOf ⟨zl_X6_97, zi_X6_readOneOf, zs_X6_readOneOf⟩ (fun l => kc6_readOneOf l D A ad K S Q qa tp s q w0 w1 w2 w3 bo e uc lr nx p hp pp 1 (by first | assumption | (rw [sU_ne (by omega)]; assumption) | (simp only [sU_at]; (repeat' split) <;> first | assumption | (exfalso; omega))) (by first | exact sU_eq | assumption) (by assumption) (by omega) (by assumption) (by first | assumption | decide)) rfl (cR6 hp) (fun _ h => h) ⟨by decide, by decide⟩ rfl rfl ⟨by decide, by decide⟩ (rest := []) rfl (Nat.le_of_ble_eq_true rfl) (fun u6 => [vI (zix 1 (chT s pp))]) (fun _ => rfl) (fun u6 hu6 => ?_)
        have fu6 : -1 ≤ zix 1 (chT s pp) ∧ zix 1 (chT s pp) ≤ 16 := hu6
        refine v_istore_n (lo' := [(2, vI (zix 1 (chT s pp))), (0, .ref (kP ad p)), (1, vI 3)]) hG dX6_readOne_69 rfl (by decide) rfl ?_
        refine v_iload_n hG dX6_readOne_70 rfl 0 rfl ?_
        refine v_if_ge (tgt := 78) hG dX6_readOne_71 (by decide) (by omega) (fun c7 => ?_) (fun c7 => ?_)
        · skip
          rw [show ((if zix 1 (chT s pp) = -1 then pp else pp + 1 : Nat) : Int) = ((pp + 1 : Nat) : Int) from by rw [if_neg (by omega)]]
          have hlt1 : pp < (s 48).toNat := hCE.lt (fun e => by
              have h9 : zix 1 (chT s pp) = -1 := (by rw [e]; exact zix_end (by decide))
              omega)
          refine v_aload_n hG dX6_readOne_78 rfl 1 rfl ?_
          refine v_ldcS (i := 2) (tx := "<=>") hG dX6_readOne_79 (by decide) ?_
          refine v_callV (k1' := 0) (k2' := 0) hG dX6_readOne_81 zc_X6_readOneOf ⟨zl_X6_97, zi_X6_readOneOf, zs_X6_readOneOf⟩ (fun l => kc6_readOneOf l D A ad K S Q qa tp s (sU q 3 ((pp + 1 : Nat) : Int)) w0 w1 w2 w3 bo e uc lr nx p hp (pp + 1) 2 (by first | assumption | (rw [sU_ne (by omega)]; assumption) | (simp only [sU_at]; (repeat' split) <;> first | assumption | (exfalso; omega))) (by exact sU_eq) (by assumption) (by omega) (by assumption) (by first | assumption | decide)) rfl (cR6 hp) (fun _ h => h) ⟨by decide, by decide⟩ rfl rfl ⟨by decide, by decide⟩ (rest := []) rfl (Nat.le_of_ble_eq_true rfl) (fun u8 => [vI (zix 2 (chT s (pp + 1)))]) (fun _ => rfl) (fun u8 hu8 => ?_)
          have fu8 : -1 ≤ zix 2 (chT s (pp + 1)) ∧ zix 2 (chT s (pp + 1)) ≤ 16 := hu8
          rw [sU_sU]
          refine v_istore_n (lo' := [(3, vI (zix 2 (chT s (pp + 1)))), (2, vI (zix 1 (chT s pp))), (0, .ref (kP ad p)), (1, vI 3)]) hG dX6_readOne_84 rfl (by decide) rfl ?_
          refine v_iload_n hG dX6_readOne_85 rfl 0 rfl ?_
          refine v_if_ge (tgt := 93) hG dX6_readOne_86 (by decide) (by omega) (fun c9 => ?_) (fun c9 => ?_)
          · skip
            rw [show ((if zix 2 (chT s (pp + 1)) = -1 then pp + 1 else pp + 1 + 1 : Nat) : Int) = ((pp + 2 : Nat) : Int) from by rw [if_neg (by omega)]]
            have hlt2 : pp + 1 < (s 48).toNat := hCE.lt (fun e => by
                have h9 : zix 2 (chT s (pp + 1)) = -1 := (by rw [e]; exact zix_end (by decide))
                omega)
            have hf2 := hfr (by omega)
            refine v_aload_n hG dX6_readOne_93 rfl 2 rfl ?_
            refine v_callV (k1' := 0) (k2' := 0) hG dX6_readOne_94 zc_X6_readNumber ⟨zl_X6_64, zi_X6_readNumber, zs_X6_readNumber⟩ (fun l => kc6_readNumber l D A ad K S Q qa tp s (sU q 3 ((pp + 2 : Nat) : Int)) w0 w1 w2 w3 bo e uc lr nx p hp (pp + 2) (by first | assumption | (rw [sU_ne (by omega)]; assumption) | (simp only [sU_at]; (repeat' split) <;> first | assumption | (exfalso; omega))) (by exact sU_eq) (by assumption) (by omega) (by assumption)) rfl (cR6 hp) (fun _ h => h) ⟨by decide, by decide⟩ rfl rfl ⟨by decide, by decide⟩ (rest := []) rfl (Nat.le_of_ble_eq_true rfl) (fun u10 => [vI (if (figF (chT s) ((pp + 2), true)).1.2 = true then (figF (chT s) ((pp + 2), true)).2 else -1)]) (fun _ => rfl) (fun u10 hu10 => ?_)
            rw [sU_sU]
            refine v_istore (lo' := [(4, vI (if (figF (chT s) ((pp + 2), true)).1.2 = true then (figF (chT s) ((pp + 2), true)).2 else -1)), (3, vI (zix 2 (chT s (pp + 1)))), (2, vI (zix 1 (chT s pp))), (0, .ref (kP ad p)), (1, vI 3)]) hG dX6_readOne_97 (by decide) rfl ?_
            refine v_iload hG dX6_readOne_99 0 rfl ?_
            refine v_if_ge (tgt := 106) hG dX6_readOne_101 (by decide) (by omega) (fun c11 => ?_) (fun c11 => ?_)
            · skip
              have hft : (figF (chT s) (pp + 2, true)).1.2 = true := by
                apply Decidable.byContradiction
                intro q9
                have e9 : (if (figF (chT s) (pp + 2, true)).1.2 = true then (figF (chT s) (pp + 2, true)).2 else (-1 : Int)) = -1 := if_neg q9
                omega
              refine v_aload_n hG dX6_readOne_106 rfl 3 rfl ?_
              refine v_iload_n hG dX6_readOne_107 rfl 2 rfl ?_
              refine v_iconst hG dX6_readOne_108 ?_
              refine v_imul hG dX6_readOne_109 ?_
              refine v_iload_n hG dX6_readOne_110 rfl 1 rfl ?_
              refine v_iadd hG dX6_readOne_111 ?_
              refine v_bipush hG dX6_readOne_112 (by decide) ?_
              refine v_imul hG dX6_readOne_114 ?_
              refine v_iload hG dX6_readOne_115 0 rfl ?_
              refine v_iadd hG dX6_readOne_117 ?_
              refine v_callV (k1' := 0) (k2' := 0) hG dX6_readOne_118 zc_X6_keep ⟨zl_X6_88, zi_X6_keep, zs_X6_keep⟩ (fun l => kc6_keepG l D A ad K S Q qa tp s (sU q 3 (((figF (chT s) (pp + 2, true)).1.1 : Nat) : Int)) w0 w1 w2 w3 bo e uc lr nx p hp (((((zix 1 (chT s pp)) * 3) + (zix 2 (chT s (pp + 1)))) * 100) + (if (figF (chT s) ((pp + 2), true)).1.2 = true then (figF (chT s) ((pp + 2), true)).2 else -1)) (by rw [sU_ne (by omega)]; omega)) rfl (cR6 hp) (fun _ h => h) ⟨by decide, by decide⟩ rfl rfl ⟨by decide, by decide⟩ (rest := []) rfl (Nat.le_of_ble_eq_true rfl) (fun u12 => []) (fun _ => rfl) (fun u12 hu12 => ?_)
              have fu12 : KP (sU q 3 (((figF (chT s) (pp + 2, true)).1.1 : Nat) : Int)) w3 (((((zix 1 (chT s pp)) * 3) + (zix 2 (chT s (pp + 1)))) * 100) + (if (figF (chT s) ((pp + 2), true)).1.2 = true then (figF (chT s) ((pp + 2), true)).2 else -1)) u12.1 u12.2 := hu12
              have hKP := fu12
              refine v_iconst hG dX6_readOne_121 ?_
              have e13 : @Eq Int (bi ((facF (chT s) 2 pp).2.1 = true)) (1) := by have hx : (facF (chT s) 2 pp).2.1 = true := (by rw [fac_als (by assumption) (by assumption), atom_3 (by omega) (by omega)]; exact hft); rw [bi_pos hx]
              exact v_zreturn hG hR dX6_readOne_122 (Or.inr rfl) (u12.1, u12.2) (congrArg (fun z => some (vI z)) e13) (by rw [fac_als (by assumption) (by assumption)]; exact EM_atom (by omega) (by omega) hft (by rw [if_pos hft]) (fun k h => sU_ne h) sU_eq (by omega) hKP) (fun _ hM => hM)
            · skip
              have hfn : (figF (chT s) (pp + 2, true)).1.2 = false := by
                cases q9 : (figF (chT s) (pp + 2, true)).1.2
                · rfl
                · have e9 : (if (figF (chT s) (pp + 2, true)).1.2 = true then (figF (chT s) (pp + 2, true)).2 else (-1 : Int)) = (figF (chT s) (pp + 2, true)).2 := if_pos q9
                  omega
              refine v_iconst hG dX6_readOne_104 ?_
              have e14 : @Eq Int (bi ((facF (chT s) 2 pp).2.1 = true)) (0) := by first | (have hx : ¬ (facF (chT s) 2 pp).2.1 = true := (by rw [fac_als (by assumption) (by assumption), atom_3 (by omega) (by omega), hfn]; exact Bool.false_ne_true); rw [bi_neg hx]; done) | (have hx : ¬ (facF (chT s) 2 pp).2.1 = true := (by rw [fac_als (by assumption) (by assumption), atom_1 (by omega)]; exact Bool.false_ne_true); rw [bi_neg hx]; done) | (have hx : ¬ (facF (chT s) 2 pp).2.1 = true := (by rw [fac_als (by assumption) (by assumption), atom_2 (by omega) (by omega)]; exact Bool.false_ne_true); rw [bi_neg hx]; done)
              exact v_zreturn hG hR dX6_readOne_105 (Or.inl rfl) (sU q 3 (((figF (chT s) (pp + 2, true)).1.1 : Nat) : Int), w3) (congrArg (fun z => some (vI z)) e14) (by first | (rw [fac_als (by assumption) (by assumption), atom_3 (by omega) (by omega)]; exact EM_fail3 rfl (by omega) hfn) | (rw [fac_als (by assumption) (by assumption), atom_1 (by omega)]; exact EM_fail3 rfl (by omega) rfl) | (rw [fac_als (by assumption) (by assumption), atom_2 (by omega) (by omega)]; exact EM_fail3 rfl (by omega) rfl)) (fun _ hM => hM)
          · skip
            rw [show ((if zix 2 (chT s (pp + 1)) = -1 then pp + 1 else pp + 1 + 1 : Nat) : Int) = ((pp + 1 : Nat) : Int) from by rw [if_pos (by omega)]]
            refine v_iconst hG dX6_readOne_89 ?_
            refine v_goto (tgt := 97) hG dX6_readOne_90 (by decide) ?_
            refine v_istore (lo' := [(4, vI (-1)), (3, vI (zix 2 (chT s (pp + 1)))), (2, vI (zix 1 (chT s pp))), (0, .ref (kP ad p)), (1, vI 3)]) hG dX6_readOne_97 (by decide) rfl ?_
            refine v_iload hG dX6_readOne_99 0 rfl ?_
            refine v_if_ge (tgt := 106) hG dX6_readOne_101 (by decide) (by omega) (fun c15 => ?_) (fun c15 => ?_)
            · skip
              exfalso; omega
            · skip
              refine v_iconst hG dX6_readOne_104 ?_
              have e16 : @Eq Int (bi ((facF (chT s) 2 pp).2.1 = true)) (0) := by first | (have hx : ¬ (facF (chT s) 2 pp).2.1 = true := (by rw [fac_als (by assumption) (by assumption), atom_3 (by omega) (by omega), hfn]; exact Bool.false_ne_true); rw [bi_neg hx]; done) | (have hx : ¬ (facF (chT s) 2 pp).2.1 = true := (by rw [fac_als (by assumption) (by assumption), atom_1 (by omega)]; exact Bool.false_ne_true); rw [bi_neg hx]; done) | (have hx : ¬ (facF (chT s) 2 pp).2.1 = true := (by rw [fac_als (by assumption) (by assumption), atom_2 (by omega) (by omega)]; exact Bool.false_ne_true); rw [bi_neg hx]; done)
              exact v_zreturn hG hR dX6_readOne_105 (Or.inl rfl) (sU q 3 ((pp + 1 : Nat) : Int), w3) (congrArg (fun z => some (vI z)) e16) (by first | (rw [fac_als (by assumption) (by assumption), atom_3 (by omega) (by omega)]; exact EM_fail3 rfl (by omega) hfn) | (rw [fac_als (by assumption) (by assumption), atom_1 (by omega)]; exact EM_fail3 rfl (by omega) rfl) | (rw [fac_als (by assumption) (by assumption), atom_2 (by omega) (by omega)]; exact EM_fail3 rfl (by omega) rfl)) (fun _ hM => hM)
        · skip
          rw [show ((if zix 1 (chT s pp) = -1 then pp else pp + 1 : Nat) : Int) = ((pp : Nat) : Int) from by rw [if_pos (by omega)]]
          refine v_iconst hG dX6_readOne_74 ?_
          refine v_goto (tgt := 84) hG dX6_readOne_75 (by decide) ?_
          refine v_istore_n (lo' := [(3, vI (-1)), (2, vI (zix 1 (chT s pp))), (0, .ref (kP ad p)), (1, vI 3)]) hG dX6_readOne_84 rfl (by decide) rfl ?_
          refine v_iload_n hG dX6_readOne_85 rfl 0 rfl ?_
          refine v_if_ge (tgt := 93) hG dX6_readOne_86 (by decide) (by omega) (fun c17 => ?_) (fun c17 => ?_)
          · skip
            exfalso; omega
          · skip
            refine v_iconst hG dX6_readOne_89 ?_
            refine v_goto (tgt := 97) hG dX6_readOne_90 (by decide) ?_
            refine v_istore (lo' := [(4, vI (-1)), (3, vI (-1)), (2, vI (zix 1 (chT s pp))), (0, .ref (kP ad p)), (1, vI 3)]) hG dX6_readOne_97 (by decide) rfl ?_
            refine v_iload hG dX6_readOne_99 0 rfl ?_
            refine v_if_ge (tgt := 106) hG dX6_readOne_101 (by decide) (by omega) (fun c18 => ?_) (fun c18 => ?_)
            · skip
              exfalso; omega
            · skip
              refine v_iconst hG dX6_readOne_104 ?_
              have e19 : @Eq Int (bi ((facF (chT s) 2 pp).2.1 = true)) (0) := by first | (have hx : ¬ (facF (chT s) 2 pp).2.1 = true := (by rw [fac_als (by assumption) (by assumption), atom_3 (by omega) (by omega), hfn]; exact Bool.false_ne_true); rw [bi_neg hx]; done) | (have hx : ¬ (facF (chT s) 2 pp).2.1 = true := (by rw [fac_als (by assumption) (by assumption), atom_1 (by omega)]; exact Bool.false_ne_true); rw [bi_neg hx]; done) | (have hx : ¬ (facF (chT s) 2 pp).2.1 = true := (by rw [fac_als (by assumption) (by assumption), atom_2 (by omega) (by omega)]; exact Bool.false_ne_true); rw [bi_neg hx]; done)
              exact v_zreturn hG hR dX6_readOne_105 (Or.inl rfl) (sU q 3 ((pp : Nat) : Int), w3) (congrArg (fun z => some (vI z)) e19) (by first | (rw [fac_als (by assumption) (by assumption), atom_3 (by omega) (by omega)]; exact EM_fail3 rfl (by omega) hfn) | (rw [fac_als (by assumption) (by assumption), atom_1 (by omega)]; exact EM_fail3 rfl (by omega) rfl) | (rw [fac_als (by assumption) (by assumption), atom_2 (by omega) (by omega)]; exact EM_fail3 rfl (by omega) rfl)) (fun _ hM => hM)
      · skip
        rw [mst_y (show chT s pp = 40 by assumption)]
        have hlt1 : pp < (s 48).toNat := hCE.lt (fun e => absurd (e.symm.trans (show chT s pp = 40 by assumption)) (by decide))
        refine v_aload_n hG dX6_readOne_38 rfl 0 rfl ?_
        refine v_iload_n hG dX6_readOne_39 rfl 1 rfl ?_
        refine v_iconst hG dX6_readOne_40 ?_
        refine v_iadd hG dX6_readOne_41 ?_
        rw [show (3 : Int) + 1 = 4 from rfl]
        refine v_callV (k1' := 0) (k2' := 0) hG dX6_readOne_42 zc_X6_readEither ⟨zl_X6_70, zi_X6_readEither, zs_X6_readEither⟩ (fun l => kc6_readEither1 l D A ad K S Q qa tp s (sU q 3 ((pp + 1 : Nat) : Int)) w0 w1 w2 w3 bo e uc lr nx p hp (pp + 1) (by first | assumption | (rw [sU_ne (by omega)]; assumption) | (simp only [sU_at]; (repeat' split) <;> first | assumption | (exfalso; omega))) (by exact sU_eq) (by assumption) (by omega) (by assumption) (by first | assumption | (rw [sU_ne (by omega)]; omega) | omega)) rfl (cR6 hp) (fun _ h => h) ⟨by decide, by decide⟩ rfl rfl ⟨by decide, by decide⟩ (rest := []) rfl (Nat.le_of_ble_eq_true rfl) (fun u20 => [vI (bi ((someF (facF (chT s) 1) (chT s) (pp + 1)).2.1 = true))]) (fun _ => rfl) (fun u20 hu20 => ?_)
        have fu20 : EM (sU q 3 ((pp + 1 : Nat) : Int)) w3 (someF (facF (chT s) 1) (chT s) (pp + 1)) u20.1 u20.2 := hu20
        have hE1 := EM_in h3 (by omega) fu20
        refine v_ifb_eq (p := (someF (facF (chT s) 1) (chT s) (pp + 1)).2.1 = true) (tgt := 61) hG dX6_readOne_45 (by decide) (fun c21 => ?_) (fun c21 => ?_)
        · skip
          refine v_iconst hG dX6_readOne_61 ?_
          have e22 : @Eq Int (bi ((facF (chT s) 2 pp).2.1 = true)) (0) := by first | (have hx : (facF (chT s) 2 pp).2.1 = true := (by rw [fac_pC (show chT s pp = 40 by assumption) hxk (by assumption)]); rw [bi_pos hx]; done) | (have hx : ¬ (facF (chT s) 2 pp).2.1 = true := (by rw [fac_pB (show chT s pp = 40 by assumption) (by assumption)]; exact Bool.false_ne_true); rw [bi_neg hx]; done) | (have hx : ¬ (facF (chT s) 2 pp).2.1 = true := (by rw [fac_pA (show chT s pp = 40 by assumption) (Bool.eq_false_iff.mpr (by assumption))]; exact Bool.false_ne_true); rw [bi_neg hx]; done)
          exact v_zreturn hG hR dX6_readOne_62 (Or.inl rfl) (u20.1, u20.2) (congrArg (fun z => some (vI z)) e22) (by first | (rw [fac_pC (show chT s pp = 40 by assumption) hxk (by assumption), mst_y (show chT s (someF (facF (chT s) 1) (chT s) (pp + 1)).1 = 41 by assumption)]; exact EM_place (EM_t hE1 hxk)) | (rw [fac_pB (show chT s pp = 40 by assumption) (by assumption)]; exact EM_failp hE1 (mst_n (show ¬ chT s (someF (facF (chT s) 1) (chT s) (pp + 1)).1 = 41 by assumption)) rfl) | (rw [fac_pA (show chT s pp = 40 by assumption) (Bool.eq_false_iff.mpr (by assumption))]; exact EM_fail hE1.1 hE1.2.1 hE1.2.2.1 rfl)) (fun _ hM => hM)
        · skip
          have hxk : (someF (facF (chT s) 1) (chT s) (pp + 1)).2.1 = true := by assumption
          obtain ⟨hs1, hs2, hs3⟩ := someF_rng hCE (fun x hx => facF_rng hCE 1 x hx) (p := pp + 1) (by omega)
          refine v_aload_n hG dX6_readOne_48 rfl 0 rfl ?_
          refine v_bipush hG dX6_readOne_49 (by decide) ?_
          refine v_callV (k1' := 0) (k2' := 0) hG dX6_readOne_51 zc_X6_skip ⟨zl_X6_56, zi_X6_skip, zs_X6_skip⟩ (fun l => kc6_skip l D A ad K S Q qa tp s u20.1 w0 w1 w2 u20.2 bo e uc lr nx p hp ((someF (facF (chT s) 1) (chT s) (pp + 1)).1) 41 (by exact (hE1.1 2 (by decide) (by decide)).trans hq2) (by exact hE1.2.1) (by assumption) (by omega) (by assumption) (by omega)) rfl (cR6 hp) (fun _ h => h) ⟨by decide, by decide⟩ rfl rfl ⟨by decide, by decide⟩ (rest := []) rfl (Nat.le_of_ble_eq_true rfl) (fun u23 => [vI (bi (chT s ((someF (facF (chT s) 1) (chT s) (pp + 1)).1) = 41))]) (fun _ => rfl) (fun u23 hu23 => ?_)
          refine v_ifb_eq (p := chT s ((someF (facF (chT s) 1) (chT s) (pp + 1)).1) = 41) (tgt := 61) hG dX6_readOne_54 (by decide) (fun c24 => ?_) (fun c24 => ?_)
          · skip
            refine v_iconst hG dX6_readOne_61 ?_
            have e25 : @Eq Int (bi ((facF (chT s) 2 pp).2.1 = true)) (0) := by first | (have hx : (facF (chT s) 2 pp).2.1 = true := (by rw [fac_pC (show chT s pp = 40 by assumption) hxk (by assumption)]); rw [bi_pos hx]; done) | (have hx : ¬ (facF (chT s) 2 pp).2.1 = true := (by rw [fac_pB (show chT s pp = 40 by assumption) (by assumption)]; exact Bool.false_ne_true); rw [bi_neg hx]; done) | (have hx : ¬ (facF (chT s) 2 pp).2.1 = true := (by rw [fac_pA (show chT s pp = 40 by assumption) (Bool.eq_false_iff.mpr (by assumption))]; exact Bool.false_ne_true); rw [bi_neg hx]; done)
            exact v_zreturn hG hR dX6_readOne_62 (Or.inl rfl) (sU u20.1 3 ((mustF (chT s) 41 (((someF (facF (chT s) 1) (chT s) (pp + 1)).1), true)).1 : Nat), u20.2) (congrArg (fun z => some (vI z)) e25) (by first | (rw [fac_pC (show chT s pp = 40 by assumption) hxk (by assumption), mst_y (show chT s (someF (facF (chT s) 1) (chT s) (pp + 1)).1 = 41 by assumption)]; exact EM_place (EM_t hE1 hxk)) | (rw [fac_pB (show chT s pp = 40 by assumption) (by assumption)]; exact EM_failp hE1 (mst_n (show ¬ chT s (someF (facF (chT s) 1) (chT s) (pp + 1)).1 = 41 by assumption)) rfl) | (rw [fac_pA (show chT s pp = 40 by assumption) (Bool.eq_false_iff.mpr (by assumption))]; exact EM_fail hE1.1 hE1.2.1 hE1.2.2.1 rfl)) (fun _ hM => hM)
          · skip
            refine v_iconst hG dX6_readOne_57 ?_
            refine v_goto (tgt := 62) hG dX6_readOne_58 (by decide) ?_
            have e26 : @Eq Int (bi ((facF (chT s) 2 pp).2.1 = true)) (1) := by first | (have hx : (facF (chT s) 2 pp).2.1 = true := (by rw [fac_pC (show chT s pp = 40 by assumption) hxk (by assumption)]); rw [bi_pos hx]; done) | (have hx : ¬ (facF (chT s) 2 pp).2.1 = true := (by rw [fac_pB (show chT s pp = 40 by assumption) (by assumption)]; exact Bool.false_ne_true); rw [bi_neg hx]; done) | (have hx : ¬ (facF (chT s) 2 pp).2.1 = true := (by rw [fac_pA (show chT s pp = 40 by assumption) (Bool.eq_false_iff.mpr (by assumption))]; exact Bool.false_ne_true); rw [bi_neg hx]; done)
            exact v_zreturn hG hR dX6_readOne_62 (Or.inr rfl) (sU u20.1 3 ((mustF (chT s) 41 (((someF (facF (chT s) 1) (chT s) (pp + 1)).1), true)).1 : Nat), u20.2) (congrArg (fun z => some (vI z)) e26) (by first | (rw [fac_pC (show chT s pp = 40 by assumption) hxk (by assumption), mst_y (show chT s (someF (facF (chT s) 1) (chT s) (pp + 1)).1 = 41 by assumption)]; exact EM_place (EM_t hE1 hxk)) | (rw [fac_pB (show chT s pp = 40 by assumption) (by assumption)]; exact EM_failp hE1 (mst_n (show ¬ chT s (someF (facF (chT s) 1) (chT s) (pp + 1)).1 = 41 by assumption)) rfl) | (rw [fac_pA (show chT s pp = 40 by assumption) (Bool.eq_false_iff.mpr (by assumption))]; exact EM_fail hE1.1 hE1.2.1 hE1.2.2.1 rfl)) (fun _ hM => hM)
    · skip
      rw [mst_y (show chT s pp = 33 by assumption)]
      have hlt1 : pp < (s 48).toNat := hCE.lt (fun e => absurd (e.symm.trans (show chT s pp = 33 by assumption)) (by decide))
      refine v_aload_n hG dX6_readOne_14 rfl 0 rfl ?_
      refine v_iload_n hG dX6_readOne_15 rfl 1 rfl ?_
      refine v_iconst hG dX6_readOne_16 ?_
      refine v_iadd hG dX6_readOne_17 ?_
      rw [show (3 : Int) + 1 = 4 from rfl]
      refine v_callV (k1' := 0) (k2' := 0) hG dX6_readOne_18 zc_X6_readOne ⟨zl_X6_92, zi_X6_readOne, zs_X6_readOne⟩ (fun l => kc6_readOne1 l D A ad K S Q qa tp s (sU q 3 ((pp + 1 : Nat) : Int)) w0 w1 w2 w3 bo e uc lr nx p hp (pp + 1) (by first | assumption | (rw [sU_ne (by omega)]; assumption) | (simp only [sU_at]; (repeat' split) <;> first | assumption | (exfalso; omega))) (by exact sU_eq) (by assumption) (by omega) (by assumption) (by first | assumption | (rw [sU_ne (by omega)]; omega) | omega)) rfl (cR6 hp) (fun _ h => h) ⟨by decide, by decide⟩ rfl rfl ⟨by decide, by decide⟩ (rest := []) rfl (Nat.le_of_ble_eq_true rfl) (fun u27 => [vI (bi ((facF (chT s) 1 (pp + 1)).2.1 = true))]) (fun _ => rfl) (fun u27 hu27 => ?_)
      have fu27 : EM (sU q 3 ((pp + 1 : Nat) : Int)) w3 (facF (chT s) 1 (pp + 1)) u27.1 u27.2 := hu27
      have hE1 := EM_in h3 (by omega) fu27
      refine v_istore_n (lo' := [(2, vI (bi ((facF (chT s) 1 (pp + 1)).2.1 = true))), (0, .ref (kP ad p)), (1, vI 3)]) hG dX6_readOne_21 rfl (by decide) rfl ?_
      refine v_aload_n hG dX6_readOne_22 rfl 1 rfl ?_
      refine v_iconst hG dX6_readOne_23 ?_
      refine v_callV (k1' := 0) (k2' := 0) hG dX6_readOne_24 zc_X6_keep ⟨zl_X6_88, zi_X6_keep, zs_X6_keep⟩ (fun l => kc6_keepG l D A ad K S Q qa tp s u27.1 w0 w1 w2 u27.2 bo e uc lr nx p hp (-1) (by exact hE1.2.2.1)) rfl (cR6 hp) (fun _ h => h) ⟨by decide, by decide⟩ rfl rfl ⟨by decide, by decide⟩ (rest := []) rfl (Nat.le_of_ble_eq_true rfl) (fun u28 => []) (fun _ => rfl) (fun u28 hu28 => ?_)
      have fu28 : KP u27.1 u27.2 (-1) u28.1 u28.2 := hu28
      have hKP := fu28
      refine v_iload_n hG dX6_readOne_27 rfl 0 rfl ?_
      have e29 : @Eq Int (bi ((facF (chT s) 2 pp).2.1 = true)) (bi ((facF (chT s) 1 (pp + 1)).2.1 = true)) := by rw [fac_not (show chT s pp = 33 by assumption)]
      exact v_zreturn hG hR dX6_readOne_28 (bi_01 _) (u28.1, u28.2) (congrArg (fun z => some (vI z)) e29) (by rw [fac_not (show chT s pp = 33 by assumption)]; exact EM_not hE1 hKP hkp.1 (fun h => EM_lt hE1 h (facF_rng hCE 1 (pp + 1) (by omega)) (by omega) (by omega))) (fun _ hM => hM)
set_option maxHeartbeats 4000000 in
set_option maxRecDepth 100000 in
theorem kc6_readBoth2 (l : Launch) (D : Dx) (A : Nat → Prop) (ad : Nat → Nat) (K : Int → Int) (S Q qa : Nat → Int → Int) (tp : Nat → Nat) (s q w0 w1 w2 w3 bo e uc lr nx : Int → Int) (p : Nat) (hp : p < 6) (pp : Nat) (hq2 : q 2 = s 48) (h3 : q 3 = (pp : Int)) (hTS : TS s) (hpn : (pp : Int) ≤ s 48) (htp : tp p = kC ad 0 0) (hkp : 0 ≤ q 1 ∧ q 1 ≤ (pp : Int)) : CT l D A yX6_readBoth cX6_readBoth 3 (some .boolean) { frames := 12, cells := 0, slots := 0, locals := 273 } [.ref (kP ad p), vI 3] (CW D A ad K (uS S 0 s) (uS Q p q) (q4 qa p w0 w1 w2 w3) tp bo e uc lr nx) (fun u : (Int → Int) × (Int → Int) => some (vI (bi ((everyF (facF (chT s) 2) (chT s) pp).2.1 = true)))) (fun u => EM q w3 (everyF (facF (chT s) 2) (chT s) pp) u.1 u.2) (fun u => CW D A ad K (uS S 0 s) (uS Q p u.1) (q4 qa p w0 w1 w2 u.2) tp bo e uc lr nx) := by
  refine ct_of (lo0 := [(0, .ref (kP ad p)), (1, vI 3)]) (by decide) (Nat.le_of_ble_eq_true rfl) rfl ?_
  intro G hG hR
  have hT1 := hTS.1
  have hCE := chT_CE hTS
  refine v_iconst hG dX6_readBoth_0 ?_
  refine v_istore_n (lo' := [(2, vI 1), (0, .ref (kP ad p)), (1, vI 3)]) hG dX6_readBoth_1 rfl (by decide) rfl ?_
  refine v_lo [1, 2, 0] (lo' := [(0, .ref (kP ad p)), (1, vI 3), (2, vI 1)]) rfl ?_
  have L4 : ∀ mz : Nat, ∀ (t F P : Nat) (L : List Int), (1 ≤ t ∧ t + pp ≤ P + 1 ∧ F + t = 102) → ((everyF (facF (chT s) 2) (chT s) pp) = evL (facF (chT s) 2) (chT s) 38 (-2) F (nxF (facF (chT s) 2) (-2) t L P)) → (L.length + pp ≤ P ∧ (1 < t → L.length + pp + 1 ≤ P) ∧ (P : Int) ≤ s 48) → 102 - t = mz → ∀ x1 : Int, x1 = ((t : Int)) → ∀ x2 : Int → Int, True → ∀ x3 : Int → Int, EM q w3 (P, true, L) x2 x3 → V G 0 0 (CW D A ad K (uS S 0 s) (uS Q p x2) (q4 qa p w0 w1 w2 x3) tp bo e uc lr nx) 2 [(0, .ref (kP ad p)), (1, vI 3), (2, vI x1)] [] := by
    intro dL4
    induction dL4 using Nat.strongRecOn with
    | ind dL4 ihL4 =>
      intro t F P L hq5 hq6 hq7 hq8
      intro x1 hx1
      subst hx1
      intro x2 hx2
      intro x3 hx3
      refine v_iload_n hG dX6_readBoth_2 rfl 2 rfl ?_
      refine v_bipush hG dX6_readBoth_3 (by decide) ?_
      refine v_icmp_gt (tgt := 46) hG dX6_readBoth_5 (by decide) (by omega) (by omega) (fun c9 => ?_) (fun c9 => ?_)
      · skip
        refine v_iconst hG dX6_readBoth_46 ?_
        have hE0 : EM q w3 (P, true, L) x2 x3 := by assumption
        have hpe : chT s P = -1 := (hCE P).1.mpr (by omega)
        have hfe : (facF (chT s) 2) P = (P, false, []) := fac_end hpe 2
        have hst : (everyF (facF (chT s) 2) (chT s) pp) = nxF (facF (chT s) 2) (-2) t L P := ‹(everyF (facF (chT s) 2) (chT s) pp) = evL (facF (chT s) 2) (chT s) 38 (-2) F (nxF (facF (chT s) 2) (-2) t L P)›.trans (evL_stop (Or.inl (by show ((facF (chT s) 2) P).2.1 = false; rw [hfe])))
        have hfb : (nxF (facF (chT s) 2) (-2) t L P).2.1 = false := by show ((facF (chT s) 2) P).2.1 = false; rw [hfe]
        have e10 : @Eq Int (bi ((everyF (facF (chT s) 2) (chT s) pp).2.1 = true)) (0) := by rw [hst, bi_neg (fun h => by rw [hfb] at h; exact Bool.noConfusion h)]
        exact v_zreturn hG hR dX6_readBoth_47 (Or.inl rfl) (x2, x3) (congrArg (fun z => some (vI z)) e10) (by rw [hst]; exact EM_fail hE0.1 (by show _ = ((((facF (chT s) 2) P).1 : Nat) : Int); rw [hfe]; exact hE0.2.1) hE0.2.2.1 hfb) (fun _ hM => hM)
      · skip
        have hE0 : EM q w3 (P, true, L) x2 x3 := by assumption
        have hy1 := EM_n hE0
        have hy2 := (hE0.1 2 (by decide) (by decide)).trans hq2
        have hy3 : _ = (P : Int) := hE0.2.1
        obtain ⟨hg1, hg2, hg3⟩ := facF_rng hCE 2 P (by omega)
        refine v_aload_n hG dX6_readBoth_8 rfl 0 rfl ?_
        refine v_iload_n hG dX6_readBoth_9 rfl 1 rfl ?_
        refine v_callV (k1' := 0) (k2' := 0) hG dX6_readBoth_10 zc_X6_readOne ⟨zl_X6_92, zi_X6_readOne, zs_X6_readOne⟩ (fun l => kc6_readOne2 l D A ad K S Q qa tp s x2 w0 w1 w2 x3 bo e uc lr nx p hp P (by exact hy2) (by exact hy3) (by assumption) (by omega) (by assumption) (by omega)) rfl (cR6 hp) (fun _ h => h) ⟨by decide, by decide⟩ rfl rfl ⟨by decide, by decide⟩ (rest := []) rfl (Nat.le_of_ble_eq_true rfl) (fun u11 => [vI (bi ((facF (chT s) 2 P).2.1 = true))]) (fun _ => rfl) (fun u11 hu11 => ?_)
        have fu11 : EM x2 x3 (facF (chT s) 2 P) u11.1 u11.2 := hu11
        have hE1 := fu11
        refine v_ifb_ne (p := (facF (chT s) 2 P).2.1 = true) (tgt := 18) hG dX6_readBoth_13 (by decide) (fun c12 => ?_) (fun c12 => ?_)
        · skip
          have hfk : ((facF (chT s) 2) P).2.1 = true := by assumption
          obtain ⟨hdd1, hdd2, hdd3⟩ := hE1.2.2.2 hfk
          refine v_iload_n hG dX6_readBoth_18 rfl 2 rfl ?_
          refine v_iconst hG dX6_readBoth_19 ?_
          refine v_icmp_le (tgt := 29) hG dX6_readBoth_20 (by decide) (by omega) (by omega) (fun c13 => ?_) (fun c13 => ?_)
          · skip
            have hE2 : EM q w3 (((facF (chT s) 2) P).1, true, (nxF (facF (chT s) 2) (-2) t L P).2.2) u11.1 u11.2 := by first | exact EM_nx2 hE0 hE1 hkp.1 hfk (by omega) (by decide) (by omega) (by assumption) | exact EM_nx1 hE0 hE1 hkp.1 hfk (by omega)
            have hnl := EM_n hE2
            have hnk : (nxF (facF (chT s) 2) (-2) t L P).2.1 = true := hfk
            have hn1 : (nxF (facF (chT s) 2) (-2) t L P).1 = ((facF (chT s) 2) P).1 := rfl
            have hnl9 : (nxF (facF (chT s) 2) (-2) t L P).2.2.length ≤ L.length + ((facF (chT s) 2) P).2.2.length + (if 1 < t then 1 else 0) := nx_len
            refine v_aload_n hG dX6_readBoth_29 rfl 0 rfl ?_
            refine v_bipush hG dX6_readBoth_30 (by decide) ?_
            refine v_callV (k1' := 0) (k2' := 0) hG dX6_readBoth_32 zc_X6_skip ⟨zl_X6_56, zi_X6_skip, zs_X6_skip⟩ (fun l => kc6_skip l D A ad K S Q qa tp s u11.1 w0 w1 w2 u11.2 bo e uc lr nx p hp (((facF (chT s) 2) P).1) 38 (by exact (hE2.1 2 (by decide) (by decide)).trans hq2) (by exact hE2.2.1) (by assumption) (by omega) (by assumption) (by omega)) rfl (cR6 hp) (fun _ h => h) ⟨by decide, by decide⟩ rfl rfl ⟨by decide, by decide⟩ (rest := []) rfl (Nat.le_of_ble_eq_true rfl) (fun u14 => [vI (bi (chT s (((facF (chT s) 2) P).1) = 38))]) (fun _ => rfl) (fun u14 hu14 => ?_)
            refine v_ifb_ne (p := chT s (((facF (chT s) 2) P).1) = 38) (tgt := 40) hG dX6_readBoth_35 (by decide) (fun c15 => ?_) (fun c15 => ?_)
            · skip
              skip
              refine v_iinc (lo' := [(2, vI ((t : Int) + 1)), (0, .ref (kP ad p)), (1, vI 3)]) hG dX6_readBoth_40 2 rfl (by decide) rfl ?_
              refine v_goto (tgt := 2) hG dX6_readBoth_43 (by decide) ?_
              refine v_lo [1, 2, 0] (lo' := [(0, .ref (kP ad p)), (1, vI 3), (2, vI ((t : Int) + 1))]) rfl ?_
              exact ihL4 _ (by omega) (t + 1) (F - 1) (((facF (chT s) 2) P).1 + 1) ((nxF (facF (chT s) 2) (-2) t L P).2.2) (by omega) (by show (everyF (facF (chT s) 2) (chT s) pp) = evL (facF (chT s) 2) (chT s) 38 (-2) (F - 1) (nxF (facF (chT s) 2) (-2) (t + 1) (nxF (facF (chT s) 2) (-2) t L P).2.2 ((nxF (facF (chT s) 2) (-2) t L P).1 + 1)); rw [← nx_go (r := nxF (facF (chT s) 2) (-2) t L P) (by omega)]; exact ‹(everyF (facF (chT s) 2) (chT s) pp) = evL (facF (chT s) 2) (chT s) 38 (-2) F (nxF (facF (chT s) 2) (-2) t L P)›.trans (evL_go (by omega) hnk (show chT s (nxF (facF (chT s) 2) (-2) t L P).1 = 38 from (show chT s ((facF (chT s) 2) P).1 = 38 by assumption)))) (by have hlt9 := hCE.lt (p := ((facF (chT s) 2) P).1) (fun e => absurd (e.symm.trans (show chT s ((facF (chT s) 2) P).1 = 38 by assumption)) (by decide)); split at hnl9 <;> omega) rfl _ (by omega) _ (by trivial) _ (by rw [show mustF (chT s) 38 (((facF (chT s) 2) P).1, true) = (((facF (chT s) 2) P).1 + 1, true) from if_pos ⟨rfl, by assumption⟩]; exact EM_place hE2)
            · skip
              have hst : (everyF (facF (chT s) 2) (chT s) pp) = nxF (facF (chT s) 2) (-2) t L P := ‹(everyF (facF (chT s) 2) (chT s) pp) = evL (facF (chT s) 2) (chT s) 38 (-2) F (nxF (facF (chT s) 2) (-2) t L P)›.trans (evL_stop (Or.inr (show ¬ chT s (nxF (facF (chT s) 2) (-2) t L P).1 = 38 from (show ¬ chT s ((facF (chT s) 2) P).1 = 38 by assumption))))
              refine v_iconst hG dX6_readBoth_38 ?_
              have e16 : @Eq Int (bi ((everyF (facF (chT s) 2) (chT s) pp).2.1 = true)) (1) := by rw [hst, bi_pos hnk]
              exact v_zreturn hG hR dX6_readBoth_39 (Or.inr rfl) (sU u11.1 3 ((mustF (chT s) 38 ((((facF (chT s) 2) P).1), true)).1 : Nat), u11.2) (congrArg (fun z => some (vI z)) e16) (by rw [hst]; exact (show EM q w3 (nxF (facF (chT s) 2) (-2) t L P) _ _ from (show (nxF (facF (chT s) 2) (-2) t L P) = (((facF (chT s) 2) P).1, true, (nxF (facF (chT s) 2) (-2) t L P).2.2) from Prod.ext rfl (Prod.ext hfk rfl)) ▸ (show EM q w3 (((facF (chT s) 2) P).1, true, (nxF (facF (chT s) 2) (-2) t L P).2.2) _ _ from by rw [show mustF (chT s) 38 (((facF (chT s) 2) P).1, true) = (((facF (chT s) 2) P).1, false) from if_neg (fun h => absurd h.2 (by assumption))]; exact EM_place hE2))) (fun _ hM => hM)
          · skip
            refine v_aload_n hG dX6_readBoth_23 rfl 0 rfl ?_
            refine v_bipush hG dX6_readBoth_24 (by decide) ?_
            refine v_callV (k1' := 0) (k2' := 0) hG dX6_readBoth_26 zc_X6_keep ⟨zl_X6_88, zi_X6_keep, zs_X6_keep⟩ (fun l => kc6_keepG l D A ad K S Q qa tp s u11.1 w0 w1 w2 u11.2 bo e uc lr nx p hp (-2) (by omega)) rfl (cR6 hp) (fun _ h => h) ⟨by decide, by decide⟩ rfl rfl ⟨by decide, by decide⟩ (rest := []) rfl (Nat.le_of_ble_eq_true rfl) (fun u17 => []) (fun _ => rfl) (fun u17 hu17 => ?_)
            have fu17 : KP u11.1 u11.2 (-2) u17.1 u17.2 := hu17
            have hE2 : EM q w3 (((facF (chT s) 2) P).1, true, (nxF (facF (chT s) 2) (-2) t L P).2.2) u17.1 u17.2 := by first | exact EM_nx2 hE0 hE1 hkp.1 hfk (by omega) (by decide) (by omega) (by assumption) | exact EM_nx1 hE0 hE1 hkp.1 hfk (by omega)
            have hnl := EM_n hE2
            have hnk : (nxF (facF (chT s) 2) (-2) t L P).2.1 = true := hfk
            have hn1 : (nxF (facF (chT s) 2) (-2) t L P).1 = ((facF (chT s) 2) P).1 := rfl
            have hnl9 : (nxF (facF (chT s) 2) (-2) t L P).2.2.length ≤ L.length + ((facF (chT s) 2) P).2.2.length + (if 1 < t then 1 else 0) := nx_len
            refine v_aload_n hG dX6_readBoth_29 rfl 0 rfl ?_
            refine v_bipush hG dX6_readBoth_30 (by decide) ?_
            refine v_callV (k1' := 0) (k2' := 0) hG dX6_readBoth_32 zc_X6_skip ⟨zl_X6_56, zi_X6_skip, zs_X6_skip⟩ (fun l => kc6_skip l D A ad K S Q qa tp s u17.1 w0 w1 w2 u17.2 bo e uc lr nx p hp (((facF (chT s) 2) P).1) 38 (by exact (hE2.1 2 (by decide) (by decide)).trans hq2) (by exact hE2.2.1) (by assumption) (by omega) (by assumption) (by omega)) rfl (cR6 hp) (fun _ h => h) ⟨by decide, by decide⟩ rfl rfl ⟨by decide, by decide⟩ (rest := []) rfl (Nat.le_of_ble_eq_true rfl) (fun u18 => [vI (bi (chT s (((facF (chT s) 2) P).1) = 38))]) (fun _ => rfl) (fun u18 hu18 => ?_)
            refine v_ifb_ne (p := chT s (((facF (chT s) 2) P).1) = 38) (tgt := 40) hG dX6_readBoth_35 (by decide) (fun c19 => ?_) (fun c19 => ?_)
            · skip
              skip
              refine v_iinc (lo' := [(2, vI ((t : Int) + 1)), (0, .ref (kP ad p)), (1, vI 3)]) hG dX6_readBoth_40 2 rfl (by decide) rfl ?_
              refine v_goto (tgt := 2) hG dX6_readBoth_43 (by decide) ?_
              refine v_lo [1, 2, 0] (lo' := [(0, .ref (kP ad p)), (1, vI 3), (2, vI ((t : Int) + 1))]) rfl ?_
              exact ihL4 _ (by omega) (t + 1) (F - 1) (((facF (chT s) 2) P).1 + 1) ((nxF (facF (chT s) 2) (-2) t L P).2.2) (by omega) (by show (everyF (facF (chT s) 2) (chT s) pp) = evL (facF (chT s) 2) (chT s) 38 (-2) (F - 1) (nxF (facF (chT s) 2) (-2) (t + 1) (nxF (facF (chT s) 2) (-2) t L P).2.2 ((nxF (facF (chT s) 2) (-2) t L P).1 + 1)); rw [← nx_go (r := nxF (facF (chT s) 2) (-2) t L P) (by omega)]; exact ‹(everyF (facF (chT s) 2) (chT s) pp) = evL (facF (chT s) 2) (chT s) 38 (-2) F (nxF (facF (chT s) 2) (-2) t L P)›.trans (evL_go (by omega) hnk (show chT s (nxF (facF (chT s) 2) (-2) t L P).1 = 38 from (show chT s ((facF (chT s) 2) P).1 = 38 by assumption)))) (by have hlt9 := hCE.lt (p := ((facF (chT s) 2) P).1) (fun e => absurd (e.symm.trans (show chT s ((facF (chT s) 2) P).1 = 38 by assumption)) (by decide)); split at hnl9 <;> omega) rfl _ (by omega) _ (by trivial) _ (by rw [show mustF (chT s) 38 (((facF (chT s) 2) P).1, true) = (((facF (chT s) 2) P).1 + 1, true) from if_pos ⟨rfl, by assumption⟩]; exact EM_place hE2)
            · skip
              have hst : (everyF (facF (chT s) 2) (chT s) pp) = nxF (facF (chT s) 2) (-2) t L P := ‹(everyF (facF (chT s) 2) (chT s) pp) = evL (facF (chT s) 2) (chT s) 38 (-2) F (nxF (facF (chT s) 2) (-2) t L P)›.trans (evL_stop (Or.inr (show ¬ chT s (nxF (facF (chT s) 2) (-2) t L P).1 = 38 from (show ¬ chT s ((facF (chT s) 2) P).1 = 38 by assumption))))
              refine v_iconst hG dX6_readBoth_38 ?_
              have e20 : @Eq Int (bi ((everyF (facF (chT s) 2) (chT s) pp).2.1 = true)) (1) := by rw [hst, bi_pos hnk]
              exact v_zreturn hG hR dX6_readBoth_39 (Or.inr rfl) (sU u17.1 3 ((mustF (chT s) 38 ((((facF (chT s) 2) P).1), true)).1 : Nat), u17.2) (congrArg (fun z => some (vI z)) e20) (by rw [hst]; exact (show EM q w3 (nxF (facF (chT s) 2) (-2) t L P) _ _ from (show (nxF (facF (chT s) 2) (-2) t L P) = (((facF (chT s) 2) P).1, true, (nxF (facF (chT s) 2) (-2) t L P).2.2) from Prod.ext rfl (Prod.ext hfk rfl)) ▸ (show EM q w3 (((facF (chT s) 2) P).1, true, (nxF (facF (chT s) 2) (-2) t L P).2.2) _ _ from by rw [show mustF (chT s) 38 (((facF (chT s) 2) P).1, true) = (((facF (chT s) 2) P).1, false) from if_neg (fun h => absurd h.2 (by assumption))]; exact EM_place hE2))) (fun _ hM => hM)
        · skip
          have hfb : ((facF (chT s) 2) P).2.1 = false := by
            cases q9 : ((facF (chT s) 2) P).2.1
            · rfl
            · exact absurd q9 (by assumption)
          refine v_iconst hG dX6_readBoth_16 ?_
          have e21 : @Eq Int (bi ((everyF (facF (chT s) 2) (chT s) pp).2.1 = true)) (0) := by have hst : (everyF (facF (chT s) 2) (chT s) pp) = nxF (facF (chT s) 2) (-2) t L P := ‹(everyF (facF (chT s) 2) (chT s) pp) = evL (facF (chT s) 2) (chT s) 38 (-2) F (nxF (facF (chT s) 2) (-2) t L P)›.trans (evL_stop (Or.inl hfb)); rw [hst, bi_neg (show ¬ (nxF (facF (chT s) 2) (-2) t L P).2.1 = true from fun h => by rw [show (nxF (facF (chT s) 2) (-2) t L P).2.1 = false from hfb] at h; exact Bool.noConfusion h)]
          exact v_zreturn hG hR dX6_readBoth_17 (Or.inl rfl) (u11.1, u11.2) (congrArg (fun z => some (vI z)) e21) (by rw [show (everyF (facF (chT s) 2) (chT s) pp) = nxF (facF (chT s) 2) (-2) t L P from ‹(everyF (facF (chT s) 2) (chT s) pp) = evL (facF (chT s) 2) (chT s) 38 (-2) F (nxF (facF (chT s) 2) (-2) t L P)›.trans (evL_stop (Or.inl hfb))]; exact EM_failc hE0 hE1 rfl hfb) (fun _ hM => hM)
  exact L4 _ 1 101 pp ([]) (by omega) (by rw [nx_1]; rfl) (by show 0 + pp ≤ pp ∧ (1 < 1 → 0 + pp + 1 ≤ pp) ∧ (pp : Int) ≤ s 48; omega) rfl _ (by rfl) _ (by trivial) _ (by exact EM_0 h3 (by omega))
set_option maxHeartbeats 4000000 in
set_option maxRecDepth 100000 in
theorem kc6_readEither2 (l : Launch) (D : Dx) (A : Nat → Prop) (ad : Nat → Nat) (K : Int → Int) (S Q qa : Nat → Int → Int) (tp : Nat → Nat) (s q w0 w1 w2 w3 bo e uc lr nx : Int → Int) (p : Nat) (hp : p < 6) (pp : Nat) (hq2 : q 2 = s 48) (h3 : q 3 = (pp : Int)) (hTS : TS s) (hpn : (pp : Int) ≤ s 48) (htp : tp p = kC ad 0 0) (hkp : 0 ≤ q 1 ∧ q 1 ≤ (pp : Int)) : CT l D A yX6_readEither cX6_readEither 3 (some .boolean) { frames := 13, cells := 0, slots := 0, locals := 295 } [.ref (kP ad p), vI 3] (CW D A ad K (uS S 0 s) (uS Q p q) (q4 qa p w0 w1 w2 w3) tp bo e uc lr nx) (fun u : (Int → Int) × (Int → Int) => some (vI (bi ((someF (facF (chT s) 2) (chT s) pp).2.1 = true)))) (fun u => EM q w3 (someF (facF (chT s) 2) (chT s) pp) u.1 u.2) (fun u => CW D A ad K (uS S 0 s) (uS Q p u.1) (q4 qa p w0 w1 w2 u.2) tp bo e uc lr nx) := by
  refine ct_of (lo0 := [(0, .ref (kP ad p)), (1, vI 3)]) (by decide) (Nat.le_of_ble_eq_true rfl) rfl ?_
  intro G hG hR
  have hT1 := hTS.1
  have hCE := chT_CE hTS
  refine v_iconst hG dX6_readEither_0 ?_
  refine v_istore_n (lo' := [(2, vI 1), (0, .ref (kP ad p)), (1, vI 3)]) hG dX6_readEither_1 rfl (by decide) rfl ?_
  refine v_lo [1, 2, 0] (lo' := [(0, .ref (kP ad p)), (1, vI 3), (2, vI 1)]) rfl ?_
  have L4 : ∀ mz : Nat, ∀ (t F P : Nat) (L : List Int), (1 ≤ t ∧ t + pp ≤ P + 1 ∧ F + t = 102) → ((someF (facF (chT s) 2) (chT s) pp) = evL (everyF (facF (chT s) 2) (chT s)) (chT s) 124 (-3) F (nxF (everyF (facF (chT s) 2) (chT s)) (-3) t L P)) → (L.length + pp ≤ P ∧ (1 < t → L.length + pp + 1 ≤ P) ∧ (P : Int) ≤ s 48) → 102 - t = mz → ∀ x1 : Int, x1 = ((t : Int)) → ∀ x2 : Int → Int, True → ∀ x3 : Int → Int, EM q w3 (P, true, L) x2 x3 → V G 0 0 (CW D A ad K (uS S 0 s) (uS Q p x2) (q4 qa p w0 w1 w2 x3) tp bo e uc lr nx) 2 [(0, .ref (kP ad p)), (1, vI 3), (2, vI x1)] [] := by
    intro dL4
    induction dL4 using Nat.strongRecOn with
    | ind dL4 ihL4 =>
      intro t F P L hq5 hq6 hq7 hq8
      intro x1 hx1
      subst hx1
      intro x2 hx2
      intro x3 hx3
      refine v_iload_n hG dX6_readEither_2 rfl 2 rfl ?_
      refine v_bipush hG dX6_readEither_3 (by decide) ?_
      refine v_icmp_gt (tgt := 46) hG dX6_readEither_5 (by decide) (by omega) (by omega) (fun c9 => ?_) (fun c9 => ?_)
      · skip
        refine v_iconst hG dX6_readEither_46 ?_
        have hE0 : EM q w3 (P, true, L) x2 x3 := by assumption
        have hpe : chT s P = -1 := (hCE P).1.mpr (by omega)
        have hfe : (everyF (facF (chT s) 2) (chT s)) P = (P, false, []) := every_end hpe
        have hst : (someF (facF (chT s) 2) (chT s) pp) = nxF (everyF (facF (chT s) 2) (chT s)) (-3) t L P := ‹(someF (facF (chT s) 2) (chT s) pp) = evL (everyF (facF (chT s) 2) (chT s)) (chT s) 124 (-3) F (nxF (everyF (facF (chT s) 2) (chT s)) (-3) t L P)›.trans (evL_stop (Or.inl (by show ((everyF (facF (chT s) 2) (chT s)) P).2.1 = false; rw [hfe])))
        have hfb : (nxF (everyF (facF (chT s) 2) (chT s)) (-3) t L P).2.1 = false := by show ((everyF (facF (chT s) 2) (chT s)) P).2.1 = false; rw [hfe]
        have e10 : @Eq Int (bi ((someF (facF (chT s) 2) (chT s) pp).2.1 = true)) (0) := by rw [hst, bi_neg (fun h => by rw [hfb] at h; exact Bool.noConfusion h)]
        exact v_zreturn hG hR dX6_readEither_47 (Or.inl rfl) (x2, x3) (congrArg (fun z => some (vI z)) e10) (by rw [hst]; exact EM_fail hE0.1 (by show _ = ((((everyF (facF (chT s) 2) (chT s)) P).1 : Nat) : Int); rw [hfe]; exact hE0.2.1) hE0.2.2.1 hfb) (fun _ hM => hM)
      · skip
        have hE0 : EM q w3 (P, true, L) x2 x3 := by assumption
        have hy1 := EM_n hE0
        have hy2 := (hE0.1 2 (by decide) (by decide)).trans hq2
        have hy3 : _ = (P : Int) := hE0.2.1
        obtain ⟨hg1, hg2, hg3⟩ := everyF_rng hCE (fun x hx => facF_rng hCE 2 x hx) (p := P) (by omega)
        refine v_aload_n hG dX6_readEither_8 rfl 0 rfl ?_
        refine v_iload_n hG dX6_readEither_9 rfl 1 rfl ?_
        refine v_callV (k1' := 0) (k2' := 0) hG dX6_readEither_10 zc_X6_readBoth ⟨zl_X6_85, zi_X6_readBoth, zs_X6_readBoth⟩ (fun l => kc6_readBoth2 l D A ad K S Q qa tp s x2 w0 w1 w2 x3 bo e uc lr nx p hp P (by exact hy2) (by exact hy3) (by assumption) (by omega) (by assumption) (by omega)) rfl (cR6 hp) (fun _ h => h) ⟨by decide, by decide⟩ rfl rfl ⟨by decide, by decide⟩ (rest := []) rfl (Nat.le_of_ble_eq_true rfl) (fun u11 => [vI (bi ((everyF (facF (chT s) 2) (chT s) P).2.1 = true))]) (fun _ => rfl) (fun u11 hu11 => ?_)
        have fu11 : EM x2 x3 (everyF (facF (chT s) 2) (chT s) P) u11.1 u11.2 := hu11
        have hE1 := fu11
        refine v_ifb_ne (p := (everyF (facF (chT s) 2) (chT s) P).2.1 = true) (tgt := 18) hG dX6_readEither_13 (by decide) (fun c12 => ?_) (fun c12 => ?_)
        · skip
          have hfk : ((everyF (facF (chT s) 2) (chT s)) P).2.1 = true := by assumption
          obtain ⟨hdd1, hdd2, hdd3⟩ := hE1.2.2.2 hfk
          refine v_iload_n hG dX6_readEither_18 rfl 2 rfl ?_
          refine v_iconst hG dX6_readEither_19 ?_
          refine v_icmp_le (tgt := 29) hG dX6_readEither_20 (by decide) (by omega) (by omega) (fun c13 => ?_) (fun c13 => ?_)
          · skip
            have hE2 : EM q w3 (((everyF (facF (chT s) 2) (chT s)) P).1, true, (nxF (everyF (facF (chT s) 2) (chT s)) (-3) t L P).2.2) u11.1 u11.2 := by first | exact EM_nx2 hE0 hE1 hkp.1 hfk (by omega) (by decide) (by omega) (by assumption) | exact EM_nx1 hE0 hE1 hkp.1 hfk (by omega)
            have hnl := EM_n hE2
            have hnk : (nxF (everyF (facF (chT s) 2) (chT s)) (-3) t L P).2.1 = true := hfk
            have hn1 : (nxF (everyF (facF (chT s) 2) (chT s)) (-3) t L P).1 = ((everyF (facF (chT s) 2) (chT s)) P).1 := rfl
            have hnl9 : (nxF (everyF (facF (chT s) 2) (chT s)) (-3) t L P).2.2.length ≤ L.length + ((everyF (facF (chT s) 2) (chT s)) P).2.2.length + (if 1 < t then 1 else 0) := nx_len
            refine v_aload_n hG dX6_readEither_29 rfl 0 rfl ?_
            refine v_bipush hG dX6_readEither_30 (by decide) ?_
            refine v_callV (k1' := 0) (k2' := 0) hG dX6_readEither_32 zc_X6_skip ⟨zl_X6_56, zi_X6_skip, zs_X6_skip⟩ (fun l => kc6_skip l D A ad K S Q qa tp s u11.1 w0 w1 w2 u11.2 bo e uc lr nx p hp (((everyF (facF (chT s) 2) (chT s)) P).1) 124 (by exact (hE2.1 2 (by decide) (by decide)).trans hq2) (by exact hE2.2.1) (by assumption) (by omega) (by assumption) (by omega)) rfl (cR6 hp) (fun _ h => h) ⟨by decide, by decide⟩ rfl rfl ⟨by decide, by decide⟩ (rest := []) rfl (Nat.le_of_ble_eq_true rfl) (fun u14 => [vI (bi (chT s (((everyF (facF (chT s) 2) (chT s)) P).1) = 124))]) (fun _ => rfl) (fun u14 hu14 => ?_)
            refine v_ifb_ne (p := chT s (((everyF (facF (chT s) 2) (chT s)) P).1) = 124) (tgt := 40) hG dX6_readEither_35 (by decide) (fun c15 => ?_) (fun c15 => ?_)
            · skip
              skip
              refine v_iinc (lo' := [(2, vI ((t : Int) + 1)), (0, .ref (kP ad p)), (1, vI 3)]) hG dX6_readEither_40 2 rfl (by decide) rfl ?_
              refine v_goto (tgt := 2) hG dX6_readEither_43 (by decide) ?_
              refine v_lo [1, 2, 0] (lo' := [(0, .ref (kP ad p)), (1, vI 3), (2, vI ((t : Int) + 1))]) rfl ?_
              exact ihL4 _ (by omega) (t + 1) (F - 1) (((everyF (facF (chT s) 2) (chT s)) P).1 + 1) ((nxF (everyF (facF (chT s) 2) (chT s)) (-3) t L P).2.2) (by omega) (by show (someF (facF (chT s) 2) (chT s) pp) = evL (everyF (facF (chT s) 2) (chT s)) (chT s) 124 (-3) (F - 1) (nxF (everyF (facF (chT s) 2) (chT s)) (-3) (t + 1) (nxF (everyF (facF (chT s) 2) (chT s)) (-3) t L P).2.2 ((nxF (everyF (facF (chT s) 2) (chT s)) (-3) t L P).1 + 1)); rw [← nx_go (r := nxF (everyF (facF (chT s) 2) (chT s)) (-3) t L P) (by omega)]; exact ‹(someF (facF (chT s) 2) (chT s) pp) = evL (everyF (facF (chT s) 2) (chT s)) (chT s) 124 (-3) F (nxF (everyF (facF (chT s) 2) (chT s)) (-3) t L P)›.trans (evL_go (by omega) hnk (show chT s (nxF (everyF (facF (chT s) 2) (chT s)) (-3) t L P).1 = 124 from (show chT s ((everyF (facF (chT s) 2) (chT s)) P).1 = 124 by assumption)))) (by have hlt9 := hCE.lt (p := ((everyF (facF (chT s) 2) (chT s)) P).1) (fun e => absurd (e.symm.trans (show chT s ((everyF (facF (chT s) 2) (chT s)) P).1 = 124 by assumption)) (by decide)); split at hnl9 <;> omega) rfl _ (by omega) _ (by trivial) _ (by rw [show mustF (chT s) 124 (((everyF (facF (chT s) 2) (chT s)) P).1, true) = (((everyF (facF (chT s) 2) (chT s)) P).1 + 1, true) from if_pos ⟨rfl, by assumption⟩]; exact EM_place hE2)
            · skip
              have hst : (someF (facF (chT s) 2) (chT s) pp) = nxF (everyF (facF (chT s) 2) (chT s)) (-3) t L P := ‹(someF (facF (chT s) 2) (chT s) pp) = evL (everyF (facF (chT s) 2) (chT s)) (chT s) 124 (-3) F (nxF (everyF (facF (chT s) 2) (chT s)) (-3) t L P)›.trans (evL_stop (Or.inr (show ¬ chT s (nxF (everyF (facF (chT s) 2) (chT s)) (-3) t L P).1 = 124 from (show ¬ chT s ((everyF (facF (chT s) 2) (chT s)) P).1 = 124 by assumption))))
              refine v_iconst hG dX6_readEither_38 ?_
              have e16 : @Eq Int (bi ((someF (facF (chT s) 2) (chT s) pp).2.1 = true)) (1) := by rw [hst, bi_pos hnk]
              exact v_zreturn hG hR dX6_readEither_39 (Or.inr rfl) (sU u11.1 3 ((mustF (chT s) 124 ((((everyF (facF (chT s) 2) (chT s)) P).1), true)).1 : Nat), u11.2) (congrArg (fun z => some (vI z)) e16) (by rw [hst]; exact (show EM q w3 (nxF (everyF (facF (chT s) 2) (chT s)) (-3) t L P) _ _ from (show (nxF (everyF (facF (chT s) 2) (chT s)) (-3) t L P) = (((everyF (facF (chT s) 2) (chT s)) P).1, true, (nxF (everyF (facF (chT s) 2) (chT s)) (-3) t L P).2.2) from Prod.ext rfl (Prod.ext hfk rfl)) ▸ (show EM q w3 (((everyF (facF (chT s) 2) (chT s)) P).1, true, (nxF (everyF (facF (chT s) 2) (chT s)) (-3) t L P).2.2) _ _ from by rw [show mustF (chT s) 124 (((everyF (facF (chT s) 2) (chT s)) P).1, true) = (((everyF (facF (chT s) 2) (chT s)) P).1, false) from if_neg (fun h => absurd h.2 (by assumption))]; exact EM_place hE2))) (fun _ hM => hM)
          · skip
            refine v_aload_n hG dX6_readEither_23 rfl 0 rfl ?_
            refine v_bipush hG dX6_readEither_24 (by decide) ?_
            refine v_callV (k1' := 0) (k2' := 0) hG dX6_readEither_26 zc_X6_keep ⟨zl_X6_88, zi_X6_keep, zs_X6_keep⟩ (fun l => kc6_keepG l D A ad K S Q qa tp s u11.1 w0 w1 w2 u11.2 bo e uc lr nx p hp (-3) (by omega)) rfl (cR6 hp) (fun _ h => h) ⟨by decide, by decide⟩ rfl rfl ⟨by decide, by decide⟩ (rest := []) rfl (Nat.le_of_ble_eq_true rfl) (fun u17 => []) (fun _ => rfl) (fun u17 hu17 => ?_)
            have fu17 : KP u11.1 u11.2 (-3) u17.1 u17.2 := hu17
            have hE2 : EM q w3 (((everyF (facF (chT s) 2) (chT s)) P).1, true, (nxF (everyF (facF (chT s) 2) (chT s)) (-3) t L P).2.2) u17.1 u17.2 := by first | exact EM_nx2 hE0 hE1 hkp.1 hfk (by omega) (by decide) (by omega) (by assumption) | exact EM_nx1 hE0 hE1 hkp.1 hfk (by omega)
            have hnl := EM_n hE2
            have hnk : (nxF (everyF (facF (chT s) 2) (chT s)) (-3) t L P).2.1 = true := hfk
            have hn1 : (nxF (everyF (facF (chT s) 2) (chT s)) (-3) t L P).1 = ((everyF (facF (chT s) 2) (chT s)) P).1 := rfl
            have hnl9 : (nxF (everyF (facF (chT s) 2) (chT s)) (-3) t L P).2.2.length ≤ L.length + ((everyF (facF (chT s) 2) (chT s)) P).2.2.length + (if 1 < t then 1 else 0) := nx_len
            refine v_aload_n hG dX6_readEither_29 rfl 0 rfl ?_
            refine v_bipush hG dX6_readEither_30 (by decide) ?_
            refine v_callV (k1' := 0) (k2' := 0) hG dX6_readEither_32 zc_X6_skip ⟨zl_X6_56, zi_X6_skip, zs_X6_skip⟩ (fun l => kc6_skip l D A ad K S Q qa tp s u17.1 w0 w1 w2 u17.2 bo e uc lr nx p hp (((everyF (facF (chT s) 2) (chT s)) P).1) 124 (by exact (hE2.1 2 (by decide) (by decide)).trans hq2) (by exact hE2.2.1) (by assumption) (by omega) (by assumption) (by omega)) rfl (cR6 hp) (fun _ h => h) ⟨by decide, by decide⟩ rfl rfl ⟨by decide, by decide⟩ (rest := []) rfl (Nat.le_of_ble_eq_true rfl) (fun u18 => [vI (bi (chT s (((everyF (facF (chT s) 2) (chT s)) P).1) = 124))]) (fun _ => rfl) (fun u18 hu18 => ?_)
            refine v_ifb_ne (p := chT s (((everyF (facF (chT s) 2) (chT s)) P).1) = 124) (tgt := 40) hG dX6_readEither_35 (by decide) (fun c19 => ?_) (fun c19 => ?_)
            · skip
              skip
              refine v_iinc (lo' := [(2, vI ((t : Int) + 1)), (0, .ref (kP ad p)), (1, vI 3)]) hG dX6_readEither_40 2 rfl (by decide) rfl ?_
              refine v_goto (tgt := 2) hG dX6_readEither_43 (by decide) ?_
              refine v_lo [1, 2, 0] (lo' := [(0, .ref (kP ad p)), (1, vI 3), (2, vI ((t : Int) + 1))]) rfl ?_
              exact ihL4 _ (by omega) (t + 1) (F - 1) (((everyF (facF (chT s) 2) (chT s)) P).1 + 1) ((nxF (everyF (facF (chT s) 2) (chT s)) (-3) t L P).2.2) (by omega) (by show (someF (facF (chT s) 2) (chT s) pp) = evL (everyF (facF (chT s) 2) (chT s)) (chT s) 124 (-3) (F - 1) (nxF (everyF (facF (chT s) 2) (chT s)) (-3) (t + 1) (nxF (everyF (facF (chT s) 2) (chT s)) (-3) t L P).2.2 ((nxF (everyF (facF (chT s) 2) (chT s)) (-3) t L P).1 + 1)); rw [← nx_go (r := nxF (everyF (facF (chT s) 2) (chT s)) (-3) t L P) (by omega)]; exact ‹(someF (facF (chT s) 2) (chT s) pp) = evL (everyF (facF (chT s) 2) (chT s)) (chT s) 124 (-3) F (nxF (everyF (facF (chT s) 2) (chT s)) (-3) t L P)›.trans (evL_go (by omega) hnk (show chT s (nxF (everyF (facF (chT s) 2) (chT s)) (-3) t L P).1 = 124 from (show chT s ((everyF (facF (chT s) 2) (chT s)) P).1 = 124 by assumption)))) (by have hlt9 := hCE.lt (p := ((everyF (facF (chT s) 2) (chT s)) P).1) (fun e => absurd (e.symm.trans (show chT s ((everyF (facF (chT s) 2) (chT s)) P).1 = 124 by assumption)) (by decide)); split at hnl9 <;> omega) rfl _ (by omega) _ (by trivial) _ (by rw [show mustF (chT s) 124 (((everyF (facF (chT s) 2) (chT s)) P).1, true) = (((everyF (facF (chT s) 2) (chT s)) P).1 + 1, true) from if_pos ⟨rfl, by assumption⟩]; exact EM_place hE2)
            · skip
              have hst : (someF (facF (chT s) 2) (chT s) pp) = nxF (everyF (facF (chT s) 2) (chT s)) (-3) t L P := ‹(someF (facF (chT s) 2) (chT s) pp) = evL (everyF (facF (chT s) 2) (chT s)) (chT s) 124 (-3) F (nxF (everyF (facF (chT s) 2) (chT s)) (-3) t L P)›.trans (evL_stop (Or.inr (show ¬ chT s (nxF (everyF (facF (chT s) 2) (chT s)) (-3) t L P).1 = 124 from (show ¬ chT s ((everyF (facF (chT s) 2) (chT s)) P).1 = 124 by assumption))))
              refine v_iconst hG dX6_readEither_38 ?_
              have e20 : @Eq Int (bi ((someF (facF (chT s) 2) (chT s) pp).2.1 = true)) (1) := by rw [hst, bi_pos hnk]
              exact v_zreturn hG hR dX6_readEither_39 (Or.inr rfl) (sU u17.1 3 ((mustF (chT s) 124 ((((everyF (facF (chT s) 2) (chT s)) P).1), true)).1 : Nat), u17.2) (congrArg (fun z => some (vI z)) e20) (by rw [hst]; exact (show EM q w3 (nxF (everyF (facF (chT s) 2) (chT s)) (-3) t L P) _ _ from (show (nxF (everyF (facF (chT s) 2) (chT s)) (-3) t L P) = (((everyF (facF (chT s) 2) (chT s)) P).1, true, (nxF (everyF (facF (chT s) 2) (chT s)) (-3) t L P).2.2) from Prod.ext rfl (Prod.ext hfk rfl)) ▸ (show EM q w3 (((everyF (facF (chT s) 2) (chT s)) P).1, true, (nxF (everyF (facF (chT s) 2) (chT s)) (-3) t L P).2.2) _ _ from by rw [show mustF (chT s) 124 (((everyF (facF (chT s) 2) (chT s)) P).1, true) = (((everyF (facF (chT s) 2) (chT s)) P).1, false) from if_neg (fun h => absurd h.2 (by assumption))]; exact EM_place hE2))) (fun _ hM => hM)
        · skip
          have hfb : ((everyF (facF (chT s) 2) (chT s)) P).2.1 = false := by
            cases q9 : ((everyF (facF (chT s) 2) (chT s)) P).2.1
            · rfl
            · exact absurd q9 (by assumption)
          refine v_iconst hG dX6_readEither_16 ?_
          have e21 : @Eq Int (bi ((someF (facF (chT s) 2) (chT s) pp).2.1 = true)) (0) := by have hst : (someF (facF (chT s) 2) (chT s) pp) = nxF (everyF (facF (chT s) 2) (chT s)) (-3) t L P := ‹(someF (facF (chT s) 2) (chT s) pp) = evL (everyF (facF (chT s) 2) (chT s)) (chT s) 124 (-3) F (nxF (everyF (facF (chT s) 2) (chT s)) (-3) t L P)›.trans (evL_stop (Or.inl hfb)); rw [hst, bi_neg (show ¬ (nxF (everyF (facF (chT s) 2) (chT s)) (-3) t L P).2.1 = true from fun h => by rw [show (nxF (everyF (facF (chT s) 2) (chT s)) (-3) t L P).2.1 = false from hfb] at h; exact Bool.noConfusion h)]
          exact v_zreturn hG hR dX6_readEither_17 (Or.inl rfl) (u11.1, u11.2) (congrArg (fun z => some (vI z)) e21) (by rw [show (someF (facF (chT s) 2) (chT s) pp) = nxF (everyF (facF (chT s) 2) (chT s)) (-3) t L P from ‹(someF (facF (chT s) 2) (chT s) pp) = evL (everyF (facF (chT s) 2) (chT s)) (chT s) 124 (-3) F (nxF (everyF (facF (chT s) 2) (chT s)) (-3) t L P)›.trans (evL_stop (Or.inl hfb))]; exact EM_failc hE0 hE1 rfl hfb) (fun _ hM => hM)
  exact L4 _ 1 101 pp ([]) (by omega) (by rw [nx_1]; rfl) (by show 0 + pp ≤ pp ∧ (1 < 1 → 0 + pp + 1 ≤ pp) ∧ (pp : Int) ≤ s 48; omega) rfl _ (by rfl) _ (by trivial) _ (by exact EM_0 h3 (by omega))
set_option maxHeartbeats 4000000 in
set_option maxRecDepth 100000 in
theorem kc6_readOne3 (l : Launch) (D : Dx) (A : Nat → Prop) (ad : Nat → Nat) (K : Int → Int) (S Q qa : Nat → Int → Int) (tp : Nat → Nat) (s q w0 w1 w2 w3 bo e uc lr nx : Int → Int) (p : Nat) (hp : p < 6) (pp : Nat) (hq2 : q 2 = s 48) (h3 : q 3 = (pp : Int)) (hTS : TS s) (hpn : (pp : Int) ≤ s 48) (htp : tp p = kC ad 0 0) (hkp : 0 ≤ q 1 ∧ q 1 ≤ (pp : Int)) : CT l D A yX6_readOne cX6_readOne 5 (some .boolean) { frames := 14, cells := 0, slots := 0, locals := 317 } [.ref (kP ad p), vI 2] (CW D A ad K (uS S 0 s) (uS Q p q) (q4 qa p w0 w1 w2 w3) tp bo e uc lr nx) (fun u : (Int → Int) × (Int → Int) => some (vI (bi ((facF (chT s) 3 pp).2.1 = true)))) (fun u => EM q w3 (facF (chT s) 3 pp) u.1 u.2) (fun u => CW D A ad K (uS S 0 s) (uS Q p u.1) (q4 qa p w0 w1 w2 u.2) tp bo e uc lr nx) := by
  refine ct_of (lo0 := [(0, .ref (kP ad p)), (1, vI 2)]) (by decide) (Nat.le_of_ble_eq_true rfl) rfl ?_
  intro G hG hR
  have hT1 := hTS.1
  have hCE := chT_CE hTS
  have hz1 := zix_b (i := 1) (by decide) (chT s pp)
  have hz2 := zix_b (i := 2) (by decide) (chT s (pp + 1))
  have hfr := figF_rng (ok := true) hCE (p := pp + 2)
  refine v_iload_n hG dX6_readOne_0 rfl 1 rfl ?_
  refine v_iconst hG dX6_readOne_1 ?_
  refine v_icmp_ge (tgt := 63) hG dX6_readOne_2 (by decide) (by omega) (by omega) (fun c1 => ?_) (fun c1 => ?_)
  · skip
    exfalso; omega
  · skip
    refine v_aload_n hG dX6_readOne_5 rfl 0 rfl ?_
    refine v_bipush hG dX6_readOne_6 (by decide) ?_
    refine v_callV (k1' := 0) (k2' := 0) hG dX6_readOne_8 zc_X6_skip ⟨zl_X6_56, zi_X6_skip, zs_X6_skip⟩ (fun l => kc6_skip l D A ad K S Q qa tp s q w0 w1 w2 w3 bo e uc lr nx p hp pp 33 (by first | assumption | (rw [sU_ne (by omega)]; assumption) | (simp only [sU_at]; (repeat' split) <;> first | assumption | (exfalso; omega))) (by first | exact sU_eq | assumption) (by assumption) (by omega) (by assumption) (by omega)) rfl (cR6 hp) (fun _ h => h) ⟨by decide, by decide⟩ rfl rfl ⟨by decide, by decide⟩ (rest := []) rfl (Nat.le_of_ble_eq_true rfl) (fun u2 => [vI (bi (chT s pp = 33))]) (fun _ => rfl) (fun u2 hu2 => ?_)
    refine v_ifb_eq (p := chT s pp = 33) (tgt := 29) hG dX6_readOne_11 (by decide) (fun c3 => ?_) (fun c3 => ?_)
    · skip
      rw [mst_n (show ¬ chT s pp = 33 by assumption), ← sU_at3 h3]
      refine v_aload_n hG dX6_readOne_29 rfl 0 rfl ?_
      refine v_bipush hG dX6_readOne_30 (by decide) ?_
      refine v_callV (k1' := 0) (k2' := 0) hG dX6_readOne_32 zc_X6_skip ⟨zl_X6_56, zi_X6_skip, zs_X6_skip⟩ (fun l => kc6_skip l D A ad K S Q qa tp s q w0 w1 w2 w3 bo e uc lr nx p hp pp 40 (by first | assumption | (rw [sU_ne (by omega)]; assumption) | (simp only [sU_at]; (repeat' split) <;> first | assumption | (exfalso; omega))) (by first | exact sU_eq | assumption) (by assumption) (by omega) (by assumption) (by omega)) rfl (cR6 hp) (fun _ h => h) ⟨by decide, by decide⟩ rfl rfl ⟨by decide, by decide⟩ (rest := []) rfl (Nat.le_of_ble_eq_true rfl) (fun u4 => [vI (bi (chT s pp = 40))]) (fun _ => rfl) (fun u4 hu4 => ?_)
      refine v_ifb_eq (p := chT s pp = 40) (tgt := 63) hG dX6_readOne_35 (by decide) (fun c5 => ?_) (fun c5 => ?_)
      · skip
        rw [mst_n (show ¬ chT s pp = 40 by assumption), ← sU_at3 h3]
        refine v_aload_n hG dX6_readOne_63 rfl 0 rfl ?_
        refine v_ldcS (i := 1) (tx := "mkdxtv") hG dX6_readOne_64 (by decide) ?_
        refine v_callV (k1' := 0) (k2' := 0) hG dX6_readOne_66 zc_X6_readOneOf ⟨zl_X6_97, zi_X6_readOneOf, zs_X6_readOneOf⟩ (fun l => kc6_readOneOf l D A ad K S Q qa tp s q w0 w1 w2 w3 bo e uc lr nx p hp pp 1 (by first | assumption | (rw [sU_ne (by omega)]; assumption) | (simp only [sU_at]; (repeat' split) <;> first | assumption | (exfalso; omega))) (by first | exact sU_eq | assumption) (by assumption) (by omega) (by assumption) (by first | assumption | decide)) rfl (cR6 hp) (fun _ h => h) ⟨by decide, by decide⟩ rfl rfl ⟨by decide, by decide⟩ (rest := []) rfl (Nat.le_of_ble_eq_true rfl) (fun u6 => [vI (zix 1 (chT s pp))]) (fun _ => rfl) (fun u6 hu6 => ?_)
        have fu6 : -1 ≤ zix 1 (chT s pp) ∧ zix 1 (chT s pp) ≤ 16 := hu6
        refine v_istore_n (lo' := [(2, vI (zix 1 (chT s pp))), (0, .ref (kP ad p)), (1, vI 2)]) hG dX6_readOne_69 rfl (by decide) rfl ?_
        refine v_iload_n hG dX6_readOne_70 rfl 0 rfl ?_
        refine v_if_ge (tgt := 78) hG dX6_readOne_71 (by decide) (by omega) (fun c7 => ?_) (fun c7 => ?_)
        · skip
          rw [show ((if zix 1 (chT s pp) = -1 then pp else pp + 1 : Nat) : Int) = ((pp + 1 : Nat) : Int) from by rw [if_neg (by omega)]]
          have hlt1 : pp < (s 48).toNat := hCE.lt (fun e => by
              have h9 : zix 1 (chT s pp) = -1 := (by rw [e]; exact zix_end (by decide))
              omega)
          refine v_aload_n hG dX6_readOne_78 rfl 1 rfl ?_
          refine v_ldcS (i := 2) (tx := "<=>") hG dX6_readOne_79 (by decide) ?_
          refine v_callV (k1' := 0) (k2' := 0) hG dX6_readOne_81 zc_X6_readOneOf ⟨zl_X6_97, zi_X6_readOneOf, zs_X6_readOneOf⟩ (fun l => kc6_readOneOf l D A ad K S Q qa tp s (sU q 3 ((pp + 1 : Nat) : Int)) w0 w1 w2 w3 bo e uc lr nx p hp (pp + 1) 2 (by first | assumption | (rw [sU_ne (by omega)]; assumption) | (simp only [sU_at]; (repeat' split) <;> first | assumption | (exfalso; omega))) (by exact sU_eq) (by assumption) (by omega) (by assumption) (by first | assumption | decide)) rfl (cR6 hp) (fun _ h => h) ⟨by decide, by decide⟩ rfl rfl ⟨by decide, by decide⟩ (rest := []) rfl (Nat.le_of_ble_eq_true rfl) (fun u8 => [vI (zix 2 (chT s (pp + 1)))]) (fun _ => rfl) (fun u8 hu8 => ?_)
          have fu8 : -1 ≤ zix 2 (chT s (pp + 1)) ∧ zix 2 (chT s (pp + 1)) ≤ 16 := hu8
          rw [sU_sU]
          refine v_istore_n (lo' := [(3, vI (zix 2 (chT s (pp + 1)))), (2, vI (zix 1 (chT s pp))), (0, .ref (kP ad p)), (1, vI 2)]) hG dX6_readOne_84 rfl (by decide) rfl ?_
          refine v_iload_n hG dX6_readOne_85 rfl 0 rfl ?_
          refine v_if_ge (tgt := 93) hG dX6_readOne_86 (by decide) (by omega) (fun c9 => ?_) (fun c9 => ?_)
          · skip
            rw [show ((if zix 2 (chT s (pp + 1)) = -1 then pp + 1 else pp + 1 + 1 : Nat) : Int) = ((pp + 2 : Nat) : Int) from by rw [if_neg (by omega)]]
            have hlt2 : pp + 1 < (s 48).toNat := hCE.lt (fun e => by
                have h9 : zix 2 (chT s (pp + 1)) = -1 := (by rw [e]; exact zix_end (by decide))
                omega)
            have hf2 := hfr (by omega)
            refine v_aload_n hG dX6_readOne_93 rfl 2 rfl ?_
            refine v_callV (k1' := 0) (k2' := 0) hG dX6_readOne_94 zc_X6_readNumber ⟨zl_X6_64, zi_X6_readNumber, zs_X6_readNumber⟩ (fun l => kc6_readNumber l D A ad K S Q qa tp s (sU q 3 ((pp + 2 : Nat) : Int)) w0 w1 w2 w3 bo e uc lr nx p hp (pp + 2) (by first | assumption | (rw [sU_ne (by omega)]; assumption) | (simp only [sU_at]; (repeat' split) <;> first | assumption | (exfalso; omega))) (by exact sU_eq) (by assumption) (by omega) (by assumption)) rfl (cR6 hp) (fun _ h => h) ⟨by decide, by decide⟩ rfl rfl ⟨by decide, by decide⟩ (rest := []) rfl (Nat.le_of_ble_eq_true rfl) (fun u10 => [vI (if (figF (chT s) ((pp + 2), true)).1.2 = true then (figF (chT s) ((pp + 2), true)).2 else -1)]) (fun _ => rfl) (fun u10 hu10 => ?_)
            rw [sU_sU]
            refine v_istore (lo' := [(4, vI (if (figF (chT s) ((pp + 2), true)).1.2 = true then (figF (chT s) ((pp + 2), true)).2 else -1)), (3, vI (zix 2 (chT s (pp + 1)))), (2, vI (zix 1 (chT s pp))), (0, .ref (kP ad p)), (1, vI 2)]) hG dX6_readOne_97 (by decide) rfl ?_
            refine v_iload hG dX6_readOne_99 0 rfl ?_
            refine v_if_ge (tgt := 106) hG dX6_readOne_101 (by decide) (by omega) (fun c11 => ?_) (fun c11 => ?_)
            · skip
              have hft : (figF (chT s) (pp + 2, true)).1.2 = true := by
                apply Decidable.byContradiction
                intro q9
                have e9 : (if (figF (chT s) (pp + 2, true)).1.2 = true then (figF (chT s) (pp + 2, true)).2 else (-1 : Int)) = -1 := if_neg q9
                omega
              refine v_aload_n hG dX6_readOne_106 rfl 3 rfl ?_
              refine v_iload_n hG dX6_readOne_107 rfl 2 rfl ?_
              refine v_iconst hG dX6_readOne_108 ?_
              refine v_imul hG dX6_readOne_109 ?_
              refine v_iload_n hG dX6_readOne_110 rfl 1 rfl ?_
              refine v_iadd hG dX6_readOne_111 ?_
              refine v_bipush hG dX6_readOne_112 (by decide) ?_
              refine v_imul hG dX6_readOne_114 ?_
              refine v_iload hG dX6_readOne_115 0 rfl ?_
              refine v_iadd hG dX6_readOne_117 ?_
              refine v_callV (k1' := 0) (k2' := 0) hG dX6_readOne_118 zc_X6_keep ⟨zl_X6_88, zi_X6_keep, zs_X6_keep⟩ (fun l => kc6_keepG l D A ad K S Q qa tp s (sU q 3 (((figF (chT s) (pp + 2, true)).1.1 : Nat) : Int)) w0 w1 w2 w3 bo e uc lr nx p hp (((((zix 1 (chT s pp)) * 3) + (zix 2 (chT s (pp + 1)))) * 100) + (if (figF (chT s) ((pp + 2), true)).1.2 = true then (figF (chT s) ((pp + 2), true)).2 else -1)) (by rw [sU_ne (by omega)]; omega)) rfl (cR6 hp) (fun _ h => h) ⟨by decide, by decide⟩ rfl rfl ⟨by decide, by decide⟩ (rest := []) rfl (Nat.le_of_ble_eq_true rfl) (fun u12 => []) (fun _ => rfl) (fun u12 hu12 => ?_)
              have fu12 : KP (sU q 3 (((figF (chT s) (pp + 2, true)).1.1 : Nat) : Int)) w3 (((((zix 1 (chT s pp)) * 3) + (zix 2 (chT s (pp + 1)))) * 100) + (if (figF (chT s) ((pp + 2), true)).1.2 = true then (figF (chT s) ((pp + 2), true)).2 else -1)) u12.1 u12.2 := hu12
              have hKP := fu12
              refine v_iconst hG dX6_readOne_121 ?_
              have e13 : @Eq Int (bi ((facF (chT s) 3 pp).2.1 = true)) (1) := by have hx : (facF (chT s) 3 pp).2.1 = true := (by rw [fac_als (by assumption) (by assumption), atom_3 (by omega) (by omega)]; exact hft); rw [bi_pos hx]
              exact v_zreturn hG hR dX6_readOne_122 (Or.inr rfl) (u12.1, u12.2) (congrArg (fun z => some (vI z)) e13) (by rw [fac_als (by assumption) (by assumption)]; exact EM_atom (by omega) (by omega) hft (by rw [if_pos hft]) (fun k h => sU_ne h) sU_eq (by omega) hKP) (fun _ hM => hM)
            · skip
              have hfn : (figF (chT s) (pp + 2, true)).1.2 = false := by
                cases q9 : (figF (chT s) (pp + 2, true)).1.2
                · rfl
                · have e9 : (if (figF (chT s) (pp + 2, true)).1.2 = true then (figF (chT s) (pp + 2, true)).2 else (-1 : Int)) = (figF (chT s) (pp + 2, true)).2 := if_pos q9
                  omega
              refine v_iconst hG dX6_readOne_104 ?_
              have e14 : @Eq Int (bi ((facF (chT s) 3 pp).2.1 = true)) (0) := by first | (have hx : ¬ (facF (chT s) 3 pp).2.1 = true := (by rw [fac_als (by assumption) (by assumption), atom_3 (by omega) (by omega), hfn]; exact Bool.false_ne_true); rw [bi_neg hx]; done) | (have hx : ¬ (facF (chT s) 3 pp).2.1 = true := (by rw [fac_als (by assumption) (by assumption), atom_1 (by omega)]; exact Bool.false_ne_true); rw [bi_neg hx]; done) | (have hx : ¬ (facF (chT s) 3 pp).2.1 = true := (by rw [fac_als (by assumption) (by assumption), atom_2 (by omega) (by omega)]; exact Bool.false_ne_true); rw [bi_neg hx]; done)
              exact v_zreturn hG hR dX6_readOne_105 (Or.inl rfl) (sU q 3 (((figF (chT s) (pp + 2, true)).1.1 : Nat) : Int), w3) (congrArg (fun z => some (vI z)) e14) (by first | (rw [fac_als (by assumption) (by assumption), atom_3 (by omega) (by omega)]; exact EM_fail3 rfl (by omega) hfn) | (rw [fac_als (by assumption) (by assumption), atom_1 (by omega)]; exact EM_fail3 rfl (by omega) rfl) | (rw [fac_als (by assumption) (by assumption), atom_2 (by omega) (by omega)]; exact EM_fail3 rfl (by omega) rfl)) (fun _ hM => hM)
          · skip
            rw [show ((if zix 2 (chT s (pp + 1)) = -1 then pp + 1 else pp + 1 + 1 : Nat) : Int) = ((pp + 1 : Nat) : Int) from by rw [if_pos (by omega)]]
            refine v_iconst hG dX6_readOne_89 ?_
            refine v_goto (tgt := 97) hG dX6_readOne_90 (by decide) ?_
            refine v_istore (lo' := [(4, vI (-1)), (3, vI (zix 2 (chT s (pp + 1)))), (2, vI (zix 1 (chT s pp))), (0, .ref (kP ad p)), (1, vI 2)]) hG dX6_readOne_97 (by decide) rfl ?_
            refine v_iload hG dX6_readOne_99 0 rfl ?_
            refine v_if_ge (tgt := 106) hG dX6_readOne_101 (by decide) (by omega) (fun c15 => ?_) (fun c15 => ?_)
            · skip
              exfalso; omega
            · skip
              refine v_iconst hG dX6_readOne_104 ?_
              have e16 : @Eq Int (bi ((facF (chT s) 3 pp).2.1 = true)) (0) := by first | (have hx : ¬ (facF (chT s) 3 pp).2.1 = true := (by rw [fac_als (by assumption) (by assumption), atom_3 (by omega) (by omega), hfn]; exact Bool.false_ne_true); rw [bi_neg hx]; done) | (have hx : ¬ (facF (chT s) 3 pp).2.1 = true := (by rw [fac_als (by assumption) (by assumption), atom_1 (by omega)]; exact Bool.false_ne_true); rw [bi_neg hx]; done) | (have hx : ¬ (facF (chT s) 3 pp).2.1 = true := (by rw [fac_als (by assumption) (by assumption), atom_2 (by omega) (by omega)]; exact Bool.false_ne_true); rw [bi_neg hx]; done)
              exact v_zreturn hG hR dX6_readOne_105 (Or.inl rfl) (sU q 3 ((pp + 1 : Nat) : Int), w3) (congrArg (fun z => some (vI z)) e16) (by first | (rw [fac_als (by assumption) (by assumption), atom_3 (by omega) (by omega)]; exact EM_fail3 rfl (by omega) hfn) | (rw [fac_als (by assumption) (by assumption), atom_1 (by omega)]; exact EM_fail3 rfl (by omega) rfl) | (rw [fac_als (by assumption) (by assumption), atom_2 (by omega) (by omega)]; exact EM_fail3 rfl (by omega) rfl)) (fun _ hM => hM)
        · skip
          rw [show ((if zix 1 (chT s pp) = -1 then pp else pp + 1 : Nat) : Int) = ((pp : Nat) : Int) from by rw [if_pos (by omega)]]
          refine v_iconst hG dX6_readOne_74 ?_
          refine v_goto (tgt := 84) hG dX6_readOne_75 (by decide) ?_
          refine v_istore_n (lo' := [(3, vI (-1)), (2, vI (zix 1 (chT s pp))), (0, .ref (kP ad p)), (1, vI 2)]) hG dX6_readOne_84 rfl (by decide) rfl ?_
          refine v_iload_n hG dX6_readOne_85 rfl 0 rfl ?_
          refine v_if_ge (tgt := 93) hG dX6_readOne_86 (by decide) (by omega) (fun c17 => ?_) (fun c17 => ?_)
          · skip
            exfalso; omega
          · skip
            refine v_iconst hG dX6_readOne_89 ?_
            refine v_goto (tgt := 97) hG dX6_readOne_90 (by decide) ?_
            refine v_istore (lo' := [(4, vI (-1)), (3, vI (-1)), (2, vI (zix 1 (chT s pp))), (0, .ref (kP ad p)), (1, vI 2)]) hG dX6_readOne_97 (by decide) rfl ?_
            refine v_iload hG dX6_readOne_99 0 rfl ?_
            refine v_if_ge (tgt := 106) hG dX6_readOne_101 (by decide) (by omega) (fun c18 => ?_) (fun c18 => ?_)
            · skip
              exfalso; omega
            · skip
              refine v_iconst hG dX6_readOne_104 ?_
              have e19 : @Eq Int (bi ((facF (chT s) 3 pp).2.1 = true)) (0) := by first | (have hx : ¬ (facF (chT s) 3 pp).2.1 = true := (by rw [fac_als (by assumption) (by assumption), atom_3 (by omega) (by omega), hfn]; exact Bool.false_ne_true); rw [bi_neg hx]; done) | (have hx : ¬ (facF (chT s) 3 pp).2.1 = true := (by rw [fac_als (by assumption) (by assumption), atom_1 (by omega)]; exact Bool.false_ne_true); rw [bi_neg hx]; done) | (have hx : ¬ (facF (chT s) 3 pp).2.1 = true := (by rw [fac_als (by assumption) (by assumption), atom_2 (by omega) (by omega)]; exact Bool.false_ne_true); rw [bi_neg hx]; done)
              exact v_zreturn hG hR dX6_readOne_105 (Or.inl rfl) (sU q 3 ((pp : Nat) : Int), w3) (congrArg (fun z => some (vI z)) e19) (by first | (rw [fac_als (by assumption) (by assumption), atom_3 (by omega) (by omega)]; exact EM_fail3 rfl (by omega) hfn) | (rw [fac_als (by assumption) (by assumption), atom_1 (by omega)]; exact EM_fail3 rfl (by omega) rfl) | (rw [fac_als (by assumption) (by assumption), atom_2 (by omega) (by omega)]; exact EM_fail3 rfl (by omega) rfl)) (fun _ hM => hM)
      · skip
        rw [mst_y (show chT s pp = 40 by assumption)]
        have hlt1 : pp < (s 48).toNat := hCE.lt (fun e => absurd (e.symm.trans (show chT s pp = 40 by assumption)) (by decide))
        refine v_aload_n hG dX6_readOne_38 rfl 0 rfl ?_
        refine v_iload_n hG dX6_readOne_39 rfl 1 rfl ?_
        refine v_iconst hG dX6_readOne_40 ?_
        refine v_iadd hG dX6_readOne_41 ?_
        rw [show (2 : Int) + 1 = 3 from rfl]
        refine v_callV (k1' := 0) (k2' := 0) hG dX6_readOne_42 zc_X6_readEither ⟨zl_X6_70, zi_X6_readEither, zs_X6_readEither⟩ (fun l => kc6_readEither2 l D A ad K S Q qa tp s (sU q 3 ((pp + 1 : Nat) : Int)) w0 w1 w2 w3 bo e uc lr nx p hp (pp + 1) (by first | assumption | (rw [sU_ne (by omega)]; assumption) | (simp only [sU_at]; (repeat' split) <;> first | assumption | (exfalso; omega))) (by exact sU_eq) (by assumption) (by omega) (by assumption) (by first | assumption | (rw [sU_ne (by omega)]; omega) | omega)) rfl (cR6 hp) (fun _ h => h) ⟨by decide, by decide⟩ rfl rfl ⟨by decide, by decide⟩ (rest := []) rfl (Nat.le_of_ble_eq_true rfl) (fun u20 => [vI (bi ((someF (facF (chT s) 2) (chT s) (pp + 1)).2.1 = true))]) (fun _ => rfl) (fun u20 hu20 => ?_)
        have fu20 : EM (sU q 3 ((pp + 1 : Nat) : Int)) w3 (someF (facF (chT s) 2) (chT s) (pp + 1)) u20.1 u20.2 := hu20
        have hE1 := EM_in h3 (by omega) fu20
        refine v_ifb_eq (p := (someF (facF (chT s) 2) (chT s) (pp + 1)).2.1 = true) (tgt := 61) hG dX6_readOne_45 (by decide) (fun c21 => ?_) (fun c21 => ?_)
        · skip
          refine v_iconst hG dX6_readOne_61 ?_
          have e22 : @Eq Int (bi ((facF (chT s) 3 pp).2.1 = true)) (0) := by first | (have hx : (facF (chT s) 3 pp).2.1 = true := (by rw [fac_pC (show chT s pp = 40 by assumption) hxk (by assumption)]); rw [bi_pos hx]; done) | (have hx : ¬ (facF (chT s) 3 pp).2.1 = true := (by rw [fac_pB (show chT s pp = 40 by assumption) (by assumption)]; exact Bool.false_ne_true); rw [bi_neg hx]; done) | (have hx : ¬ (facF (chT s) 3 pp).2.1 = true := (by rw [fac_pA (show chT s pp = 40 by assumption) (Bool.eq_false_iff.mpr (by assumption))]; exact Bool.false_ne_true); rw [bi_neg hx]; done)
          exact v_zreturn hG hR dX6_readOne_62 (Or.inl rfl) (u20.1, u20.2) (congrArg (fun z => some (vI z)) e22) (by first | (rw [fac_pC (show chT s pp = 40 by assumption) hxk (by assumption), mst_y (show chT s (someF (facF (chT s) 2) (chT s) (pp + 1)).1 = 41 by assumption)]; exact EM_place (EM_t hE1 hxk)) | (rw [fac_pB (show chT s pp = 40 by assumption) (by assumption)]; exact EM_failp hE1 (mst_n (show ¬ chT s (someF (facF (chT s) 2) (chT s) (pp + 1)).1 = 41 by assumption)) rfl) | (rw [fac_pA (show chT s pp = 40 by assumption) (Bool.eq_false_iff.mpr (by assumption))]; exact EM_fail hE1.1 hE1.2.1 hE1.2.2.1 rfl)) (fun _ hM => hM)
        · skip
          have hxk : (someF (facF (chT s) 2) (chT s) (pp + 1)).2.1 = true := by assumption
          obtain ⟨hs1, hs2, hs3⟩ := someF_rng hCE (fun x hx => facF_rng hCE 2 x hx) (p := pp + 1) (by omega)
          refine v_aload_n hG dX6_readOne_48 rfl 0 rfl ?_
          refine v_bipush hG dX6_readOne_49 (by decide) ?_
          refine v_callV (k1' := 0) (k2' := 0) hG dX6_readOne_51 zc_X6_skip ⟨zl_X6_56, zi_X6_skip, zs_X6_skip⟩ (fun l => kc6_skip l D A ad K S Q qa tp s u20.1 w0 w1 w2 u20.2 bo e uc lr nx p hp ((someF (facF (chT s) 2) (chT s) (pp + 1)).1) 41 (by exact (hE1.1 2 (by decide) (by decide)).trans hq2) (by exact hE1.2.1) (by assumption) (by omega) (by assumption) (by omega)) rfl (cR6 hp) (fun _ h => h) ⟨by decide, by decide⟩ rfl rfl ⟨by decide, by decide⟩ (rest := []) rfl (Nat.le_of_ble_eq_true rfl) (fun u23 => [vI (bi (chT s ((someF (facF (chT s) 2) (chT s) (pp + 1)).1) = 41))]) (fun _ => rfl) (fun u23 hu23 => ?_)
          refine v_ifb_eq (p := chT s ((someF (facF (chT s) 2) (chT s) (pp + 1)).1) = 41) (tgt := 61) hG dX6_readOne_54 (by decide) (fun c24 => ?_) (fun c24 => ?_)
          · skip
            refine v_iconst hG dX6_readOne_61 ?_
            have e25 : @Eq Int (bi ((facF (chT s) 3 pp).2.1 = true)) (0) := by first | (have hx : (facF (chT s) 3 pp).2.1 = true := (by rw [fac_pC (show chT s pp = 40 by assumption) hxk (by assumption)]); rw [bi_pos hx]; done) | (have hx : ¬ (facF (chT s) 3 pp).2.1 = true := (by rw [fac_pB (show chT s pp = 40 by assumption) (by assumption)]; exact Bool.false_ne_true); rw [bi_neg hx]; done) | (have hx : ¬ (facF (chT s) 3 pp).2.1 = true := (by rw [fac_pA (show chT s pp = 40 by assumption) (Bool.eq_false_iff.mpr (by assumption))]; exact Bool.false_ne_true); rw [bi_neg hx]; done)
            exact v_zreturn hG hR dX6_readOne_62 (Or.inl rfl) (sU u20.1 3 ((mustF (chT s) 41 (((someF (facF (chT s) 2) (chT s) (pp + 1)).1), true)).1 : Nat), u20.2) (congrArg (fun z => some (vI z)) e25) (by first | (rw [fac_pC (show chT s pp = 40 by assumption) hxk (by assumption), mst_y (show chT s (someF (facF (chT s) 2) (chT s) (pp + 1)).1 = 41 by assumption)]; exact EM_place (EM_t hE1 hxk)) | (rw [fac_pB (show chT s pp = 40 by assumption) (by assumption)]; exact EM_failp hE1 (mst_n (show ¬ chT s (someF (facF (chT s) 2) (chT s) (pp + 1)).1 = 41 by assumption)) rfl) | (rw [fac_pA (show chT s pp = 40 by assumption) (Bool.eq_false_iff.mpr (by assumption))]; exact EM_fail hE1.1 hE1.2.1 hE1.2.2.1 rfl)) (fun _ hM => hM)
          · skip
            refine v_iconst hG dX6_readOne_57 ?_
            refine v_goto (tgt := 62) hG dX6_readOne_58 (by decide) ?_
            have e26 : @Eq Int (bi ((facF (chT s) 3 pp).2.1 = true)) (1) := by first | (have hx : (facF (chT s) 3 pp).2.1 = true := (by rw [fac_pC (show chT s pp = 40 by assumption) hxk (by assumption)]); rw [bi_pos hx]; done) | (have hx : ¬ (facF (chT s) 3 pp).2.1 = true := (by rw [fac_pB (show chT s pp = 40 by assumption) (by assumption)]; exact Bool.false_ne_true); rw [bi_neg hx]; done) | (have hx : ¬ (facF (chT s) 3 pp).2.1 = true := (by rw [fac_pA (show chT s pp = 40 by assumption) (Bool.eq_false_iff.mpr (by assumption))]; exact Bool.false_ne_true); rw [bi_neg hx]; done)
            exact v_zreturn hG hR dX6_readOne_62 (Or.inr rfl) (sU u20.1 3 ((mustF (chT s) 41 (((someF (facF (chT s) 2) (chT s) (pp + 1)).1), true)).1 : Nat), u20.2) (congrArg (fun z => some (vI z)) e26) (by first | (rw [fac_pC (show chT s pp = 40 by assumption) hxk (by assumption), mst_y (show chT s (someF (facF (chT s) 2) (chT s) (pp + 1)).1 = 41 by assumption)]; exact EM_place (EM_t hE1 hxk)) | (rw [fac_pB (show chT s pp = 40 by assumption) (by assumption)]; exact EM_failp hE1 (mst_n (show ¬ chT s (someF (facF (chT s) 2) (chT s) (pp + 1)).1 = 41 by assumption)) rfl) | (rw [fac_pA (show chT s pp = 40 by assumption) (Bool.eq_false_iff.mpr (by assumption))]; exact EM_fail hE1.1 hE1.2.1 hE1.2.2.1 rfl)) (fun _ hM => hM)
    · skip
      rw [mst_y (show chT s pp = 33 by assumption)]
      have hlt1 : pp < (s 48).toNat := hCE.lt (fun e => absurd (e.symm.trans (show chT s pp = 33 by assumption)) (by decide))
      refine v_aload_n hG dX6_readOne_14 rfl 0 rfl ?_
      refine v_iload_n hG dX6_readOne_15 rfl 1 rfl ?_
      refine v_iconst hG dX6_readOne_16 ?_
      refine v_iadd hG dX6_readOne_17 ?_
      rw [show (2 : Int) + 1 = 3 from rfl]
      refine v_callV (k1' := 0) (k2' := 0) hG dX6_readOne_18 zc_X6_readOne ⟨zl_X6_92, zi_X6_readOne, zs_X6_readOne⟩ (fun l => kc6_readOne2 l D A ad K S Q qa tp s (sU q 3 ((pp + 1 : Nat) : Int)) w0 w1 w2 w3 bo e uc lr nx p hp (pp + 1) (by first | assumption | (rw [sU_ne (by omega)]; assumption) | (simp only [sU_at]; (repeat' split) <;> first | assumption | (exfalso; omega))) (by exact sU_eq) (by assumption) (by omega) (by assumption) (by first | assumption | (rw [sU_ne (by omega)]; omega) | omega)) rfl (cR6 hp) (fun _ h => h) ⟨by decide, by decide⟩ rfl rfl ⟨by decide, by decide⟩ (rest := []) rfl (Nat.le_of_ble_eq_true rfl) (fun u27 => [vI (bi ((facF (chT s) 2 (pp + 1)).2.1 = true))]) (fun _ => rfl) (fun u27 hu27 => ?_)
      have fu27 : EM (sU q 3 ((pp + 1 : Nat) : Int)) w3 (facF (chT s) 2 (pp + 1)) u27.1 u27.2 := hu27
      have hE1 := EM_in h3 (by omega) fu27
      refine v_istore_n (lo' := [(2, vI (bi ((facF (chT s) 2 (pp + 1)).2.1 = true))), (0, .ref (kP ad p)), (1, vI 2)]) hG dX6_readOne_21 rfl (by decide) rfl ?_
      refine v_aload_n hG dX6_readOne_22 rfl 1 rfl ?_
      refine v_iconst hG dX6_readOne_23 ?_
      refine v_callV (k1' := 0) (k2' := 0) hG dX6_readOne_24 zc_X6_keep ⟨zl_X6_88, zi_X6_keep, zs_X6_keep⟩ (fun l => kc6_keepG l D A ad K S Q qa tp s u27.1 w0 w1 w2 u27.2 bo e uc lr nx p hp (-1) (by exact hE1.2.2.1)) rfl (cR6 hp) (fun _ h => h) ⟨by decide, by decide⟩ rfl rfl ⟨by decide, by decide⟩ (rest := []) rfl (Nat.le_of_ble_eq_true rfl) (fun u28 => []) (fun _ => rfl) (fun u28 hu28 => ?_)
      have fu28 : KP u27.1 u27.2 (-1) u28.1 u28.2 := hu28
      have hKP := fu28
      refine v_iload_n hG dX6_readOne_27 rfl 0 rfl ?_
      have e29 : @Eq Int (bi ((facF (chT s) 3 pp).2.1 = true)) (bi ((facF (chT s) 2 (pp + 1)).2.1 = true)) := by rw [fac_not (show chT s pp = 33 by assumption)]
      exact v_zreturn hG hR dX6_readOne_28 (bi_01 _) (u28.1, u28.2) (congrArg (fun z => some (vI z)) e29) (by rw [fac_not (show chT s pp = 33 by assumption)]; exact EM_not hE1 hKP hkp.1 (fun h => EM_lt hE1 h (facF_rng hCE 2 (pp + 1) (by omega)) (by omega) (by omega))) (fun _ hM => hM)
set_option maxHeartbeats 4000000 in
set_option maxRecDepth 100000 in
theorem kc6_readBoth3 (l : Launch) (D : Dx) (A : Nat → Prop) (ad : Nat → Nat) (K : Int → Int) (S Q qa : Nat → Int → Int) (tp : Nat → Nat) (s q w0 w1 w2 w3 bo e uc lr nx : Int → Int) (p : Nat) (hp : p < 6) (pp : Nat) (hq2 : q 2 = s 48) (h3 : q 3 = (pp : Int)) (hTS : TS s) (hpn : (pp : Int) ≤ s 48) (htp : tp p = kC ad 0 0) (hkp : 0 ≤ q 1 ∧ q 1 ≤ (pp : Int)) : CT l D A yX6_readBoth cX6_readBoth 3 (some .boolean) { frames := 15, cells := 0, slots := 0, locals := 341 } [.ref (kP ad p), vI 2] (CW D A ad K (uS S 0 s) (uS Q p q) (q4 qa p w0 w1 w2 w3) tp bo e uc lr nx) (fun u : (Int → Int) × (Int → Int) => some (vI (bi ((everyF (facF (chT s) 3) (chT s) pp).2.1 = true)))) (fun u => EM q w3 (everyF (facF (chT s) 3) (chT s) pp) u.1 u.2) (fun u => CW D A ad K (uS S 0 s) (uS Q p u.1) (q4 qa p w0 w1 w2 u.2) tp bo e uc lr nx) := by
  refine ct_of (lo0 := [(0, .ref (kP ad p)), (1, vI 2)]) (by decide) (Nat.le_of_ble_eq_true rfl) rfl ?_
  intro G hG hR
  have hT1 := hTS.1
  have hCE := chT_CE hTS
  refine v_iconst hG dX6_readBoth_0 ?_
  refine v_istore_n (lo' := [(2, vI 1), (0, .ref (kP ad p)), (1, vI 2)]) hG dX6_readBoth_1 rfl (by decide) rfl ?_
  refine v_lo [1, 2, 0] (lo' := [(0, .ref (kP ad p)), (1, vI 2), (2, vI 1)]) rfl ?_
  have L4 : ∀ mz : Nat, ∀ (t F P : Nat) (L : List Int), (1 ≤ t ∧ t + pp ≤ P + 1 ∧ F + t = 102) → ((everyF (facF (chT s) 3) (chT s) pp) = evL (facF (chT s) 3) (chT s) 38 (-2) F (nxF (facF (chT s) 3) (-2) t L P)) → (L.length + pp ≤ P ∧ (1 < t → L.length + pp + 1 ≤ P) ∧ (P : Int) ≤ s 48) → 102 - t = mz → ∀ x1 : Int, x1 = ((t : Int)) → ∀ x2 : Int → Int, True → ∀ x3 : Int → Int, EM q w3 (P, true, L) x2 x3 → V G 0 0 (CW D A ad K (uS S 0 s) (uS Q p x2) (q4 qa p w0 w1 w2 x3) tp bo e uc lr nx) 2 [(0, .ref (kP ad p)), (1, vI 2), (2, vI x1)] [] := by
    intro dL4
    induction dL4 using Nat.strongRecOn with
    | ind dL4 ihL4 =>
      intro t F P L hq5 hq6 hq7 hq8
      intro x1 hx1
      subst hx1
      intro x2 hx2
      intro x3 hx3
      refine v_iload_n hG dX6_readBoth_2 rfl 2 rfl ?_
      refine v_bipush hG dX6_readBoth_3 (by decide) ?_
      refine v_icmp_gt (tgt := 46) hG dX6_readBoth_5 (by decide) (by omega) (by omega) (fun c9 => ?_) (fun c9 => ?_)
      · skip
        refine v_iconst hG dX6_readBoth_46 ?_
        have hE0 : EM q w3 (P, true, L) x2 x3 := by assumption
        have hpe : chT s P = -1 := (hCE P).1.mpr (by omega)
        have hfe : (facF (chT s) 3) P = (P, false, []) := fac_end hpe 3
        have hst : (everyF (facF (chT s) 3) (chT s) pp) = nxF (facF (chT s) 3) (-2) t L P := ‹(everyF (facF (chT s) 3) (chT s) pp) = evL (facF (chT s) 3) (chT s) 38 (-2) F (nxF (facF (chT s) 3) (-2) t L P)›.trans (evL_stop (Or.inl (by show ((facF (chT s) 3) P).2.1 = false; rw [hfe])))
        have hfb : (nxF (facF (chT s) 3) (-2) t L P).2.1 = false := by show ((facF (chT s) 3) P).2.1 = false; rw [hfe]
        have e10 : @Eq Int (bi ((everyF (facF (chT s) 3) (chT s) pp).2.1 = true)) (0) := by rw [hst, bi_neg (fun h => by rw [hfb] at h; exact Bool.noConfusion h)]
        exact v_zreturn hG hR dX6_readBoth_47 (Or.inl rfl) (x2, x3) (congrArg (fun z => some (vI z)) e10) (by rw [hst]; exact EM_fail hE0.1 (by show _ = ((((facF (chT s) 3) P).1 : Nat) : Int); rw [hfe]; exact hE0.2.1) hE0.2.2.1 hfb) (fun _ hM => hM)
      · skip
        have hE0 : EM q w3 (P, true, L) x2 x3 := by assumption
        have hy1 := EM_n hE0
        have hy2 := (hE0.1 2 (by decide) (by decide)).trans hq2
        have hy3 : _ = (P : Int) := hE0.2.1
        obtain ⟨hg1, hg2, hg3⟩ := facF_rng hCE 3 P (by omega)
        refine v_aload_n hG dX6_readBoth_8 rfl 0 rfl ?_
        refine v_iload_n hG dX6_readBoth_9 rfl 1 rfl ?_
        refine v_callV (k1' := 0) (k2' := 0) hG dX6_readBoth_10 zc_X6_readOne ⟨zl_X6_92, zi_X6_readOne, zs_X6_readOne⟩ (fun l => kc6_readOne3 l D A ad K S Q qa tp s x2 w0 w1 w2 x3 bo e uc lr nx p hp P (by exact hy2) (by exact hy3) (by assumption) (by omega) (by assumption) (by omega)) rfl (cR6 hp) (fun _ h => h) ⟨by decide, by decide⟩ rfl rfl ⟨by decide, by decide⟩ (rest := []) rfl (Nat.le_of_ble_eq_true rfl) (fun u11 => [vI (bi ((facF (chT s) 3 P).2.1 = true))]) (fun _ => rfl) (fun u11 hu11 => ?_)
        have fu11 : EM x2 x3 (facF (chT s) 3 P) u11.1 u11.2 := hu11
        have hE1 := fu11
        refine v_ifb_ne (p := (facF (chT s) 3 P).2.1 = true) (tgt := 18) hG dX6_readBoth_13 (by decide) (fun c12 => ?_) (fun c12 => ?_)
        · skip
          have hfk : ((facF (chT s) 3) P).2.1 = true := by assumption
          obtain ⟨hdd1, hdd2, hdd3⟩ := hE1.2.2.2 hfk
          refine v_iload_n hG dX6_readBoth_18 rfl 2 rfl ?_
          refine v_iconst hG dX6_readBoth_19 ?_
          refine v_icmp_le (tgt := 29) hG dX6_readBoth_20 (by decide) (by omega) (by omega) (fun c13 => ?_) (fun c13 => ?_)
          · skip
            have hE2 : EM q w3 (((facF (chT s) 3) P).1, true, (nxF (facF (chT s) 3) (-2) t L P).2.2) u11.1 u11.2 := by first | exact EM_nx2 hE0 hE1 hkp.1 hfk (by omega) (by decide) (by omega) (by assumption) | exact EM_nx1 hE0 hE1 hkp.1 hfk (by omega)
            have hnl := EM_n hE2
            have hnk : (nxF (facF (chT s) 3) (-2) t L P).2.1 = true := hfk
            have hn1 : (nxF (facF (chT s) 3) (-2) t L P).1 = ((facF (chT s) 3) P).1 := rfl
            have hnl9 : (nxF (facF (chT s) 3) (-2) t L P).2.2.length ≤ L.length + ((facF (chT s) 3) P).2.2.length + (if 1 < t then 1 else 0) := nx_len
            refine v_aload_n hG dX6_readBoth_29 rfl 0 rfl ?_
            refine v_bipush hG dX6_readBoth_30 (by decide) ?_
            refine v_callV (k1' := 0) (k2' := 0) hG dX6_readBoth_32 zc_X6_skip ⟨zl_X6_56, zi_X6_skip, zs_X6_skip⟩ (fun l => kc6_skip l D A ad K S Q qa tp s u11.1 w0 w1 w2 u11.2 bo e uc lr nx p hp (((facF (chT s) 3) P).1) 38 (by exact (hE2.1 2 (by decide) (by decide)).trans hq2) (by exact hE2.2.1) (by assumption) (by omega) (by assumption) (by omega)) rfl (cR6 hp) (fun _ h => h) ⟨by decide, by decide⟩ rfl rfl ⟨by decide, by decide⟩ (rest := []) rfl (Nat.le_of_ble_eq_true rfl) (fun u14 => [vI (bi (chT s (((facF (chT s) 3) P).1) = 38))]) (fun _ => rfl) (fun u14 hu14 => ?_)
            refine v_ifb_ne (p := chT s (((facF (chT s) 3) P).1) = 38) (tgt := 40) hG dX6_readBoth_35 (by decide) (fun c15 => ?_) (fun c15 => ?_)
            · skip
              skip
              refine v_iinc (lo' := [(2, vI ((t : Int) + 1)), (0, .ref (kP ad p)), (1, vI 2)]) hG dX6_readBoth_40 2 rfl (by decide) rfl ?_
              refine v_goto (tgt := 2) hG dX6_readBoth_43 (by decide) ?_
              refine v_lo [1, 2, 0] (lo' := [(0, .ref (kP ad p)), (1, vI 2), (2, vI ((t : Int) + 1))]) rfl ?_
              exact ihL4 _ (by omega) (t + 1) (F - 1) (((facF (chT s) 3) P).1 + 1) ((nxF (facF (chT s) 3) (-2) t L P).2.2) (by omega) (by show (everyF (facF (chT s) 3) (chT s) pp) = evL (facF (chT s) 3) (chT s) 38 (-2) (F - 1) (nxF (facF (chT s) 3) (-2) (t + 1) (nxF (facF (chT s) 3) (-2) t L P).2.2 ((nxF (facF (chT s) 3) (-2) t L P).1 + 1)); rw [← nx_go (r := nxF (facF (chT s) 3) (-2) t L P) (by omega)]; exact ‹(everyF (facF (chT s) 3) (chT s) pp) = evL (facF (chT s) 3) (chT s) 38 (-2) F (nxF (facF (chT s) 3) (-2) t L P)›.trans (evL_go (by omega) hnk (show chT s (nxF (facF (chT s) 3) (-2) t L P).1 = 38 from (show chT s ((facF (chT s) 3) P).1 = 38 by assumption)))) (by have hlt9 := hCE.lt (p := ((facF (chT s) 3) P).1) (fun e => absurd (e.symm.trans (show chT s ((facF (chT s) 3) P).1 = 38 by assumption)) (by decide)); split at hnl9 <;> omega) rfl _ (by omega) _ (by trivial) _ (by rw [show mustF (chT s) 38 (((facF (chT s) 3) P).1, true) = (((facF (chT s) 3) P).1 + 1, true) from if_pos ⟨rfl, by assumption⟩]; exact EM_place hE2)
            · skip
              have hst : (everyF (facF (chT s) 3) (chT s) pp) = nxF (facF (chT s) 3) (-2) t L P := ‹(everyF (facF (chT s) 3) (chT s) pp) = evL (facF (chT s) 3) (chT s) 38 (-2) F (nxF (facF (chT s) 3) (-2) t L P)›.trans (evL_stop (Or.inr (show ¬ chT s (nxF (facF (chT s) 3) (-2) t L P).1 = 38 from (show ¬ chT s ((facF (chT s) 3) P).1 = 38 by assumption))))
              refine v_iconst hG dX6_readBoth_38 ?_
              have e16 : @Eq Int (bi ((everyF (facF (chT s) 3) (chT s) pp).2.1 = true)) (1) := by rw [hst, bi_pos hnk]
              exact v_zreturn hG hR dX6_readBoth_39 (Or.inr rfl) (sU u11.1 3 ((mustF (chT s) 38 ((((facF (chT s) 3) P).1), true)).1 : Nat), u11.2) (congrArg (fun z => some (vI z)) e16) (by rw [hst]; exact (show EM q w3 (nxF (facF (chT s) 3) (-2) t L P) _ _ from (show (nxF (facF (chT s) 3) (-2) t L P) = (((facF (chT s) 3) P).1, true, (nxF (facF (chT s) 3) (-2) t L P).2.2) from Prod.ext rfl (Prod.ext hfk rfl)) ▸ (show EM q w3 (((facF (chT s) 3) P).1, true, (nxF (facF (chT s) 3) (-2) t L P).2.2) _ _ from by rw [show mustF (chT s) 38 (((facF (chT s) 3) P).1, true) = (((facF (chT s) 3) P).1, false) from if_neg (fun h => absurd h.2 (by assumption))]; exact EM_place hE2))) (fun _ hM => hM)
          · skip
            refine v_aload_n hG dX6_readBoth_23 rfl 0 rfl ?_
            refine v_bipush hG dX6_readBoth_24 (by decide) ?_
            refine v_callV (k1' := 0) (k2' := 0) hG dX6_readBoth_26 zc_X6_keep ⟨zl_X6_88, zi_X6_keep, zs_X6_keep⟩ (fun l => kc6_keepG l D A ad K S Q qa tp s u11.1 w0 w1 w2 u11.2 bo e uc lr nx p hp (-2) (by omega)) rfl (cR6 hp) (fun _ h => h) ⟨by decide, by decide⟩ rfl rfl ⟨by decide, by decide⟩ (rest := []) rfl (Nat.le_of_ble_eq_true rfl) (fun u17 => []) (fun _ => rfl) (fun u17 hu17 => ?_)
            have fu17 : KP u11.1 u11.2 (-2) u17.1 u17.2 := hu17
            have hE2 : EM q w3 (((facF (chT s) 3) P).1, true, (nxF (facF (chT s) 3) (-2) t L P).2.2) u17.1 u17.2 := by first | exact EM_nx2 hE0 hE1 hkp.1 hfk (by omega) (by decide) (by omega) (by assumption) | exact EM_nx1 hE0 hE1 hkp.1 hfk (by omega)
            have hnl := EM_n hE2
            have hnk : (nxF (facF (chT s) 3) (-2) t L P).2.1 = true := hfk
            have hn1 : (nxF (facF (chT s) 3) (-2) t L P).1 = ((facF (chT s) 3) P).1 := rfl
            have hnl9 : (nxF (facF (chT s) 3) (-2) t L P).2.2.length ≤ L.length + ((facF (chT s) 3) P).2.2.length + (if 1 < t then 1 else 0) := nx_len
            refine v_aload_n hG dX6_readBoth_29 rfl 0 rfl ?_
            refine v_bipush hG dX6_readBoth_30 (by decide) ?_
            refine v_callV (k1' := 0) (k2' := 0) hG dX6_readBoth_32 zc_X6_skip ⟨zl_X6_56, zi_X6_skip, zs_X6_skip⟩ (fun l => kc6_skip l D A ad K S Q qa tp s u17.1 w0 w1 w2 u17.2 bo e uc lr nx p hp (((facF (chT s) 3) P).1) 38 (by exact (hE2.1 2 (by decide) (by decide)).trans hq2) (by exact hE2.2.1) (by assumption) (by omega) (by assumption) (by omega)) rfl (cR6 hp) (fun _ h => h) ⟨by decide, by decide⟩ rfl rfl ⟨by decide, by decide⟩ (rest := []) rfl (Nat.le_of_ble_eq_true rfl) (fun u18 => [vI (bi (chT s (((facF (chT s) 3) P).1) = 38))]) (fun _ => rfl) (fun u18 hu18 => ?_)
            refine v_ifb_ne (p := chT s (((facF (chT s) 3) P).1) = 38) (tgt := 40) hG dX6_readBoth_35 (by decide) (fun c19 => ?_) (fun c19 => ?_)
            · skip
              skip
              refine v_iinc (lo' := [(2, vI ((t : Int) + 1)), (0, .ref (kP ad p)), (1, vI 2)]) hG dX6_readBoth_40 2 rfl (by decide) rfl ?_
              refine v_goto (tgt := 2) hG dX6_readBoth_43 (by decide) ?_
              refine v_lo [1, 2, 0] (lo' := [(0, .ref (kP ad p)), (1, vI 2), (2, vI ((t : Int) + 1))]) rfl ?_
              exact ihL4 _ (by omega) (t + 1) (F - 1) (((facF (chT s) 3) P).1 + 1) ((nxF (facF (chT s) 3) (-2) t L P).2.2) (by omega) (by show (everyF (facF (chT s) 3) (chT s) pp) = evL (facF (chT s) 3) (chT s) 38 (-2) (F - 1) (nxF (facF (chT s) 3) (-2) (t + 1) (nxF (facF (chT s) 3) (-2) t L P).2.2 ((nxF (facF (chT s) 3) (-2) t L P).1 + 1)); rw [← nx_go (r := nxF (facF (chT s) 3) (-2) t L P) (by omega)]; exact ‹(everyF (facF (chT s) 3) (chT s) pp) = evL (facF (chT s) 3) (chT s) 38 (-2) F (nxF (facF (chT s) 3) (-2) t L P)›.trans (evL_go (by omega) hnk (show chT s (nxF (facF (chT s) 3) (-2) t L P).1 = 38 from (show chT s ((facF (chT s) 3) P).1 = 38 by assumption)))) (by have hlt9 := hCE.lt (p := ((facF (chT s) 3) P).1) (fun e => absurd (e.symm.trans (show chT s ((facF (chT s) 3) P).1 = 38 by assumption)) (by decide)); split at hnl9 <;> omega) rfl _ (by omega) _ (by trivial) _ (by rw [show mustF (chT s) 38 (((facF (chT s) 3) P).1, true) = (((facF (chT s) 3) P).1 + 1, true) from if_pos ⟨rfl, by assumption⟩]; exact EM_place hE2)
            · skip
              have hst : (everyF (facF (chT s) 3) (chT s) pp) = nxF (facF (chT s) 3) (-2) t L P := ‹(everyF (facF (chT s) 3) (chT s) pp) = evL (facF (chT s) 3) (chT s) 38 (-2) F (nxF (facF (chT s) 3) (-2) t L P)›.trans (evL_stop (Or.inr (show ¬ chT s (nxF (facF (chT s) 3) (-2) t L P).1 = 38 from (show ¬ chT s ((facF (chT s) 3) P).1 = 38 by assumption))))
              refine v_iconst hG dX6_readBoth_38 ?_
              have e20 : @Eq Int (bi ((everyF (facF (chT s) 3) (chT s) pp).2.1 = true)) (1) := by rw [hst, bi_pos hnk]
              exact v_zreturn hG hR dX6_readBoth_39 (Or.inr rfl) (sU u17.1 3 ((mustF (chT s) 38 ((((facF (chT s) 3) P).1), true)).1 : Nat), u17.2) (congrArg (fun z => some (vI z)) e20) (by rw [hst]; exact (show EM q w3 (nxF (facF (chT s) 3) (-2) t L P) _ _ from (show (nxF (facF (chT s) 3) (-2) t L P) = (((facF (chT s) 3) P).1, true, (nxF (facF (chT s) 3) (-2) t L P).2.2) from Prod.ext rfl (Prod.ext hfk rfl)) ▸ (show EM q w3 (((facF (chT s) 3) P).1, true, (nxF (facF (chT s) 3) (-2) t L P).2.2) _ _ from by rw [show mustF (chT s) 38 (((facF (chT s) 3) P).1, true) = (((facF (chT s) 3) P).1, false) from if_neg (fun h => absurd h.2 (by assumption))]; exact EM_place hE2))) (fun _ hM => hM)
        · skip
          have hfb : ((facF (chT s) 3) P).2.1 = false := by
            cases q9 : ((facF (chT s) 3) P).2.1
            · rfl
            · exact absurd q9 (by assumption)
          refine v_iconst hG dX6_readBoth_16 ?_
          have e21 : @Eq Int (bi ((everyF (facF (chT s) 3) (chT s) pp).2.1 = true)) (0) := by have hst : (everyF (facF (chT s) 3) (chT s) pp) = nxF (facF (chT s) 3) (-2) t L P := ‹(everyF (facF (chT s) 3) (chT s) pp) = evL (facF (chT s) 3) (chT s) 38 (-2) F (nxF (facF (chT s) 3) (-2) t L P)›.trans (evL_stop (Or.inl hfb)); rw [hst, bi_neg (show ¬ (nxF (facF (chT s) 3) (-2) t L P).2.1 = true from fun h => by rw [show (nxF (facF (chT s) 3) (-2) t L P).2.1 = false from hfb] at h; exact Bool.noConfusion h)]
          exact v_zreturn hG hR dX6_readBoth_17 (Or.inl rfl) (u11.1, u11.2) (congrArg (fun z => some (vI z)) e21) (by rw [show (everyF (facF (chT s) 3) (chT s) pp) = nxF (facF (chT s) 3) (-2) t L P from ‹(everyF (facF (chT s) 3) (chT s) pp) = evL (facF (chT s) 3) (chT s) 38 (-2) F (nxF (facF (chT s) 3) (-2) t L P)›.trans (evL_stop (Or.inl hfb))]; exact EM_failc hE0 hE1 rfl hfb) (fun _ hM => hM)
  exact L4 _ 1 101 pp ([]) (by omega) (by rw [nx_1]; rfl) (by show 0 + pp ≤ pp ∧ (1 < 1 → 0 + pp + 1 ≤ pp) ∧ (pp : Int) ≤ s 48; omega) rfl _ (by rfl) _ (by trivial) _ (by exact EM_0 h3 (by omega))
set_option maxHeartbeats 4000000 in
set_option maxRecDepth 100000 in
theorem kc6_readEither3 (l : Launch) (D : Dx) (A : Nat → Prop) (ad : Nat → Nat) (K : Int → Int) (S Q qa : Nat → Int → Int) (tp : Nat → Nat) (s q w0 w1 w2 w3 bo e uc lr nx : Int → Int) (p : Nat) (hp : p < 6) (pp : Nat) (hq2 : q 2 = s 48) (h3 : q 3 = (pp : Int)) (hTS : TS s) (hpn : (pp : Int) ≤ s 48) (htp : tp p = kC ad 0 0) (hkp : 0 ≤ q 1 ∧ q 1 ≤ (pp : Int)) : CT l D A yX6_readEither cX6_readEither 3 (some .boolean) { frames := 16, cells := 0, slots := 0, locals := 363 } [.ref (kP ad p), vI 2] (CW D A ad K (uS S 0 s) (uS Q p q) (q4 qa p w0 w1 w2 w3) tp bo e uc lr nx) (fun u : (Int → Int) × (Int → Int) => some (vI (bi ((someF (facF (chT s) 3) (chT s) pp).2.1 = true)))) (fun u => EM q w3 (someF (facF (chT s) 3) (chT s) pp) u.1 u.2) (fun u => CW D A ad K (uS S 0 s) (uS Q p u.1) (q4 qa p w0 w1 w2 u.2) tp bo e uc lr nx) := by
  refine ct_of (lo0 := [(0, .ref (kP ad p)), (1, vI 2)]) (by decide) (Nat.le_of_ble_eq_true rfl) rfl ?_
  intro G hG hR
  have hT1 := hTS.1
  have hCE := chT_CE hTS
  refine v_iconst hG dX6_readEither_0 ?_
  refine v_istore_n (lo' := [(2, vI 1), (0, .ref (kP ad p)), (1, vI 2)]) hG dX6_readEither_1 rfl (by decide) rfl ?_
  refine v_lo [1, 2, 0] (lo' := [(0, .ref (kP ad p)), (1, vI 2), (2, vI 1)]) rfl ?_
  have L4 : ∀ mz : Nat, ∀ (t F P : Nat) (L : List Int), (1 ≤ t ∧ t + pp ≤ P + 1 ∧ F + t = 102) → ((someF (facF (chT s) 3) (chT s) pp) = evL (everyF (facF (chT s) 3) (chT s)) (chT s) 124 (-3) F (nxF (everyF (facF (chT s) 3) (chT s)) (-3) t L P)) → (L.length + pp ≤ P ∧ (1 < t → L.length + pp + 1 ≤ P) ∧ (P : Int) ≤ s 48) → 102 - t = mz → ∀ x1 : Int, x1 = ((t : Int)) → ∀ x2 : Int → Int, True → ∀ x3 : Int → Int, EM q w3 (P, true, L) x2 x3 → V G 0 0 (CW D A ad K (uS S 0 s) (uS Q p x2) (q4 qa p w0 w1 w2 x3) tp bo e uc lr nx) 2 [(0, .ref (kP ad p)), (1, vI 2), (2, vI x1)] [] := by
    intro dL4
    induction dL4 using Nat.strongRecOn with
    | ind dL4 ihL4 =>
      intro t F P L hq5 hq6 hq7 hq8
      intro x1 hx1
      subst hx1
      intro x2 hx2
      intro x3 hx3
      refine v_iload_n hG dX6_readEither_2 rfl 2 rfl ?_
      refine v_bipush hG dX6_readEither_3 (by decide) ?_
      refine v_icmp_gt (tgt := 46) hG dX6_readEither_5 (by decide) (by omega) (by omega) (fun c9 => ?_) (fun c9 => ?_)
      · skip
        refine v_iconst hG dX6_readEither_46 ?_
        have hE0 : EM q w3 (P, true, L) x2 x3 := by assumption
        have hpe : chT s P = -1 := (hCE P).1.mpr (by omega)
        have hfe : (everyF (facF (chT s) 3) (chT s)) P = (P, false, []) := every_end hpe
        have hst : (someF (facF (chT s) 3) (chT s) pp) = nxF (everyF (facF (chT s) 3) (chT s)) (-3) t L P := ‹(someF (facF (chT s) 3) (chT s) pp) = evL (everyF (facF (chT s) 3) (chT s)) (chT s) 124 (-3) F (nxF (everyF (facF (chT s) 3) (chT s)) (-3) t L P)›.trans (evL_stop (Or.inl (by show ((everyF (facF (chT s) 3) (chT s)) P).2.1 = false; rw [hfe])))
        have hfb : (nxF (everyF (facF (chT s) 3) (chT s)) (-3) t L P).2.1 = false := by show ((everyF (facF (chT s) 3) (chT s)) P).2.1 = false; rw [hfe]
        have e10 : @Eq Int (bi ((someF (facF (chT s) 3) (chT s) pp).2.1 = true)) (0) := by rw [hst, bi_neg (fun h => by rw [hfb] at h; exact Bool.noConfusion h)]
        exact v_zreturn hG hR dX6_readEither_47 (Or.inl rfl) (x2, x3) (congrArg (fun z => some (vI z)) e10) (by rw [hst]; exact EM_fail hE0.1 (by show _ = ((((everyF (facF (chT s) 3) (chT s)) P).1 : Nat) : Int); rw [hfe]; exact hE0.2.1) hE0.2.2.1 hfb) (fun _ hM => hM)
      · skip
        have hE0 : EM q w3 (P, true, L) x2 x3 := by assumption
        have hy1 := EM_n hE0
        have hy2 := (hE0.1 2 (by decide) (by decide)).trans hq2
        have hy3 : _ = (P : Int) := hE0.2.1
        obtain ⟨hg1, hg2, hg3⟩ := everyF_rng hCE (fun x hx => facF_rng hCE 3 x hx) (p := P) (by omega)
        refine v_aload_n hG dX6_readEither_8 rfl 0 rfl ?_
        refine v_iload_n hG dX6_readEither_9 rfl 1 rfl ?_
        refine v_callV (k1' := 0) (k2' := 0) hG dX6_readEither_10 zc_X6_readBoth ⟨zl_X6_85, zi_X6_readBoth, zs_X6_readBoth⟩ (fun l => kc6_readBoth3 l D A ad K S Q qa tp s x2 w0 w1 w2 x3 bo e uc lr nx p hp P (by exact hy2) (by exact hy3) (by assumption) (by omega) (by assumption) (by omega)) rfl (cR6 hp) (fun _ h => h) ⟨by decide, by decide⟩ rfl rfl ⟨by decide, by decide⟩ (rest := []) rfl (Nat.le_of_ble_eq_true rfl) (fun u11 => [vI (bi ((everyF (facF (chT s) 3) (chT s) P).2.1 = true))]) (fun _ => rfl) (fun u11 hu11 => ?_)
        have fu11 : EM x2 x3 (everyF (facF (chT s) 3) (chT s) P) u11.1 u11.2 := hu11
        have hE1 := fu11
        refine v_ifb_ne (p := (everyF (facF (chT s) 3) (chT s) P).2.1 = true) (tgt := 18) hG dX6_readEither_13 (by decide) (fun c12 => ?_) (fun c12 => ?_)
        · skip
          have hfk : ((everyF (facF (chT s) 3) (chT s)) P).2.1 = true := by assumption
          obtain ⟨hdd1, hdd2, hdd3⟩ := hE1.2.2.2 hfk
          refine v_iload_n hG dX6_readEither_18 rfl 2 rfl ?_
          refine v_iconst hG dX6_readEither_19 ?_
          refine v_icmp_le (tgt := 29) hG dX6_readEither_20 (by decide) (by omega) (by omega) (fun c13 => ?_) (fun c13 => ?_)
          · skip
            have hE2 : EM q w3 (((everyF (facF (chT s) 3) (chT s)) P).1, true, (nxF (everyF (facF (chT s) 3) (chT s)) (-3) t L P).2.2) u11.1 u11.2 := by first | exact EM_nx2 hE0 hE1 hkp.1 hfk (by omega) (by decide) (by omega) (by assumption) | exact EM_nx1 hE0 hE1 hkp.1 hfk (by omega)
            have hnl := EM_n hE2
            have hnk : (nxF (everyF (facF (chT s) 3) (chT s)) (-3) t L P).2.1 = true := hfk
            have hn1 : (nxF (everyF (facF (chT s) 3) (chT s)) (-3) t L P).1 = ((everyF (facF (chT s) 3) (chT s)) P).1 := rfl
            have hnl9 : (nxF (everyF (facF (chT s) 3) (chT s)) (-3) t L P).2.2.length ≤ L.length + ((everyF (facF (chT s) 3) (chT s)) P).2.2.length + (if 1 < t then 1 else 0) := nx_len
            refine v_aload_n hG dX6_readEither_29 rfl 0 rfl ?_
            refine v_bipush hG dX6_readEither_30 (by decide) ?_
            refine v_callV (k1' := 0) (k2' := 0) hG dX6_readEither_32 zc_X6_skip ⟨zl_X6_56, zi_X6_skip, zs_X6_skip⟩ (fun l => kc6_skip l D A ad K S Q qa tp s u11.1 w0 w1 w2 u11.2 bo e uc lr nx p hp (((everyF (facF (chT s) 3) (chT s)) P).1) 124 (by exact (hE2.1 2 (by decide) (by decide)).trans hq2) (by exact hE2.2.1) (by assumption) (by omega) (by assumption) (by omega)) rfl (cR6 hp) (fun _ h => h) ⟨by decide, by decide⟩ rfl rfl ⟨by decide, by decide⟩ (rest := []) rfl (Nat.le_of_ble_eq_true rfl) (fun u14 => [vI (bi (chT s (((everyF (facF (chT s) 3) (chT s)) P).1) = 124))]) (fun _ => rfl) (fun u14 hu14 => ?_)
            refine v_ifb_ne (p := chT s (((everyF (facF (chT s) 3) (chT s)) P).1) = 124) (tgt := 40) hG dX6_readEither_35 (by decide) (fun c15 => ?_) (fun c15 => ?_)
            · skip
              skip
              refine v_iinc (lo' := [(2, vI ((t : Int) + 1)), (0, .ref (kP ad p)), (1, vI 2)]) hG dX6_readEither_40 2 rfl (by decide) rfl ?_
              refine v_goto (tgt := 2) hG dX6_readEither_43 (by decide) ?_
              refine v_lo [1, 2, 0] (lo' := [(0, .ref (kP ad p)), (1, vI 2), (2, vI ((t : Int) + 1))]) rfl ?_
              exact ihL4 _ (by omega) (t + 1) (F - 1) (((everyF (facF (chT s) 3) (chT s)) P).1 + 1) ((nxF (everyF (facF (chT s) 3) (chT s)) (-3) t L P).2.2) (by omega) (by show (someF (facF (chT s) 3) (chT s) pp) = evL (everyF (facF (chT s) 3) (chT s)) (chT s) 124 (-3) (F - 1) (nxF (everyF (facF (chT s) 3) (chT s)) (-3) (t + 1) (nxF (everyF (facF (chT s) 3) (chT s)) (-3) t L P).2.2 ((nxF (everyF (facF (chT s) 3) (chT s)) (-3) t L P).1 + 1)); rw [← nx_go (r := nxF (everyF (facF (chT s) 3) (chT s)) (-3) t L P) (by omega)]; exact ‹(someF (facF (chT s) 3) (chT s) pp) = evL (everyF (facF (chT s) 3) (chT s)) (chT s) 124 (-3) F (nxF (everyF (facF (chT s) 3) (chT s)) (-3) t L P)›.trans (evL_go (by omega) hnk (show chT s (nxF (everyF (facF (chT s) 3) (chT s)) (-3) t L P).1 = 124 from (show chT s ((everyF (facF (chT s) 3) (chT s)) P).1 = 124 by assumption)))) (by have hlt9 := hCE.lt (p := ((everyF (facF (chT s) 3) (chT s)) P).1) (fun e => absurd (e.symm.trans (show chT s ((everyF (facF (chT s) 3) (chT s)) P).1 = 124 by assumption)) (by decide)); split at hnl9 <;> omega) rfl _ (by omega) _ (by trivial) _ (by rw [show mustF (chT s) 124 (((everyF (facF (chT s) 3) (chT s)) P).1, true) = (((everyF (facF (chT s) 3) (chT s)) P).1 + 1, true) from if_pos ⟨rfl, by assumption⟩]; exact EM_place hE2)
            · skip
              have hst : (someF (facF (chT s) 3) (chT s) pp) = nxF (everyF (facF (chT s) 3) (chT s)) (-3) t L P := ‹(someF (facF (chT s) 3) (chT s) pp) = evL (everyF (facF (chT s) 3) (chT s)) (chT s) 124 (-3) F (nxF (everyF (facF (chT s) 3) (chT s)) (-3) t L P)›.trans (evL_stop (Or.inr (show ¬ chT s (nxF (everyF (facF (chT s) 3) (chT s)) (-3) t L P).1 = 124 from (show ¬ chT s ((everyF (facF (chT s) 3) (chT s)) P).1 = 124 by assumption))))
              refine v_iconst hG dX6_readEither_38 ?_
              have e16 : @Eq Int (bi ((someF (facF (chT s) 3) (chT s) pp).2.1 = true)) (1) := by rw [hst, bi_pos hnk]
              exact v_zreturn hG hR dX6_readEither_39 (Or.inr rfl) (sU u11.1 3 ((mustF (chT s) 124 ((((everyF (facF (chT s) 3) (chT s)) P).1), true)).1 : Nat), u11.2) (congrArg (fun z => some (vI z)) e16) (by rw [hst]; exact (show EM q w3 (nxF (everyF (facF (chT s) 3) (chT s)) (-3) t L P) _ _ from (show (nxF (everyF (facF (chT s) 3) (chT s)) (-3) t L P) = (((everyF (facF (chT s) 3) (chT s)) P).1, true, (nxF (everyF (facF (chT s) 3) (chT s)) (-3) t L P).2.2) from Prod.ext rfl (Prod.ext hfk rfl)) ▸ (show EM q w3 (((everyF (facF (chT s) 3) (chT s)) P).1, true, (nxF (everyF (facF (chT s) 3) (chT s)) (-3) t L P).2.2) _ _ from by rw [show mustF (chT s) 124 (((everyF (facF (chT s) 3) (chT s)) P).1, true) = (((everyF (facF (chT s) 3) (chT s)) P).1, false) from if_neg (fun h => absurd h.2 (by assumption))]; exact EM_place hE2))) (fun _ hM => hM)
          · skip
            refine v_aload_n hG dX6_readEither_23 rfl 0 rfl ?_
            refine v_bipush hG dX6_readEither_24 (by decide) ?_
            refine v_callV (k1' := 0) (k2' := 0) hG dX6_readEither_26 zc_X6_keep ⟨zl_X6_88, zi_X6_keep, zs_X6_keep⟩ (fun l => kc6_keepG l D A ad K S Q qa tp s u11.1 w0 w1 w2 u11.2 bo e uc lr nx p hp (-3) (by omega)) rfl (cR6 hp) (fun _ h => h) ⟨by decide, by decide⟩ rfl rfl ⟨by decide, by decide⟩ (rest := []) rfl (Nat.le_of_ble_eq_true rfl) (fun u17 => []) (fun _ => rfl) (fun u17 hu17 => ?_)
            have fu17 : KP u11.1 u11.2 (-3) u17.1 u17.2 := hu17
            have hE2 : EM q w3 (((everyF (facF (chT s) 3) (chT s)) P).1, true, (nxF (everyF (facF (chT s) 3) (chT s)) (-3) t L P).2.2) u17.1 u17.2 := by first | exact EM_nx2 hE0 hE1 hkp.1 hfk (by omega) (by decide) (by omega) (by assumption) | exact EM_nx1 hE0 hE1 hkp.1 hfk (by omega)
            have hnl := EM_n hE2
            have hnk : (nxF (everyF (facF (chT s) 3) (chT s)) (-3) t L P).2.1 = true := hfk
            have hn1 : (nxF (everyF (facF (chT s) 3) (chT s)) (-3) t L P).1 = ((everyF (facF (chT s) 3) (chT s)) P).1 := rfl
            have hnl9 : (nxF (everyF (facF (chT s) 3) (chT s)) (-3) t L P).2.2.length ≤ L.length + ((everyF (facF (chT s) 3) (chT s)) P).2.2.length + (if 1 < t then 1 else 0) := nx_len
            refine v_aload_n hG dX6_readEither_29 rfl 0 rfl ?_
            refine v_bipush hG dX6_readEither_30 (by decide) ?_
            refine v_callV (k1' := 0) (k2' := 0) hG dX6_readEither_32 zc_X6_skip ⟨zl_X6_56, zi_X6_skip, zs_X6_skip⟩ (fun l => kc6_skip l D A ad K S Q qa tp s u17.1 w0 w1 w2 u17.2 bo e uc lr nx p hp (((everyF (facF (chT s) 3) (chT s)) P).1) 124 (by exact (hE2.1 2 (by decide) (by decide)).trans hq2) (by exact hE2.2.1) (by assumption) (by omega) (by assumption) (by omega)) rfl (cR6 hp) (fun _ h => h) ⟨by decide, by decide⟩ rfl rfl ⟨by decide, by decide⟩ (rest := []) rfl (Nat.le_of_ble_eq_true rfl) (fun u18 => [vI (bi (chT s (((everyF (facF (chT s) 3) (chT s)) P).1) = 124))]) (fun _ => rfl) (fun u18 hu18 => ?_)
            refine v_ifb_ne (p := chT s (((everyF (facF (chT s) 3) (chT s)) P).1) = 124) (tgt := 40) hG dX6_readEither_35 (by decide) (fun c19 => ?_) (fun c19 => ?_)
            · skip
              skip
              refine v_iinc (lo' := [(2, vI ((t : Int) + 1)), (0, .ref (kP ad p)), (1, vI 2)]) hG dX6_readEither_40 2 rfl (by decide) rfl ?_
              refine v_goto (tgt := 2) hG dX6_readEither_43 (by decide) ?_
              refine v_lo [1, 2, 0] (lo' := [(0, .ref (kP ad p)), (1, vI 2), (2, vI ((t : Int) + 1))]) rfl ?_
              exact ihL4 _ (by omega) (t + 1) (F - 1) (((everyF (facF (chT s) 3) (chT s)) P).1 + 1) ((nxF (everyF (facF (chT s) 3) (chT s)) (-3) t L P).2.2) (by omega) (by show (someF (facF (chT s) 3) (chT s) pp) = evL (everyF (facF (chT s) 3) (chT s)) (chT s) 124 (-3) (F - 1) (nxF (everyF (facF (chT s) 3) (chT s)) (-3) (t + 1) (nxF (everyF (facF (chT s) 3) (chT s)) (-3) t L P).2.2 ((nxF (everyF (facF (chT s) 3) (chT s)) (-3) t L P).1 + 1)); rw [← nx_go (r := nxF (everyF (facF (chT s) 3) (chT s)) (-3) t L P) (by omega)]; exact ‹(someF (facF (chT s) 3) (chT s) pp) = evL (everyF (facF (chT s) 3) (chT s)) (chT s) 124 (-3) F (nxF (everyF (facF (chT s) 3) (chT s)) (-3) t L P)›.trans (evL_go (by omega) hnk (show chT s (nxF (everyF (facF (chT s) 3) (chT s)) (-3) t L P).1 = 124 from (show chT s ((everyF (facF (chT s) 3) (chT s)) P).1 = 124 by assumption)))) (by have hlt9 := hCE.lt (p := ((everyF (facF (chT s) 3) (chT s)) P).1) (fun e => absurd (e.symm.trans (show chT s ((everyF (facF (chT s) 3) (chT s)) P).1 = 124 by assumption)) (by decide)); split at hnl9 <;> omega) rfl _ (by omega) _ (by trivial) _ (by rw [show mustF (chT s) 124 (((everyF (facF (chT s) 3) (chT s)) P).1, true) = (((everyF (facF (chT s) 3) (chT s)) P).1 + 1, true) from if_pos ⟨rfl, by assumption⟩]; exact EM_place hE2)
            · skip
              have hst : (someF (facF (chT s) 3) (chT s) pp) = nxF (everyF (facF (chT s) 3) (chT s)) (-3) t L P := ‹(someF (facF (chT s) 3) (chT s) pp) = evL (everyF (facF (chT s) 3) (chT s)) (chT s) 124 (-3) F (nxF (everyF (facF (chT s) 3) (chT s)) (-3) t L P)›.trans (evL_stop (Or.inr (show ¬ chT s (nxF (everyF (facF (chT s) 3) (chT s)) (-3) t L P).1 = 124 from (show ¬ chT s ((everyF (facF (chT s) 3) (chT s)) P).1 = 124 by assumption))))
              refine v_iconst hG dX6_readEither_38 ?_
              have e20 : @Eq Int (bi ((someF (facF (chT s) 3) (chT s) pp).2.1 = true)) (1) := by rw [hst, bi_pos hnk]
              exact v_zreturn hG hR dX6_readEither_39 (Or.inr rfl) (sU u17.1 3 ((mustF (chT s) 124 ((((everyF (facF (chT s) 3) (chT s)) P).1), true)).1 : Nat), u17.2) (congrArg (fun z => some (vI z)) e20) (by rw [hst]; exact (show EM q w3 (nxF (everyF (facF (chT s) 3) (chT s)) (-3) t L P) _ _ from (show (nxF (everyF (facF (chT s) 3) (chT s)) (-3) t L P) = (((everyF (facF (chT s) 3) (chT s)) P).1, true, (nxF (everyF (facF (chT s) 3) (chT s)) (-3) t L P).2.2) from Prod.ext rfl (Prod.ext hfk rfl)) ▸ (show EM q w3 (((everyF (facF (chT s) 3) (chT s)) P).1, true, (nxF (everyF (facF (chT s) 3) (chT s)) (-3) t L P).2.2) _ _ from by rw [show mustF (chT s) 124 (((everyF (facF (chT s) 3) (chT s)) P).1, true) = (((everyF (facF (chT s) 3) (chT s)) P).1, false) from if_neg (fun h => absurd h.2 (by assumption))]; exact EM_place hE2))) (fun _ hM => hM)
        · skip
          have hfb : ((everyF (facF (chT s) 3) (chT s)) P).2.1 = false := by
            cases q9 : ((everyF (facF (chT s) 3) (chT s)) P).2.1
            · rfl
            · exact absurd q9 (by assumption)
          refine v_iconst hG dX6_readEither_16 ?_
          have e21 : @Eq Int (bi ((someF (facF (chT s) 3) (chT s) pp).2.1 = true)) (0) := by have hst : (someF (facF (chT s) 3) (chT s) pp) = nxF (everyF (facF (chT s) 3) (chT s)) (-3) t L P := ‹(someF (facF (chT s) 3) (chT s) pp) = evL (everyF (facF (chT s) 3) (chT s)) (chT s) 124 (-3) F (nxF (everyF (facF (chT s) 3) (chT s)) (-3) t L P)›.trans (evL_stop (Or.inl hfb)); rw [hst, bi_neg (show ¬ (nxF (everyF (facF (chT s) 3) (chT s)) (-3) t L P).2.1 = true from fun h => by rw [show (nxF (everyF (facF (chT s) 3) (chT s)) (-3) t L P).2.1 = false from hfb] at h; exact Bool.noConfusion h)]
          exact v_zreturn hG hR dX6_readEither_17 (Or.inl rfl) (u11.1, u11.2) (congrArg (fun z => some (vI z)) e21) (by rw [show (someF (facF (chT s) 3) (chT s) pp) = nxF (everyF (facF (chT s) 3) (chT s)) (-3) t L P from ‹(someF (facF (chT s) 3) (chT s) pp) = evL (everyF (facF (chT s) 3) (chT s)) (chT s) 124 (-3) F (nxF (everyF (facF (chT s) 3) (chT s)) (-3) t L P)›.trans (evL_stop (Or.inl hfb))]; exact EM_failc hE0 hE1 rfl hfb) (fun _ hM => hM)
  exact L4 _ 1 101 pp ([]) (by omega) (by rw [nx_1]; rfl) (by show 0 + pp ≤ pp ∧ (1 < 1 → 0 + pp + 1 ≤ pp) ∧ (pp : Int) ≤ s 48; omega) rfl _ (by rfl) _ (by trivial) _ (by exact EM_0 h3 (by omega))
set_option maxHeartbeats 4000000 in
set_option maxRecDepth 100000 in
theorem kc6_readOne4 (l : Launch) (D : Dx) (A : Nat → Prop) (ad : Nat → Nat) (K : Int → Int) (S Q qa : Nat → Int → Int) (tp : Nat → Nat) (s q w0 w1 w2 w3 bo e uc lr nx : Int → Int) (p : Nat) (hp : p < 6) (pp : Nat) (hq2 : q 2 = s 48) (h3 : q 3 = (pp : Int)) (hTS : TS s) (hpn : (pp : Int) ≤ s 48) (htp : tp p = kC ad 0 0) (hkp : 0 ≤ q 1 ∧ q 1 ≤ (pp : Int)) : CT l D A yX6_readOne cX6_readOne 5 (some .boolean) { frames := 17, cells := 0, slots := 0, locals := 385 } [.ref (kP ad p), vI 1] (CW D A ad K (uS S 0 s) (uS Q p q) (q4 qa p w0 w1 w2 w3) tp bo e uc lr nx) (fun u : (Int → Int) × (Int → Int) => some (vI (bi ((facF (chT s) 4 pp).2.1 = true)))) (fun u => EM q w3 (facF (chT s) 4 pp) u.1 u.2) (fun u => CW D A ad K (uS S 0 s) (uS Q p u.1) (q4 qa p w0 w1 w2 u.2) tp bo e uc lr nx) := by
  refine ct_of (lo0 := [(0, .ref (kP ad p)), (1, vI 1)]) (by decide) (Nat.le_of_ble_eq_true rfl) rfl ?_
  intro G hG hR
  have hT1 := hTS.1
  have hCE := chT_CE hTS
  have hz1 := zix_b (i := 1) (by decide) (chT s pp)
  have hz2 := zix_b (i := 2) (by decide) (chT s (pp + 1))
  have hfr := figF_rng (ok := true) hCE (p := pp + 2)
  refine v_iload_n hG dX6_readOne_0 rfl 1 rfl ?_
  refine v_iconst hG dX6_readOne_1 ?_
  refine v_icmp_ge (tgt := 63) hG dX6_readOne_2 (by decide) (by omega) (by omega) (fun c1 => ?_) (fun c1 => ?_)
  · skip
    exfalso; omega
  · skip
    refine v_aload_n hG dX6_readOne_5 rfl 0 rfl ?_
    refine v_bipush hG dX6_readOne_6 (by decide) ?_
    refine v_callV (k1' := 0) (k2' := 0) hG dX6_readOne_8 zc_X6_skip ⟨zl_X6_56, zi_X6_skip, zs_X6_skip⟩ (fun l => kc6_skip l D A ad K S Q qa tp s q w0 w1 w2 w3 bo e uc lr nx p hp pp 33 (by first | assumption | (rw [sU_ne (by omega)]; assumption) | (simp only [sU_at]; (repeat' split) <;> first | assumption | (exfalso; omega))) (by first | exact sU_eq | assumption) (by assumption) (by omega) (by assumption) (by omega)) rfl (cR6 hp) (fun _ h => h) ⟨by decide, by decide⟩ rfl rfl ⟨by decide, by decide⟩ (rest := []) rfl (Nat.le_of_ble_eq_true rfl) (fun u2 => [vI (bi (chT s pp = 33))]) (fun _ => rfl) (fun u2 hu2 => ?_)
    refine v_ifb_eq (p := chT s pp = 33) (tgt := 29) hG dX6_readOne_11 (by decide) (fun c3 => ?_) (fun c3 => ?_)
    · skip
      rw [mst_n (show ¬ chT s pp = 33 by assumption), ← sU_at3 h3]
      refine v_aload_n hG dX6_readOne_29 rfl 0 rfl ?_
      refine v_bipush hG dX6_readOne_30 (by decide) ?_
      refine v_callV (k1' := 0) (k2' := 0) hG dX6_readOne_32 zc_X6_skip ⟨zl_X6_56, zi_X6_skip, zs_X6_skip⟩ (fun l => kc6_skip l D A ad K S Q qa tp s q w0 w1 w2 w3 bo e uc lr nx p hp pp 40 (by first | assumption | (rw [sU_ne (by omega)]; assumption) | (simp only [sU_at]; (repeat' split) <;> first | assumption | (exfalso; omega))) (by first | exact sU_eq | assumption) (by assumption) (by omega) (by assumption) (by omega)) rfl (cR6 hp) (fun _ h => h) ⟨by decide, by decide⟩ rfl rfl ⟨by decide, by decide⟩ (rest := []) rfl (Nat.le_of_ble_eq_true rfl) (fun u4 => [vI (bi (chT s pp = 40))]) (fun _ => rfl) (fun u4 hu4 => ?_)
      refine v_ifb_eq (p := chT s pp = 40) (tgt := 63) hG dX6_readOne_35 (by decide) (fun c5 => ?_) (fun c5 => ?_)
      · skip
        rw [mst_n (show ¬ chT s pp = 40 by assumption), ← sU_at3 h3]
        refine v_aload_n hG dX6_readOne_63 rfl 0 rfl ?_
        refine v_ldcS (i := 1) (tx := "mkdxtv") hG dX6_readOne_64 (by decide) ?_
        refine v_callV (k1' := 0) (k2' := 0) hG dX6_readOne_66 zc_X6_readOneOf ⟨zl_X6_97, zi_X6_readOneOf, zs_X6_readOneOf⟩ (fun l => kc6_readOneOf l D A ad K S Q qa tp s q w0 w1 w2 w3 bo e uc lr nx p hp pp 1 (by first | assumption | (rw [sU_ne (by omega)]; assumption) | (simp only [sU_at]; (repeat' split) <;> first | assumption | (exfalso; omega))) (by first | exact sU_eq | assumption) (by assumption) (by omega) (by assumption) (by first | assumption | decide)) rfl (cR6 hp) (fun _ h => h) ⟨by decide, by decide⟩ rfl rfl ⟨by decide, by decide⟩ (rest := []) rfl (Nat.le_of_ble_eq_true rfl) (fun u6 => [vI (zix 1 (chT s pp))]) (fun _ => rfl) (fun u6 hu6 => ?_)
        have fu6 : -1 ≤ zix 1 (chT s pp) ∧ zix 1 (chT s pp) ≤ 16 := hu6
        refine v_istore_n (lo' := [(2, vI (zix 1 (chT s pp))), (0, .ref (kP ad p)), (1, vI 1)]) hG dX6_readOne_69 rfl (by decide) rfl ?_
        refine v_iload_n hG dX6_readOne_70 rfl 0 rfl ?_
        refine v_if_ge (tgt := 78) hG dX6_readOne_71 (by decide) (by omega) (fun c7 => ?_) (fun c7 => ?_)
        · skip
          rw [show ((if zix 1 (chT s pp) = -1 then pp else pp + 1 : Nat) : Int) = ((pp + 1 : Nat) : Int) from by rw [if_neg (by omega)]]
          have hlt1 : pp < (s 48).toNat := hCE.lt (fun e => by
              have h9 : zix 1 (chT s pp) = -1 := (by rw [e]; exact zix_end (by decide))
              omega)
          refine v_aload_n hG dX6_readOne_78 rfl 1 rfl ?_
          refine v_ldcS (i := 2) (tx := "<=>") hG dX6_readOne_79 (by decide) ?_
          refine v_callV (k1' := 0) (k2' := 0) hG dX6_readOne_81 zc_X6_readOneOf ⟨zl_X6_97, zi_X6_readOneOf, zs_X6_readOneOf⟩ (fun l => kc6_readOneOf l D A ad K S Q qa tp s (sU q 3 ((pp + 1 : Nat) : Int)) w0 w1 w2 w3 bo e uc lr nx p hp (pp + 1) 2 (by first | assumption | (rw [sU_ne (by omega)]; assumption) | (simp only [sU_at]; (repeat' split) <;> first | assumption | (exfalso; omega))) (by exact sU_eq) (by assumption) (by omega) (by assumption) (by first | assumption | decide)) rfl (cR6 hp) (fun _ h => h) ⟨by decide, by decide⟩ rfl rfl ⟨by decide, by decide⟩ (rest := []) rfl (Nat.le_of_ble_eq_true rfl) (fun u8 => [vI (zix 2 (chT s (pp + 1)))]) (fun _ => rfl) (fun u8 hu8 => ?_)
          have fu8 : -1 ≤ zix 2 (chT s (pp + 1)) ∧ zix 2 (chT s (pp + 1)) ≤ 16 := hu8
          rw [sU_sU]
          refine v_istore_n (lo' := [(3, vI (zix 2 (chT s (pp + 1)))), (2, vI (zix 1 (chT s pp))), (0, .ref (kP ad p)), (1, vI 1)]) hG dX6_readOne_84 rfl (by decide) rfl ?_
          refine v_iload_n hG dX6_readOne_85 rfl 0 rfl ?_
          refine v_if_ge (tgt := 93) hG dX6_readOne_86 (by decide) (by omega) (fun c9 => ?_) (fun c9 => ?_)
          · skip
            rw [show ((if zix 2 (chT s (pp + 1)) = -1 then pp + 1 else pp + 1 + 1 : Nat) : Int) = ((pp + 2 : Nat) : Int) from by rw [if_neg (by omega)]]
            have hlt2 : pp + 1 < (s 48).toNat := hCE.lt (fun e => by
                have h9 : zix 2 (chT s (pp + 1)) = -1 := (by rw [e]; exact zix_end (by decide))
                omega)
            have hf2 := hfr (by omega)
            refine v_aload_n hG dX6_readOne_93 rfl 2 rfl ?_
            refine v_callV (k1' := 0) (k2' := 0) hG dX6_readOne_94 zc_X6_readNumber ⟨zl_X6_64, zi_X6_readNumber, zs_X6_readNumber⟩ (fun l => kc6_readNumber l D A ad K S Q qa tp s (sU q 3 ((pp + 2 : Nat) : Int)) w0 w1 w2 w3 bo e uc lr nx p hp (pp + 2) (by first | assumption | (rw [sU_ne (by omega)]; assumption) | (simp only [sU_at]; (repeat' split) <;> first | assumption | (exfalso; omega))) (by exact sU_eq) (by assumption) (by omega) (by assumption)) rfl (cR6 hp) (fun _ h => h) ⟨by decide, by decide⟩ rfl rfl ⟨by decide, by decide⟩ (rest := []) rfl (Nat.le_of_ble_eq_true rfl) (fun u10 => [vI (if (figF (chT s) ((pp + 2), true)).1.2 = true then (figF (chT s) ((pp + 2), true)).2 else -1)]) (fun _ => rfl) (fun u10 hu10 => ?_)
            rw [sU_sU]
            refine v_istore (lo' := [(4, vI (if (figF (chT s) ((pp + 2), true)).1.2 = true then (figF (chT s) ((pp + 2), true)).2 else -1)), (3, vI (zix 2 (chT s (pp + 1)))), (2, vI (zix 1 (chT s pp))), (0, .ref (kP ad p)), (1, vI 1)]) hG dX6_readOne_97 (by decide) rfl ?_
            refine v_iload hG dX6_readOne_99 0 rfl ?_
            refine v_if_ge (tgt := 106) hG dX6_readOne_101 (by decide) (by omega) (fun c11 => ?_) (fun c11 => ?_)
            · skip
              have hft : (figF (chT s) (pp + 2, true)).1.2 = true := by
                apply Decidable.byContradiction
                intro q9
                have e9 : (if (figF (chT s) (pp + 2, true)).1.2 = true then (figF (chT s) (pp + 2, true)).2 else (-1 : Int)) = -1 := if_neg q9
                omega
              refine v_aload_n hG dX6_readOne_106 rfl 3 rfl ?_
              refine v_iload_n hG dX6_readOne_107 rfl 2 rfl ?_
              refine v_iconst hG dX6_readOne_108 ?_
              refine v_imul hG dX6_readOne_109 ?_
              refine v_iload_n hG dX6_readOne_110 rfl 1 rfl ?_
              refine v_iadd hG dX6_readOne_111 ?_
              refine v_bipush hG dX6_readOne_112 (by decide) ?_
              refine v_imul hG dX6_readOne_114 ?_
              refine v_iload hG dX6_readOne_115 0 rfl ?_
              refine v_iadd hG dX6_readOne_117 ?_
              refine v_callV (k1' := 0) (k2' := 0) hG dX6_readOne_118 zc_X6_keep ⟨zl_X6_88, zi_X6_keep, zs_X6_keep⟩ (fun l => kc6_keepG l D A ad K S Q qa tp s (sU q 3 (((figF (chT s) (pp + 2, true)).1.1 : Nat) : Int)) w0 w1 w2 w3 bo e uc lr nx p hp (((((zix 1 (chT s pp)) * 3) + (zix 2 (chT s (pp + 1)))) * 100) + (if (figF (chT s) ((pp + 2), true)).1.2 = true then (figF (chT s) ((pp + 2), true)).2 else -1)) (by rw [sU_ne (by omega)]; omega)) rfl (cR6 hp) (fun _ h => h) ⟨by decide, by decide⟩ rfl rfl ⟨by decide, by decide⟩ (rest := []) rfl (Nat.le_of_ble_eq_true rfl) (fun u12 => []) (fun _ => rfl) (fun u12 hu12 => ?_)
              have fu12 : KP (sU q 3 (((figF (chT s) (pp + 2, true)).1.1 : Nat) : Int)) w3 (((((zix 1 (chT s pp)) * 3) + (zix 2 (chT s (pp + 1)))) * 100) + (if (figF (chT s) ((pp + 2), true)).1.2 = true then (figF (chT s) ((pp + 2), true)).2 else -1)) u12.1 u12.2 := hu12
              have hKP := fu12
              refine v_iconst hG dX6_readOne_121 ?_
              have e13 : @Eq Int (bi ((facF (chT s) 4 pp).2.1 = true)) (1) := by have hx : (facF (chT s) 4 pp).2.1 = true := (by rw [fac_als (by assumption) (by assumption), atom_3 (by omega) (by omega)]; exact hft); rw [bi_pos hx]
              exact v_zreturn hG hR dX6_readOne_122 (Or.inr rfl) (u12.1, u12.2) (congrArg (fun z => some (vI z)) e13) (by rw [fac_als (by assumption) (by assumption)]; exact EM_atom (by omega) (by omega) hft (by rw [if_pos hft]) (fun k h => sU_ne h) sU_eq (by omega) hKP) (fun _ hM => hM)
            · skip
              have hfn : (figF (chT s) (pp + 2, true)).1.2 = false := by
                cases q9 : (figF (chT s) (pp + 2, true)).1.2
                · rfl
                · have e9 : (if (figF (chT s) (pp + 2, true)).1.2 = true then (figF (chT s) (pp + 2, true)).2 else (-1 : Int)) = (figF (chT s) (pp + 2, true)).2 := if_pos q9
                  omega
              refine v_iconst hG dX6_readOne_104 ?_
              have e14 : @Eq Int (bi ((facF (chT s) 4 pp).2.1 = true)) (0) := by first | (have hx : ¬ (facF (chT s) 4 pp).2.1 = true := (by rw [fac_als (by assumption) (by assumption), atom_3 (by omega) (by omega), hfn]; exact Bool.false_ne_true); rw [bi_neg hx]; done) | (have hx : ¬ (facF (chT s) 4 pp).2.1 = true := (by rw [fac_als (by assumption) (by assumption), atom_1 (by omega)]; exact Bool.false_ne_true); rw [bi_neg hx]; done) | (have hx : ¬ (facF (chT s) 4 pp).2.1 = true := (by rw [fac_als (by assumption) (by assumption), atom_2 (by omega) (by omega)]; exact Bool.false_ne_true); rw [bi_neg hx]; done)
              exact v_zreturn hG hR dX6_readOne_105 (Or.inl rfl) (sU q 3 (((figF (chT s) (pp + 2, true)).1.1 : Nat) : Int), w3) (congrArg (fun z => some (vI z)) e14) (by first | (rw [fac_als (by assumption) (by assumption), atom_3 (by omega) (by omega)]; exact EM_fail3 rfl (by omega) hfn) | (rw [fac_als (by assumption) (by assumption), atom_1 (by omega)]; exact EM_fail3 rfl (by omega) rfl) | (rw [fac_als (by assumption) (by assumption), atom_2 (by omega) (by omega)]; exact EM_fail3 rfl (by omega) rfl)) (fun _ hM => hM)
          · skip
            rw [show ((if zix 2 (chT s (pp + 1)) = -1 then pp + 1 else pp + 1 + 1 : Nat) : Int) = ((pp + 1 : Nat) : Int) from by rw [if_pos (by omega)]]
            refine v_iconst hG dX6_readOne_89 ?_
            refine v_goto (tgt := 97) hG dX6_readOne_90 (by decide) ?_
            refine v_istore (lo' := [(4, vI (-1)), (3, vI (zix 2 (chT s (pp + 1)))), (2, vI (zix 1 (chT s pp))), (0, .ref (kP ad p)), (1, vI 1)]) hG dX6_readOne_97 (by decide) rfl ?_
            refine v_iload hG dX6_readOne_99 0 rfl ?_
            refine v_if_ge (tgt := 106) hG dX6_readOne_101 (by decide) (by omega) (fun c15 => ?_) (fun c15 => ?_)
            · skip
              exfalso; omega
            · skip
              refine v_iconst hG dX6_readOne_104 ?_
              have e16 : @Eq Int (bi ((facF (chT s) 4 pp).2.1 = true)) (0) := by first | (have hx : ¬ (facF (chT s) 4 pp).2.1 = true := (by rw [fac_als (by assumption) (by assumption), atom_3 (by omega) (by omega), hfn]; exact Bool.false_ne_true); rw [bi_neg hx]; done) | (have hx : ¬ (facF (chT s) 4 pp).2.1 = true := (by rw [fac_als (by assumption) (by assumption), atom_1 (by omega)]; exact Bool.false_ne_true); rw [bi_neg hx]; done) | (have hx : ¬ (facF (chT s) 4 pp).2.1 = true := (by rw [fac_als (by assumption) (by assumption), atom_2 (by omega) (by omega)]; exact Bool.false_ne_true); rw [bi_neg hx]; done)
              exact v_zreturn hG hR dX6_readOne_105 (Or.inl rfl) (sU q 3 ((pp + 1 : Nat) : Int), w3) (congrArg (fun z => some (vI z)) e16) (by first | (rw [fac_als (by assumption) (by assumption), atom_3 (by omega) (by omega)]; exact EM_fail3 rfl (by omega) hfn) | (rw [fac_als (by assumption) (by assumption), atom_1 (by omega)]; exact EM_fail3 rfl (by omega) rfl) | (rw [fac_als (by assumption) (by assumption), atom_2 (by omega) (by omega)]; exact EM_fail3 rfl (by omega) rfl)) (fun _ hM => hM)
        · skip
          rw [show ((if zix 1 (chT s pp) = -1 then pp else pp + 1 : Nat) : Int) = ((pp : Nat) : Int) from by rw [if_pos (by omega)]]
          refine v_iconst hG dX6_readOne_74 ?_
          refine v_goto (tgt := 84) hG dX6_readOne_75 (by decide) ?_
          refine v_istore_n (lo' := [(3, vI (-1)), (2, vI (zix 1 (chT s pp))), (0, .ref (kP ad p)), (1, vI 1)]) hG dX6_readOne_84 rfl (by decide) rfl ?_
          refine v_iload_n hG dX6_readOne_85 rfl 0 rfl ?_
          refine v_if_ge (tgt := 93) hG dX6_readOne_86 (by decide) (by omega) (fun c17 => ?_) (fun c17 => ?_)
          · skip
            exfalso; omega
          · skip
            refine v_iconst hG dX6_readOne_89 ?_
            refine v_goto (tgt := 97) hG dX6_readOne_90 (by decide) ?_
            refine v_istore (lo' := [(4, vI (-1)), (3, vI (-1)), (2, vI (zix 1 (chT s pp))), (0, .ref (kP ad p)), (1, vI 1)]) hG dX6_readOne_97 (by decide) rfl ?_
            refine v_iload hG dX6_readOne_99 0 rfl ?_
            refine v_if_ge (tgt := 106) hG dX6_readOne_101 (by decide) (by omega) (fun c18 => ?_) (fun c18 => ?_)
            · skip
              exfalso; omega
            · skip
              refine v_iconst hG dX6_readOne_104 ?_
              have e19 : @Eq Int (bi ((facF (chT s) 4 pp).2.1 = true)) (0) := by first | (have hx : ¬ (facF (chT s) 4 pp).2.1 = true := (by rw [fac_als (by assumption) (by assumption), atom_3 (by omega) (by omega), hfn]; exact Bool.false_ne_true); rw [bi_neg hx]; done) | (have hx : ¬ (facF (chT s) 4 pp).2.1 = true := (by rw [fac_als (by assumption) (by assumption), atom_1 (by omega)]; exact Bool.false_ne_true); rw [bi_neg hx]; done) | (have hx : ¬ (facF (chT s) 4 pp).2.1 = true := (by rw [fac_als (by assumption) (by assumption), atom_2 (by omega) (by omega)]; exact Bool.false_ne_true); rw [bi_neg hx]; done)
              exact v_zreturn hG hR dX6_readOne_105 (Or.inl rfl) (sU q 3 ((pp : Nat) : Int), w3) (congrArg (fun z => some (vI z)) e19) (by first | (rw [fac_als (by assumption) (by assumption), atom_3 (by omega) (by omega)]; exact EM_fail3 rfl (by omega) hfn) | (rw [fac_als (by assumption) (by assumption), atom_1 (by omega)]; exact EM_fail3 rfl (by omega) rfl) | (rw [fac_als (by assumption) (by assumption), atom_2 (by omega) (by omega)]; exact EM_fail3 rfl (by omega) rfl)) (fun _ hM => hM)
      · skip
        rw [mst_y (show chT s pp = 40 by assumption)]
        have hlt1 : pp < (s 48).toNat := hCE.lt (fun e => absurd (e.symm.trans (show chT s pp = 40 by assumption)) (by decide))
        refine v_aload_n hG dX6_readOne_38 rfl 0 rfl ?_
        refine v_iload_n hG dX6_readOne_39 rfl 1 rfl ?_
        refine v_iconst hG dX6_readOne_40 ?_
        refine v_iadd hG dX6_readOne_41 ?_
        rw [show (1 : Int) + 1 = 2 from rfl]
        refine v_callV (k1' := 0) (k2' := 0) hG dX6_readOne_42 zc_X6_readEither ⟨zl_X6_70, zi_X6_readEither, zs_X6_readEither⟩ (fun l => kc6_readEither3 l D A ad K S Q qa tp s (sU q 3 ((pp + 1 : Nat) : Int)) w0 w1 w2 w3 bo e uc lr nx p hp (pp + 1) (by first | assumption | (rw [sU_ne (by omega)]; assumption) | (simp only [sU_at]; (repeat' split) <;> first | assumption | (exfalso; omega))) (by exact sU_eq) (by assumption) (by omega) (by assumption) (by first | assumption | (rw [sU_ne (by omega)]; omega) | omega)) rfl (cR6 hp) (fun _ h => h) ⟨by decide, by decide⟩ rfl rfl ⟨by decide, by decide⟩ (rest := []) rfl (Nat.le_of_ble_eq_true rfl) (fun u20 => [vI (bi ((someF (facF (chT s) 3) (chT s) (pp + 1)).2.1 = true))]) (fun _ => rfl) (fun u20 hu20 => ?_)
        have fu20 : EM (sU q 3 ((pp + 1 : Nat) : Int)) w3 (someF (facF (chT s) 3) (chT s) (pp + 1)) u20.1 u20.2 := hu20
        have hE1 := EM_in h3 (by omega) fu20
        refine v_ifb_eq (p := (someF (facF (chT s) 3) (chT s) (pp + 1)).2.1 = true) (tgt := 61) hG dX6_readOne_45 (by decide) (fun c21 => ?_) (fun c21 => ?_)
        · skip
          refine v_iconst hG dX6_readOne_61 ?_
          have e22 : @Eq Int (bi ((facF (chT s) 4 pp).2.1 = true)) (0) := by first | (have hx : (facF (chT s) 4 pp).2.1 = true := (by rw [fac_pC (show chT s pp = 40 by assumption) hxk (by assumption)]); rw [bi_pos hx]; done) | (have hx : ¬ (facF (chT s) 4 pp).2.1 = true := (by rw [fac_pB (show chT s pp = 40 by assumption) (by assumption)]; exact Bool.false_ne_true); rw [bi_neg hx]; done) | (have hx : ¬ (facF (chT s) 4 pp).2.1 = true := (by rw [fac_pA (show chT s pp = 40 by assumption) (Bool.eq_false_iff.mpr (by assumption))]; exact Bool.false_ne_true); rw [bi_neg hx]; done)
          exact v_zreturn hG hR dX6_readOne_62 (Or.inl rfl) (u20.1, u20.2) (congrArg (fun z => some (vI z)) e22) (by first | (rw [fac_pC (show chT s pp = 40 by assumption) hxk (by assumption), mst_y (show chT s (someF (facF (chT s) 3) (chT s) (pp + 1)).1 = 41 by assumption)]; exact EM_place (EM_t hE1 hxk)) | (rw [fac_pB (show chT s pp = 40 by assumption) (by assumption)]; exact EM_failp hE1 (mst_n (show ¬ chT s (someF (facF (chT s) 3) (chT s) (pp + 1)).1 = 41 by assumption)) rfl) | (rw [fac_pA (show chT s pp = 40 by assumption) (Bool.eq_false_iff.mpr (by assumption))]; exact EM_fail hE1.1 hE1.2.1 hE1.2.2.1 rfl)) (fun _ hM => hM)
        · skip
          have hxk : (someF (facF (chT s) 3) (chT s) (pp + 1)).2.1 = true := by assumption
          obtain ⟨hs1, hs2, hs3⟩ := someF_rng hCE (fun x hx => facF_rng hCE 3 x hx) (p := pp + 1) (by omega)
          refine v_aload_n hG dX6_readOne_48 rfl 0 rfl ?_
          refine v_bipush hG dX6_readOne_49 (by decide) ?_
          refine v_callV (k1' := 0) (k2' := 0) hG dX6_readOne_51 zc_X6_skip ⟨zl_X6_56, zi_X6_skip, zs_X6_skip⟩ (fun l => kc6_skip l D A ad K S Q qa tp s u20.1 w0 w1 w2 u20.2 bo e uc lr nx p hp ((someF (facF (chT s) 3) (chT s) (pp + 1)).1) 41 (by exact (hE1.1 2 (by decide) (by decide)).trans hq2) (by exact hE1.2.1) (by assumption) (by omega) (by assumption) (by omega)) rfl (cR6 hp) (fun _ h => h) ⟨by decide, by decide⟩ rfl rfl ⟨by decide, by decide⟩ (rest := []) rfl (Nat.le_of_ble_eq_true rfl) (fun u23 => [vI (bi (chT s ((someF (facF (chT s) 3) (chT s) (pp + 1)).1) = 41))]) (fun _ => rfl) (fun u23 hu23 => ?_)
          refine v_ifb_eq (p := chT s ((someF (facF (chT s) 3) (chT s) (pp + 1)).1) = 41) (tgt := 61) hG dX6_readOne_54 (by decide) (fun c24 => ?_) (fun c24 => ?_)
          · skip
            refine v_iconst hG dX6_readOne_61 ?_
            have e25 : @Eq Int (bi ((facF (chT s) 4 pp).2.1 = true)) (0) := by first | (have hx : (facF (chT s) 4 pp).2.1 = true := (by rw [fac_pC (show chT s pp = 40 by assumption) hxk (by assumption)]); rw [bi_pos hx]; done) | (have hx : ¬ (facF (chT s) 4 pp).2.1 = true := (by rw [fac_pB (show chT s pp = 40 by assumption) (by assumption)]; exact Bool.false_ne_true); rw [bi_neg hx]; done) | (have hx : ¬ (facF (chT s) 4 pp).2.1 = true := (by rw [fac_pA (show chT s pp = 40 by assumption) (Bool.eq_false_iff.mpr (by assumption))]; exact Bool.false_ne_true); rw [bi_neg hx]; done)
            exact v_zreturn hG hR dX6_readOne_62 (Or.inl rfl) (sU u20.1 3 ((mustF (chT s) 41 (((someF (facF (chT s) 3) (chT s) (pp + 1)).1), true)).1 : Nat), u20.2) (congrArg (fun z => some (vI z)) e25) (by first | (rw [fac_pC (show chT s pp = 40 by assumption) hxk (by assumption), mst_y (show chT s (someF (facF (chT s) 3) (chT s) (pp + 1)).1 = 41 by assumption)]; exact EM_place (EM_t hE1 hxk)) | (rw [fac_pB (show chT s pp = 40 by assumption) (by assumption)]; exact EM_failp hE1 (mst_n (show ¬ chT s (someF (facF (chT s) 3) (chT s) (pp + 1)).1 = 41 by assumption)) rfl) | (rw [fac_pA (show chT s pp = 40 by assumption) (Bool.eq_false_iff.mpr (by assumption))]; exact EM_fail hE1.1 hE1.2.1 hE1.2.2.1 rfl)) (fun _ hM => hM)
          · skip
            refine v_iconst hG dX6_readOne_57 ?_
            refine v_goto (tgt := 62) hG dX6_readOne_58 (by decide) ?_
            have e26 : @Eq Int (bi ((facF (chT s) 4 pp).2.1 = true)) (1) := by first | (have hx : (facF (chT s) 4 pp).2.1 = true := (by rw [fac_pC (show chT s pp = 40 by assumption) hxk (by assumption)]); rw [bi_pos hx]; done) | (have hx : ¬ (facF (chT s) 4 pp).2.1 = true := (by rw [fac_pB (show chT s pp = 40 by assumption) (by assumption)]; exact Bool.false_ne_true); rw [bi_neg hx]; done) | (have hx : ¬ (facF (chT s) 4 pp).2.1 = true := (by rw [fac_pA (show chT s pp = 40 by assumption) (Bool.eq_false_iff.mpr (by assumption))]; exact Bool.false_ne_true); rw [bi_neg hx]; done)
            exact v_zreturn hG hR dX6_readOne_62 (Or.inr rfl) (sU u20.1 3 ((mustF (chT s) 41 (((someF (facF (chT s) 3) (chT s) (pp + 1)).1), true)).1 : Nat), u20.2) (congrArg (fun z => some (vI z)) e26) (by first | (rw [fac_pC (show chT s pp = 40 by assumption) hxk (by assumption), mst_y (show chT s (someF (facF (chT s) 3) (chT s) (pp + 1)).1 = 41 by assumption)]; exact EM_place (EM_t hE1 hxk)) | (rw [fac_pB (show chT s pp = 40 by assumption) (by assumption)]; exact EM_failp hE1 (mst_n (show ¬ chT s (someF (facF (chT s) 3) (chT s) (pp + 1)).1 = 41 by assumption)) rfl) | (rw [fac_pA (show chT s pp = 40 by assumption) (Bool.eq_false_iff.mpr (by assumption))]; exact EM_fail hE1.1 hE1.2.1 hE1.2.2.1 rfl)) (fun _ hM => hM)
    · skip
      rw [mst_y (show chT s pp = 33 by assumption)]
      have hlt1 : pp < (s 48).toNat := hCE.lt (fun e => absurd (e.symm.trans (show chT s pp = 33 by assumption)) (by decide))
      refine v_aload_n hG dX6_readOne_14 rfl 0 rfl ?_
      refine v_iload_n hG dX6_readOne_15 rfl 1 rfl ?_
      refine v_iconst hG dX6_readOne_16 ?_
      refine v_iadd hG dX6_readOne_17 ?_
      rw [show (1 : Int) + 1 = 2 from rfl]
      refine v_callV (k1' := 0) (k2' := 0) hG dX6_readOne_18 zc_X6_readOne ⟨zl_X6_92, zi_X6_readOne, zs_X6_readOne⟩ (fun l => kc6_readOne3 l D A ad K S Q qa tp s (sU q 3 ((pp + 1 : Nat) : Int)) w0 w1 w2 w3 bo e uc lr nx p hp (pp + 1) (by first | assumption | (rw [sU_ne (by omega)]; assumption) | (simp only [sU_at]; (repeat' split) <;> first | assumption | (exfalso; omega))) (by exact sU_eq) (by assumption) (by omega) (by assumption) (by first | assumption | (rw [sU_ne (by omega)]; omega) | omega)) rfl (cR6 hp) (fun _ h => h) ⟨by decide, by decide⟩ rfl rfl ⟨by decide, by decide⟩ (rest := []) rfl (Nat.le_of_ble_eq_true rfl) (fun u27 => [vI (bi ((facF (chT s) 3 (pp + 1)).2.1 = true))]) (fun _ => rfl) (fun u27 hu27 => ?_)
      have fu27 : EM (sU q 3 ((pp + 1 : Nat) : Int)) w3 (facF (chT s) 3 (pp + 1)) u27.1 u27.2 := hu27
      have hE1 := EM_in h3 (by omega) fu27
      refine v_istore_n (lo' := [(2, vI (bi ((facF (chT s) 3 (pp + 1)).2.1 = true))), (0, .ref (kP ad p)), (1, vI 1)]) hG dX6_readOne_21 rfl (by decide) rfl ?_
      refine v_aload_n hG dX6_readOne_22 rfl 1 rfl ?_
      refine v_iconst hG dX6_readOne_23 ?_
      refine v_callV (k1' := 0) (k2' := 0) hG dX6_readOne_24 zc_X6_keep ⟨zl_X6_88, zi_X6_keep, zs_X6_keep⟩ (fun l => kc6_keepG l D A ad K S Q qa tp s u27.1 w0 w1 w2 u27.2 bo e uc lr nx p hp (-1) (by exact hE1.2.2.1)) rfl (cR6 hp) (fun _ h => h) ⟨by decide, by decide⟩ rfl rfl ⟨by decide, by decide⟩ (rest := []) rfl (Nat.le_of_ble_eq_true rfl) (fun u28 => []) (fun _ => rfl) (fun u28 hu28 => ?_)
      have fu28 : KP u27.1 u27.2 (-1) u28.1 u28.2 := hu28
      have hKP := fu28
      refine v_iload_n hG dX6_readOne_27 rfl 0 rfl ?_
      have e29 : @Eq Int (bi ((facF (chT s) 4 pp).2.1 = true)) (bi ((facF (chT s) 3 (pp + 1)).2.1 = true)) := by rw [fac_not (show chT s pp = 33 by assumption)]
      exact v_zreturn hG hR dX6_readOne_28 (bi_01 _) (u28.1, u28.2) (congrArg (fun z => some (vI z)) e29) (by rw [fac_not (show chT s pp = 33 by assumption)]; exact EM_not hE1 hKP hkp.1 (fun h => EM_lt hE1 h (facF_rng hCE 3 (pp + 1) (by omega)) (by omega) (by omega))) (fun _ hM => hM)
set_option maxHeartbeats 4000000 in
set_option maxRecDepth 100000 in
theorem kc6_readBoth4 (l : Launch) (D : Dx) (A : Nat → Prop) (ad : Nat → Nat) (K : Int → Int) (S Q qa : Nat → Int → Int) (tp : Nat → Nat) (s q w0 w1 w2 w3 bo e uc lr nx : Int → Int) (p : Nat) (hp : p < 6) (pp : Nat) (hq2 : q 2 = s 48) (h3 : q 3 = (pp : Int)) (hTS : TS s) (hpn : (pp : Int) ≤ s 48) (htp : tp p = kC ad 0 0) (hkp : 0 ≤ q 1 ∧ q 1 ≤ (pp : Int)) : CT l D A yX6_readBoth cX6_readBoth 3 (some .boolean) { frames := 18, cells := 0, slots := 0, locals := 409 } [.ref (kP ad p), vI 1] (CW D A ad K (uS S 0 s) (uS Q p q) (q4 qa p w0 w1 w2 w3) tp bo e uc lr nx) (fun u : (Int → Int) × (Int → Int) => some (vI (bi ((everyF (facF (chT s) 4) (chT s) pp).2.1 = true)))) (fun u => EM q w3 (everyF (facF (chT s) 4) (chT s) pp) u.1 u.2) (fun u => CW D A ad K (uS S 0 s) (uS Q p u.1) (q4 qa p w0 w1 w2 u.2) tp bo e uc lr nx) := by
  refine ct_of (lo0 := [(0, .ref (kP ad p)), (1, vI 1)]) (by decide) (Nat.le_of_ble_eq_true rfl) rfl ?_
  intro G hG hR
  have hT1 := hTS.1
  have hCE := chT_CE hTS
  refine v_iconst hG dX6_readBoth_0 ?_
  refine v_istore_n (lo' := [(2, vI 1), (0, .ref (kP ad p)), (1, vI 1)]) hG dX6_readBoth_1 rfl (by decide) rfl ?_
  refine v_lo [1, 2, 0] (lo' := [(0, .ref (kP ad p)), (1, vI 1), (2, vI 1)]) rfl ?_
  have L4 : ∀ mz : Nat, ∀ (t F P : Nat) (L : List Int), (1 ≤ t ∧ t + pp ≤ P + 1 ∧ F + t = 102) → ((everyF (facF (chT s) 4) (chT s) pp) = evL (facF (chT s) 4) (chT s) 38 (-2) F (nxF (facF (chT s) 4) (-2) t L P)) → (L.length + pp ≤ P ∧ (1 < t → L.length + pp + 1 ≤ P) ∧ (P : Int) ≤ s 48) → 102 - t = mz → ∀ x1 : Int, x1 = ((t : Int)) → ∀ x2 : Int → Int, True → ∀ x3 : Int → Int, EM q w3 (P, true, L) x2 x3 → V G 0 0 (CW D A ad K (uS S 0 s) (uS Q p x2) (q4 qa p w0 w1 w2 x3) tp bo e uc lr nx) 2 [(0, .ref (kP ad p)), (1, vI 1), (2, vI x1)] [] := by
    intro dL4
    induction dL4 using Nat.strongRecOn with
    | ind dL4 ihL4 =>
      intro t F P L hq5 hq6 hq7 hq8
      intro x1 hx1
      subst hx1
      intro x2 hx2
      intro x3 hx3
      refine v_iload_n hG dX6_readBoth_2 rfl 2 rfl ?_
      refine v_bipush hG dX6_readBoth_3 (by decide) ?_
      refine v_icmp_gt (tgt := 46) hG dX6_readBoth_5 (by decide) (by omega) (by omega) (fun c9 => ?_) (fun c9 => ?_)
      · skip
        refine v_iconst hG dX6_readBoth_46 ?_
        have hE0 : EM q w3 (P, true, L) x2 x3 := by assumption
        have hpe : chT s P = -1 := (hCE P).1.mpr (by omega)
        have hfe : (facF (chT s) 4) P = (P, false, []) := fac_end hpe 4
        have hst : (everyF (facF (chT s) 4) (chT s) pp) = nxF (facF (chT s) 4) (-2) t L P := ‹(everyF (facF (chT s) 4) (chT s) pp) = evL (facF (chT s) 4) (chT s) 38 (-2) F (nxF (facF (chT s) 4) (-2) t L P)›.trans (evL_stop (Or.inl (by show ((facF (chT s) 4) P).2.1 = false; rw [hfe])))
        have hfb : (nxF (facF (chT s) 4) (-2) t L P).2.1 = false := by show ((facF (chT s) 4) P).2.1 = false; rw [hfe]
        have e10 : @Eq Int (bi ((everyF (facF (chT s) 4) (chT s) pp).2.1 = true)) (0) := by rw [hst, bi_neg (fun h => by rw [hfb] at h; exact Bool.noConfusion h)]
        exact v_zreturn hG hR dX6_readBoth_47 (Or.inl rfl) (x2, x3) (congrArg (fun z => some (vI z)) e10) (by rw [hst]; exact EM_fail hE0.1 (by show _ = ((((facF (chT s) 4) P).1 : Nat) : Int); rw [hfe]; exact hE0.2.1) hE0.2.2.1 hfb) (fun _ hM => hM)
      · skip
        have hE0 : EM q w3 (P, true, L) x2 x3 := by assumption
        have hy1 := EM_n hE0
        have hy2 := (hE0.1 2 (by decide) (by decide)).trans hq2
        have hy3 : _ = (P : Int) := hE0.2.1
        obtain ⟨hg1, hg2, hg3⟩ := facF_rng hCE 4 P (by omega)
        refine v_aload_n hG dX6_readBoth_8 rfl 0 rfl ?_
        refine v_iload_n hG dX6_readBoth_9 rfl 1 rfl ?_
        refine v_callV (k1' := 0) (k2' := 0) hG dX6_readBoth_10 zc_X6_readOne ⟨zl_X6_92, zi_X6_readOne, zs_X6_readOne⟩ (fun l => kc6_readOne4 l D A ad K S Q qa tp s x2 w0 w1 w2 x3 bo e uc lr nx p hp P (by exact hy2) (by exact hy3) (by assumption) (by omega) (by assumption) (by omega)) rfl (cR6 hp) (fun _ h => h) ⟨by decide, by decide⟩ rfl rfl ⟨by decide, by decide⟩ (rest := []) rfl (Nat.le_of_ble_eq_true rfl) (fun u11 => [vI (bi ((facF (chT s) 4 P).2.1 = true))]) (fun _ => rfl) (fun u11 hu11 => ?_)
        have fu11 : EM x2 x3 (facF (chT s) 4 P) u11.1 u11.2 := hu11
        have hE1 := fu11
        refine v_ifb_ne (p := (facF (chT s) 4 P).2.1 = true) (tgt := 18) hG dX6_readBoth_13 (by decide) (fun c12 => ?_) (fun c12 => ?_)
        · skip
          have hfk : ((facF (chT s) 4) P).2.1 = true := by assumption
          obtain ⟨hdd1, hdd2, hdd3⟩ := hE1.2.2.2 hfk
          refine v_iload_n hG dX6_readBoth_18 rfl 2 rfl ?_
          refine v_iconst hG dX6_readBoth_19 ?_
          refine v_icmp_le (tgt := 29) hG dX6_readBoth_20 (by decide) (by omega) (by omega) (fun c13 => ?_) (fun c13 => ?_)
          · skip
            have hE2 : EM q w3 (((facF (chT s) 4) P).1, true, (nxF (facF (chT s) 4) (-2) t L P).2.2) u11.1 u11.2 := by first | exact EM_nx2 hE0 hE1 hkp.1 hfk (by omega) (by decide) (by omega) (by assumption) | exact EM_nx1 hE0 hE1 hkp.1 hfk (by omega)
            have hnl := EM_n hE2
            have hnk : (nxF (facF (chT s) 4) (-2) t L P).2.1 = true := hfk
            have hn1 : (nxF (facF (chT s) 4) (-2) t L P).1 = ((facF (chT s) 4) P).1 := rfl
            have hnl9 : (nxF (facF (chT s) 4) (-2) t L P).2.2.length ≤ L.length + ((facF (chT s) 4) P).2.2.length + (if 1 < t then 1 else 0) := nx_len
            refine v_aload_n hG dX6_readBoth_29 rfl 0 rfl ?_
            refine v_bipush hG dX6_readBoth_30 (by decide) ?_
            refine v_callV (k1' := 0) (k2' := 0) hG dX6_readBoth_32 zc_X6_skip ⟨zl_X6_56, zi_X6_skip, zs_X6_skip⟩ (fun l => kc6_skip l D A ad K S Q qa tp s u11.1 w0 w1 w2 u11.2 bo e uc lr nx p hp (((facF (chT s) 4) P).1) 38 (by exact (hE2.1 2 (by decide) (by decide)).trans hq2) (by exact hE2.2.1) (by assumption) (by omega) (by assumption) (by omega)) rfl (cR6 hp) (fun _ h => h) ⟨by decide, by decide⟩ rfl rfl ⟨by decide, by decide⟩ (rest := []) rfl (Nat.le_of_ble_eq_true rfl) (fun u14 => [vI (bi (chT s (((facF (chT s) 4) P).1) = 38))]) (fun _ => rfl) (fun u14 hu14 => ?_)
            refine v_ifb_ne (p := chT s (((facF (chT s) 4) P).1) = 38) (tgt := 40) hG dX6_readBoth_35 (by decide) (fun c15 => ?_) (fun c15 => ?_)
            · skip
              skip
              refine v_iinc (lo' := [(2, vI ((t : Int) + 1)), (0, .ref (kP ad p)), (1, vI 1)]) hG dX6_readBoth_40 2 rfl (by decide) rfl ?_
              refine v_goto (tgt := 2) hG dX6_readBoth_43 (by decide) ?_
              refine v_lo [1, 2, 0] (lo' := [(0, .ref (kP ad p)), (1, vI 1), (2, vI ((t : Int) + 1))]) rfl ?_
              exact ihL4 _ (by omega) (t + 1) (F - 1) (((facF (chT s) 4) P).1 + 1) ((nxF (facF (chT s) 4) (-2) t L P).2.2) (by omega) (by show (everyF (facF (chT s) 4) (chT s) pp) = evL (facF (chT s) 4) (chT s) 38 (-2) (F - 1) (nxF (facF (chT s) 4) (-2) (t + 1) (nxF (facF (chT s) 4) (-2) t L P).2.2 ((nxF (facF (chT s) 4) (-2) t L P).1 + 1)); rw [← nx_go (r := nxF (facF (chT s) 4) (-2) t L P) (by omega)]; exact ‹(everyF (facF (chT s) 4) (chT s) pp) = evL (facF (chT s) 4) (chT s) 38 (-2) F (nxF (facF (chT s) 4) (-2) t L P)›.trans (evL_go (by omega) hnk (show chT s (nxF (facF (chT s) 4) (-2) t L P).1 = 38 from (show chT s ((facF (chT s) 4) P).1 = 38 by assumption)))) (by have hlt9 := hCE.lt (p := ((facF (chT s) 4) P).1) (fun e => absurd (e.symm.trans (show chT s ((facF (chT s) 4) P).1 = 38 by assumption)) (by decide)); split at hnl9 <;> omega) rfl _ (by omega) _ (by trivial) _ (by rw [show mustF (chT s) 38 (((facF (chT s) 4) P).1, true) = (((facF (chT s) 4) P).1 + 1, true) from if_pos ⟨rfl, by assumption⟩]; exact EM_place hE2)
            · skip
              have hst : (everyF (facF (chT s) 4) (chT s) pp) = nxF (facF (chT s) 4) (-2) t L P := ‹(everyF (facF (chT s) 4) (chT s) pp) = evL (facF (chT s) 4) (chT s) 38 (-2) F (nxF (facF (chT s) 4) (-2) t L P)›.trans (evL_stop (Or.inr (show ¬ chT s (nxF (facF (chT s) 4) (-2) t L P).1 = 38 from (show ¬ chT s ((facF (chT s) 4) P).1 = 38 by assumption))))
              refine v_iconst hG dX6_readBoth_38 ?_
              have e16 : @Eq Int (bi ((everyF (facF (chT s) 4) (chT s) pp).2.1 = true)) (1) := by rw [hst, bi_pos hnk]
              exact v_zreturn hG hR dX6_readBoth_39 (Or.inr rfl) (sU u11.1 3 ((mustF (chT s) 38 ((((facF (chT s) 4) P).1), true)).1 : Nat), u11.2) (congrArg (fun z => some (vI z)) e16) (by rw [hst]; exact (show EM q w3 (nxF (facF (chT s) 4) (-2) t L P) _ _ from (show (nxF (facF (chT s) 4) (-2) t L P) = (((facF (chT s) 4) P).1, true, (nxF (facF (chT s) 4) (-2) t L P).2.2) from Prod.ext rfl (Prod.ext hfk rfl)) ▸ (show EM q w3 (((facF (chT s) 4) P).1, true, (nxF (facF (chT s) 4) (-2) t L P).2.2) _ _ from by rw [show mustF (chT s) 38 (((facF (chT s) 4) P).1, true) = (((facF (chT s) 4) P).1, false) from if_neg (fun h => absurd h.2 (by assumption))]; exact EM_place hE2))) (fun _ hM => hM)
          · skip
            refine v_aload_n hG dX6_readBoth_23 rfl 0 rfl ?_
            refine v_bipush hG dX6_readBoth_24 (by decide) ?_
            refine v_callV (k1' := 0) (k2' := 0) hG dX6_readBoth_26 zc_X6_keep ⟨zl_X6_88, zi_X6_keep, zs_X6_keep⟩ (fun l => kc6_keepG l D A ad K S Q qa tp s u11.1 w0 w1 w2 u11.2 bo e uc lr nx p hp (-2) (by omega)) rfl (cR6 hp) (fun _ h => h) ⟨by decide, by decide⟩ rfl rfl ⟨by decide, by decide⟩ (rest := []) rfl (Nat.le_of_ble_eq_true rfl) (fun u17 => []) (fun _ => rfl) (fun u17 hu17 => ?_)
            have fu17 : KP u11.1 u11.2 (-2) u17.1 u17.2 := hu17
            have hE2 : EM q w3 (((facF (chT s) 4) P).1, true, (nxF (facF (chT s) 4) (-2) t L P).2.2) u17.1 u17.2 := by first | exact EM_nx2 hE0 hE1 hkp.1 hfk (by omega) (by decide) (by omega) (by assumption) | exact EM_nx1 hE0 hE1 hkp.1 hfk (by omega)
            have hnl := EM_n hE2
            have hnk : (nxF (facF (chT s) 4) (-2) t L P).2.1 = true := hfk
            have hn1 : (nxF (facF (chT s) 4) (-2) t L P).1 = ((facF (chT s) 4) P).1 := rfl
            have hnl9 : (nxF (facF (chT s) 4) (-2) t L P).2.2.length ≤ L.length + ((facF (chT s) 4) P).2.2.length + (if 1 < t then 1 else 0) := nx_len
            refine v_aload_n hG dX6_readBoth_29 rfl 0 rfl ?_
            refine v_bipush hG dX6_readBoth_30 (by decide) ?_
            refine v_callV (k1' := 0) (k2' := 0) hG dX6_readBoth_32 zc_X6_skip ⟨zl_X6_56, zi_X6_skip, zs_X6_skip⟩ (fun l => kc6_skip l D A ad K S Q qa tp s u17.1 w0 w1 w2 u17.2 bo e uc lr nx p hp (((facF (chT s) 4) P).1) 38 (by exact (hE2.1 2 (by decide) (by decide)).trans hq2) (by exact hE2.2.1) (by assumption) (by omega) (by assumption) (by omega)) rfl (cR6 hp) (fun _ h => h) ⟨by decide, by decide⟩ rfl rfl ⟨by decide, by decide⟩ (rest := []) rfl (Nat.le_of_ble_eq_true rfl) (fun u18 => [vI (bi (chT s (((facF (chT s) 4) P).1) = 38))]) (fun _ => rfl) (fun u18 hu18 => ?_)
            refine v_ifb_ne (p := chT s (((facF (chT s) 4) P).1) = 38) (tgt := 40) hG dX6_readBoth_35 (by decide) (fun c19 => ?_) (fun c19 => ?_)
            · skip
              skip
              refine v_iinc (lo' := [(2, vI ((t : Int) + 1)), (0, .ref (kP ad p)), (1, vI 1)]) hG dX6_readBoth_40 2 rfl (by decide) rfl ?_
              refine v_goto (tgt := 2) hG dX6_readBoth_43 (by decide) ?_
              refine v_lo [1, 2, 0] (lo' := [(0, .ref (kP ad p)), (1, vI 1), (2, vI ((t : Int) + 1))]) rfl ?_
              exact ihL4 _ (by omega) (t + 1) (F - 1) (((facF (chT s) 4) P).1 + 1) ((nxF (facF (chT s) 4) (-2) t L P).2.2) (by omega) (by show (everyF (facF (chT s) 4) (chT s) pp) = evL (facF (chT s) 4) (chT s) 38 (-2) (F - 1) (nxF (facF (chT s) 4) (-2) (t + 1) (nxF (facF (chT s) 4) (-2) t L P).2.2 ((nxF (facF (chT s) 4) (-2) t L P).1 + 1)); rw [← nx_go (r := nxF (facF (chT s) 4) (-2) t L P) (by omega)]; exact ‹(everyF (facF (chT s) 4) (chT s) pp) = evL (facF (chT s) 4) (chT s) 38 (-2) F (nxF (facF (chT s) 4) (-2) t L P)›.trans (evL_go (by omega) hnk (show chT s (nxF (facF (chT s) 4) (-2) t L P).1 = 38 from (show chT s ((facF (chT s) 4) P).1 = 38 by assumption)))) (by have hlt9 := hCE.lt (p := ((facF (chT s) 4) P).1) (fun e => absurd (e.symm.trans (show chT s ((facF (chT s) 4) P).1 = 38 by assumption)) (by decide)); split at hnl9 <;> omega) rfl _ (by omega) _ (by trivial) _ (by rw [show mustF (chT s) 38 (((facF (chT s) 4) P).1, true) = (((facF (chT s) 4) P).1 + 1, true) from if_pos ⟨rfl, by assumption⟩]; exact EM_place hE2)
            · skip
              have hst : (everyF (facF (chT s) 4) (chT s) pp) = nxF (facF (chT s) 4) (-2) t L P := ‹(everyF (facF (chT s) 4) (chT s) pp) = evL (facF (chT s) 4) (chT s) 38 (-2) F (nxF (facF (chT s) 4) (-2) t L P)›.trans (evL_stop (Or.inr (show ¬ chT s (nxF (facF (chT s) 4) (-2) t L P).1 = 38 from (show ¬ chT s ((facF (chT s) 4) P).1 = 38 by assumption))))
              refine v_iconst hG dX6_readBoth_38 ?_
              have e20 : @Eq Int (bi ((everyF (facF (chT s) 4) (chT s) pp).2.1 = true)) (1) := by rw [hst, bi_pos hnk]
              exact v_zreturn hG hR dX6_readBoth_39 (Or.inr rfl) (sU u17.1 3 ((mustF (chT s) 38 ((((facF (chT s) 4) P).1), true)).1 : Nat), u17.2) (congrArg (fun z => some (vI z)) e20) (by rw [hst]; exact (show EM q w3 (nxF (facF (chT s) 4) (-2) t L P) _ _ from (show (nxF (facF (chT s) 4) (-2) t L P) = (((facF (chT s) 4) P).1, true, (nxF (facF (chT s) 4) (-2) t L P).2.2) from Prod.ext rfl (Prod.ext hfk rfl)) ▸ (show EM q w3 (((facF (chT s) 4) P).1, true, (nxF (facF (chT s) 4) (-2) t L P).2.2) _ _ from by rw [show mustF (chT s) 38 (((facF (chT s) 4) P).1, true) = (((facF (chT s) 4) P).1, false) from if_neg (fun h => absurd h.2 (by assumption))]; exact EM_place hE2))) (fun _ hM => hM)
        · skip
          have hfb : ((facF (chT s) 4) P).2.1 = false := by
            cases q9 : ((facF (chT s) 4) P).2.1
            · rfl
            · exact absurd q9 (by assumption)
          refine v_iconst hG dX6_readBoth_16 ?_
          have e21 : @Eq Int (bi ((everyF (facF (chT s) 4) (chT s) pp).2.1 = true)) (0) := by have hst : (everyF (facF (chT s) 4) (chT s) pp) = nxF (facF (chT s) 4) (-2) t L P := ‹(everyF (facF (chT s) 4) (chT s) pp) = evL (facF (chT s) 4) (chT s) 38 (-2) F (nxF (facF (chT s) 4) (-2) t L P)›.trans (evL_stop (Or.inl hfb)); rw [hst, bi_neg (show ¬ (nxF (facF (chT s) 4) (-2) t L P).2.1 = true from fun h => by rw [show (nxF (facF (chT s) 4) (-2) t L P).2.1 = false from hfb] at h; exact Bool.noConfusion h)]
          exact v_zreturn hG hR dX6_readBoth_17 (Or.inl rfl) (u11.1, u11.2) (congrArg (fun z => some (vI z)) e21) (by rw [show (everyF (facF (chT s) 4) (chT s) pp) = nxF (facF (chT s) 4) (-2) t L P from ‹(everyF (facF (chT s) 4) (chT s) pp) = evL (facF (chT s) 4) (chT s) 38 (-2) F (nxF (facF (chT s) 4) (-2) t L P)›.trans (evL_stop (Or.inl hfb))]; exact EM_failc hE0 hE1 rfl hfb) (fun _ hM => hM)
  exact L4 _ 1 101 pp ([]) (by omega) (by rw [nx_1]; rfl) (by show 0 + pp ≤ pp ∧ (1 < 1 → 0 + pp + 1 ≤ pp) ∧ (pp : Int) ≤ s 48; omega) rfl _ (by rfl) _ (by trivial) _ (by exact EM_0 h3 (by omega))
set_option maxHeartbeats 4000000 in
set_option maxRecDepth 100000 in
theorem kc6_readEither4 (l : Launch) (D : Dx) (A : Nat → Prop) (ad : Nat → Nat) (K : Int → Int) (S Q qa : Nat → Int → Int) (tp : Nat → Nat) (s q w0 w1 w2 w3 bo e uc lr nx : Int → Int) (p : Nat) (hp : p < 6) (pp : Nat) (hq2 : q 2 = s 48) (h3 : q 3 = (pp : Int)) (hTS : TS s) (hpn : (pp : Int) ≤ s 48) (htp : tp p = kC ad 0 0) (hkp : 0 ≤ q 1 ∧ q 1 ≤ (pp : Int)) : CT l D A yX6_readEither cX6_readEither 3 (some .boolean) { frames := 19, cells := 0, slots := 0, locals := 431 } [.ref (kP ad p), vI 1] (CW D A ad K (uS S 0 s) (uS Q p q) (q4 qa p w0 w1 w2 w3) tp bo e uc lr nx) (fun u : (Int → Int) × (Int → Int) => some (vI (bi ((someF (facF (chT s) 4) (chT s) pp).2.1 = true)))) (fun u => EM q w3 (someF (facF (chT s) 4) (chT s) pp) u.1 u.2) (fun u => CW D A ad K (uS S 0 s) (uS Q p u.1) (q4 qa p w0 w1 w2 u.2) tp bo e uc lr nx) := by
  refine ct_of (lo0 := [(0, .ref (kP ad p)), (1, vI 1)]) (by decide) (Nat.le_of_ble_eq_true rfl) rfl ?_
  intro G hG hR
  have hT1 := hTS.1
  have hCE := chT_CE hTS
  refine v_iconst hG dX6_readEither_0 ?_
  refine v_istore_n (lo' := [(2, vI 1), (0, .ref (kP ad p)), (1, vI 1)]) hG dX6_readEither_1 rfl (by decide) rfl ?_
  refine v_lo [1, 2, 0] (lo' := [(0, .ref (kP ad p)), (1, vI 1), (2, vI 1)]) rfl ?_
  have L4 : ∀ mz : Nat, ∀ (t F P : Nat) (L : List Int), (1 ≤ t ∧ t + pp ≤ P + 1 ∧ F + t = 102) → ((someF (facF (chT s) 4) (chT s) pp) = evL (everyF (facF (chT s) 4) (chT s)) (chT s) 124 (-3) F (nxF (everyF (facF (chT s) 4) (chT s)) (-3) t L P)) → (L.length + pp ≤ P ∧ (1 < t → L.length + pp + 1 ≤ P) ∧ (P : Int) ≤ s 48) → 102 - t = mz → ∀ x1 : Int, x1 = ((t : Int)) → ∀ x2 : Int → Int, True → ∀ x3 : Int → Int, EM q w3 (P, true, L) x2 x3 → V G 0 0 (CW D A ad K (uS S 0 s) (uS Q p x2) (q4 qa p w0 w1 w2 x3) tp bo e uc lr nx) 2 [(0, .ref (kP ad p)), (1, vI 1), (2, vI x1)] [] := by
    intro dL4
    induction dL4 using Nat.strongRecOn with
    | ind dL4 ihL4 =>
      intro t F P L hq5 hq6 hq7 hq8
      intro x1 hx1
      subst hx1
      intro x2 hx2
      intro x3 hx3
      refine v_iload_n hG dX6_readEither_2 rfl 2 rfl ?_
      refine v_bipush hG dX6_readEither_3 (by decide) ?_
      refine v_icmp_gt (tgt := 46) hG dX6_readEither_5 (by decide) (by omega) (by omega) (fun c9 => ?_) (fun c9 => ?_)
      · skip
        refine v_iconst hG dX6_readEither_46 ?_
        have hE0 : EM q w3 (P, true, L) x2 x3 := by assumption
        have hpe : chT s P = -1 := (hCE P).1.mpr (by omega)
        have hfe : (everyF (facF (chT s) 4) (chT s)) P = (P, false, []) := every_end hpe
        have hst : (someF (facF (chT s) 4) (chT s) pp) = nxF (everyF (facF (chT s) 4) (chT s)) (-3) t L P := ‹(someF (facF (chT s) 4) (chT s) pp) = evL (everyF (facF (chT s) 4) (chT s)) (chT s) 124 (-3) F (nxF (everyF (facF (chT s) 4) (chT s)) (-3) t L P)›.trans (evL_stop (Or.inl (by show ((everyF (facF (chT s) 4) (chT s)) P).2.1 = false; rw [hfe])))
        have hfb : (nxF (everyF (facF (chT s) 4) (chT s)) (-3) t L P).2.1 = false := by show ((everyF (facF (chT s) 4) (chT s)) P).2.1 = false; rw [hfe]
        have e10 : @Eq Int (bi ((someF (facF (chT s) 4) (chT s) pp).2.1 = true)) (0) := by rw [hst, bi_neg (fun h => by rw [hfb] at h; exact Bool.noConfusion h)]
        exact v_zreturn hG hR dX6_readEither_47 (Or.inl rfl) (x2, x3) (congrArg (fun z => some (vI z)) e10) (by rw [hst]; exact EM_fail hE0.1 (by show _ = ((((everyF (facF (chT s) 4) (chT s)) P).1 : Nat) : Int); rw [hfe]; exact hE0.2.1) hE0.2.2.1 hfb) (fun _ hM => hM)
      · skip
        have hE0 : EM q w3 (P, true, L) x2 x3 := by assumption
        have hy1 := EM_n hE0
        have hy2 := (hE0.1 2 (by decide) (by decide)).trans hq2
        have hy3 : _ = (P : Int) := hE0.2.1
        obtain ⟨hg1, hg2, hg3⟩ := everyF_rng hCE (fun x hx => facF_rng hCE 4 x hx) (p := P) (by omega)
        refine v_aload_n hG dX6_readEither_8 rfl 0 rfl ?_
        refine v_iload_n hG dX6_readEither_9 rfl 1 rfl ?_
        refine v_callV (k1' := 0) (k2' := 0) hG dX6_readEither_10 zc_X6_readBoth ⟨zl_X6_85, zi_X6_readBoth, zs_X6_readBoth⟩ (fun l => kc6_readBoth4 l D A ad K S Q qa tp s x2 w0 w1 w2 x3 bo e uc lr nx p hp P (by exact hy2) (by exact hy3) (by assumption) (by omega) (by assumption) (by omega)) rfl (cR6 hp) (fun _ h => h) ⟨by decide, by decide⟩ rfl rfl ⟨by decide, by decide⟩ (rest := []) rfl (Nat.le_of_ble_eq_true rfl) (fun u11 => [vI (bi ((everyF (facF (chT s) 4) (chT s) P).2.1 = true))]) (fun _ => rfl) (fun u11 hu11 => ?_)
        have fu11 : EM x2 x3 (everyF (facF (chT s) 4) (chT s) P) u11.1 u11.2 := hu11
        have hE1 := fu11
        refine v_ifb_ne (p := (everyF (facF (chT s) 4) (chT s) P).2.1 = true) (tgt := 18) hG dX6_readEither_13 (by decide) (fun c12 => ?_) (fun c12 => ?_)
        · skip
          have hfk : ((everyF (facF (chT s) 4) (chT s)) P).2.1 = true := by assumption
          obtain ⟨hdd1, hdd2, hdd3⟩ := hE1.2.2.2 hfk
          refine v_iload_n hG dX6_readEither_18 rfl 2 rfl ?_
          refine v_iconst hG dX6_readEither_19 ?_
          refine v_icmp_le (tgt := 29) hG dX6_readEither_20 (by decide) (by omega) (by omega) (fun c13 => ?_) (fun c13 => ?_)
          · skip
            have hE2 : EM q w3 (((everyF (facF (chT s) 4) (chT s)) P).1, true, (nxF (everyF (facF (chT s) 4) (chT s)) (-3) t L P).2.2) u11.1 u11.2 := by first | exact EM_nx2 hE0 hE1 hkp.1 hfk (by omega) (by decide) (by omega) (by assumption) | exact EM_nx1 hE0 hE1 hkp.1 hfk (by omega)
            have hnl := EM_n hE2
            have hnk : (nxF (everyF (facF (chT s) 4) (chT s)) (-3) t L P).2.1 = true := hfk
            have hn1 : (nxF (everyF (facF (chT s) 4) (chT s)) (-3) t L P).1 = ((everyF (facF (chT s) 4) (chT s)) P).1 := rfl
            have hnl9 : (nxF (everyF (facF (chT s) 4) (chT s)) (-3) t L P).2.2.length ≤ L.length + ((everyF (facF (chT s) 4) (chT s)) P).2.2.length + (if 1 < t then 1 else 0) := nx_len
            refine v_aload_n hG dX6_readEither_29 rfl 0 rfl ?_
            refine v_bipush hG dX6_readEither_30 (by decide) ?_
            refine v_callV (k1' := 0) (k2' := 0) hG dX6_readEither_32 zc_X6_skip ⟨zl_X6_56, zi_X6_skip, zs_X6_skip⟩ (fun l => kc6_skip l D A ad K S Q qa tp s u11.1 w0 w1 w2 u11.2 bo e uc lr nx p hp (((everyF (facF (chT s) 4) (chT s)) P).1) 124 (by exact (hE2.1 2 (by decide) (by decide)).trans hq2) (by exact hE2.2.1) (by assumption) (by omega) (by assumption) (by omega)) rfl (cR6 hp) (fun _ h => h) ⟨by decide, by decide⟩ rfl rfl ⟨by decide, by decide⟩ (rest := []) rfl (Nat.le_of_ble_eq_true rfl) (fun u14 => [vI (bi (chT s (((everyF (facF (chT s) 4) (chT s)) P).1) = 124))]) (fun _ => rfl) (fun u14 hu14 => ?_)
            refine v_ifb_ne (p := chT s (((everyF (facF (chT s) 4) (chT s)) P).1) = 124) (tgt := 40) hG dX6_readEither_35 (by decide) (fun c15 => ?_) (fun c15 => ?_)
            · skip
              skip
              refine v_iinc (lo' := [(2, vI ((t : Int) + 1)), (0, .ref (kP ad p)), (1, vI 1)]) hG dX6_readEither_40 2 rfl (by decide) rfl ?_
              refine v_goto (tgt := 2) hG dX6_readEither_43 (by decide) ?_
              refine v_lo [1, 2, 0] (lo' := [(0, .ref (kP ad p)), (1, vI 1), (2, vI ((t : Int) + 1))]) rfl ?_
              exact ihL4 _ (by omega) (t + 1) (F - 1) (((everyF (facF (chT s) 4) (chT s)) P).1 + 1) ((nxF (everyF (facF (chT s) 4) (chT s)) (-3) t L P).2.2) (by omega) (by show (someF (facF (chT s) 4) (chT s) pp) = evL (everyF (facF (chT s) 4) (chT s)) (chT s) 124 (-3) (F - 1) (nxF (everyF (facF (chT s) 4) (chT s)) (-3) (t + 1) (nxF (everyF (facF (chT s) 4) (chT s)) (-3) t L P).2.2 ((nxF (everyF (facF (chT s) 4) (chT s)) (-3) t L P).1 + 1)); rw [← nx_go (r := nxF (everyF (facF (chT s) 4) (chT s)) (-3) t L P) (by omega)]; exact ‹(someF (facF (chT s) 4) (chT s) pp) = evL (everyF (facF (chT s) 4) (chT s)) (chT s) 124 (-3) F (nxF (everyF (facF (chT s) 4) (chT s)) (-3) t L P)›.trans (evL_go (by omega) hnk (show chT s (nxF (everyF (facF (chT s) 4) (chT s)) (-3) t L P).1 = 124 from (show chT s ((everyF (facF (chT s) 4) (chT s)) P).1 = 124 by assumption)))) (by have hlt9 := hCE.lt (p := ((everyF (facF (chT s) 4) (chT s)) P).1) (fun e => absurd (e.symm.trans (show chT s ((everyF (facF (chT s) 4) (chT s)) P).1 = 124 by assumption)) (by decide)); split at hnl9 <;> omega) rfl _ (by omega) _ (by trivial) _ (by rw [show mustF (chT s) 124 (((everyF (facF (chT s) 4) (chT s)) P).1, true) = (((everyF (facF (chT s) 4) (chT s)) P).1 + 1, true) from if_pos ⟨rfl, by assumption⟩]; exact EM_place hE2)
            · skip
              have hst : (someF (facF (chT s) 4) (chT s) pp) = nxF (everyF (facF (chT s) 4) (chT s)) (-3) t L P := ‹(someF (facF (chT s) 4) (chT s) pp) = evL (everyF (facF (chT s) 4) (chT s)) (chT s) 124 (-3) F (nxF (everyF (facF (chT s) 4) (chT s)) (-3) t L P)›.trans (evL_stop (Or.inr (show ¬ chT s (nxF (everyF (facF (chT s) 4) (chT s)) (-3) t L P).1 = 124 from (show ¬ chT s ((everyF (facF (chT s) 4) (chT s)) P).1 = 124 by assumption))))
              refine v_iconst hG dX6_readEither_38 ?_
              have e16 : @Eq Int (bi ((someF (facF (chT s) 4) (chT s) pp).2.1 = true)) (1) := by rw [hst, bi_pos hnk]
              exact v_zreturn hG hR dX6_readEither_39 (Or.inr rfl) (sU u11.1 3 ((mustF (chT s) 124 ((((everyF (facF (chT s) 4) (chT s)) P).1), true)).1 : Nat), u11.2) (congrArg (fun z => some (vI z)) e16) (by rw [hst]; exact (show EM q w3 (nxF (everyF (facF (chT s) 4) (chT s)) (-3) t L P) _ _ from (show (nxF (everyF (facF (chT s) 4) (chT s)) (-3) t L P) = (((everyF (facF (chT s) 4) (chT s)) P).1, true, (nxF (everyF (facF (chT s) 4) (chT s)) (-3) t L P).2.2) from Prod.ext rfl (Prod.ext hfk rfl)) ▸ (show EM q w3 (((everyF (facF (chT s) 4) (chT s)) P).1, true, (nxF (everyF (facF (chT s) 4) (chT s)) (-3) t L P).2.2) _ _ from by rw [show mustF (chT s) 124 (((everyF (facF (chT s) 4) (chT s)) P).1, true) = (((everyF (facF (chT s) 4) (chT s)) P).1, false) from if_neg (fun h => absurd h.2 (by assumption))]; exact EM_place hE2))) (fun _ hM => hM)
          · skip
            refine v_aload_n hG dX6_readEither_23 rfl 0 rfl ?_
            refine v_bipush hG dX6_readEither_24 (by decide) ?_
            refine v_callV (k1' := 0) (k2' := 0) hG dX6_readEither_26 zc_X6_keep ⟨zl_X6_88, zi_X6_keep, zs_X6_keep⟩ (fun l => kc6_keepG l D A ad K S Q qa tp s u11.1 w0 w1 w2 u11.2 bo e uc lr nx p hp (-3) (by omega)) rfl (cR6 hp) (fun _ h => h) ⟨by decide, by decide⟩ rfl rfl ⟨by decide, by decide⟩ (rest := []) rfl (Nat.le_of_ble_eq_true rfl) (fun u17 => []) (fun _ => rfl) (fun u17 hu17 => ?_)
            have fu17 : KP u11.1 u11.2 (-3) u17.1 u17.2 := hu17
            have hE2 : EM q w3 (((everyF (facF (chT s) 4) (chT s)) P).1, true, (nxF (everyF (facF (chT s) 4) (chT s)) (-3) t L P).2.2) u17.1 u17.2 := by first | exact EM_nx2 hE0 hE1 hkp.1 hfk (by omega) (by decide) (by omega) (by assumption) | exact EM_nx1 hE0 hE1 hkp.1 hfk (by omega)
            have hnl := EM_n hE2
            have hnk : (nxF (everyF (facF (chT s) 4) (chT s)) (-3) t L P).2.1 = true := hfk
            have hn1 : (nxF (everyF (facF (chT s) 4) (chT s)) (-3) t L P).1 = ((everyF (facF (chT s) 4) (chT s)) P).1 := rfl
            have hnl9 : (nxF (everyF (facF (chT s) 4) (chT s)) (-3) t L P).2.2.length ≤ L.length + ((everyF (facF (chT s) 4) (chT s)) P).2.2.length + (if 1 < t then 1 else 0) := nx_len
            refine v_aload_n hG dX6_readEither_29 rfl 0 rfl ?_
            refine v_bipush hG dX6_readEither_30 (by decide) ?_
            refine v_callV (k1' := 0) (k2' := 0) hG dX6_readEither_32 zc_X6_skip ⟨zl_X6_56, zi_X6_skip, zs_X6_skip⟩ (fun l => kc6_skip l D A ad K S Q qa tp s u17.1 w0 w1 w2 u17.2 bo e uc lr nx p hp (((everyF (facF (chT s) 4) (chT s)) P).1) 124 (by exact (hE2.1 2 (by decide) (by decide)).trans hq2) (by exact hE2.2.1) (by assumption) (by omega) (by assumption) (by omega)) rfl (cR6 hp) (fun _ h => h) ⟨by decide, by decide⟩ rfl rfl ⟨by decide, by decide⟩ (rest := []) rfl (Nat.le_of_ble_eq_true rfl) (fun u18 => [vI (bi (chT s (((everyF (facF (chT s) 4) (chT s)) P).1) = 124))]) (fun _ => rfl) (fun u18 hu18 => ?_)
            refine v_ifb_ne (p := chT s (((everyF (facF (chT s) 4) (chT s)) P).1) = 124) (tgt := 40) hG dX6_readEither_35 (by decide) (fun c19 => ?_) (fun c19 => ?_)
            · skip
              skip
              refine v_iinc (lo' := [(2, vI ((t : Int) + 1)), (0, .ref (kP ad p)), (1, vI 1)]) hG dX6_readEither_40 2 rfl (by decide) rfl ?_
              refine v_goto (tgt := 2) hG dX6_readEither_43 (by decide) ?_
              refine v_lo [1, 2, 0] (lo' := [(0, .ref (kP ad p)), (1, vI 1), (2, vI ((t : Int) + 1))]) rfl ?_
              exact ihL4 _ (by omega) (t + 1) (F - 1) (((everyF (facF (chT s) 4) (chT s)) P).1 + 1) ((nxF (everyF (facF (chT s) 4) (chT s)) (-3) t L P).2.2) (by omega) (by show (someF (facF (chT s) 4) (chT s) pp) = evL (everyF (facF (chT s) 4) (chT s)) (chT s) 124 (-3) (F - 1) (nxF (everyF (facF (chT s) 4) (chT s)) (-3) (t + 1) (nxF (everyF (facF (chT s) 4) (chT s)) (-3) t L P).2.2 ((nxF (everyF (facF (chT s) 4) (chT s)) (-3) t L P).1 + 1)); rw [← nx_go (r := nxF (everyF (facF (chT s) 4) (chT s)) (-3) t L P) (by omega)]; exact ‹(someF (facF (chT s) 4) (chT s) pp) = evL (everyF (facF (chT s) 4) (chT s)) (chT s) 124 (-3) F (nxF (everyF (facF (chT s) 4) (chT s)) (-3) t L P)›.trans (evL_go (by omega) hnk (show chT s (nxF (everyF (facF (chT s) 4) (chT s)) (-3) t L P).1 = 124 from (show chT s ((everyF (facF (chT s) 4) (chT s)) P).1 = 124 by assumption)))) (by have hlt9 := hCE.lt (p := ((everyF (facF (chT s) 4) (chT s)) P).1) (fun e => absurd (e.symm.trans (show chT s ((everyF (facF (chT s) 4) (chT s)) P).1 = 124 by assumption)) (by decide)); split at hnl9 <;> omega) rfl _ (by omega) _ (by trivial) _ (by rw [show mustF (chT s) 124 (((everyF (facF (chT s) 4) (chT s)) P).1, true) = (((everyF (facF (chT s) 4) (chT s)) P).1 + 1, true) from if_pos ⟨rfl, by assumption⟩]; exact EM_place hE2)
            · skip
              have hst : (someF (facF (chT s) 4) (chT s) pp) = nxF (everyF (facF (chT s) 4) (chT s)) (-3) t L P := ‹(someF (facF (chT s) 4) (chT s) pp) = evL (everyF (facF (chT s) 4) (chT s)) (chT s) 124 (-3) F (nxF (everyF (facF (chT s) 4) (chT s)) (-3) t L P)›.trans (evL_stop (Or.inr (show ¬ chT s (nxF (everyF (facF (chT s) 4) (chT s)) (-3) t L P).1 = 124 from (show ¬ chT s ((everyF (facF (chT s) 4) (chT s)) P).1 = 124 by assumption))))
              refine v_iconst hG dX6_readEither_38 ?_
              have e20 : @Eq Int (bi ((someF (facF (chT s) 4) (chT s) pp).2.1 = true)) (1) := by rw [hst, bi_pos hnk]
              exact v_zreturn hG hR dX6_readEither_39 (Or.inr rfl) (sU u17.1 3 ((mustF (chT s) 124 ((((everyF (facF (chT s) 4) (chT s)) P).1), true)).1 : Nat), u17.2) (congrArg (fun z => some (vI z)) e20) (by rw [hst]; exact (show EM q w3 (nxF (everyF (facF (chT s) 4) (chT s)) (-3) t L P) _ _ from (show (nxF (everyF (facF (chT s) 4) (chT s)) (-3) t L P) = (((everyF (facF (chT s) 4) (chT s)) P).1, true, (nxF (everyF (facF (chT s) 4) (chT s)) (-3) t L P).2.2) from Prod.ext rfl (Prod.ext hfk rfl)) ▸ (show EM q w3 (((everyF (facF (chT s) 4) (chT s)) P).1, true, (nxF (everyF (facF (chT s) 4) (chT s)) (-3) t L P).2.2) _ _ from by rw [show mustF (chT s) 124 (((everyF (facF (chT s) 4) (chT s)) P).1, true) = (((everyF (facF (chT s) 4) (chT s)) P).1, false) from if_neg (fun h => absurd h.2 (by assumption))]; exact EM_place hE2))) (fun _ hM => hM)
        · skip
          have hfb : ((everyF (facF (chT s) 4) (chT s)) P).2.1 = false := by
            cases q9 : ((everyF (facF (chT s) 4) (chT s)) P).2.1
            · rfl
            · exact absurd q9 (by assumption)
          refine v_iconst hG dX6_readEither_16 ?_
          have e21 : @Eq Int (bi ((someF (facF (chT s) 4) (chT s) pp).2.1 = true)) (0) := by have hst : (someF (facF (chT s) 4) (chT s) pp) = nxF (everyF (facF (chT s) 4) (chT s)) (-3) t L P := ‹(someF (facF (chT s) 4) (chT s) pp) = evL (everyF (facF (chT s) 4) (chT s)) (chT s) 124 (-3) F (nxF (everyF (facF (chT s) 4) (chT s)) (-3) t L P)›.trans (evL_stop (Or.inl hfb)); rw [hst, bi_neg (show ¬ (nxF (everyF (facF (chT s) 4) (chT s)) (-3) t L P).2.1 = true from fun h => by rw [show (nxF (everyF (facF (chT s) 4) (chT s)) (-3) t L P).2.1 = false from hfb] at h; exact Bool.noConfusion h)]
          exact v_zreturn hG hR dX6_readEither_17 (Or.inl rfl) (u11.1, u11.2) (congrArg (fun z => some (vI z)) e21) (by rw [show (someF (facF (chT s) 4) (chT s) pp) = nxF (everyF (facF (chT s) 4) (chT s)) (-3) t L P from ‹(someF (facF (chT s) 4) (chT s) pp) = evL (everyF (facF (chT s) 4) (chT s)) (chT s) 124 (-3) F (nxF (everyF (facF (chT s) 4) (chT s)) (-3) t L P)›.trans (evL_stop (Or.inl hfb))]; exact EM_failc hE0 hE1 rfl hfb) (fun _ hM => hM)
  exact L4 _ 1 101 pp ([]) (by omega) (by rw [nx_1]; rfl) (by show 0 + pp ≤ pp ∧ (1 < 1 → 0 + pp + 1 ≤ pp) ∧ (pp : Int) ≤ s 48; omega) rfl _ (by rfl) _ (by trivial) _ (by exact EM_0 h3 (by omega))
set_option maxHeartbeats 4000000 in
set_option maxRecDepth 100000 in
theorem kc6_readOne5 (l : Launch) (D : Dx) (A : Nat → Prop) (ad : Nat → Nat) (K : Int → Int) (S Q qa : Nat → Int → Int) (tp : Nat → Nat) (s q w0 w1 w2 w3 bo e uc lr nx : Int → Int) (p : Nat) (hp : p < 6) (pp : Nat) (hq2 : q 2 = s 48) (h3 : q 3 = (pp : Int)) (hTS : TS s) (hpn : (pp : Int) ≤ s 48) (htp : tp p = kC ad 0 0) (hkp : 0 ≤ q 1 ∧ q 1 ≤ (pp : Int)) : CT l D A yX6_readOne cX6_readOne 5 (some .boolean) { frames := 20, cells := 0, slots := 0, locals := 453 } [.ref (kP ad p), vI 0] (CW D A ad K (uS S 0 s) (uS Q p q) (q4 qa p w0 w1 w2 w3) tp bo e uc lr nx) (fun u : (Int → Int) × (Int → Int) => some (vI (bi ((facF (chT s) 5 pp).2.1 = true)))) (fun u => EM q w3 (facF (chT s) 5 pp) u.1 u.2) (fun u => CW D A ad K (uS S 0 s) (uS Q p u.1) (q4 qa p w0 w1 w2 u.2) tp bo e uc lr nx) := by
  refine ct_of (lo0 := [(0, .ref (kP ad p)), (1, vI 0)]) (by decide) (Nat.le_of_ble_eq_true rfl) rfl ?_
  intro G hG hR
  have hT1 := hTS.1
  have hCE := chT_CE hTS
  have hz1 := zix_b (i := 1) (by decide) (chT s pp)
  have hz2 := zix_b (i := 2) (by decide) (chT s (pp + 1))
  have hfr := figF_rng (ok := true) hCE (p := pp + 2)
  refine v_iload_n hG dX6_readOne_0 rfl 1 rfl ?_
  refine v_iconst hG dX6_readOne_1 ?_
  refine v_icmp_ge (tgt := 63) hG dX6_readOne_2 (by decide) (by omega) (by omega) (fun c1 => ?_) (fun c1 => ?_)
  · skip
    exfalso; omega
  · skip
    refine v_aload_n hG dX6_readOne_5 rfl 0 rfl ?_
    refine v_bipush hG dX6_readOne_6 (by decide) ?_
    refine v_callV (k1' := 0) (k2' := 0) hG dX6_readOne_8 zc_X6_skip ⟨zl_X6_56, zi_X6_skip, zs_X6_skip⟩ (fun l => kc6_skip l D A ad K S Q qa tp s q w0 w1 w2 w3 bo e uc lr nx p hp pp 33 (by first | assumption | (rw [sU_ne (by omega)]; assumption) | (simp only [sU_at]; (repeat' split) <;> first | assumption | (exfalso; omega))) (by first | exact sU_eq | assumption) (by assumption) (by omega) (by assumption) (by omega)) rfl (cR6 hp) (fun _ h => h) ⟨by decide, by decide⟩ rfl rfl ⟨by decide, by decide⟩ (rest := []) rfl (Nat.le_of_ble_eq_true rfl) (fun u2 => [vI (bi (chT s pp = 33))]) (fun _ => rfl) (fun u2 hu2 => ?_)
    refine v_ifb_eq (p := chT s pp = 33) (tgt := 29) hG dX6_readOne_11 (by decide) (fun c3 => ?_) (fun c3 => ?_)
    · skip
      rw [mst_n (show ¬ chT s pp = 33 by assumption), ← sU_at3 h3]
      refine v_aload_n hG dX6_readOne_29 rfl 0 rfl ?_
      refine v_bipush hG dX6_readOne_30 (by decide) ?_
      refine v_callV (k1' := 0) (k2' := 0) hG dX6_readOne_32 zc_X6_skip ⟨zl_X6_56, zi_X6_skip, zs_X6_skip⟩ (fun l => kc6_skip l D A ad K S Q qa tp s q w0 w1 w2 w3 bo e uc lr nx p hp pp 40 (by first | assumption | (rw [sU_ne (by omega)]; assumption) | (simp only [sU_at]; (repeat' split) <;> first | assumption | (exfalso; omega))) (by first | exact sU_eq | assumption) (by assumption) (by omega) (by assumption) (by omega)) rfl (cR6 hp) (fun _ h => h) ⟨by decide, by decide⟩ rfl rfl ⟨by decide, by decide⟩ (rest := []) rfl (Nat.le_of_ble_eq_true rfl) (fun u4 => [vI (bi (chT s pp = 40))]) (fun _ => rfl) (fun u4 hu4 => ?_)
      refine v_ifb_eq (p := chT s pp = 40) (tgt := 63) hG dX6_readOne_35 (by decide) (fun c5 => ?_) (fun c5 => ?_)
      · skip
        rw [mst_n (show ¬ chT s pp = 40 by assumption), ← sU_at3 h3]
        refine v_aload_n hG dX6_readOne_63 rfl 0 rfl ?_
        refine v_ldcS (i := 1) (tx := "mkdxtv") hG dX6_readOne_64 (by decide) ?_
        refine v_callV (k1' := 0) (k2' := 0) hG dX6_readOne_66 zc_X6_readOneOf ⟨zl_X6_97, zi_X6_readOneOf, zs_X6_readOneOf⟩ (fun l => kc6_readOneOf l D A ad K S Q qa tp s q w0 w1 w2 w3 bo e uc lr nx p hp pp 1 (by first | assumption | (rw [sU_ne (by omega)]; assumption) | (simp only [sU_at]; (repeat' split) <;> first | assumption | (exfalso; omega))) (by first | exact sU_eq | assumption) (by assumption) (by omega) (by assumption) (by first | assumption | decide)) rfl (cR6 hp) (fun _ h => h) ⟨by decide, by decide⟩ rfl rfl ⟨by decide, by decide⟩ (rest := []) rfl (Nat.le_of_ble_eq_true rfl) (fun u6 => [vI (zix 1 (chT s pp))]) (fun _ => rfl) (fun u6 hu6 => ?_)
        have fu6 : -1 ≤ zix 1 (chT s pp) ∧ zix 1 (chT s pp) ≤ 16 := hu6
        refine v_istore_n (lo' := [(2, vI (zix 1 (chT s pp))), (0, .ref (kP ad p)), (1, vI 0)]) hG dX6_readOne_69 rfl (by decide) rfl ?_
        refine v_iload_n hG dX6_readOne_70 rfl 0 rfl ?_
        refine v_if_ge (tgt := 78) hG dX6_readOne_71 (by decide) (by omega) (fun c7 => ?_) (fun c7 => ?_)
        · skip
          rw [show ((if zix 1 (chT s pp) = -1 then pp else pp + 1 : Nat) : Int) = ((pp + 1 : Nat) : Int) from by rw [if_neg (by omega)]]
          have hlt1 : pp < (s 48).toNat := hCE.lt (fun e => by
              have h9 : zix 1 (chT s pp) = -1 := (by rw [e]; exact zix_end (by decide))
              omega)
          refine v_aload_n hG dX6_readOne_78 rfl 1 rfl ?_
          refine v_ldcS (i := 2) (tx := "<=>") hG dX6_readOne_79 (by decide) ?_
          refine v_callV (k1' := 0) (k2' := 0) hG dX6_readOne_81 zc_X6_readOneOf ⟨zl_X6_97, zi_X6_readOneOf, zs_X6_readOneOf⟩ (fun l => kc6_readOneOf l D A ad K S Q qa tp s (sU q 3 ((pp + 1 : Nat) : Int)) w0 w1 w2 w3 bo e uc lr nx p hp (pp + 1) 2 (by first | assumption | (rw [sU_ne (by omega)]; assumption) | (simp only [sU_at]; (repeat' split) <;> first | assumption | (exfalso; omega))) (by exact sU_eq) (by assumption) (by omega) (by assumption) (by first | assumption | decide)) rfl (cR6 hp) (fun _ h => h) ⟨by decide, by decide⟩ rfl rfl ⟨by decide, by decide⟩ (rest := []) rfl (Nat.le_of_ble_eq_true rfl) (fun u8 => [vI (zix 2 (chT s (pp + 1)))]) (fun _ => rfl) (fun u8 hu8 => ?_)
          have fu8 : -1 ≤ zix 2 (chT s (pp + 1)) ∧ zix 2 (chT s (pp + 1)) ≤ 16 := hu8
          rw [sU_sU]
          refine v_istore_n (lo' := [(3, vI (zix 2 (chT s (pp + 1)))), (2, vI (zix 1 (chT s pp))), (0, .ref (kP ad p)), (1, vI 0)]) hG dX6_readOne_84 rfl (by decide) rfl ?_
          refine v_iload_n hG dX6_readOne_85 rfl 0 rfl ?_
          refine v_if_ge (tgt := 93) hG dX6_readOne_86 (by decide) (by omega) (fun c9 => ?_) (fun c9 => ?_)
          · skip
            rw [show ((if zix 2 (chT s (pp + 1)) = -1 then pp + 1 else pp + 1 + 1 : Nat) : Int) = ((pp + 2 : Nat) : Int) from by rw [if_neg (by omega)]]
            have hlt2 : pp + 1 < (s 48).toNat := hCE.lt (fun e => by
                have h9 : zix 2 (chT s (pp + 1)) = -1 := (by rw [e]; exact zix_end (by decide))
                omega)
            have hf2 := hfr (by omega)
            refine v_aload_n hG dX6_readOne_93 rfl 2 rfl ?_
            refine v_callV (k1' := 0) (k2' := 0) hG dX6_readOne_94 zc_X6_readNumber ⟨zl_X6_64, zi_X6_readNumber, zs_X6_readNumber⟩ (fun l => kc6_readNumber l D A ad K S Q qa tp s (sU q 3 ((pp + 2 : Nat) : Int)) w0 w1 w2 w3 bo e uc lr nx p hp (pp + 2) (by first | assumption | (rw [sU_ne (by omega)]; assumption) | (simp only [sU_at]; (repeat' split) <;> first | assumption | (exfalso; omega))) (by exact sU_eq) (by assumption) (by omega) (by assumption)) rfl (cR6 hp) (fun _ h => h) ⟨by decide, by decide⟩ rfl rfl ⟨by decide, by decide⟩ (rest := []) rfl (Nat.le_of_ble_eq_true rfl) (fun u10 => [vI (if (figF (chT s) ((pp + 2), true)).1.2 = true then (figF (chT s) ((pp + 2), true)).2 else -1)]) (fun _ => rfl) (fun u10 hu10 => ?_)
            rw [sU_sU]
            refine v_istore (lo' := [(4, vI (if (figF (chT s) ((pp + 2), true)).1.2 = true then (figF (chT s) ((pp + 2), true)).2 else -1)), (3, vI (zix 2 (chT s (pp + 1)))), (2, vI (zix 1 (chT s pp))), (0, .ref (kP ad p)), (1, vI 0)]) hG dX6_readOne_97 (by decide) rfl ?_
            refine v_iload hG dX6_readOne_99 0 rfl ?_
            refine v_if_ge (tgt := 106) hG dX6_readOne_101 (by decide) (by omega) (fun c11 => ?_) (fun c11 => ?_)
            · skip
              have hft : (figF (chT s) (pp + 2, true)).1.2 = true := by
                apply Decidable.byContradiction
                intro q9
                have e9 : (if (figF (chT s) (pp + 2, true)).1.2 = true then (figF (chT s) (pp + 2, true)).2 else (-1 : Int)) = -1 := if_neg q9
                omega
              refine v_aload_n hG dX6_readOne_106 rfl 3 rfl ?_
              refine v_iload_n hG dX6_readOne_107 rfl 2 rfl ?_
              refine v_iconst hG dX6_readOne_108 ?_
              refine v_imul hG dX6_readOne_109 ?_
              refine v_iload_n hG dX6_readOne_110 rfl 1 rfl ?_
              refine v_iadd hG dX6_readOne_111 ?_
              refine v_bipush hG dX6_readOne_112 (by decide) ?_
              refine v_imul hG dX6_readOne_114 ?_
              refine v_iload hG dX6_readOne_115 0 rfl ?_
              refine v_iadd hG dX6_readOne_117 ?_
              refine v_callV (k1' := 0) (k2' := 0) hG dX6_readOne_118 zc_X6_keep ⟨zl_X6_88, zi_X6_keep, zs_X6_keep⟩ (fun l => kc6_keepG l D A ad K S Q qa tp s (sU q 3 (((figF (chT s) (pp + 2, true)).1.1 : Nat) : Int)) w0 w1 w2 w3 bo e uc lr nx p hp (((((zix 1 (chT s pp)) * 3) + (zix 2 (chT s (pp + 1)))) * 100) + (if (figF (chT s) ((pp + 2), true)).1.2 = true then (figF (chT s) ((pp + 2), true)).2 else -1)) (by rw [sU_ne (by omega)]; omega)) rfl (cR6 hp) (fun _ h => h) ⟨by decide, by decide⟩ rfl rfl ⟨by decide, by decide⟩ (rest := []) rfl (Nat.le_of_ble_eq_true rfl) (fun u12 => []) (fun _ => rfl) (fun u12 hu12 => ?_)
              have fu12 : KP (sU q 3 (((figF (chT s) (pp + 2, true)).1.1 : Nat) : Int)) w3 (((((zix 1 (chT s pp)) * 3) + (zix 2 (chT s (pp + 1)))) * 100) + (if (figF (chT s) ((pp + 2), true)).1.2 = true then (figF (chT s) ((pp + 2), true)).2 else -1)) u12.1 u12.2 := hu12
              have hKP := fu12
              refine v_iconst hG dX6_readOne_121 ?_
              have e13 : @Eq Int (bi ((facF (chT s) 5 pp).2.1 = true)) (1) := by have hx : (facF (chT s) 5 pp).2.1 = true := (by rw [fac_als (by assumption) (by assumption), atom_3 (by omega) (by omega)]; exact hft); rw [bi_pos hx]
              exact v_zreturn hG hR dX6_readOne_122 (Or.inr rfl) (u12.1, u12.2) (congrArg (fun z => some (vI z)) e13) (by rw [fac_als (by assumption) (by assumption)]; exact EM_atom (by omega) (by omega) hft (by rw [if_pos hft]) (fun k h => sU_ne h) sU_eq (by omega) hKP) (fun _ hM => hM)
            · skip
              have hfn : (figF (chT s) (pp + 2, true)).1.2 = false := by
                cases q9 : (figF (chT s) (pp + 2, true)).1.2
                · rfl
                · have e9 : (if (figF (chT s) (pp + 2, true)).1.2 = true then (figF (chT s) (pp + 2, true)).2 else (-1 : Int)) = (figF (chT s) (pp + 2, true)).2 := if_pos q9
                  omega
              refine v_iconst hG dX6_readOne_104 ?_
              have e14 : @Eq Int (bi ((facF (chT s) 5 pp).2.1 = true)) (0) := by first | (have hx : ¬ (facF (chT s) 5 pp).2.1 = true := (by rw [fac_als (by assumption) (by assumption), atom_3 (by omega) (by omega), hfn]; exact Bool.false_ne_true); rw [bi_neg hx]; done) | (have hx : ¬ (facF (chT s) 5 pp).2.1 = true := (by rw [fac_als (by assumption) (by assumption), atom_1 (by omega)]; exact Bool.false_ne_true); rw [bi_neg hx]; done) | (have hx : ¬ (facF (chT s) 5 pp).2.1 = true := (by rw [fac_als (by assumption) (by assumption), atom_2 (by omega) (by omega)]; exact Bool.false_ne_true); rw [bi_neg hx]; done)
              exact v_zreturn hG hR dX6_readOne_105 (Or.inl rfl) (sU q 3 (((figF (chT s) (pp + 2, true)).1.1 : Nat) : Int), w3) (congrArg (fun z => some (vI z)) e14) (by first | (rw [fac_als (by assumption) (by assumption), atom_3 (by omega) (by omega)]; exact EM_fail3 rfl (by omega) hfn) | (rw [fac_als (by assumption) (by assumption), atom_1 (by omega)]; exact EM_fail3 rfl (by omega) rfl) | (rw [fac_als (by assumption) (by assumption), atom_2 (by omega) (by omega)]; exact EM_fail3 rfl (by omega) rfl)) (fun _ hM => hM)
          · skip
            rw [show ((if zix 2 (chT s (pp + 1)) = -1 then pp + 1 else pp + 1 + 1 : Nat) : Int) = ((pp + 1 : Nat) : Int) from by rw [if_pos (by omega)]]
            refine v_iconst hG dX6_readOne_89 ?_
            refine v_goto (tgt := 97) hG dX6_readOne_90 (by decide) ?_
            refine v_istore (lo' := [(4, vI (-1)), (3, vI (zix 2 (chT s (pp + 1)))), (2, vI (zix 1 (chT s pp))), (0, .ref (kP ad p)), (1, vI 0)]) hG dX6_readOne_97 (by decide) rfl ?_
            refine v_iload hG dX6_readOne_99 0 rfl ?_
            refine v_if_ge (tgt := 106) hG dX6_readOne_101 (by decide) (by omega) (fun c15 => ?_) (fun c15 => ?_)
            · skip
              exfalso; omega
            · skip
              refine v_iconst hG dX6_readOne_104 ?_
              have e16 : @Eq Int (bi ((facF (chT s) 5 pp).2.1 = true)) (0) := by first | (have hx : ¬ (facF (chT s) 5 pp).2.1 = true := (by rw [fac_als (by assumption) (by assumption), atom_3 (by omega) (by omega), hfn]; exact Bool.false_ne_true); rw [bi_neg hx]; done) | (have hx : ¬ (facF (chT s) 5 pp).2.1 = true := (by rw [fac_als (by assumption) (by assumption), atom_1 (by omega)]; exact Bool.false_ne_true); rw [bi_neg hx]; done) | (have hx : ¬ (facF (chT s) 5 pp).2.1 = true := (by rw [fac_als (by assumption) (by assumption), atom_2 (by omega) (by omega)]; exact Bool.false_ne_true); rw [bi_neg hx]; done)
              exact v_zreturn hG hR dX6_readOne_105 (Or.inl rfl) (sU q 3 ((pp + 1 : Nat) : Int), w3) (congrArg (fun z => some (vI z)) e16) (by first | (rw [fac_als (by assumption) (by assumption), atom_3 (by omega) (by omega)]; exact EM_fail3 rfl (by omega) hfn) | (rw [fac_als (by assumption) (by assumption), atom_1 (by omega)]; exact EM_fail3 rfl (by omega) rfl) | (rw [fac_als (by assumption) (by assumption), atom_2 (by omega) (by omega)]; exact EM_fail3 rfl (by omega) rfl)) (fun _ hM => hM)
        · skip
          rw [show ((if zix 1 (chT s pp) = -1 then pp else pp + 1 : Nat) : Int) = ((pp : Nat) : Int) from by rw [if_pos (by omega)]]
          refine v_iconst hG dX6_readOne_74 ?_
          refine v_goto (tgt := 84) hG dX6_readOne_75 (by decide) ?_
          refine v_istore_n (lo' := [(3, vI (-1)), (2, vI (zix 1 (chT s pp))), (0, .ref (kP ad p)), (1, vI 0)]) hG dX6_readOne_84 rfl (by decide) rfl ?_
          refine v_iload_n hG dX6_readOne_85 rfl 0 rfl ?_
          refine v_if_ge (tgt := 93) hG dX6_readOne_86 (by decide) (by omega) (fun c17 => ?_) (fun c17 => ?_)
          · skip
            exfalso; omega
          · skip
            refine v_iconst hG dX6_readOne_89 ?_
            refine v_goto (tgt := 97) hG dX6_readOne_90 (by decide) ?_
            refine v_istore (lo' := [(4, vI (-1)), (3, vI (-1)), (2, vI (zix 1 (chT s pp))), (0, .ref (kP ad p)), (1, vI 0)]) hG dX6_readOne_97 (by decide) rfl ?_
            refine v_iload hG dX6_readOne_99 0 rfl ?_
            refine v_if_ge (tgt := 106) hG dX6_readOne_101 (by decide) (by omega) (fun c18 => ?_) (fun c18 => ?_)
            · skip
              exfalso; omega
            · skip
              refine v_iconst hG dX6_readOne_104 ?_
              have e19 : @Eq Int (bi ((facF (chT s) 5 pp).2.1 = true)) (0) := by first | (have hx : ¬ (facF (chT s) 5 pp).2.1 = true := (by rw [fac_als (by assumption) (by assumption), atom_3 (by omega) (by omega), hfn]; exact Bool.false_ne_true); rw [bi_neg hx]; done) | (have hx : ¬ (facF (chT s) 5 pp).2.1 = true := (by rw [fac_als (by assumption) (by assumption), atom_1 (by omega)]; exact Bool.false_ne_true); rw [bi_neg hx]; done) | (have hx : ¬ (facF (chT s) 5 pp).2.1 = true := (by rw [fac_als (by assumption) (by assumption), atom_2 (by omega) (by omega)]; exact Bool.false_ne_true); rw [bi_neg hx]; done)
              exact v_zreturn hG hR dX6_readOne_105 (Or.inl rfl) (sU q 3 ((pp : Nat) : Int), w3) (congrArg (fun z => some (vI z)) e19) (by first | (rw [fac_als (by assumption) (by assumption), atom_3 (by omega) (by omega)]; exact EM_fail3 rfl (by omega) hfn) | (rw [fac_als (by assumption) (by assumption), atom_1 (by omega)]; exact EM_fail3 rfl (by omega) rfl) | (rw [fac_als (by assumption) (by assumption), atom_2 (by omega) (by omega)]; exact EM_fail3 rfl (by omega) rfl)) (fun _ hM => hM)
      · skip
        rw [mst_y (show chT s pp = 40 by assumption)]
        have hlt1 : pp < (s 48).toNat := hCE.lt (fun e => absurd (e.symm.trans (show chT s pp = 40 by assumption)) (by decide))
        refine v_aload_n hG dX6_readOne_38 rfl 0 rfl ?_
        refine v_iload_n hG dX6_readOne_39 rfl 1 rfl ?_
        refine v_iconst hG dX6_readOne_40 ?_
        refine v_iadd hG dX6_readOne_41 ?_
        rw [show (0 : Int) + 1 = 1 from rfl]
        refine v_callV (k1' := 0) (k2' := 0) hG dX6_readOne_42 zc_X6_readEither ⟨zl_X6_70, zi_X6_readEither, zs_X6_readEither⟩ (fun l => kc6_readEither4 l D A ad K S Q qa tp s (sU q 3 ((pp + 1 : Nat) : Int)) w0 w1 w2 w3 bo e uc lr nx p hp (pp + 1) (by first | assumption | (rw [sU_ne (by omega)]; assumption) | (simp only [sU_at]; (repeat' split) <;> first | assumption | (exfalso; omega))) (by exact sU_eq) (by assumption) (by omega) (by assumption) (by first | assumption | (rw [sU_ne (by omega)]; omega) | omega)) rfl (cR6 hp) (fun _ h => h) ⟨by decide, by decide⟩ rfl rfl ⟨by decide, by decide⟩ (rest := []) rfl (Nat.le_of_ble_eq_true rfl) (fun u20 => [vI (bi ((someF (facF (chT s) 4) (chT s) (pp + 1)).2.1 = true))]) (fun _ => rfl) (fun u20 hu20 => ?_)
        have fu20 : EM (sU q 3 ((pp + 1 : Nat) : Int)) w3 (someF (facF (chT s) 4) (chT s) (pp + 1)) u20.1 u20.2 := hu20
        have hE1 := EM_in h3 (by omega) fu20
        refine v_ifb_eq (p := (someF (facF (chT s) 4) (chT s) (pp + 1)).2.1 = true) (tgt := 61) hG dX6_readOne_45 (by decide) (fun c21 => ?_) (fun c21 => ?_)
        · skip
          refine v_iconst hG dX6_readOne_61 ?_
          have e22 : @Eq Int (bi ((facF (chT s) 5 pp).2.1 = true)) (0) := by first | (have hx : (facF (chT s) 5 pp).2.1 = true := (by rw [fac_pC (show chT s pp = 40 by assumption) hxk (by assumption)]); rw [bi_pos hx]; done) | (have hx : ¬ (facF (chT s) 5 pp).2.1 = true := (by rw [fac_pB (show chT s pp = 40 by assumption) (by assumption)]; exact Bool.false_ne_true); rw [bi_neg hx]; done) | (have hx : ¬ (facF (chT s) 5 pp).2.1 = true := (by rw [fac_pA (show chT s pp = 40 by assumption) (Bool.eq_false_iff.mpr (by assumption))]; exact Bool.false_ne_true); rw [bi_neg hx]; done)
          exact v_zreturn hG hR dX6_readOne_62 (Or.inl rfl) (u20.1, u20.2) (congrArg (fun z => some (vI z)) e22) (by first | (rw [fac_pC (show chT s pp = 40 by assumption) hxk (by assumption), mst_y (show chT s (someF (facF (chT s) 4) (chT s) (pp + 1)).1 = 41 by assumption)]; exact EM_place (EM_t hE1 hxk)) | (rw [fac_pB (show chT s pp = 40 by assumption) (by assumption)]; exact EM_failp hE1 (mst_n (show ¬ chT s (someF (facF (chT s) 4) (chT s) (pp + 1)).1 = 41 by assumption)) rfl) | (rw [fac_pA (show chT s pp = 40 by assumption) (Bool.eq_false_iff.mpr (by assumption))]; exact EM_fail hE1.1 hE1.2.1 hE1.2.2.1 rfl)) (fun _ hM => hM)
        · skip
          have hxk : (someF (facF (chT s) 4) (chT s) (pp + 1)).2.1 = true := by assumption
          obtain ⟨hs1, hs2, hs3⟩ := someF_rng hCE (fun x hx => facF_rng hCE 4 x hx) (p := pp + 1) (by omega)
          refine v_aload_n hG dX6_readOne_48 rfl 0 rfl ?_
          refine v_bipush hG dX6_readOne_49 (by decide) ?_
          refine v_callV (k1' := 0) (k2' := 0) hG dX6_readOne_51 zc_X6_skip ⟨zl_X6_56, zi_X6_skip, zs_X6_skip⟩ (fun l => kc6_skip l D A ad K S Q qa tp s u20.1 w0 w1 w2 u20.2 bo e uc lr nx p hp ((someF (facF (chT s) 4) (chT s) (pp + 1)).1) 41 (by exact (hE1.1 2 (by decide) (by decide)).trans hq2) (by exact hE1.2.1) (by assumption) (by omega) (by assumption) (by omega)) rfl (cR6 hp) (fun _ h => h) ⟨by decide, by decide⟩ rfl rfl ⟨by decide, by decide⟩ (rest := []) rfl (Nat.le_of_ble_eq_true rfl) (fun u23 => [vI (bi (chT s ((someF (facF (chT s) 4) (chT s) (pp + 1)).1) = 41))]) (fun _ => rfl) (fun u23 hu23 => ?_)
          refine v_ifb_eq (p := chT s ((someF (facF (chT s) 4) (chT s) (pp + 1)).1) = 41) (tgt := 61) hG dX6_readOne_54 (by decide) (fun c24 => ?_) (fun c24 => ?_)
          · skip
            refine v_iconst hG dX6_readOne_61 ?_
            have e25 : @Eq Int (bi ((facF (chT s) 5 pp).2.1 = true)) (0) := by first | (have hx : (facF (chT s) 5 pp).2.1 = true := (by rw [fac_pC (show chT s pp = 40 by assumption) hxk (by assumption)]); rw [bi_pos hx]; done) | (have hx : ¬ (facF (chT s) 5 pp).2.1 = true := (by rw [fac_pB (show chT s pp = 40 by assumption) (by assumption)]; exact Bool.false_ne_true); rw [bi_neg hx]; done) | (have hx : ¬ (facF (chT s) 5 pp).2.1 = true := (by rw [fac_pA (show chT s pp = 40 by assumption) (Bool.eq_false_iff.mpr (by assumption))]; exact Bool.false_ne_true); rw [bi_neg hx]; done)
            exact v_zreturn hG hR dX6_readOne_62 (Or.inl rfl) (sU u20.1 3 ((mustF (chT s) 41 (((someF (facF (chT s) 4) (chT s) (pp + 1)).1), true)).1 : Nat), u20.2) (congrArg (fun z => some (vI z)) e25) (by first | (rw [fac_pC (show chT s pp = 40 by assumption) hxk (by assumption), mst_y (show chT s (someF (facF (chT s) 4) (chT s) (pp + 1)).1 = 41 by assumption)]; exact EM_place (EM_t hE1 hxk)) | (rw [fac_pB (show chT s pp = 40 by assumption) (by assumption)]; exact EM_failp hE1 (mst_n (show ¬ chT s (someF (facF (chT s) 4) (chT s) (pp + 1)).1 = 41 by assumption)) rfl) | (rw [fac_pA (show chT s pp = 40 by assumption) (Bool.eq_false_iff.mpr (by assumption))]; exact EM_fail hE1.1 hE1.2.1 hE1.2.2.1 rfl)) (fun _ hM => hM)
          · skip
            refine v_iconst hG dX6_readOne_57 ?_
            refine v_goto (tgt := 62) hG dX6_readOne_58 (by decide) ?_
            have e26 : @Eq Int (bi ((facF (chT s) 5 pp).2.1 = true)) (1) := by first | (have hx : (facF (chT s) 5 pp).2.1 = true := (by rw [fac_pC (show chT s pp = 40 by assumption) hxk (by assumption)]); rw [bi_pos hx]; done) | (have hx : ¬ (facF (chT s) 5 pp).2.1 = true := (by rw [fac_pB (show chT s pp = 40 by assumption) (by assumption)]; exact Bool.false_ne_true); rw [bi_neg hx]; done) | (have hx : ¬ (facF (chT s) 5 pp).2.1 = true := (by rw [fac_pA (show chT s pp = 40 by assumption) (Bool.eq_false_iff.mpr (by assumption))]; exact Bool.false_ne_true); rw [bi_neg hx]; done)
            exact v_zreturn hG hR dX6_readOne_62 (Or.inr rfl) (sU u20.1 3 ((mustF (chT s) 41 (((someF (facF (chT s) 4) (chT s) (pp + 1)).1), true)).1 : Nat), u20.2) (congrArg (fun z => some (vI z)) e26) (by first | (rw [fac_pC (show chT s pp = 40 by assumption) hxk (by assumption), mst_y (show chT s (someF (facF (chT s) 4) (chT s) (pp + 1)).1 = 41 by assumption)]; exact EM_place (EM_t hE1 hxk)) | (rw [fac_pB (show chT s pp = 40 by assumption) (by assumption)]; exact EM_failp hE1 (mst_n (show ¬ chT s (someF (facF (chT s) 4) (chT s) (pp + 1)).1 = 41 by assumption)) rfl) | (rw [fac_pA (show chT s pp = 40 by assumption) (Bool.eq_false_iff.mpr (by assumption))]; exact EM_fail hE1.1 hE1.2.1 hE1.2.2.1 rfl)) (fun _ hM => hM)
    · skip
      rw [mst_y (show chT s pp = 33 by assumption)]
      have hlt1 : pp < (s 48).toNat := hCE.lt (fun e => absurd (e.symm.trans (show chT s pp = 33 by assumption)) (by decide))
      refine v_aload_n hG dX6_readOne_14 rfl 0 rfl ?_
      refine v_iload_n hG dX6_readOne_15 rfl 1 rfl ?_
      refine v_iconst hG dX6_readOne_16 ?_
      refine v_iadd hG dX6_readOne_17 ?_
      rw [show (0 : Int) + 1 = 1 from rfl]
      refine v_callV (k1' := 0) (k2' := 0) hG dX6_readOne_18 zc_X6_readOne ⟨zl_X6_92, zi_X6_readOne, zs_X6_readOne⟩ (fun l => kc6_readOne4 l D A ad K S Q qa tp s (sU q 3 ((pp + 1 : Nat) : Int)) w0 w1 w2 w3 bo e uc lr nx p hp (pp + 1) (by first | assumption | (rw [sU_ne (by omega)]; assumption) | (simp only [sU_at]; (repeat' split) <;> first | assumption | (exfalso; omega))) (by exact sU_eq) (by assumption) (by omega) (by assumption) (by first | assumption | (rw [sU_ne (by omega)]; omega) | omega)) rfl (cR6 hp) (fun _ h => h) ⟨by decide, by decide⟩ rfl rfl ⟨by decide, by decide⟩ (rest := []) rfl (Nat.le_of_ble_eq_true rfl) (fun u27 => [vI (bi ((facF (chT s) 4 (pp + 1)).2.1 = true))]) (fun _ => rfl) (fun u27 hu27 => ?_)
      have fu27 : EM (sU q 3 ((pp + 1 : Nat) : Int)) w3 (facF (chT s) 4 (pp + 1)) u27.1 u27.2 := hu27
      have hE1 := EM_in h3 (by omega) fu27
      refine v_istore_n (lo' := [(2, vI (bi ((facF (chT s) 4 (pp + 1)).2.1 = true))), (0, .ref (kP ad p)), (1, vI 0)]) hG dX6_readOne_21 rfl (by decide) rfl ?_
      refine v_aload_n hG dX6_readOne_22 rfl 1 rfl ?_
      refine v_iconst hG dX6_readOne_23 ?_
      refine v_callV (k1' := 0) (k2' := 0) hG dX6_readOne_24 zc_X6_keep ⟨zl_X6_88, zi_X6_keep, zs_X6_keep⟩ (fun l => kc6_keepG l D A ad K S Q qa tp s u27.1 w0 w1 w2 u27.2 bo e uc lr nx p hp (-1) (by exact hE1.2.2.1)) rfl (cR6 hp) (fun _ h => h) ⟨by decide, by decide⟩ rfl rfl ⟨by decide, by decide⟩ (rest := []) rfl (Nat.le_of_ble_eq_true rfl) (fun u28 => []) (fun _ => rfl) (fun u28 hu28 => ?_)
      have fu28 : KP u27.1 u27.2 (-1) u28.1 u28.2 := hu28
      have hKP := fu28
      refine v_iload_n hG dX6_readOne_27 rfl 0 rfl ?_
      have e29 : @Eq Int (bi ((facF (chT s) 5 pp).2.1 = true)) (bi ((facF (chT s) 4 (pp + 1)).2.1 = true)) := by rw [fac_not (show chT s pp = 33 by assumption)]
      exact v_zreturn hG hR dX6_readOne_28 (bi_01 _) (u28.1, u28.2) (congrArg (fun z => some (vI z)) e29) (by rw [fac_not (show chT s pp = 33 by assumption)]; exact EM_not hE1 hKP hkp.1 (fun h => EM_lt hE1 h (facF_rng hCE 4 (pp + 1) (by omega)) (by omega) (by omega))) (fun _ hM => hM)
set_option maxHeartbeats 4000000 in
set_option maxRecDepth 100000 in
theorem kc6_readBoth5 (l : Launch) (D : Dx) (A : Nat → Prop) (ad : Nat → Nat) (K : Int → Int) (S Q qa : Nat → Int → Int) (tp : Nat → Nat) (s q w0 w1 w2 w3 bo e uc lr nx : Int → Int) (p : Nat) (hp : p < 6) (pp : Nat) (hq2 : q 2 = s 48) (h3 : q 3 = (pp : Int)) (hTS : TS s) (hpn : (pp : Int) ≤ s 48) (htp : tp p = kC ad 0 0) (hkp : 0 ≤ q 1 ∧ q 1 ≤ (pp : Int)) : CT l D A yX6_readBoth cX6_readBoth 3 (some .boolean) { frames := 21, cells := 0, slots := 0, locals := 477 } [.ref (kP ad p), vI 0] (CW D A ad K (uS S 0 s) (uS Q p q) (q4 qa p w0 w1 w2 w3) tp bo e uc lr nx) (fun u : (Int → Int) × (Int → Int) => some (vI (bi ((everyF (facF (chT s) 5) (chT s) pp).2.1 = true)))) (fun u => EM q w3 (everyF (facF (chT s) 5) (chT s) pp) u.1 u.2) (fun u => CW D A ad K (uS S 0 s) (uS Q p u.1) (q4 qa p w0 w1 w2 u.2) tp bo e uc lr nx) := by
  refine ct_of (lo0 := [(0, .ref (kP ad p)), (1, vI 0)]) (by decide) (Nat.le_of_ble_eq_true rfl) rfl ?_
  intro G hG hR
  have hT1 := hTS.1
  have hCE := chT_CE hTS
  refine v_iconst hG dX6_readBoth_0 ?_
  refine v_istore_n (lo' := [(2, vI 1), (0, .ref (kP ad p)), (1, vI 0)]) hG dX6_readBoth_1 rfl (by decide) rfl ?_
  refine v_lo [1, 2, 0] (lo' := [(0, .ref (kP ad p)), (1, vI 0), (2, vI 1)]) rfl ?_
  have L4 : ∀ mz : Nat, ∀ (t F P : Nat) (L : List Int), (1 ≤ t ∧ t + pp ≤ P + 1 ∧ F + t = 102) → ((everyF (facF (chT s) 5) (chT s) pp) = evL (facF (chT s) 5) (chT s) 38 (-2) F (nxF (facF (chT s) 5) (-2) t L P)) → (L.length + pp ≤ P ∧ (1 < t → L.length + pp + 1 ≤ P) ∧ (P : Int) ≤ s 48) → 102 - t = mz → ∀ x1 : Int, x1 = ((t : Int)) → ∀ x2 : Int → Int, True → ∀ x3 : Int → Int, EM q w3 (P, true, L) x2 x3 → V G 0 0 (CW D A ad K (uS S 0 s) (uS Q p x2) (q4 qa p w0 w1 w2 x3) tp bo e uc lr nx) 2 [(0, .ref (kP ad p)), (1, vI 0), (2, vI x1)] [] := by
    intro dL4
    induction dL4 using Nat.strongRecOn with
    | ind dL4 ihL4 =>
      intro t F P L hq5 hq6 hq7 hq8
      intro x1 hx1
      subst hx1
      intro x2 hx2
      intro x3 hx3
      refine v_iload_n hG dX6_readBoth_2 rfl 2 rfl ?_
      refine v_bipush hG dX6_readBoth_3 (by decide) ?_
      refine v_icmp_gt (tgt := 46) hG dX6_readBoth_5 (by decide) (by omega) (by omega) (fun c9 => ?_) (fun c9 => ?_)
      · skip
        refine v_iconst hG dX6_readBoth_46 ?_
        have hE0 : EM q w3 (P, true, L) x2 x3 := by assumption
        have hpe : chT s P = -1 := (hCE P).1.mpr (by omega)
        have hfe : (facF (chT s) 5) P = (P, false, []) := fac_end hpe 5
        have hst : (everyF (facF (chT s) 5) (chT s) pp) = nxF (facF (chT s) 5) (-2) t L P := ‹(everyF (facF (chT s) 5) (chT s) pp) = evL (facF (chT s) 5) (chT s) 38 (-2) F (nxF (facF (chT s) 5) (-2) t L P)›.trans (evL_stop (Or.inl (by show ((facF (chT s) 5) P).2.1 = false; rw [hfe])))
        have hfb : (nxF (facF (chT s) 5) (-2) t L P).2.1 = false := by show ((facF (chT s) 5) P).2.1 = false; rw [hfe]
        have e10 : @Eq Int (bi ((everyF (facF (chT s) 5) (chT s) pp).2.1 = true)) (0) := by rw [hst, bi_neg (fun h => by rw [hfb] at h; exact Bool.noConfusion h)]
        exact v_zreturn hG hR dX6_readBoth_47 (Or.inl rfl) (x2, x3) (congrArg (fun z => some (vI z)) e10) (by rw [hst]; exact EM_fail hE0.1 (by show _ = ((((facF (chT s) 5) P).1 : Nat) : Int); rw [hfe]; exact hE0.2.1) hE0.2.2.1 hfb) (fun _ hM => hM)
      · skip
        have hE0 : EM q w3 (P, true, L) x2 x3 := by assumption
        have hy1 := EM_n hE0
        have hy2 := (hE0.1 2 (by decide) (by decide)).trans hq2
        have hy3 : _ = (P : Int) := hE0.2.1
        obtain ⟨hg1, hg2, hg3⟩ := facF_rng hCE 5 P (by omega)
        refine v_aload_n hG dX6_readBoth_8 rfl 0 rfl ?_
        refine v_iload_n hG dX6_readBoth_9 rfl 1 rfl ?_
        refine v_callV (k1' := 0) (k2' := 0) hG dX6_readBoth_10 zc_X6_readOne ⟨zl_X6_92, zi_X6_readOne, zs_X6_readOne⟩ (fun l => kc6_readOne5 l D A ad K S Q qa tp s x2 w0 w1 w2 x3 bo e uc lr nx p hp P (by exact hy2) (by exact hy3) (by assumption) (by omega) (by assumption) (by omega)) rfl (cR6 hp) (fun _ h => h) ⟨by decide, by decide⟩ rfl rfl ⟨by decide, by decide⟩ (rest := []) rfl (Nat.le_of_ble_eq_true rfl) (fun u11 => [vI (bi ((facF (chT s) 5 P).2.1 = true))]) (fun _ => rfl) (fun u11 hu11 => ?_)
        have fu11 : EM x2 x3 (facF (chT s) 5 P) u11.1 u11.2 := hu11
        have hE1 := fu11
        refine v_ifb_ne (p := (facF (chT s) 5 P).2.1 = true) (tgt := 18) hG dX6_readBoth_13 (by decide) (fun c12 => ?_) (fun c12 => ?_)
        · skip
          have hfk : ((facF (chT s) 5) P).2.1 = true := by assumption
          obtain ⟨hdd1, hdd2, hdd3⟩ := hE1.2.2.2 hfk
          refine v_iload_n hG dX6_readBoth_18 rfl 2 rfl ?_
          refine v_iconst hG dX6_readBoth_19 ?_
          refine v_icmp_le (tgt := 29) hG dX6_readBoth_20 (by decide) (by omega) (by omega) (fun c13 => ?_) (fun c13 => ?_)
          · skip
            have hE2 : EM q w3 (((facF (chT s) 5) P).1, true, (nxF (facF (chT s) 5) (-2) t L P).2.2) u11.1 u11.2 := by first | exact EM_nx2 hE0 hE1 hkp.1 hfk (by omega) (by decide) (by omega) (by assumption) | exact EM_nx1 hE0 hE1 hkp.1 hfk (by omega)
            have hnl := EM_n hE2
            have hnk : (nxF (facF (chT s) 5) (-2) t L P).2.1 = true := hfk
            have hn1 : (nxF (facF (chT s) 5) (-2) t L P).1 = ((facF (chT s) 5) P).1 := rfl
            have hnl9 : (nxF (facF (chT s) 5) (-2) t L P).2.2.length ≤ L.length + ((facF (chT s) 5) P).2.2.length + (if 1 < t then 1 else 0) := nx_len
            refine v_aload_n hG dX6_readBoth_29 rfl 0 rfl ?_
            refine v_bipush hG dX6_readBoth_30 (by decide) ?_
            refine v_callV (k1' := 0) (k2' := 0) hG dX6_readBoth_32 zc_X6_skip ⟨zl_X6_56, zi_X6_skip, zs_X6_skip⟩ (fun l => kc6_skip l D A ad K S Q qa tp s u11.1 w0 w1 w2 u11.2 bo e uc lr nx p hp (((facF (chT s) 5) P).1) 38 (by exact (hE2.1 2 (by decide) (by decide)).trans hq2) (by exact hE2.2.1) (by assumption) (by omega) (by assumption) (by omega)) rfl (cR6 hp) (fun _ h => h) ⟨by decide, by decide⟩ rfl rfl ⟨by decide, by decide⟩ (rest := []) rfl (Nat.le_of_ble_eq_true rfl) (fun u14 => [vI (bi (chT s (((facF (chT s) 5) P).1) = 38))]) (fun _ => rfl) (fun u14 hu14 => ?_)
            refine v_ifb_ne (p := chT s (((facF (chT s) 5) P).1) = 38) (tgt := 40) hG dX6_readBoth_35 (by decide) (fun c15 => ?_) (fun c15 => ?_)
            · skip
              skip
              refine v_iinc (lo' := [(2, vI ((t : Int) + 1)), (0, .ref (kP ad p)), (1, vI 0)]) hG dX6_readBoth_40 2 rfl (by decide) rfl ?_
              refine v_goto (tgt := 2) hG dX6_readBoth_43 (by decide) ?_
              refine v_lo [1, 2, 0] (lo' := [(0, .ref (kP ad p)), (1, vI 0), (2, vI ((t : Int) + 1))]) rfl ?_
              exact ihL4 _ (by omega) (t + 1) (F - 1) (((facF (chT s) 5) P).1 + 1) ((nxF (facF (chT s) 5) (-2) t L P).2.2) (by omega) (by show (everyF (facF (chT s) 5) (chT s) pp) = evL (facF (chT s) 5) (chT s) 38 (-2) (F - 1) (nxF (facF (chT s) 5) (-2) (t + 1) (nxF (facF (chT s) 5) (-2) t L P).2.2 ((nxF (facF (chT s) 5) (-2) t L P).1 + 1)); rw [← nx_go (r := nxF (facF (chT s) 5) (-2) t L P) (by omega)]; exact ‹(everyF (facF (chT s) 5) (chT s) pp) = evL (facF (chT s) 5) (chT s) 38 (-2) F (nxF (facF (chT s) 5) (-2) t L P)›.trans (evL_go (by omega) hnk (show chT s (nxF (facF (chT s) 5) (-2) t L P).1 = 38 from (show chT s ((facF (chT s) 5) P).1 = 38 by assumption)))) (by have hlt9 := hCE.lt (p := ((facF (chT s) 5) P).1) (fun e => absurd (e.symm.trans (show chT s ((facF (chT s) 5) P).1 = 38 by assumption)) (by decide)); split at hnl9 <;> omega) rfl _ (by omega) _ (by trivial) _ (by rw [show mustF (chT s) 38 (((facF (chT s) 5) P).1, true) = (((facF (chT s) 5) P).1 + 1, true) from if_pos ⟨rfl, by assumption⟩]; exact EM_place hE2)
            · skip
              have hst : (everyF (facF (chT s) 5) (chT s) pp) = nxF (facF (chT s) 5) (-2) t L P := ‹(everyF (facF (chT s) 5) (chT s) pp) = evL (facF (chT s) 5) (chT s) 38 (-2) F (nxF (facF (chT s) 5) (-2) t L P)›.trans (evL_stop (Or.inr (show ¬ chT s (nxF (facF (chT s) 5) (-2) t L P).1 = 38 from (show ¬ chT s ((facF (chT s) 5) P).1 = 38 by assumption))))
              refine v_iconst hG dX6_readBoth_38 ?_
              have e16 : @Eq Int (bi ((everyF (facF (chT s) 5) (chT s) pp).2.1 = true)) (1) := by rw [hst, bi_pos hnk]
              exact v_zreturn hG hR dX6_readBoth_39 (Or.inr rfl) (sU u11.1 3 ((mustF (chT s) 38 ((((facF (chT s) 5) P).1), true)).1 : Nat), u11.2) (congrArg (fun z => some (vI z)) e16) (by rw [hst]; exact (show EM q w3 (nxF (facF (chT s) 5) (-2) t L P) _ _ from (show (nxF (facF (chT s) 5) (-2) t L P) = (((facF (chT s) 5) P).1, true, (nxF (facF (chT s) 5) (-2) t L P).2.2) from Prod.ext rfl (Prod.ext hfk rfl)) ▸ (show EM q w3 (((facF (chT s) 5) P).1, true, (nxF (facF (chT s) 5) (-2) t L P).2.2) _ _ from by rw [show mustF (chT s) 38 (((facF (chT s) 5) P).1, true) = (((facF (chT s) 5) P).1, false) from if_neg (fun h => absurd h.2 (by assumption))]; exact EM_place hE2))) (fun _ hM => hM)
          · skip
            refine v_aload_n hG dX6_readBoth_23 rfl 0 rfl ?_
            refine v_bipush hG dX6_readBoth_24 (by decide) ?_
            refine v_callV (k1' := 0) (k2' := 0) hG dX6_readBoth_26 zc_X6_keep ⟨zl_X6_88, zi_X6_keep, zs_X6_keep⟩ (fun l => kc6_keepG l D A ad K S Q qa tp s u11.1 w0 w1 w2 u11.2 bo e uc lr nx p hp (-2) (by omega)) rfl (cR6 hp) (fun _ h => h) ⟨by decide, by decide⟩ rfl rfl ⟨by decide, by decide⟩ (rest := []) rfl (Nat.le_of_ble_eq_true rfl) (fun u17 => []) (fun _ => rfl) (fun u17 hu17 => ?_)
            have fu17 : KP u11.1 u11.2 (-2) u17.1 u17.2 := hu17
            have hE2 : EM q w3 (((facF (chT s) 5) P).1, true, (nxF (facF (chT s) 5) (-2) t L P).2.2) u17.1 u17.2 := by first | exact EM_nx2 hE0 hE1 hkp.1 hfk (by omega) (by decide) (by omega) (by assumption) | exact EM_nx1 hE0 hE1 hkp.1 hfk (by omega)
            have hnl := EM_n hE2
            have hnk : (nxF (facF (chT s) 5) (-2) t L P).2.1 = true := hfk
            have hn1 : (nxF (facF (chT s) 5) (-2) t L P).1 = ((facF (chT s) 5) P).1 := rfl
            have hnl9 : (nxF (facF (chT s) 5) (-2) t L P).2.2.length ≤ L.length + ((facF (chT s) 5) P).2.2.length + (if 1 < t then 1 else 0) := nx_len
            refine v_aload_n hG dX6_readBoth_29 rfl 0 rfl ?_
            refine v_bipush hG dX6_readBoth_30 (by decide) ?_
            refine v_callV (k1' := 0) (k2' := 0) hG dX6_readBoth_32 zc_X6_skip ⟨zl_X6_56, zi_X6_skip, zs_X6_skip⟩ (fun l => kc6_skip l D A ad K S Q qa tp s u17.1 w0 w1 w2 u17.2 bo e uc lr nx p hp (((facF (chT s) 5) P).1) 38 (by exact (hE2.1 2 (by decide) (by decide)).trans hq2) (by exact hE2.2.1) (by assumption) (by omega) (by assumption) (by omega)) rfl (cR6 hp) (fun _ h => h) ⟨by decide, by decide⟩ rfl rfl ⟨by decide, by decide⟩ (rest := []) rfl (Nat.le_of_ble_eq_true rfl) (fun u18 => [vI (bi (chT s (((facF (chT s) 5) P).1) = 38))]) (fun _ => rfl) (fun u18 hu18 => ?_)
            refine v_ifb_ne (p := chT s (((facF (chT s) 5) P).1) = 38) (tgt := 40) hG dX6_readBoth_35 (by decide) (fun c19 => ?_) (fun c19 => ?_)
            · skip
              skip
              refine v_iinc (lo' := [(2, vI ((t : Int) + 1)), (0, .ref (kP ad p)), (1, vI 0)]) hG dX6_readBoth_40 2 rfl (by decide) rfl ?_
              refine v_goto (tgt := 2) hG dX6_readBoth_43 (by decide) ?_
              refine v_lo [1, 2, 0] (lo' := [(0, .ref (kP ad p)), (1, vI 0), (2, vI ((t : Int) + 1))]) rfl ?_
              exact ihL4 _ (by omega) (t + 1) (F - 1) (((facF (chT s) 5) P).1 + 1) ((nxF (facF (chT s) 5) (-2) t L P).2.2) (by omega) (by show (everyF (facF (chT s) 5) (chT s) pp) = evL (facF (chT s) 5) (chT s) 38 (-2) (F - 1) (nxF (facF (chT s) 5) (-2) (t + 1) (nxF (facF (chT s) 5) (-2) t L P).2.2 ((nxF (facF (chT s) 5) (-2) t L P).1 + 1)); rw [← nx_go (r := nxF (facF (chT s) 5) (-2) t L P) (by omega)]; exact ‹(everyF (facF (chT s) 5) (chT s) pp) = evL (facF (chT s) 5) (chT s) 38 (-2) F (nxF (facF (chT s) 5) (-2) t L P)›.trans (evL_go (by omega) hnk (show chT s (nxF (facF (chT s) 5) (-2) t L P).1 = 38 from (show chT s ((facF (chT s) 5) P).1 = 38 by assumption)))) (by have hlt9 := hCE.lt (p := ((facF (chT s) 5) P).1) (fun e => absurd (e.symm.trans (show chT s ((facF (chT s) 5) P).1 = 38 by assumption)) (by decide)); split at hnl9 <;> omega) rfl _ (by omega) _ (by trivial) _ (by rw [show mustF (chT s) 38 (((facF (chT s) 5) P).1, true) = (((facF (chT s) 5) P).1 + 1, true) from if_pos ⟨rfl, by assumption⟩]; exact EM_place hE2)
            · skip
              have hst : (everyF (facF (chT s) 5) (chT s) pp) = nxF (facF (chT s) 5) (-2) t L P := ‹(everyF (facF (chT s) 5) (chT s) pp) = evL (facF (chT s) 5) (chT s) 38 (-2) F (nxF (facF (chT s) 5) (-2) t L P)›.trans (evL_stop (Or.inr (show ¬ chT s (nxF (facF (chT s) 5) (-2) t L P).1 = 38 from (show ¬ chT s ((facF (chT s) 5) P).1 = 38 by assumption))))
              refine v_iconst hG dX6_readBoth_38 ?_
              have e20 : @Eq Int (bi ((everyF (facF (chT s) 5) (chT s) pp).2.1 = true)) (1) := by rw [hst, bi_pos hnk]
              exact v_zreturn hG hR dX6_readBoth_39 (Or.inr rfl) (sU u17.1 3 ((mustF (chT s) 38 ((((facF (chT s) 5) P).1), true)).1 : Nat), u17.2) (congrArg (fun z => some (vI z)) e20) (by rw [hst]; exact (show EM q w3 (nxF (facF (chT s) 5) (-2) t L P) _ _ from (show (nxF (facF (chT s) 5) (-2) t L P) = (((facF (chT s) 5) P).1, true, (nxF (facF (chT s) 5) (-2) t L P).2.2) from Prod.ext rfl (Prod.ext hfk rfl)) ▸ (show EM q w3 (((facF (chT s) 5) P).1, true, (nxF (facF (chT s) 5) (-2) t L P).2.2) _ _ from by rw [show mustF (chT s) 38 (((facF (chT s) 5) P).1, true) = (((facF (chT s) 5) P).1, false) from if_neg (fun h => absurd h.2 (by assumption))]; exact EM_place hE2))) (fun _ hM => hM)
        · skip
          have hfb : ((facF (chT s) 5) P).2.1 = false := by
            cases q9 : ((facF (chT s) 5) P).2.1
            · rfl
            · exact absurd q9 (by assumption)
          refine v_iconst hG dX6_readBoth_16 ?_
          have e21 : @Eq Int (bi ((everyF (facF (chT s) 5) (chT s) pp).2.1 = true)) (0) := by have hst : (everyF (facF (chT s) 5) (chT s) pp) = nxF (facF (chT s) 5) (-2) t L P := ‹(everyF (facF (chT s) 5) (chT s) pp) = evL (facF (chT s) 5) (chT s) 38 (-2) F (nxF (facF (chT s) 5) (-2) t L P)›.trans (evL_stop (Or.inl hfb)); rw [hst, bi_neg (show ¬ (nxF (facF (chT s) 5) (-2) t L P).2.1 = true from fun h => by rw [show (nxF (facF (chT s) 5) (-2) t L P).2.1 = false from hfb] at h; exact Bool.noConfusion h)]
          exact v_zreturn hG hR dX6_readBoth_17 (Or.inl rfl) (u11.1, u11.2) (congrArg (fun z => some (vI z)) e21) (by rw [show (everyF (facF (chT s) 5) (chT s) pp) = nxF (facF (chT s) 5) (-2) t L P from ‹(everyF (facF (chT s) 5) (chT s) pp) = evL (facF (chT s) 5) (chT s) 38 (-2) F (nxF (facF (chT s) 5) (-2) t L P)›.trans (evL_stop (Or.inl hfb))]; exact EM_failc hE0 hE1 rfl hfb) (fun _ hM => hM)
  exact L4 _ 1 101 pp ([]) (by omega) (by rw [nx_1]; rfl) (by show 0 + pp ≤ pp ∧ (1 < 1 → 0 + pp + 1 ≤ pp) ∧ (pp : Int) ≤ s 48; omega) rfl _ (by rfl) _ (by trivial) _ (by exact EM_0 h3 (by omega))
set_option maxHeartbeats 4000000 in
set_option maxRecDepth 100000 in
theorem kc6_readEither5 (l : Launch) (D : Dx) (A : Nat → Prop) (ad : Nat → Nat) (K : Int → Int) (S Q qa : Nat → Int → Int) (tp : Nat → Nat) (s q w0 w1 w2 w3 bo e uc lr nx : Int → Int) (p : Nat) (hp : p < 6) (pp : Nat) (hq2 : q 2 = s 48) (h3 : q 3 = (pp : Int)) (hTS : TS s) (hpn : (pp : Int) ≤ s 48) (htp : tp p = kC ad 0 0) (hkp : 0 ≤ q 1 ∧ q 1 ≤ (pp : Int)) : CT l D A yX6_readEither cX6_readEither 3 (some .boolean) { frames := 22, cells := 0, slots := 0, locals := 499 } [.ref (kP ad p), vI 0] (CW D A ad K (uS S 0 s) (uS Q p q) (q4 qa p w0 w1 w2 w3) tp bo e uc lr nx) (fun u : (Int → Int) × (Int → Int) => some (vI (bi ((someF (facF (chT s) 5) (chT s) pp).2.1 = true)))) (fun u => EM q w3 (someF (facF (chT s) 5) (chT s) pp) u.1 u.2) (fun u => CW D A ad K (uS S 0 s) (uS Q p u.1) (q4 qa p w0 w1 w2 u.2) tp bo e uc lr nx) := by
  refine ct_of (lo0 := [(0, .ref (kP ad p)), (1, vI 0)]) (by decide) (Nat.le_of_ble_eq_true rfl) rfl ?_
  intro G hG hR
  have hT1 := hTS.1
  have hCE := chT_CE hTS
  refine v_iconst hG dX6_readEither_0 ?_
  refine v_istore_n (lo' := [(2, vI 1), (0, .ref (kP ad p)), (1, vI 0)]) hG dX6_readEither_1 rfl (by decide) rfl ?_
  refine v_lo [1, 2, 0] (lo' := [(0, .ref (kP ad p)), (1, vI 0), (2, vI 1)]) rfl ?_
  have L4 : ∀ mz : Nat, ∀ (t F P : Nat) (L : List Int), (1 ≤ t ∧ t + pp ≤ P + 1 ∧ F + t = 102) → ((someF (facF (chT s) 5) (chT s) pp) = evL (everyF (facF (chT s) 5) (chT s)) (chT s) 124 (-3) F (nxF (everyF (facF (chT s) 5) (chT s)) (-3) t L P)) → (L.length + pp ≤ P ∧ (1 < t → L.length + pp + 1 ≤ P) ∧ (P : Int) ≤ s 48) → 102 - t = mz → ∀ x1 : Int, x1 = ((t : Int)) → ∀ x2 : Int → Int, True → ∀ x3 : Int → Int, EM q w3 (P, true, L) x2 x3 → V G 0 0 (CW D A ad K (uS S 0 s) (uS Q p x2) (q4 qa p w0 w1 w2 x3) tp bo e uc lr nx) 2 [(0, .ref (kP ad p)), (1, vI 0), (2, vI x1)] [] := by
    intro dL4
    induction dL4 using Nat.strongRecOn with
    | ind dL4 ihL4 =>
      intro t F P L hq5 hq6 hq7 hq8
      intro x1 hx1
      subst hx1
      intro x2 hx2
      intro x3 hx3
      refine v_iload_n hG dX6_readEither_2 rfl 2 rfl ?_
      refine v_bipush hG dX6_readEither_3 (by decide) ?_
      refine v_icmp_gt (tgt := 46) hG dX6_readEither_5 (by decide) (by omega) (by omega) (fun c9 => ?_) (fun c9 => ?_)
      · skip
        refine v_iconst hG dX6_readEither_46 ?_
        have hE0 : EM q w3 (P, true, L) x2 x3 := by assumption
        have hpe : chT s P = -1 := (hCE P).1.mpr (by omega)
        have hfe : (everyF (facF (chT s) 5) (chT s)) P = (P, false, []) := every_end hpe
        have hst : (someF (facF (chT s) 5) (chT s) pp) = nxF (everyF (facF (chT s) 5) (chT s)) (-3) t L P := ‹(someF (facF (chT s) 5) (chT s) pp) = evL (everyF (facF (chT s) 5) (chT s)) (chT s) 124 (-3) F (nxF (everyF (facF (chT s) 5) (chT s)) (-3) t L P)›.trans (evL_stop (Or.inl (by show ((everyF (facF (chT s) 5) (chT s)) P).2.1 = false; rw [hfe])))
        have hfb : (nxF (everyF (facF (chT s) 5) (chT s)) (-3) t L P).2.1 = false := by show ((everyF (facF (chT s) 5) (chT s)) P).2.1 = false; rw [hfe]
        have e10 : @Eq Int (bi ((someF (facF (chT s) 5) (chT s) pp).2.1 = true)) (0) := by rw [hst, bi_neg (fun h => by rw [hfb] at h; exact Bool.noConfusion h)]
        exact v_zreturn hG hR dX6_readEither_47 (Or.inl rfl) (x2, x3) (congrArg (fun z => some (vI z)) e10) (by rw [hst]; exact EM_fail hE0.1 (by show _ = ((((everyF (facF (chT s) 5) (chT s)) P).1 : Nat) : Int); rw [hfe]; exact hE0.2.1) hE0.2.2.1 hfb) (fun _ hM => hM)
      · skip
        have hE0 : EM q w3 (P, true, L) x2 x3 := by assumption
        have hy1 := EM_n hE0
        have hy2 := (hE0.1 2 (by decide) (by decide)).trans hq2
        have hy3 : _ = (P : Int) := hE0.2.1
        obtain ⟨hg1, hg2, hg3⟩ := everyF_rng hCE (fun x hx => facF_rng hCE 5 x hx) (p := P) (by omega)
        refine v_aload_n hG dX6_readEither_8 rfl 0 rfl ?_
        refine v_iload_n hG dX6_readEither_9 rfl 1 rfl ?_
        refine v_callV (k1' := 0) (k2' := 0) hG dX6_readEither_10 zc_X6_readBoth ⟨zl_X6_85, zi_X6_readBoth, zs_X6_readBoth⟩ (fun l => kc6_readBoth5 l D A ad K S Q qa tp s x2 w0 w1 w2 x3 bo e uc lr nx p hp P (by exact hy2) (by exact hy3) (by assumption) (by omega) (by assumption) (by omega)) rfl (cR6 hp) (fun _ h => h) ⟨by decide, by decide⟩ rfl rfl ⟨by decide, by decide⟩ (rest := []) rfl (Nat.le_of_ble_eq_true rfl) (fun u11 => [vI (bi ((everyF (facF (chT s) 5) (chT s) P).2.1 = true))]) (fun _ => rfl) (fun u11 hu11 => ?_)
        have fu11 : EM x2 x3 (everyF (facF (chT s) 5) (chT s) P) u11.1 u11.2 := hu11
        have hE1 := fu11
        refine v_ifb_ne (p := (everyF (facF (chT s) 5) (chT s) P).2.1 = true) (tgt := 18) hG dX6_readEither_13 (by decide) (fun c12 => ?_) (fun c12 => ?_)
        · skip
          have hfk : ((everyF (facF (chT s) 5) (chT s)) P).2.1 = true := by assumption
          obtain ⟨hdd1, hdd2, hdd3⟩ := hE1.2.2.2 hfk
          refine v_iload_n hG dX6_readEither_18 rfl 2 rfl ?_
          refine v_iconst hG dX6_readEither_19 ?_
          refine v_icmp_le (tgt := 29) hG dX6_readEither_20 (by decide) (by omega) (by omega) (fun c13 => ?_) (fun c13 => ?_)
          · skip
            have hE2 : EM q w3 (((everyF (facF (chT s) 5) (chT s)) P).1, true, (nxF (everyF (facF (chT s) 5) (chT s)) (-3) t L P).2.2) u11.1 u11.2 := by first | exact EM_nx2 hE0 hE1 hkp.1 hfk (by omega) (by decide) (by omega) (by assumption) | exact EM_nx1 hE0 hE1 hkp.1 hfk (by omega)
            have hnl := EM_n hE2
            have hnk : (nxF (everyF (facF (chT s) 5) (chT s)) (-3) t L P).2.1 = true := hfk
            have hn1 : (nxF (everyF (facF (chT s) 5) (chT s)) (-3) t L P).1 = ((everyF (facF (chT s) 5) (chT s)) P).1 := rfl
            have hnl9 : (nxF (everyF (facF (chT s) 5) (chT s)) (-3) t L P).2.2.length ≤ L.length + ((everyF (facF (chT s) 5) (chT s)) P).2.2.length + (if 1 < t then 1 else 0) := nx_len
            refine v_aload_n hG dX6_readEither_29 rfl 0 rfl ?_
            refine v_bipush hG dX6_readEither_30 (by decide) ?_
            refine v_callV (k1' := 0) (k2' := 0) hG dX6_readEither_32 zc_X6_skip ⟨zl_X6_56, zi_X6_skip, zs_X6_skip⟩ (fun l => kc6_skip l D A ad K S Q qa tp s u11.1 w0 w1 w2 u11.2 bo e uc lr nx p hp (((everyF (facF (chT s) 5) (chT s)) P).1) 124 (by exact (hE2.1 2 (by decide) (by decide)).trans hq2) (by exact hE2.2.1) (by assumption) (by omega) (by assumption) (by omega)) rfl (cR6 hp) (fun _ h => h) ⟨by decide, by decide⟩ rfl rfl ⟨by decide, by decide⟩ (rest := []) rfl (Nat.le_of_ble_eq_true rfl) (fun u14 => [vI (bi (chT s (((everyF (facF (chT s) 5) (chT s)) P).1) = 124))]) (fun _ => rfl) (fun u14 hu14 => ?_)
            refine v_ifb_ne (p := chT s (((everyF (facF (chT s) 5) (chT s)) P).1) = 124) (tgt := 40) hG dX6_readEither_35 (by decide) (fun c15 => ?_) (fun c15 => ?_)
            · skip
              skip
              refine v_iinc (lo' := [(2, vI ((t : Int) + 1)), (0, .ref (kP ad p)), (1, vI 0)]) hG dX6_readEither_40 2 rfl (by decide) rfl ?_
              refine v_goto (tgt := 2) hG dX6_readEither_43 (by decide) ?_
              refine v_lo [1, 2, 0] (lo' := [(0, .ref (kP ad p)), (1, vI 0), (2, vI ((t : Int) + 1))]) rfl ?_
              exact ihL4 _ (by omega) (t + 1) (F - 1) (((everyF (facF (chT s) 5) (chT s)) P).1 + 1) ((nxF (everyF (facF (chT s) 5) (chT s)) (-3) t L P).2.2) (by omega) (by show (someF (facF (chT s) 5) (chT s) pp) = evL (everyF (facF (chT s) 5) (chT s)) (chT s) 124 (-3) (F - 1) (nxF (everyF (facF (chT s) 5) (chT s)) (-3) (t + 1) (nxF (everyF (facF (chT s) 5) (chT s)) (-3) t L P).2.2 ((nxF (everyF (facF (chT s) 5) (chT s)) (-3) t L P).1 + 1)); rw [← nx_go (r := nxF (everyF (facF (chT s) 5) (chT s)) (-3) t L P) (by omega)]; exact ‹(someF (facF (chT s) 5) (chT s) pp) = evL (everyF (facF (chT s) 5) (chT s)) (chT s) 124 (-3) F (nxF (everyF (facF (chT s) 5) (chT s)) (-3) t L P)›.trans (evL_go (by omega) hnk (show chT s (nxF (everyF (facF (chT s) 5) (chT s)) (-3) t L P).1 = 124 from (show chT s ((everyF (facF (chT s) 5) (chT s)) P).1 = 124 by assumption)))) (by have hlt9 := hCE.lt (p := ((everyF (facF (chT s) 5) (chT s)) P).1) (fun e => absurd (e.symm.trans (show chT s ((everyF (facF (chT s) 5) (chT s)) P).1 = 124 by assumption)) (by decide)); split at hnl9 <;> omega) rfl _ (by omega) _ (by trivial) _ (by rw [show mustF (chT s) 124 (((everyF (facF (chT s) 5) (chT s)) P).1, true) = (((everyF (facF (chT s) 5) (chT s)) P).1 + 1, true) from if_pos ⟨rfl, by assumption⟩]; exact EM_place hE2)
            · skip
              have hst : (someF (facF (chT s) 5) (chT s) pp) = nxF (everyF (facF (chT s) 5) (chT s)) (-3) t L P := ‹(someF (facF (chT s) 5) (chT s) pp) = evL (everyF (facF (chT s) 5) (chT s)) (chT s) 124 (-3) F (nxF (everyF (facF (chT s) 5) (chT s)) (-3) t L P)›.trans (evL_stop (Or.inr (show ¬ chT s (nxF (everyF (facF (chT s) 5) (chT s)) (-3) t L P).1 = 124 from (show ¬ chT s ((everyF (facF (chT s) 5) (chT s)) P).1 = 124 by assumption))))
              refine v_iconst hG dX6_readEither_38 ?_
              have e16 : @Eq Int (bi ((someF (facF (chT s) 5) (chT s) pp).2.1 = true)) (1) := by rw [hst, bi_pos hnk]
              exact v_zreturn hG hR dX6_readEither_39 (Or.inr rfl) (sU u11.1 3 ((mustF (chT s) 124 ((((everyF (facF (chT s) 5) (chT s)) P).1), true)).1 : Nat), u11.2) (congrArg (fun z => some (vI z)) e16) (by rw [hst]; exact (show EM q w3 (nxF (everyF (facF (chT s) 5) (chT s)) (-3) t L P) _ _ from (show (nxF (everyF (facF (chT s) 5) (chT s)) (-3) t L P) = (((everyF (facF (chT s) 5) (chT s)) P).1, true, (nxF (everyF (facF (chT s) 5) (chT s)) (-3) t L P).2.2) from Prod.ext rfl (Prod.ext hfk rfl)) ▸ (show EM q w3 (((everyF (facF (chT s) 5) (chT s)) P).1, true, (nxF (everyF (facF (chT s) 5) (chT s)) (-3) t L P).2.2) _ _ from by rw [show mustF (chT s) 124 (((everyF (facF (chT s) 5) (chT s)) P).1, true) = (((everyF (facF (chT s) 5) (chT s)) P).1, false) from if_neg (fun h => absurd h.2 (by assumption))]; exact EM_place hE2))) (fun _ hM => hM)
          · skip
            refine v_aload_n hG dX6_readEither_23 rfl 0 rfl ?_
            refine v_bipush hG dX6_readEither_24 (by decide) ?_
            refine v_callV (k1' := 0) (k2' := 0) hG dX6_readEither_26 zc_X6_keep ⟨zl_X6_88, zi_X6_keep, zs_X6_keep⟩ (fun l => kc6_keepG l D A ad K S Q qa tp s u11.1 w0 w1 w2 u11.2 bo e uc lr nx p hp (-3) (by omega)) rfl (cR6 hp) (fun _ h => h) ⟨by decide, by decide⟩ rfl rfl ⟨by decide, by decide⟩ (rest := []) rfl (Nat.le_of_ble_eq_true rfl) (fun u17 => []) (fun _ => rfl) (fun u17 hu17 => ?_)
            have fu17 : KP u11.1 u11.2 (-3) u17.1 u17.2 := hu17
            have hE2 : EM q w3 (((everyF (facF (chT s) 5) (chT s)) P).1, true, (nxF (everyF (facF (chT s) 5) (chT s)) (-3) t L P).2.2) u17.1 u17.2 := by first | exact EM_nx2 hE0 hE1 hkp.1 hfk (by omega) (by decide) (by omega) (by assumption) | exact EM_nx1 hE0 hE1 hkp.1 hfk (by omega)
            have hnl := EM_n hE2
            have hnk : (nxF (everyF (facF (chT s) 5) (chT s)) (-3) t L P).2.1 = true := hfk
            have hn1 : (nxF (everyF (facF (chT s) 5) (chT s)) (-3) t L P).1 = ((everyF (facF (chT s) 5) (chT s)) P).1 := rfl
            have hnl9 : (nxF (everyF (facF (chT s) 5) (chT s)) (-3) t L P).2.2.length ≤ L.length + ((everyF (facF (chT s) 5) (chT s)) P).2.2.length + (if 1 < t then 1 else 0) := nx_len
            refine v_aload_n hG dX6_readEither_29 rfl 0 rfl ?_
            refine v_bipush hG dX6_readEither_30 (by decide) ?_
            refine v_callV (k1' := 0) (k2' := 0) hG dX6_readEither_32 zc_X6_skip ⟨zl_X6_56, zi_X6_skip, zs_X6_skip⟩ (fun l => kc6_skip l D A ad K S Q qa tp s u17.1 w0 w1 w2 u17.2 bo e uc lr nx p hp (((everyF (facF (chT s) 5) (chT s)) P).1) 124 (by exact (hE2.1 2 (by decide) (by decide)).trans hq2) (by exact hE2.2.1) (by assumption) (by omega) (by assumption) (by omega)) rfl (cR6 hp) (fun _ h => h) ⟨by decide, by decide⟩ rfl rfl ⟨by decide, by decide⟩ (rest := []) rfl (Nat.le_of_ble_eq_true rfl) (fun u18 => [vI (bi (chT s (((everyF (facF (chT s) 5) (chT s)) P).1) = 124))]) (fun _ => rfl) (fun u18 hu18 => ?_)
            refine v_ifb_ne (p := chT s (((everyF (facF (chT s) 5) (chT s)) P).1) = 124) (tgt := 40) hG dX6_readEither_35 (by decide) (fun c19 => ?_) (fun c19 => ?_)
            · skip
              skip
              refine v_iinc (lo' := [(2, vI ((t : Int) + 1)), (0, .ref (kP ad p)), (1, vI 0)]) hG dX6_readEither_40 2 rfl (by decide) rfl ?_
              refine v_goto (tgt := 2) hG dX6_readEither_43 (by decide) ?_
              refine v_lo [1, 2, 0] (lo' := [(0, .ref (kP ad p)), (1, vI 0), (2, vI ((t : Int) + 1))]) rfl ?_
              exact ihL4 _ (by omega) (t + 1) (F - 1) (((everyF (facF (chT s) 5) (chT s)) P).1 + 1) ((nxF (everyF (facF (chT s) 5) (chT s)) (-3) t L P).2.2) (by omega) (by show (someF (facF (chT s) 5) (chT s) pp) = evL (everyF (facF (chT s) 5) (chT s)) (chT s) 124 (-3) (F - 1) (nxF (everyF (facF (chT s) 5) (chT s)) (-3) (t + 1) (nxF (everyF (facF (chT s) 5) (chT s)) (-3) t L P).2.2 ((nxF (everyF (facF (chT s) 5) (chT s)) (-3) t L P).1 + 1)); rw [← nx_go (r := nxF (everyF (facF (chT s) 5) (chT s)) (-3) t L P) (by omega)]; exact ‹(someF (facF (chT s) 5) (chT s) pp) = evL (everyF (facF (chT s) 5) (chT s)) (chT s) 124 (-3) F (nxF (everyF (facF (chT s) 5) (chT s)) (-3) t L P)›.trans (evL_go (by omega) hnk (show chT s (nxF (everyF (facF (chT s) 5) (chT s)) (-3) t L P).1 = 124 from (show chT s ((everyF (facF (chT s) 5) (chT s)) P).1 = 124 by assumption)))) (by have hlt9 := hCE.lt (p := ((everyF (facF (chT s) 5) (chT s)) P).1) (fun e => absurd (e.symm.trans (show chT s ((everyF (facF (chT s) 5) (chT s)) P).1 = 124 by assumption)) (by decide)); split at hnl9 <;> omega) rfl _ (by omega) _ (by trivial) _ (by rw [show mustF (chT s) 124 (((everyF (facF (chT s) 5) (chT s)) P).1, true) = (((everyF (facF (chT s) 5) (chT s)) P).1 + 1, true) from if_pos ⟨rfl, by assumption⟩]; exact EM_place hE2)
            · skip
              have hst : (someF (facF (chT s) 5) (chT s) pp) = nxF (everyF (facF (chT s) 5) (chT s)) (-3) t L P := ‹(someF (facF (chT s) 5) (chT s) pp) = evL (everyF (facF (chT s) 5) (chT s)) (chT s) 124 (-3) F (nxF (everyF (facF (chT s) 5) (chT s)) (-3) t L P)›.trans (evL_stop (Or.inr (show ¬ chT s (nxF (everyF (facF (chT s) 5) (chT s)) (-3) t L P).1 = 124 from (show ¬ chT s ((everyF (facF (chT s) 5) (chT s)) P).1 = 124 by assumption))))
              refine v_iconst hG dX6_readEither_38 ?_
              have e20 : @Eq Int (bi ((someF (facF (chT s) 5) (chT s) pp).2.1 = true)) (1) := by rw [hst, bi_pos hnk]
              exact v_zreturn hG hR dX6_readEither_39 (Or.inr rfl) (sU u17.1 3 ((mustF (chT s) 124 ((((everyF (facF (chT s) 5) (chT s)) P).1), true)).1 : Nat), u17.2) (congrArg (fun z => some (vI z)) e20) (by rw [hst]; exact (show EM q w3 (nxF (everyF (facF (chT s) 5) (chT s)) (-3) t L P) _ _ from (show (nxF (everyF (facF (chT s) 5) (chT s)) (-3) t L P) = (((everyF (facF (chT s) 5) (chT s)) P).1, true, (nxF (everyF (facF (chT s) 5) (chT s)) (-3) t L P).2.2) from Prod.ext rfl (Prod.ext hfk rfl)) ▸ (show EM q w3 (((everyF (facF (chT s) 5) (chT s)) P).1, true, (nxF (everyF (facF (chT s) 5) (chT s)) (-3) t L P).2.2) _ _ from by rw [show mustF (chT s) 124 (((everyF (facF (chT s) 5) (chT s)) P).1, true) = (((everyF (facF (chT s) 5) (chT s)) P).1, false) from if_neg (fun h => absurd h.2 (by assumption))]; exact EM_place hE2))) (fun _ hM => hM)
        · skip
          have hfb : ((everyF (facF (chT s) 5) (chT s)) P).2.1 = false := by
            cases q9 : ((everyF (facF (chT s) 5) (chT s)) P).2.1
            · rfl
            · exact absurd q9 (by assumption)
          refine v_iconst hG dX6_readEither_16 ?_
          have e21 : @Eq Int (bi ((someF (facF (chT s) 5) (chT s) pp).2.1 = true)) (0) := by have hst : (someF (facF (chT s) 5) (chT s) pp) = nxF (everyF (facF (chT s) 5) (chT s)) (-3) t L P := ‹(someF (facF (chT s) 5) (chT s) pp) = evL (everyF (facF (chT s) 5) (chT s)) (chT s) 124 (-3) F (nxF (everyF (facF (chT s) 5) (chT s)) (-3) t L P)›.trans (evL_stop (Or.inl hfb)); rw [hst, bi_neg (show ¬ (nxF (everyF (facF (chT s) 5) (chT s)) (-3) t L P).2.1 = true from fun h => by rw [show (nxF (everyF (facF (chT s) 5) (chT s)) (-3) t L P).2.1 = false from hfb] at h; exact Bool.noConfusion h)]
          exact v_zreturn hG hR dX6_readEither_17 (Or.inl rfl) (u11.1, u11.2) (congrArg (fun z => some (vI z)) e21) (by rw [show (someF (facF (chT s) 5) (chT s) pp) = nxF (everyF (facF (chT s) 5) (chT s)) (-3) t L P from ‹(someF (facF (chT s) 5) (chT s) pp) = evL (everyF (facF (chT s) 5) (chT s)) (chT s) 124 (-3) F (nxF (everyF (facF (chT s) 5) (chT s)) (-3) t L P)›.trans (evL_stop (Or.inl hfb))]; exact EM_failc hE0 hE1 rfl hfb) (fun _ hM => hM)
  exact L4 _ 1 101 pp ([]) (by omega) (by rw [nx_1]; rfl) (by show 0 + pp ≤ pp ∧ (1 < 1 → 0 + pp + 1 ≤ pp) ∧ (pp : Int) ≤ s 48; omega) rfl _ (by rfl) _ (by trivial) _ (by exact EM_0 h3 (by omega))
