/-! THE MODEL: plate -/
def chT (s : Int → Int) : Nat → Int := fun p => if (p : Int) < s 48 then s (158 + p) else -1
def TS (s : Int → Int) : Prop := (0 ≤ s 48 ∧ s 48 ≤ 100) ∧ ∀ p : Int, 0 ≤ p → p < s 48 → 0 ≤ s (158 + p) ∧ s (158 + p) ≤ 127
def rs0 (s : Int → Int) : Int → Int := sU (sU (sU (sU s 48 0) (258 + s 44) 20) (263 + s 44) 8) (268 + s 44) 0
def gp0 (g s : Int → Int) : Int → Int := sU (sU (sU (sU (sU g 2 (s 44)) 4 (s 48)) 3 0) 5 0) 6 0
def plI (c : Nat → Int) (s0 : Int → Int) (a : Int) : Nat → (Nat × Bool) × (Int → Int)
  | 0 => (clF c 0, clS c 0 s0 a)
  | k + 1 => if (plI c s0 a k).1.2 = true ∧ c (plI c s0 a k).1.1 = 59 then (clF c ((plI c s0 a k).1.1 + 1), clS c ((plI c s0 a k).1.1 + 1) (plI c s0 a k).2 a) else plI c s0 a k
def plR (s : Int → Int) : (Nat × Bool) × (Int → Int) := plI (chT s) (rs0 s) (s 44) 9
def a_plate (s : Int → Int) : Int := if s 44 = 5 then -4 else if (plR s).1.2 = true ∧ ((plR s).1.1 : Int) = s 48 then s 44 else -10 - ((plR s).1.1 : Int)
def f_plate (s : Int → Int) : Int → Int := if s 44 = 5 then s else if (plR s).1.2 = true ∧ ((plR s).1.1 : Int) = s 48 then sU (sU (plR s).2 44 (s 44 + 1)) 49 (s 44) else (plR s).2
theorem chT_CE {s : Int → Int} (h : TS s) : CE (chT s) (s 48).toNat := by
  intro p
  have h1 := h.1
  unfold chT
  by_cases q : (p : Int) < s 48
  · have := h.2 p (by omega) q
    rw [if_pos q]
    omega
  · rw [if_neg q]
    omega
theorem much_rng {c : Nat → Int} {n w p : Nat} {kind : Int} (h : CE c n) (hw : w < 7) (hp : p ≤ n) : RB n p (muchF c w kind p) := by
  obtain ⟨t1, t2, -⟩ := tellF_rng h hw hp
  have hm : (tellF c w p).1.1 ≤ (mustF c 32 (tellF c w p).1).1 ∧ (mustF c 32 (tellF c w p).1).1 ≤ n ∧ ((mustF c 32 (tellF c w p).1).2 = true → (mustF c 32 (tellF c w p).1).1 = (tellF c w p).1.1 + 1) := mustF_rng (x := 32) (ok := (tellF c w p).1.2) h (by decide) t2
  obtain ⟨a1, a2, a3⟩ := someA_rng (u := mustF c 32 (tellF c w p).1) h hm.2.1
  refine ⟨by show p ≤ (someA c (mustF c 32 (tellF c w p).1)).1; omega, a2, ?_⟩
  show List.length ((someA c (mustF c 32 (tellF c w p).1)).2.2 ++ (if (someA c (mustF c 32 (tellF c w p).1)).2.1 = true then [kind - (tellF c w p).2] else [])) + p ≤ (someA c (mustF c 32 (tellF c w p).1)).1
  rw [List.length_append]
  by_cases hu : (mustF c 32 (tellF c w p).1).2 = true
  · have := hm.2.2 hu
    have : List.length (if (someA c (mustF c 32 (tellF c w p).1)).2.1 = true then [kind - (tellF c w p).2] else []) ≤ 1 := by split <;> simp
    omega
  · have e : someA c (mustF c 32 (tellF c w p).1) = ((mustF c 32 (tellF c w p).1).1, false, []) := if_neg hu
    rw [e] at a1 ⊢
    show 0 + 0 + p ≤ (mustF c 32 (tellF c w p).1).1
    omega
theorem emS_268b {a : Int} {L : List Int} {s : Int → Int} {n p : Nat} {r : R3} (hr : RB n p r) (hs : 0 ≤ s (268 + a) ∧ s (268 + a) ≤ p) : 0 ≤ emS s a r.2.2 (268 + a) ∧ emS s a r.2.2 (268 + a) ≤ r.1 := by
  obtain ⟨a1, a2, a3⟩ := hr
  rw [emS_268]
  omega
theorem cl_rng {c : Nat → Int} {n p : Nat} {s : Int → Int} {a : Int} (h : CE c n) (hp : p ≤ n) (ha : 0 ≤ a ∧ a ≤ 4) (hs : 0 ≤ s (268 + a) ∧ s (268 + a) ≤ p) : (p ≤ (clF c p).1 ∧ (clF c p).1 ≤ n) ∧ (0 ≤ clS c p s a (268 + a) ∧ clS c p s a (268 + a) ≤ (clF c p).1) ∧ ∀ j : Int, j < 258 → clS c p s a j = s j := by
  have t3 := tellF_rng (w := 3) h (by decide) hp
  have t4 := tellF_rng (w := 4) h (by decide) hp
  have m5 := much_rng (w := 5) (kind := -10) h (by decide) hp
  have m6 := much_rng (w := 6) (kind := -200) h (by decide) hp
  have e5 := emS_268b (L := []) m5 hs
  have e6 := emS_268b (L := []) m6 hs
  unfold clF clS
  by_cases q1 : c p = 109
  · simp only [if_pos q1]
    refine ⟨⟨t4.1, t4.2.1⟩, ?_, fun j hj => ?_⟩
    · split
      · rw [sU_ne (by omega)]; omega
      · omega
    · split
      · rw [sU_ne (by omega)]
      · rfl
  · by_cases q2 : c p = 114
    · simp only [if_neg q1, if_pos q2]
      exact ⟨⟨m5.1, m5.2.1⟩, e5, fun j hj => emS_out (by omega) ha.1 hs.1⟩
    · by_cases q3 : c p = 115
      · simp only [if_neg q1, if_neg q2, if_pos q3]
        exact ⟨⟨m6.1, m6.2.1⟩, e6, fun j hj => emS_out (by omega) ha.1 hs.1⟩
      · by_cases q4 : c p = 119
        · simp only [if_neg q1, if_neg q2, if_neg q3, if_pos q4]
          refine ⟨⟨t3.1, t3.2.1⟩, ?_, fun j hj => ?_⟩
          · split
            · rw [sU_ne (by omega)]; omega
            · omega
          · split
            · rw [sU_ne (by omega)]
            · rfl
        · simp only [if_neg q1, if_neg q2, if_neg q3, if_neg q4]
          exact ⟨⟨Nat.le_refl p, hp⟩, hs, fun j hj => by first | rfl | trivial⟩
def PI (s0 : Int → Int) (n : Nat) (a : Int) (q : (Nat × Bool) × (Int → Int)) : Prop := q.1.1 ≤ n ∧ (0 ≤ q.2 (268 + a) ∧ q.2 (268 + a) ≤ q.1.1) ∧ ∀ j : Int, j < 258 → q.2 j = s0 j
theorem plI_inv {c : Nat → Int} {n : Nat} {s0 : Int → Int} {a : Int} (h : CE c n) (ha : 0 ≤ a ∧ a ≤ 4) (hs : s0 (268 + a) = 0) : ∀ k, PI s0 n a (plI c s0 a k)
  | 0 => by
    have := cl_rng (s := s0) (a := a) (p := 0) h (Nat.zero_le n) ha (by rw [hs]; omega)
    exact ⟨this.1.2, this.2.1, this.2.2⟩
  | k + 1 => by
    have ih := plI_inv h ha hs k
    unfold plI
    split
    · rename_i q
      have hl := h.lt (p := (plI c s0 a k).1.1) (by rw [q.2]; decide)
      have hb := ih.2.1
      have := cl_rng (s := (plI c s0 a k).2) (a := a) (p := (plI c s0 a k).1.1 + 1) h hl ha (by omega)
      exact ⟨this.1.2, this.2.1, fun j hj => (this.2.2 j hj).trans (ih.2.2 j hj)⟩
    · exact ih
theorem pl_stop {c : Nat → Int} {s0 : Int → Int} {a : Int} {k : Nat} (h : (plI c s0 a k).1.2 = false ∨ ¬ c (plI c s0 a k).1.1 = 59) : ∀ n, k ≤ n → plI c s0 a n = plI c s0 a k
  | 0, hn => by rw [show k = 0 by omega]
  | n + 1, hn => by
    rcases Nat.lt_or_ge n k with q | q
    · rw [show k = n + 1 by omega]
    · have e := pl_stop h n q
      show (if (plI c s0 a n).1.2 = true ∧ c (plI c s0 a n).1.1 = 59 then _ else plI c s0 a n) = _
      rw [if_neg (fun z => by rw [e] at z; rcases h with h | h; exact absurd (z.1.symm.trans h) (by decide); exact h z.2), e]
theorem pl_go {c : Nat → Int} {s0 : Int → Int} {a : Int} {k : Nat} (h : (plI c s0 a k).1.2 = true) (h2 : c (plI c s0 a k).1.1 = 59) : plI c s0 a (k + 1) = (clF c ((plI c s0 a k).1.1 + 1), clS c ((plI c s0 a k).1.1 + 1) (plI c s0 a k).2 a) := if_pos ⟨h, h2⟩
theorem rs0_at {s : Int → Int} (ha : 0 ≤ s 44 ∧ s 44 ≤ 4) {j : Int} (h : j < 258) (h2 : j ≠ 48) : rs0 s j = s j := by
  unfold rs0
  rw [sU_ne (by omega), sU_ne (by omega), sU_ne (by omega), sU_ne h2]
theorem TP_pl {s g : Int → Int} {q : (Nat × Bool) × (Int → Int)} {n : Nat} (hT : TS s) (ha : 0 ≤ s 44 ∧ s 44 ≤ 4) (h : ∀ j : Int, j < 258 → q.2 j = rs0 s j) (hg : g 4 = s 48) : TP q.2 g (chT s) := by
  have h1 := hT.1
  refine ⟨by rw [hg]; exact h1, fun p => ?_, by rw [hg]; exact chT_CE hT⟩
  rw [hg]
  unfold chT
  by_cases z : (p : Int) < s 48
  · rw [if_pos z, if_pos z, h _ (by omega), rs0_at ha (by omega) (by omega)]
  · rw [if_neg z, if_neg z]
theorem g0_2 {g s : Int → Int} : gp0 g s 2 = s 44 := by
  unfold gp0; rw [sU_ne (by omega), sU_ne (by omega), sU_ne (by omega), sU_ne (by omega), sU_eq]
theorem g0_3 {g s : Int → Int} : gp0 g s 3 = 0 := by
  unfold gp0; rw [sU_ne (by omega), sU_ne (by omega), sU_eq]
theorem g0_4 {g s : Int → Int} : gp0 g s 4 = s 48 := by
  unfold gp0; rw [sU_ne (by omega), sU_ne (by omega), sU_ne (by omega), sU_eq]
theorem g0_5 {g s : Int → Int} : gp0 g s 5 = 0 := by
  unfold gp0; rw [sU_ne (by omega), sU_eq]
theorem g0_6 {g s : Int → Int} : gp0 g s 6 = 0 := sU_eq
theorem g0_1 {g s : Int → Int} : gp0 g s 1 = g 1 ∧ gp0 g s 8 = g 8 := by
  unfold gp0
  constructor <;> rw [sU_ne (by omega), sU_ne (by omega), sU_ne (by omega), sU_ne (by omega), sU_ne (by omega)]
set_option maxHeartbeats 4000000 in
set_option maxRecDepth 100000 in
theorem k_plate (l : Launch) (D : Dx) (A : Nat → Prop) (a : Nat → Nat) (s im fr bY tr ln bl bo g lg : Int → Int) (hTS : TS s) (h44i : 0 ≤ s 44 ∧ s 44 ≤ 5) : CT l D A yX12_plate cX12_plate 2 (some .int) { frames := 28, cells := 0, slots := 0, locals := 614 } [.ref (a 0)] (MW D A a s im fr bY tr ln bl bo g lg) (fun u : (Int → Int) => some (vI (a_plate s))) (fun u => u 1 = g 1 ∧ u 8 = g 8) (fun u => MW D A a (f_plate s) im fr bY tr ln bl bo u lg) := by
  refine ct_of (lo0 := [(0, .ref (a 0))]) (by decide) (Nat.le_of_ble_eq_true rfl) rfl ?_
  intro G hG hR
  have hT1 := hTS.1
  refine v_aload_n hG dX12_plate_0 rfl 0 rfl ?_
  refine mg_s hG dX12_plate_1 ?_
  refine v_bipush hG dX12_plate_4 (by decide) ?_
  refine ma_s (z := s 44) hG dX12_plate_6 (by omega) rfl ?_
  refine v_iconst hG dX12_plate_7 ?_
  refine v_icmp_ne (tgt := 14) hG dX12_plate_8 (by decide) (by omega) (by omega) (fun c1 => ?_) (fun c1 => ?_)
  · skip
    have h44 : 0 ≤ s 44 ∧ s 44 ≤ 4 := by omega
    have hr268 : rs0 s (268 + s 44) = 0 := sU_eq
    have hce := chT_CE hTS
    have hii := plI_inv (s0 := rs0 s) hce h44 hr268
    refine v_aload_n hG dX12_plate_14 rfl 0 rfl ?_
    refine v_aload_n hG dX12_plate_15 rfl 0 rfl ?_
    refine mg_s hG dX12_plate_16 ?_
    refine v_bipush hG dX12_plate_19 (by decide) ?_
    refine ma_s (z := s 44) hG dX12_plate_21 (by omega) rfl ?_
    refine mp_act hG dX12_plate_22 ?_
    refine v_aload_n hG dX12_plate_25 rfl 0 rfl ?_
    refine v_aload_n hG dX12_plate_26 rfl 0 rfl ?_
    refine mg_s hG dX12_plate_27 ?_
    refine v_bipush hG dX12_plate_30 (by decide) ?_
    refine ma_s (z := s 48) hG dX12_plate_32 (by omega) rfl ?_
    refine mp_end hG dX12_plate_33 ?_
    refine v_aload_n hG dX12_plate_36 rfl 0 rfl ?_
    refine mg_s hG dX12_plate_37 ?_
    refine v_bipush hG dX12_plate_40 (by decide) ?_
    refine v_iconst hG dX12_plate_42 ?_
    refine ms_s hG dX12_plate_43 (by omega) ?_
    refine v_aload_n hG dX12_plate_44 rfl 0 rfl ?_
    refine mg_s hG dX12_plate_45 ?_
    refine v_sipush hG dX12_plate_48 (by decide) ?_
    refine v_aload_n hG dX12_plate_51 rfl 0 rfl ?_
    refine mg_act (z := s 44) hG dX12_plate_52 rfl ?_
    refine v_iadd hG dX12_plate_55 ?_
    refine v_bipush hG dX12_plate_56 (by decide) ?_
    refine ms_s hG dX12_plate_58 (by omega) ?_
    refine v_aload_n hG dX12_plate_59 rfl 0 rfl ?_
    refine mg_s hG dX12_plate_60 ?_
    refine v_sipush hG dX12_plate_63 (by decide) ?_
    refine v_aload_n hG dX12_plate_66 rfl 0 rfl ?_
    refine mg_act (z := s 44) hG dX12_plate_67 rfl ?_
    refine v_iadd hG dX12_plate_70 ?_
    refine v_bipush hG dX12_plate_71 (by decide) ?_
    refine ms_s hG dX12_plate_73 (by omega) ?_
    refine v_aload_n hG dX12_plate_74 rfl 0 rfl ?_
    refine mg_s hG dX12_plate_75 ?_
    refine v_sipush hG dX12_plate_78 (by decide) ?_
    refine v_aload_n hG dX12_plate_81 rfl 0 rfl ?_
    refine mg_act (z := s 44) hG dX12_plate_82 rfl ?_
    refine v_iadd hG dX12_plate_85 ?_
    refine v_iconst hG dX12_plate_86 ?_
    refine ms_s hG dX12_plate_87 (by omega) ?_
    refine v_aload_n hG dX12_plate_88 rfl 0 rfl ?_
    refine v_iconst hG dX12_plate_89 ?_
    refine mp_spot hG dX12_plate_90 ?_
    refine v_aload_n hG dX12_plate_93 rfl 0 rfl ?_
    refine v_iconst hG dX12_plate_94 ?_
    refine mp_isWrong hG dX12_plate_95 (Or.inl rfl) ?_
    refine v_aload_n hG dX12_plate_98 rfl 0 rfl ?_
    refine v_iconst hG dX12_plate_99 ?_
    refine mp_open hG dX12_plate_100 ?_
    rw [show (sU (sU (sU (sU s 48 0) (258 + (s 44)) 20) (263 + (s 44)) 8) (268 + (s 44)) 0) = rs0 s from by rfl]
    rw [show (sU (sU (sU (sU (sU g 2 (s 44)) 4 (s 48)) 3 0) 5 0) 6 0) = (gp0 g s) from by rfl]
    refine v_iconst hG dX12_plate_103 ?_
    refine v_istore_n (lo' := [(1, vI 1), (0, .ref (a 0))]) hG dX12_plate_104 rfl (by decide) rfl ?_
    refine v_aload_n hG dX12_plate_105 rfl 1 rfl ?_
    refine v_callV (k1' := 0) (k2' := 0) hG dX12_plate_106 zc_X12_clauseHere ⟨zl_X12_120, zi_X12_clauseHere, zs_X12_clauseHere⟩ (fun l => k_clauseHere l D A a (rs0 s) im fr bY tr ln bl bo (gp0 g s) lg (chT s) 0 (by first | exact TP_g (TP_pl (q := ((0, true), rs0 s)) (n := 0) hTS h44 (fun _ _ => rfl) g0_4) rfl | exact TP_gS (TP_pl (n := 0) hTS h44 hpi.2.2 g0_4)) (by exact g0_3) (by exact g0_5) (by first | omega | (simp only [gS_2, gS_4, gS_6, g0_2, g0_4, g0_6]; omega) | (rw [gS_2, g0_2]; omega)) (by first | omega | (simp only [gS_2, gS_4, gS_6, g0_2, g0_4, g0_6]; omega) | (rw [gS_2, g0_2]; omega)) (by rw [g0_2, hr268]; omega) (by exact g0_6)) rfl mw_recv (fun _ h => h) ⟨by decide, by decide⟩ rfl rfl ⟨by decide, by decide⟩ (rest := []) rfl (Nat.le_of_ble_eq_true rfl) (fun u2 => []) (fun _ => rfl) (fun u2 hu2 => ?_)
    rw [show (clS (chT s) 0 (rs0 s) ((gp0 g s) 2)) = (plI (chT s) (rs0 s) (s 44) 0).2 from by rw [g0_2]; rfl]
    refine v_lo [1, 0] (lo' := [(0, .ref (a 0)), (1, vI 1)]) rfl ?_
    have L6 : ∀ mz : Nat, ∀ (k : Nat), ((k : Int) ≤ 9) → 9 - k = mz → ∀ x3 : Int, x3 = ((k : Int) + 1) → ∀ x4 : Int → Int, x4 = ((plI (chT s) (rs0 s) (s 44) k).2) → ∀ x5 : Int → Int, x5 = (gS (gp0 g s) (plI (chT s) (rs0 s) (s 44) k).1.1 (plI (chT s) (rs0 s) (s 44) k).1.2) → V G 0 0 (MW D A a x4 im fr bY tr ln bl bo x5 lg) 109 [(0, .ref (a 0)), (1, vI x3)] [] := by
      intro dL6
      induction dL6 using Nat.strongRecOn with
      | ind dL6 ihL6 =>
        intro k hq7 hq8
        intro x3 hx3
        subst hx3
        intro x4 hx4
        subst hx4
        intro x5 hx5
        subst hx5
        have hpi := hii k
        obtain ⟨hp1, hp2, hp3⟩ := id hpi
        have hg5 : (gS (gp0 g s) (plI (chT s) (rs0 s) (s 44) k).1.1 (plI (chT s) (rs0 s) (s 44) k).1.2) 5 = (if (plI (chT s) (rs0 s) (s 44) k).1.2 then 0 else 1) := gS_5
        have hg01 := gS_01 (g := (gp0 g s)) (p := (plI (chT s) (rs0 s) (s 44) k).1.1) (ok := (plI (chT s) (rs0 s) (s 44) k).1.2)
        have hg3 : (gS (gp0 g s) (plI (chT s) (rs0 s) (s 44) k).1.1 (plI (chT s) (rs0 s) (s 44) k).1.2) 3 = (plI (chT s) (rs0 s) (s 44) k).1.1 := gS_3
        have hg4 : (gS (gp0 g s) (plI (chT s) (rs0 s) (s 44) k).1.1 (plI (chT s) (rs0 s) (s 44) k).1.2) 4 = s 48 := gS_4.trans g0_4
        have hg2 : (gS (gp0 g s) (plI (chT s) (rs0 s) (s 44) k).1.1 (plI (chT s) (rs0 s) (s 44) k).1.2) 2 = s 44 := gS_2.trans g0_2
        have hq44 : (plI (chT s) (rs0 s) (s 44) k).2 44 = s 44 := (hp3 44 (by omega)).trans (rs0_at h44 (by omega) (by omega))
        refine v_aload_n hG dX12_plate_109 rfl 0 rfl ?_
        refine mg_isWrong (z := (gS (gp0 g s) (plI (chT s) (rs0 s) (s 44) k).1.1 (plI (chT s) (rs0 s) (s 44) k).1.2) 5) hG dX12_plate_110 rfl ?_
        refine v_if_ne (tgt := 151) hG dX12_plate_113 (by decide) (by omega) (fun c9 => ?_) (fun c9 => ?_)
        · skip
          have hst : plR s = (plI (chT s) (rs0 s) (s 44) k) := by first | exact pl_stop (Or.inl (ok_f hg5 (by assumption))) 9 (by omega) | exact pl_stop (Or.inr (by assumption)) 9 (by omega) | (show (plI (chT s) (rs0 s) (s 44) 9) = _; rw [show k = 9 by omega])
          refine v_aload_n hG dX12_plate_151 rfl 0 rfl ?_
          refine mg_isWrong (z := (gS (gp0 g s) (plI (chT s) (rs0 s) (s 44) k).1.1 (plI (chT s) (rs0 s) (s 44) k).1.2) 5) hG dX12_plate_152 rfl ?_
          refine v_if_ne (tgt := 169) hG dX12_plate_155 (by decide) (by omega) (fun c10 => ?_) (fun c10 => ?_)
          · skip
            refine v_bipush hG dX12_plate_169 (by decide) ?_
            refine v_aload_n hG dX12_plate_171 rfl 0 rfl ?_
            refine mg_spot (z := (gS (gp0 g s) (plI (chT s) (rs0 s) (s 44) k).1.1 (plI (chT s) (rs0 s) (s 44) k).1.2) 3) hG dX12_plate_172 rfl ?_
            refine v_isub hG dX12_plate_175 ?_
            have hno : ¬ ((plR s).1.2 = true ∧ ((plR s).1.1 : Int) = s 48) := by rw [hst]; intro z; have z2 := z.2; first | omega | exact absurd (hg5.trans (by rw [z.1] <;> rfl)) (by assumption)
            have hn5 : ¬ s 44 = 5 := by omega
            have e11 : (plI (chT s) (rs0 s) (s 44) k).2 = f_plate s := by unfold f_plate; rw [if_neg hn5, if_neg hno, hst]
            have e12 : @Eq Int (a_plate s) ((-10) - ((gS (gp0 g s) (plI (chT s) (rs0 s) (s 44) k).1.1 (plI (chT s) (rs0 s) (s 44) k).1.2) 3)) := by unfold a_plate; rw [if_neg hn5, if_neg hno, hst, hg3]
            exact v_ireturn hG hR dX12_plate_176 (gS (gp0 g s) (plI (chT s) (rs0 s) (s 44) k).1.1 (plI (chT s) (rs0 s) (s 44) k).1.2) (congrArg (fun z => some (vI z)) e12) (by exact ⟨(gS_q (by omega) (by omega)).trans g0_1.1, (gS_q (by omega) (by omega)).trans g0_1.2⟩) (fun _ hM => by rw [← e11]; exact hM)
          · skip
            refine v_aload_n hG dX12_plate_158 rfl 0 rfl ?_
            refine mg_spot (z := (gS (gp0 g s) (plI (chT s) (rs0 s) (s 44) k).1.1 (plI (chT s) (rs0 s) (s 44) k).1.2) 3) hG dX12_plate_159 rfl ?_
            refine v_aload_n hG dX12_plate_162 rfl 0 rfl ?_
            refine mg_end (z := (gS (gp0 g s) (plI (chT s) (rs0 s) (s 44) k).1.1 (plI (chT s) (rs0 s) (s 44) k).1.2) 4) hG dX12_plate_163 rfl ?_
            refine v_icmp_eq (tgt := 177) hG dX12_plate_166 (by decide) (by omega) (by omega) (fun c13 => ?_) (fun c13 => ?_)
            · skip
              refine v_aload_n hG dX12_plate_177 rfl 0 rfl ?_
              refine mg_s hG dX12_plate_178 ?_
              refine v_bipush hG dX12_plate_181 (by decide) ?_
              refine v_dup2 hG dX12_plate_183 rfl rfl ?_
              refine ma_s (z := ((plI (chT s) (rs0 s) (s 44) k).2) 44) hG dX12_plate_184 (by omega) rfl ?_
              refine v_iconst hG dX12_plate_185 ?_
              refine v_iadd hG dX12_plate_186 ?_
              refine ms_s hG dX12_plate_187 (by omega) ?_
              refine v_aload_n hG dX12_plate_188 rfl 0 rfl ?_
              refine mg_s hG dX12_plate_189 ?_
              refine v_bipush hG dX12_plate_192 (by decide) ?_
              refine v_aload_n hG dX12_plate_194 rfl 0 rfl ?_
              refine mg_act (z := (gS (gp0 g s) (plI (chT s) (rs0 s) (s 44) k).1.1 (plI (chT s) (rs0 s) (s 44) k).1.2) 2) hG dX12_plate_195 rfl ?_
              refine ms_s hG dX12_plate_198 (by omega) ?_
              refine v_aload_n hG dX12_plate_199 rfl 0 rfl ?_
              refine mg_act (z := (gS (gp0 g s) (plI (chT s) (rs0 s) (s 44) k).1.1 (plI (chT s) (rs0 s) (s 44) k).1.2) 2) hG dX12_plate_200 rfl ?_
              have hyes : (plR s).1.2 = true ∧ ((plR s).1.1 : Int) = s 48 := by rw [hst]; exact ⟨ok_t hg5 (by omega), by omega⟩
              have hn5 : ¬ s 44 = 5 := by omega
              have e14 : sU (sU ((plI (chT s) (rs0 s) (s 44) k).2) 44 ((((plI (chT s) (rs0 s) (s 44) k).2) 44) + 1)) 49 ((gS (gp0 g s) (plI (chT s) (rs0 s) (s 44) k).1.1 (plI (chT s) (rs0 s) (s 44) k).1.2) 2) = f_plate s := by unfold f_plate; rw [if_neg hn5, if_pos hyes, hst, hg2, hq44]
              have e15 : @Eq Int (a_plate s) ((gS (gp0 g s) (plI (chT s) (rs0 s) (s 44) k).1.1 (plI (chT s) (rs0 s) (s 44) k).1.2) 2) := by unfold a_plate; rw [if_neg hn5, if_pos hyes, hg2]
              exact v_ireturn hG hR dX12_plate_203 (gS (gp0 g s) (plI (chT s) (rs0 s) (s 44) k).1.1 (plI (chT s) (rs0 s) (s 44) k).1.2) (congrArg (fun z => some (vI z)) e15) (by exact ⟨(gS_q (by omega) (by omega)).trans g0_1.1, (gS_q (by omega) (by omega)).trans g0_1.2⟩) (fun _ hM => by rw [← e14]; exact hM)
            · skip
              refine v_bipush hG dX12_plate_169 (by decide) ?_
              refine v_aload_n hG dX12_plate_171 rfl 0 rfl ?_
              refine mg_spot (z := (gS (gp0 g s) (plI (chT s) (rs0 s) (s 44) k).1.1 (plI (chT s) (rs0 s) (s 44) k).1.2) 3) hG dX12_plate_172 rfl ?_
              refine v_isub hG dX12_plate_175 ?_
              have hno : ¬ ((plR s).1.2 = true ∧ ((plR s).1.1 : Int) = s 48) := by rw [hst]; intro z; have z2 := z.2; first | omega | exact absurd (hg5.trans (by rw [z.1] <;> rfl)) (by assumption)
              have hn5 : ¬ s 44 = 5 := by omega
              have e16 : (plI (chT s) (rs0 s) (s 44) k).2 = f_plate s := by unfold f_plate; rw [if_neg hn5, if_neg hno, hst]
              have e17 : @Eq Int (a_plate s) ((-10) - ((gS (gp0 g s) (plI (chT s) (rs0 s) (s 44) k).1.1 (plI (chT s) (rs0 s) (s 44) k).1.2) 3)) := by unfold a_plate; rw [if_neg hn5, if_neg hno, hst, hg3]
              exact v_ireturn hG hR dX12_plate_176 (gS (gp0 g s) (plI (chT s) (rs0 s) (s 44) k).1.1 (plI (chT s) (rs0 s) (s 44) k).1.2) (congrArg (fun z => some (vI z)) e17) (by exact ⟨(gS_q (by omega) (by omega)).trans g0_1.1, (gS_q (by omega) (by omega)).trans g0_1.2⟩) (fun _ hM => by rw [← e16]; exact hM)
        · skip
          refine v_iload_n hG dX12_plate_116 rfl 1 rfl ?_
          refine v_bipush hG dX12_plate_117 (by decide) ?_
          refine v_icmp_ge (tgt := 151) hG dX12_plate_119 (by decide) (by omega) (by omega) (fun c18 => ?_) (fun c18 => ?_)
          · skip
            have hst : plR s = (plI (chT s) (rs0 s) (s 44) k) := by first | exact pl_stop (Or.inl (ok_f hg5 (by assumption))) 9 (by omega) | exact pl_stop (Or.inr (by assumption)) 9 (by omega) | (show (plI (chT s) (rs0 s) (s 44) 9) = _; rw [show k = 9 by omega])
            refine v_aload_n hG dX12_plate_151 rfl 0 rfl ?_
            refine mg_isWrong (z := (gS (gp0 g s) (plI (chT s) (rs0 s) (s 44) k).1.1 (plI (chT s) (rs0 s) (s 44) k).1.2) 5) hG dX12_plate_152 rfl ?_
            refine v_if_ne (tgt := 169) hG dX12_plate_155 (by decide) (by omega) (fun c19 => ?_) (fun c19 => ?_)
            · skip
              refine v_bipush hG dX12_plate_169 (by decide) ?_
              refine v_aload_n hG dX12_plate_171 rfl 0 rfl ?_
              refine mg_spot (z := (gS (gp0 g s) (plI (chT s) (rs0 s) (s 44) k).1.1 (plI (chT s) (rs0 s) (s 44) k).1.2) 3) hG dX12_plate_172 rfl ?_
              refine v_isub hG dX12_plate_175 ?_
              have hno : ¬ ((plR s).1.2 = true ∧ ((plR s).1.1 : Int) = s 48) := by rw [hst]; intro z; have z2 := z.2; first | omega | exact absurd (hg5.trans (by rw [z.1] <;> rfl)) (by assumption)
              have hn5 : ¬ s 44 = 5 := by omega
              have e20 : (plI (chT s) (rs0 s) (s 44) k).2 = f_plate s := by unfold f_plate; rw [if_neg hn5, if_neg hno, hst]
              have e21 : @Eq Int (a_plate s) ((-10) - ((gS (gp0 g s) (plI (chT s) (rs0 s) (s 44) k).1.1 (plI (chT s) (rs0 s) (s 44) k).1.2) 3)) := by unfold a_plate; rw [if_neg hn5, if_neg hno, hst, hg3]
              exact v_ireturn hG hR dX12_plate_176 (gS (gp0 g s) (plI (chT s) (rs0 s) (s 44) k).1.1 (plI (chT s) (rs0 s) (s 44) k).1.2) (congrArg (fun z => some (vI z)) e21) (by exact ⟨(gS_q (by omega) (by omega)).trans g0_1.1, (gS_q (by omega) (by omega)).trans g0_1.2⟩) (fun _ hM => by rw [← e20]; exact hM)
            · skip
              refine v_aload_n hG dX12_plate_158 rfl 0 rfl ?_
              refine mg_spot (z := (gS (gp0 g s) (plI (chT s) (rs0 s) (s 44) k).1.1 (plI (chT s) (rs0 s) (s 44) k).1.2) 3) hG dX12_plate_159 rfl ?_
              refine v_aload_n hG dX12_plate_162 rfl 0 rfl ?_
              refine mg_end (z := (gS (gp0 g s) (plI (chT s) (rs0 s) (s 44) k).1.1 (plI (chT s) (rs0 s) (s 44) k).1.2) 4) hG dX12_plate_163 rfl ?_
              refine v_icmp_eq (tgt := 177) hG dX12_plate_166 (by decide) (by omega) (by omega) (fun c22 => ?_) (fun c22 => ?_)
              · skip
                refine v_aload_n hG dX12_plate_177 rfl 0 rfl ?_
                refine mg_s hG dX12_plate_178 ?_
                refine v_bipush hG dX12_plate_181 (by decide) ?_
                refine v_dup2 hG dX12_plate_183 rfl rfl ?_
                refine ma_s (z := ((plI (chT s) (rs0 s) (s 44) k).2) 44) hG dX12_plate_184 (by omega) rfl ?_
                refine v_iconst hG dX12_plate_185 ?_
                refine v_iadd hG dX12_plate_186 ?_
                refine ms_s hG dX12_plate_187 (by omega) ?_
                refine v_aload_n hG dX12_plate_188 rfl 0 rfl ?_
                refine mg_s hG dX12_plate_189 ?_
                refine v_bipush hG dX12_plate_192 (by decide) ?_
                refine v_aload_n hG dX12_plate_194 rfl 0 rfl ?_
                refine mg_act (z := (gS (gp0 g s) (plI (chT s) (rs0 s) (s 44) k).1.1 (plI (chT s) (rs0 s) (s 44) k).1.2) 2) hG dX12_plate_195 rfl ?_
                refine ms_s hG dX12_plate_198 (by omega) ?_
                refine v_aload_n hG dX12_plate_199 rfl 0 rfl ?_
                refine mg_act (z := (gS (gp0 g s) (plI (chT s) (rs0 s) (s 44) k).1.1 (plI (chT s) (rs0 s) (s 44) k).1.2) 2) hG dX12_plate_200 rfl ?_
                have hyes : (plR s).1.2 = true ∧ ((plR s).1.1 : Int) = s 48 := by rw [hst]; exact ⟨ok_t hg5 (by omega), by omega⟩
                have hn5 : ¬ s 44 = 5 := by omega
                have e23 : sU (sU ((plI (chT s) (rs0 s) (s 44) k).2) 44 ((((plI (chT s) (rs0 s) (s 44) k).2) 44) + 1)) 49 ((gS (gp0 g s) (plI (chT s) (rs0 s) (s 44) k).1.1 (plI (chT s) (rs0 s) (s 44) k).1.2) 2) = f_plate s := by unfold f_plate; rw [if_neg hn5, if_pos hyes, hst, hg2, hq44]
                have e24 : @Eq Int (a_plate s) ((gS (gp0 g s) (plI (chT s) (rs0 s) (s 44) k).1.1 (plI (chT s) (rs0 s) (s 44) k).1.2) 2) := by unfold a_plate; rw [if_neg hn5, if_pos hyes, hg2]
                exact v_ireturn hG hR dX12_plate_203 (gS (gp0 g s) (plI (chT s) (rs0 s) (s 44) k).1.1 (plI (chT s) (rs0 s) (s 44) k).1.2) (congrArg (fun z => some (vI z)) e24) (by exact ⟨(gS_q (by omega) (by omega)).trans g0_1.1, (gS_q (by omega) (by omega)).trans g0_1.2⟩) (fun _ hM => by rw [← e23]; exact hM)
              · skip
                refine v_bipush hG dX12_plate_169 (by decide) ?_
                refine v_aload_n hG dX12_plate_171 rfl 0 rfl ?_
                refine mg_spot (z := (gS (gp0 g s) (plI (chT s) (rs0 s) (s 44) k).1.1 (plI (chT s) (rs0 s) (s 44) k).1.2) 3) hG dX12_plate_172 rfl ?_
                refine v_isub hG dX12_plate_175 ?_
                have hno : ¬ ((plR s).1.2 = true ∧ ((plR s).1.1 : Int) = s 48) := by rw [hst]; intro z; have z2 := z.2; first | omega | exact absurd (hg5.trans (by rw [z.1] <;> rfl)) (by assumption)
                have hn5 : ¬ s 44 = 5 := by omega
                have e25 : (plI (chT s) (rs0 s) (s 44) k).2 = f_plate s := by unfold f_plate; rw [if_neg hn5, if_neg hno, hst]
                have e26 : @Eq Int (a_plate s) ((-10) - ((gS (gp0 g s) (plI (chT s) (rs0 s) (s 44) k).1.1 (plI (chT s) (rs0 s) (s 44) k).1.2) 3)) := by unfold a_plate; rw [if_neg hn5, if_neg hno, hst, hg3]
                exact v_ireturn hG hR dX12_plate_176 (gS (gp0 g s) (plI (chT s) (rs0 s) (s 44) k).1.1 (plI (chT s) (rs0 s) (s 44) k).1.2) (congrArg (fun z => some (vI z)) e26) (by exact ⟨(gS_q (by omega) (by omega)).trans g0_1.1, (gS_q (by omega) (by omega)).trans g0_1.2⟩) (fun _ hM => by rw [← e25]; exact hM)
          · skip
            refine v_aload_n hG dX12_plate_122 rfl 0 rfl ?_
            refine v_callV (k1' := 0) (k2' := 0) hG dX12_plate_123 zc_X12_here ⟨zl_X12_55, zi_X12_here, zs_X12_here⟩ (fun l => k_here l D A a ((plI (chT s) (rs0 s) (s 44) k).2) im fr bY tr ln bl bo (gS (gp0 g s) (plI (chT s) (rs0 s) (s 44) k).1.1 (plI (chT s) (rs0 s) (s 44) k).1.2) lg (chT s) ((plI (chT s) (rs0 s) (s 44) k).1.1) (by first | exact TP_g (TP_pl (q := ((0, true), rs0 s)) (n := 0) hTS h44 (fun _ _ => rfl) g0_4) rfl | exact TP_gS (TP_pl (n := 0) hTS h44 hpi.2.2 g0_4)) (by exact gS_3) (by omega)) rfl mw_recv (fun _ h => h) ⟨by decide, by decide⟩ rfl rfl ⟨by decide, by decide⟩ (rest := []) rfl (Nat.le_of_ble_eq_true rfl) (fun u27 => [vI ((chT s) ((plI (chT s) (rs0 s) (s 44) k).1.1))]) (fun _ => rfl) (fun u27 hu27 => ?_)
            have fu27 : -1 ≤ (chT s) ((plI (chT s) (rs0 s) (s 44) k).1.1) ∧ (chT s) ((plI (chT s) (rs0 s) (s 44) k).1.1) ≤ 127 := hu27
            refine v_bipush hG dX12_plate_126 (by decide) ?_
            refine v_icmp_ne (tgt := 151) hG dX12_plate_128 (by decide) (by omega) (by omega) (fun c28 => ?_) (fun c28 => ?_)
            · skip
              have hst : plR s = (plI (chT s) (rs0 s) (s 44) k) := by first | exact pl_stop (Or.inl (ok_f hg5 (by assumption))) 9 (by omega) | exact pl_stop (Or.inr (by assumption)) 9 (by omega) | (show (plI (chT s) (rs0 s) (s 44) 9) = _; rw [show k = 9 by omega])
              refine v_aload_n hG dX12_plate_151 rfl 0 rfl ?_
              refine mg_isWrong (z := (gS (gp0 g s) (plI (chT s) (rs0 s) (s 44) k).1.1 (plI (chT s) (rs0 s) (s 44) k).1.2) 5) hG dX12_plate_152 rfl ?_
              refine v_if_ne (tgt := 169) hG dX12_plate_155 (by decide) (by omega) (fun c29 => ?_) (fun c29 => ?_)
              · skip
                refine v_bipush hG dX12_plate_169 (by decide) ?_
                refine v_aload_n hG dX12_plate_171 rfl 0 rfl ?_
                refine mg_spot (z := (gS (gp0 g s) (plI (chT s) (rs0 s) (s 44) k).1.1 (plI (chT s) (rs0 s) (s 44) k).1.2) 3) hG dX12_plate_172 rfl ?_
                refine v_isub hG dX12_plate_175 ?_
                have hno : ¬ ((plR s).1.2 = true ∧ ((plR s).1.1 : Int) = s 48) := by rw [hst]; intro z; have z2 := z.2; first | omega | exact absurd (hg5.trans (by rw [z.1] <;> rfl)) (by assumption)
                have hn5 : ¬ s 44 = 5 := by omega
                have e30 : (plI (chT s) (rs0 s) (s 44) k).2 = f_plate s := by unfold f_plate; rw [if_neg hn5, if_neg hno, hst]
                have e31 : @Eq Int (a_plate s) ((-10) - ((gS (gp0 g s) (plI (chT s) (rs0 s) (s 44) k).1.1 (plI (chT s) (rs0 s) (s 44) k).1.2) 3)) := by unfold a_plate; rw [if_neg hn5, if_neg hno, hst, hg3]
                exact v_ireturn hG hR dX12_plate_176 (gS (gp0 g s) (plI (chT s) (rs0 s) (s 44) k).1.1 (plI (chT s) (rs0 s) (s 44) k).1.2) (congrArg (fun z => some (vI z)) e31) (by exact ⟨(gS_q (by omega) (by omega)).trans g0_1.1, (gS_q (by omega) (by omega)).trans g0_1.2⟩) (fun _ hM => by rw [← e30]; exact hM)
              · skip
                refine v_aload_n hG dX12_plate_158 rfl 0 rfl ?_
                refine mg_spot (z := (gS (gp0 g s) (plI (chT s) (rs0 s) (s 44) k).1.1 (plI (chT s) (rs0 s) (s 44) k).1.2) 3) hG dX12_plate_159 rfl ?_
                refine v_aload_n hG dX12_plate_162 rfl 0 rfl ?_
                refine mg_end (z := (gS (gp0 g s) (plI (chT s) (rs0 s) (s 44) k).1.1 (plI (chT s) (rs0 s) (s 44) k).1.2) 4) hG dX12_plate_163 rfl ?_
                refine v_icmp_eq (tgt := 177) hG dX12_plate_166 (by decide) (by omega) (by omega) (fun c32 => ?_) (fun c32 => ?_)
                · skip
                  refine v_aload_n hG dX12_plate_177 rfl 0 rfl ?_
                  refine mg_s hG dX12_plate_178 ?_
                  refine v_bipush hG dX12_plate_181 (by decide) ?_
                  refine v_dup2 hG dX12_plate_183 rfl rfl ?_
                  refine ma_s (z := ((plI (chT s) (rs0 s) (s 44) k).2) 44) hG dX12_plate_184 (by omega) rfl ?_
                  refine v_iconst hG dX12_plate_185 ?_
                  refine v_iadd hG dX12_plate_186 ?_
                  refine ms_s hG dX12_plate_187 (by omega) ?_
                  refine v_aload_n hG dX12_plate_188 rfl 0 rfl ?_
                  refine mg_s hG dX12_plate_189 ?_
                  refine v_bipush hG dX12_plate_192 (by decide) ?_
                  refine v_aload_n hG dX12_plate_194 rfl 0 rfl ?_
                  refine mg_act (z := (gS (gp0 g s) (plI (chT s) (rs0 s) (s 44) k).1.1 (plI (chT s) (rs0 s) (s 44) k).1.2) 2) hG dX12_plate_195 rfl ?_
                  refine ms_s hG dX12_plate_198 (by omega) ?_
                  refine v_aload_n hG dX12_plate_199 rfl 0 rfl ?_
                  refine mg_act (z := (gS (gp0 g s) (plI (chT s) (rs0 s) (s 44) k).1.1 (plI (chT s) (rs0 s) (s 44) k).1.2) 2) hG dX12_plate_200 rfl ?_
                  have hyes : (plR s).1.2 = true ∧ ((plR s).1.1 : Int) = s 48 := by rw [hst]; exact ⟨ok_t hg5 (by omega), by omega⟩
                  have hn5 : ¬ s 44 = 5 := by omega
                  have e33 : sU (sU ((plI (chT s) (rs0 s) (s 44) k).2) 44 ((((plI (chT s) (rs0 s) (s 44) k).2) 44) + 1)) 49 ((gS (gp0 g s) (plI (chT s) (rs0 s) (s 44) k).1.1 (plI (chT s) (rs0 s) (s 44) k).1.2) 2) = f_plate s := by unfold f_plate; rw [if_neg hn5, if_pos hyes, hst, hg2, hq44]
                  have e34 : @Eq Int (a_plate s) ((gS (gp0 g s) (plI (chT s) (rs0 s) (s 44) k).1.1 (plI (chT s) (rs0 s) (s 44) k).1.2) 2) := by unfold a_plate; rw [if_neg hn5, if_pos hyes, hg2]
                  exact v_ireturn hG hR dX12_plate_203 (gS (gp0 g s) (plI (chT s) (rs0 s) (s 44) k).1.1 (plI (chT s) (rs0 s) (s 44) k).1.2) (congrArg (fun z => some (vI z)) e34) (by exact ⟨(gS_q (by omega) (by omega)).trans g0_1.1, (gS_q (by omega) (by omega)).trans g0_1.2⟩) (fun _ hM => by rw [← e33]; exact hM)
                · skip
                  refine v_bipush hG dX12_plate_169 (by decide) ?_
                  refine v_aload_n hG dX12_plate_171 rfl 0 rfl ?_
                  refine mg_spot (z := (gS (gp0 g s) (plI (chT s) (rs0 s) (s 44) k).1.1 (plI (chT s) (rs0 s) (s 44) k).1.2) 3) hG dX12_plate_172 rfl ?_
                  refine v_isub hG dX12_plate_175 ?_
                  have hno : ¬ ((plR s).1.2 = true ∧ ((plR s).1.1 : Int) = s 48) := by rw [hst]; intro z; have z2 := z.2; first | omega | exact absurd (hg5.trans (by rw [z.1] <;> rfl)) (by assumption)
                  have hn5 : ¬ s 44 = 5 := by omega
                  have e35 : (plI (chT s) (rs0 s) (s 44) k).2 = f_plate s := by unfold f_plate; rw [if_neg hn5, if_neg hno, hst]
                  have e36 : @Eq Int (a_plate s) ((-10) - ((gS (gp0 g s) (plI (chT s) (rs0 s) (s 44) k).1.1 (plI (chT s) (rs0 s) (s 44) k).1.2) 3)) := by unfold a_plate; rw [if_neg hn5, if_neg hno, hst, hg3]
                  exact v_ireturn hG hR dX12_plate_176 (gS (gp0 g s) (plI (chT s) (rs0 s) (s 44) k).1.1 (plI (chT s) (rs0 s) (s 44) k).1.2) (congrArg (fun z => some (vI z)) e36) (by exact ⟨(gS_q (by omega) (by omega)).trans g0_1.1, (gS_q (by omega) (by omega)).trans g0_1.2⟩) (fun _ hM => by rw [← e35]; exact hM)
            · skip
              have hok : (plI (chT s) (rs0 s) (s 44) k).1.2 = true := ok_t hg5 (by omega)
              have hlt := hce.lt (p := (plI (chT s) (rs0 s) (s 44) k).1.1) (by omega)
              refine v_aload_n hG dX12_plate_131 rfl 0 rfl ?_
              refine v_dup hG dX12_plate_132 rfl ?_
              refine mg_spot (z := (gS (gp0 g s) (plI (chT s) (rs0 s) (s 44) k).1.1 (plI (chT s) (rs0 s) (s 44) k).1.2) 3) hG dX12_plate_133 rfl ?_
              refine v_iconst hG dX12_plate_136 ?_
              refine v_iadd hG dX12_plate_137 ?_
              refine mp_spot hG dX12_plate_138 ?_
              rw [show (sU (gS (gp0 g s) (plI (chT s) (rs0 s) (s 44) k).1.1 (plI (chT s) (rs0 s) (s 44) k).1.2) 3 (((gS (gp0 g s) (plI (chT s) (rs0 s) (s 44) k).1.1 (plI (chT s) (rs0 s) (s 44) k).1.2) 3) + 1)) = gS (gp0 g s) ((plI (chT s) (rs0 s) (s 44) k).1.1 + 1) true from by exact sp1 hok]
              refine v_aload_n hG dX12_plate_141 rfl 0 rfl ?_
              refine v_callV (k1' := 0) (k2' := 0) hG dX12_plate_142 zc_X12_clauseHere ⟨zl_X12_120, zi_X12_clauseHere, zs_X12_clauseHere⟩ (fun l => k_clauseHere l D A a ((plI (chT s) (rs0 s) (s 44) k).2) im fr bY tr ln bl bo (gS (gp0 g s) ((plI (chT s) (rs0 s) (s 44) k).1.1 + 1) true) lg (chT s) ((plI (chT s) (rs0 s) (s 44) k).1.1 + 1) (by first | exact TP_g (TP_pl (q := ((0, true), rs0 s)) (n := 0) hTS h44 (fun _ _ => rfl) g0_4) rfl | exact TP_gS (TP_pl (n := 0) hTS h44 hpi.2.2 g0_4)) (by exact gS_3) (by exact gS_50) (by first | omega | (simp only [gS_2, gS_4, gS_6, g0_2, g0_4, g0_6]; omega) | (rw [gS_2, g0_2]; omega)) (by first | omega | (simp only [gS_2, gS_4, gS_6, g0_2, g0_4, g0_6]; omega) | (rw [gS_2, g0_2]; omega)) (by rw [gS_2, g0_2]; omega) (by exact gS_6.trans g0_6)) rfl mw_recv (fun _ h => h) ⟨by decide, by decide⟩ rfl rfl ⟨by decide, by decide⟩ (rest := []) rfl (Nat.le_of_ble_eq_true rfl) (fun u37 => []) (fun _ => rfl) (fun u37 hu37 => ?_)
              rw [show (clS (chT s) ((plI (chT s) (rs0 s) (s 44) k).1.1 + 1) ((plI (chT s) (rs0 s) (s 44) k).2) ((gS (gp0 g s) ((plI (chT s) (rs0 s) (s 44) k).1.1 + 1) true) 2)) = clS (chT s) ((plI (chT s) (rs0 s) (s 44) k).1.1 + 1) (plI (chT s) (rs0 s) (s 44) k).2 (s 44) from by rw [gS_2, g0_2]]
              rw [show (gS (gS (gp0 g s) ((plI (chT s) (rs0 s) (s 44) k).1.1 + 1) true) (clF (chT s) ((plI (chT s) (rs0 s) (s 44) k).1.1 + 1)).1 (clF (chT s) ((plI (chT s) (rs0 s) (s 44) k).1.1 + 1)).2) = gS (gp0 g s) (clF (chT s) ((plI (chT s) (rs0 s) (s 44) k).1.1 + 1)).1 (clF (chT s) ((plI (chT s) (rs0 s) (s 44) k).1.1 + 1)).2 from by exact gS_gS]
              refine v_iinc (lo' := [(1, vI (((k : Int) + 1) + 1)), (0, .ref (a 0))]) hG dX12_plate_145 1 rfl (by decide) rfl ?_
              refine v_goto (tgt := 109) hG dX12_plate_148 (by decide) ?_
              refine v_lo [1, 0] (lo' := [(0, .ref (a 0)), (1, vI (((k : Int) + 1) + 1))]) rfl ?_
              exact ihL6 _ (by omega) (k + 1) (by omega) rfl _ (by omega) _ (by rw [pl_go hok (by assumption)]) _ (by rw [pl_go hok (by assumption)])
    exact L6 _ 0 (by omega) rfl _ (by rfl) _ (by rfl) _ (by rfl)
  · skip
    refine v_bipush hG dX12_plate_11 (by decide) ?_
    have e38 : s = f_plate s := by exact (if_pos (by assumption)).symm
    have e39 : @Eq Int (a_plate s) (-4) := by exact (if_pos (by assumption))
    exact v_ireturn hG hR dX12_plate_13 g (congrArg (fun z => some (vI z)) e39) (by exact ⟨rfl, rfl⟩) (fun _ hM => by rw [← e38]; exact hM)
