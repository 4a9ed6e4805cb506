/-! THE CLASS: tables -/
theorem CT_map {l : Launch} {D : Dx} {A : Nat → Prop} {y : MethodName} {bytes : ByteArray} {maxL : Nat} {ret : Option FieldType} {rm : Room} {av : List Value} {I S S' : Type} {P : I → Heap → Prop} {rv : I → S → Option Value} {φ : I → S → Prop} {P1 : I → S → Heap → Prop} {P' : Heap → Prop} {rv' : S' → Option Value} {φ' : S' → Prop} {P1' : S' → Heap → Prop} (h : ∀ H, P' H → ∃ i, P i H) (hc1 : ∀ i, CT l D A y bytes maxL ret rm av (P i) (rv i) (φ i) (P1 i)) (hm : ∀ i u, φ i u → ∃ u', rv i u = rv' u' ∧ φ' u' ∧ ∀ H, P1 i u H → P1' u' H) : CT l D A y bytes maxL ret rm av P' rv' φ' P1' := by
  unfold CT Met
  intro p e h1 h2 h3 s m args below hf ha hP hK
  obtain ⟨ha2, hP2, hKB⟩ := hP
  obtain ⟨i, hi⟩ := h _ hP2
  have key := hc1 i
  unfold CT Met at key
  obtain ⟨n, o, a1, a2, a3, ⟨⟨u, b1, b2, b3⟩, b4⟩, b5⟩ := key p e h1 h2 h3 s m args below hf ha ⟨ha2, hi, hKB⟩ hK
  obtain ⟨u', c1, c2, c3⟩ := hm i u b2
  exact ⟨n, o, a1, a2, a3, ⟨⟨u', by rw [b1, c1], c2, c3 _ b3⟩, b4⟩, b5⟩
abbrev XTy : Type := (Nat → Int → Int) × (Nat → Int → Int) × (Nat → Int → Int) × (Nat → Int → Int) × (Nat → Int → Int)
def CI (K : Int → Int) (S : Nat → Int → Int) : Type := {x : XTy // AG K S x.1 x.2.1 x.2.2.1 x.2.2.2.1 x.2.2.2.2}
theorem CW_I {D : Dx} {A : Nat → Prop} {ad : Nat → Nat} {K : Int → Int} {S Q qa : Nat → Int → Int} {tp : Nat → Nat} {bo e uc lr nx : Int → Int} {H : Heap} (h : CW D A ad K S Q qa tp bo e uc lr nx H) : ∃ i : CI K S, XW D A ad K i.1.1 i.1.2.1 i.1.2.2.1 i.1.2.2.2.1 i.1.2.2.2.2 Q qa tp bo e uc lr nx H := by
  obtain ⟨hB, mB, rB, tz, tc, hA, hX⟩ := h
  exact ⟨⟨(hB, mB, rB, tz, tc), hA⟩, hX⟩
theorem sU_self {f : Int → Int} {j : Int} : sU f j (f j) = f := by
  funext q
  unfold sU
  split
  · rename_i h; rw [h]
  · rfl
def XT (D : Dx) (A : Nat → Prop) (ad : Nat → Nat) (K : Int → Int) (hB mB rB tz : Nat → Int → Int) (tc : Nat → Int → Int) (Q qa : Nat → Int → Int) (tp : Nat → Nat) (bo e uc lr nx : Int → Int) (b t : Nat) (z : Int) (f : Int → Int) : Heap → Prop := XW D A ad K hB mB rB (uS tz b (sU (tz b) t z)) (uS tc (4 * b + t) f) Q qa tp bo e uc lr nx
theorem XT_self {D : Dx} {A : Nat → Prop} {ad : Nat → Nat} {K : Int → Int} {hB mB rB tz : Nat → Int → Int} {tc : Nat → Int → Int} {Q qa : Nat → Int → Int} {tp : Nat → Nat} {bo e uc lr nx : Int → Int} {b t : Nat} : XT D A ad K hB mB rB tz tc Q qa tp bo e uc lr nx b t (tz b t) (tc (4 * b + t)) = XW D A ad K hB mB rB tz tc Q qa tp bo e uc lr nx := by
  unfold XT
  rw [sU_self, uS_self, uS_self]
theorem tz_at {tz : Nat → Int → Int} {b t : Nat} {z : Int} : uS tz b (sU (tz b) t z) b t = z := by rw [uS_eq, sU_eq]
section XTR
variable {G : Gx} {cc : ByteArray} {nL : Nat} {own ref : String} {rm : Room} {k1 k2 pc k idx : Nat} {lo : List (Nat × Value)} {st : List Value} {v : Value}
variable {D : Dx} {A : Nat → Prop} {ad : Nat → Nat} {K : Int → Int} {hB mB rB tz : Nat → Int → Int} {tc : Nat → Int → Int} {Q qa : Nat → Int → Int} {tp : Nat → Nat} {bo e uc lr nx : Int → Int} {b t c : Nat} {z : Int} {f : Int → Int}
theorem y7_get (hb : b < 3) (ht : t < 4) (hG : Ok D A G cc nL own rm) (hd : decode cc pc = .ok (.getfield idx, 3)) (hF : zFl own idx ref (TX7 k)) (hk : k < 3) (hv : (tfs ad b t z)[k]? = some v) (kk : V G k1 k2 (XT D A ad K hB mB rB tz tc Q qa tp bo e uc lr nx b t z f) (pc + 3) lo (v :: st)) : V G k1 k2 (XT D A ad K hB mB rB tz tc Q qa tp bo e uc lr nx b t z f) pc lo (.ref (kT ad b t) :: st) := xg7 hb ht hG hd hF hk (by rw [tz_at]; exact hv) kk
theorem y7_getO (hcb : c ≠ b) (hc3 : c < 3) (ht : t < 4) (hG : Ok D A G cc nL own rm) (hd : decode cc pc = .ok (.getfield idx, 3)) (hF : zFl own idx ref (TX7 k)) (hk : k < 3) (hv : (tfs ad c t (tz c t))[k]? = some v) (kk : V G k1 k2 (XT D A ad K hB mB rB tz tc Q qa tp bo e uc lr nx b t z f) (pc + 3) lo (v :: st)) : V G k1 k2 (XT D A ad K hB mB rB tz tc Q qa tp bo e uc lr nx b t z f) pc lo (.ref (kT ad c t) :: st) := xg7 hc3 ht hG hd hF hk (by rw [uS_ne hcb]; exact hv) kk
theorem y7_size {v : Int} (hb : b < 3) (ht : t < 4) (hG : Ok D A G cc nL own rm) (hd : decode cc pc = .ok (.putfield idx, 3)) (hF : zFl own idx ref (TX7 2)) (kk : V G k1 k2 (XT D A ad K hB mB rB tz tc Q qa tp bo e uc lr nx b t v f) (pc + 3) lo st) : V G k1 k2 (XT D A ad K hB mB rB tz tc Q qa tp bo e uc lr nx b t z f) pc lo (vI v :: .ref (kT ad b t) :: st) := by
  refine xp7_size hb ht hG hd hF ?_
  rw [uS_uS, uS_eq]
  have e : sU (sU (tz b) t z) t v = sU (tz b) t v := by
    funext q
    unfold sU
    split <;> rfl
  rw [e]
  exact kk
theorem y7_ld {x v : Int} (hb : b < 3) (ht : t < 4) (hG : Ok D A G cc nL own rm) (hd : decode cc pc = .ok (.iaload, 1)) (hx : 0 ≤ x ∧ x < (tlen t : Nat)) (hz : f x = v) (kk : V G k1 k2 (XT D A ad K hB mB rB tz tc Q qa tp bo e uc lr nx b t z f) (pc + 1) lo (vI v :: st)) : V G k1 k2 (XT D A ad K hB mB rB tz tc Q qa tp bo e uc lr nx b t z f) pc lo (vI x :: .ref (kC ad b t) :: st) := xa_c hb ht hG hd hx (by rw [uS_eq]; exact hz) kk
theorem y7_ldO {x v : Int} (hcb : c ≠ b) (hc3 : c < 3) (ht : t < 4) (hG : Ok D A G cc nL own rm) (hd : decode cc pc = .ok (.iaload, 1)) (hx : 0 ≤ x ∧ x < (tlen t : Nat)) (hz : tc (4 * c + t) x = v) (kk : V G k1 k2 (XT D A ad K hB mB rB tz tc Q qa tp bo e uc lr nx b t z f) (pc + 1) lo (vI v :: st)) : V G k1 k2 (XT D A ad K hB mB rB tz tc Q qa tp bo e uc lr nx b t z f) pc lo (vI x :: .ref (kC ad c t) :: st) := xa_c hc3 ht hG hd hx (by rw [uS_ne (by omega)]; exact hz) kk
theorem y7_st {x v : Int} (hb : b < 3) (ht : t < 4) (hG : Ok D A G cc nL own rm) (hd : decode cc pc = .ok (.iastore, 1)) (hx : 0 ≤ x ∧ x < (tlen t : Nat)) (kk : V G k1 k2 (XT D A ad K hB mB rB tz tc Q qa tp bo e uc lr nx b t z (sU f x v)) (pc + 1) lo st) : V G k1 k2 (XT D A ad K hB mB rB tz tc Q qa tp bo e uc lr nx b t z f) pc lo (vI v :: vI x :: .ref (kC ad b t) :: st) := by
  refine xt_c hb ht hG hd hx ?_
  rw [uS_uS, uS_eq]
  exact kk
theorem y7_len (hc3 : c < 3) (ht : t < 4) (hG : Ok D A G cc nL own rm) (hd : decode cc pc = .ok (.arraylength, 1)) (kk : V G k1 k2 (XT D A ad K hB mB rB tz tc Q qa tp bo e uc lr nx b t z f) (pc + 1) lo (vI (tlen t : Nat) :: st)) : V G k1 k2 (XT D A ad K hB mB rB tz tc Q qa tp bo e uc lr nx b t z f) pc lo (.ref (kC ad c t) :: st) := xl_c hc3 ht hG hd kk
theorem y7_R (hb : b < 3) (ht : t < 4) : zRv D (XT D A ad K hB mB rB tz tc Q qa tp bo e uc lr nx b t z f) (kT ad b t) RX7 := fun H h => xR7 hb ht H h
end XTR
theorem tcol_rng (t : Nat) : 1 ≤ tcol t ∧ tcol t ≤ 3 := by unfold tcol; (repeat' split) <;> omega
theorem tlen_rng (t : Nat) : 1 ≤ tlen t ∧ tlen t ≤ 100 := by unfold tlen; (repeat' split) <;> omega
theorem zc_mul {z : Int} {t : Nat} (hz : 0 ≤ z ∧ z ≤ 1000) : 0 ≤ z * tcol t ∧ z * tcol t ≤ 3000 ∧ (z + 1) * tcol t = z * tcol t + tcol t := by
  have h := tcol_rng t
  have h1 : 0 * 0 ≤ z * tcol t := Int.mul_le_mul (by omega) (by omega) (by omega) (by omega)
  have h2 : z * tcol t ≤ 1000 * 3 := Int.mul_le_mul hz.2 h.2 (by omega) (by omega)
  refine ⟨by omega, by omega, ?_⟩
  rw [Int.add_mul, Int.one_mul]
def addF (f : Int → Int) (p n u v w : Int) : Int → Int := fun q => if p ≤ q ∧ q < p + n then (if q = p then u else if q = p + 1 then v else w) else f q
theorem addF_0 {f : Int → Int} {p u v w : Int} : addF f p 0 u v w = f := by
  funext q
  exact if_neg (by omega)
theorem addF_step {f : Int → Int} {p u v w x : Int} {k : Nat} (hx : x = if (k : Int) = 0 then u else if (k : Int) = 1 then v else w) : sU (addF f p k u v w) (p + k) x = addF f p ((k + 1 : Nat) : Int) u v w := by
  subst hx
  funext q
  unfold sU addF
  by_cases e : q = p + k
  · subst e
    rw [if_pos rfl, if_pos (show p ≤ p + (k : Int) ∧ p + (k : Int) < p + ((k + 1 : Nat) : Int) by omega)]
    by_cases h0 : (k : Int) = 0
    · rw [if_pos h0, if_pos (show p + (k : Int) = p by omega)]
    · rw [if_neg h0, if_neg (show ¬ p + (k : Int) = p by omega)]
      by_cases h1 : (k : Int) = 1
      · rw [if_pos h1, if_pos (show p + (k : Int) = p + 1 by omega)]
      · rw [if_neg h1, if_neg (show ¬ p + (k : Int) = p + 1 by omega)]
  · rw [if_neg e]
    by_cases e2 : p ≤ q ∧ q < p + k
    · rw [if_pos e2, if_pos (show p ≤ q ∧ q < p + ((k + 1 : Nat) : Int) by omega)]
    · rw [if_neg e2, if_neg (show ¬ (p ≤ q ∧ q < p + ((k + 1 : Nat) : Int)) by omega)]
set_option maxHeartbeats 4000000 in
set_option maxRecDepth 100000 in
theorem kc7_isFull (l : Launch) (D : Dx) (A : Nat → Prop) (ad : Nat → Nat) (K : Int → Int) (hB mB rB tz : Nat → Int → Int) (tc : Nat → Int → Int) (Q qa : Nat → Int → Int) (tp : Nat → Nat) (bo e uc lr nx : Int → Int) (b t : Nat) (z : Int) (f : Int → Int) (hb : b < 3) (ht : t < 4) (hz : 0 ≤ z ∧ z ≤ 500) : CT l D A yX7_isFull cX7_isFull 1 (some .boolean) { frames := 0, cells := 0, slots := 0, locals := 0 } [.ref (kT ad b t)] (XT D A ad K hB mB rB tz tc Q qa tp bo e uc lr nx b t z f) (fun _ : Unit => some (vI (bi ((tlen t : Int) < (z + 1) * tcol t)))) (fun _ => True) (fun _ => XT D A ad K hB mB rB tz tc Q qa tp bo e uc lr nx b t z f) := by
  refine ct_of (lo0 := [(0, .ref (kT ad b t))]) (by decide) (Nat.le_of_ble_eq_true rfl) rfl ?_
  intro G hG hR
  have htc := tcol_rng t
  have htl := tlen_rng t
  have hzm := zc_mul (z := z) (t := t) (by omega)
  refine v_aload_n hG dX7_isFull_0 rfl 0 rfl ?_
  refine y7_get hb ht hG dX7_isFull_1 zf_X7_19 (k := 2) (by decide) (v := vI z) rfl ?_
  refine v_iconst hG dX7_isFull_4 ?_
  refine v_iadd hG dX7_isFull_5 ?_
  refine v_aload_n hG dX7_isFull_6 rfl 0 rfl ?_
  refine y7_get hb ht hG dX7_isFull_7 zf_X7_15 (k := 1) (by decide) (v := vI (tcol t)) rfl ?_
  refine v_imul hG dX7_isFull_10 ?_
  refine v_aload_n hG dX7_isFull_11 rfl 0 rfl ?_
  refine y7_get hb ht hG dX7_isFull_12 zf_X7_9 (k := 0) (by decide) (v := .ref (kC ad b t)) rfl ?_
  refine y7_len hb ht hG dX7_isFull_15 ?_
  have J2 : ∀ z1 : Int, z1 = (bi (¬ ((z + 1) * (tcol t) ≤ (tlen t : Nat)))) → V G 0 0 (XT D A ad K hB mB rB tz tc Q qa tp bo e uc lr nx b t z f) 24 [(0, .ref (kT ad b t))] [vI z1] := by
    intro z1 hz1
    subst hz1
    have e3 : @Eq Int (bi ((tlen t : Int) < (z + 1) * tcol t)) (bi (¬ ((z + 1) * (tcol t) ≤ (tlen t : Nat)))) := by first | rfl | omega | (exact bi_congr (by omega)) | (simp []; done)
    exact v_zreturn hG hR dX7_isFull_24 (bi_01 _) () (congrArg (fun z => some (vI z)) e3) (by trivial) (fun _ hM => hM)
  refine v_icmp_le (tgt := 23) hG dX7_isFull_16 (by decide) (by omega) (by omega) (fun c4 => ?_) (fun c4 => ?_)
  · skip
    refine v_iconst hG dX7_isFull_23 ?_
    exact J2 _ (by first | rfl | (simp only [if_pos c4]; done) | (simp [bi, c4]; done))
  · skip
    refine v_iconst hG dX7_isFull_19 ?_
    refine v_goto (tgt := 24) hG dX7_isFull_20 (by decide) ?_
    exact J2 _ (by first | rfl | (simp only [if_neg c4]; done) | (simp [bi, c4]; done))
set_option maxHeartbeats 4000000 in
set_option maxRecDepth 100000 in
theorem kc7_empty (l : Launch) (D : Dx) (A : Nat → Prop) (ad : Nat → Nat) (K : Int → Int) (hB mB rB tz : Nat → Int → Int) (tc : Nat → Int → Int) (Q qa : Nat → Int → Int) (tp : Nat → Nat) (bo e uc lr nx : Int → Int) (b t : Nat) (z : Int) (f : Int → Int) (hb : b < 3) (ht : t < 4) : CT l D A yX7_empty cX7_empty 1 (some .int) { frames := 0, cells := 0, slots := 0, locals := 0 } [.ref (kT ad b t)] (XT D A ad K hB mB rB tz tc Q qa tp bo e uc lr nx b t z f) (fun _ : Unit => some (vI 0)) (fun _ => True) (fun _ => XT D A ad K hB mB rB tz tc Q qa tp bo e uc lr nx b t 0 f) := by
  refine ct_of (lo0 := [(0, .ref (kT ad b t))]) (by decide) (Nat.le_of_ble_eq_true rfl) rfl ?_
  intro G hG hR
  refine v_aload_n hG dX7_empty_0 rfl 0 rfl ?_
  refine v_iconst hG dX7_empty_1 ?_
  refine y7_size hb ht hG dX7_empty_2 zf_X7_19 ?_
  refine v_iconst hG dX7_empty_5 ?_
  exact v_ireturn hG hR dX7_empty_6 () rfl (by trivial) (fun _ hM => hM)
set_option maxHeartbeats 4000000 in
set_option maxRecDepth 100000 in
theorem kc7_add (l : Launch) (D : Dx) (A : Nat → Prop) (ad : Nat → Nat) (K : Int → Int) (hB mB rB tz : Nat → Int → Int) (tc : Nat → Int → Int) (Q qa : Nat → Int → Int) (tp : Nat → Nat) (bo e uc lr nx : Int → Int) (b t : Nat) (z : Int) (f : Int → Int) (hb : b < 3) (ht : t < 4) (u : Int) (v : Int) (w : Int) (hz : 0 ≤ z ∧ z ≤ 500) (hfit : (z + 1) * tcol t ≤ (tlen t : Int)) : CT l D A yX7_add cX7_add 6 (some .int) { frames := 1, cells := 0, slots := 0, locals := 20 } [.ref (kT ad b t), vI u, vI v, vI w] (XT D A ad K hB mB rB tz tc Q qa tp bo e uc lr nx b t z f) (fun _ : Unit => some (vI (z + 1))) (fun _ => True) (fun _ => XT D A ad K hB mB rB tz tc Q qa tp bo e uc lr nx b t (z + 1) (addF f (z * tcol t) (tcol t) u v w)) := by
  refine ct_of (lo0 := [(0, .ref (kT ad b t)), (1, vI u), (2, vI v), (3, vI w)]) (by decide) (Nat.le_of_ble_eq_true rfl) rfl ?_
  intro G hG hR
  have htc := tcol_rng t
  have htl := tlen_rng t
  have hzm := zc_mul (z := z) (t := t) (by omega)
  refine v_aload_n hG dX7_add_0 rfl 0 rfl ?_
  refine v_callV (k1' := 0) (k2' := 0) hG dX7_add_1 zc_X7_isFull ⟨zl_X7_22, zi_X7_isFull, zs_X7_isFull⟩ (fun l => kc7_isFull l D A ad K hB mB rB tz tc Q qa tp bo e uc lr nx b t z f hb ht (by omega)) rfl (y7_R hb ht) (fun _ h => h) ⟨by decide, by decide⟩ rfl rfl ⟨by decide, by decide⟩ (rest := []) rfl (Nat.le_of_ble_eq_true rfl) (fun _ => vI (bi ((tlen t : Int) < (z + 1) * tcol t)) :: []) (fun _ => rfl) (fun _ _ => ?_)
  refine v_ifb_ne (p := (tlen t : Int) < (z + 1) * tcol t) (tgt := 76) hG dX7_add_4 (by decide) (fun c1 => ?_) (fun c1 => ?_)
  · skip
    exfalso; omega
  · skip
    refine v_aload_n hG dX7_add_7 rfl 0 rfl ?_
    refine y7_get hb ht hG dX7_add_8 zf_X7_19 (k := 2) (by decide) (v := vI z) rfl ?_
    refine v_aload_n hG dX7_add_11 rfl 0 rfl ?_
    refine y7_get hb ht hG dX7_add_12 zf_X7_15 (k := 1) (by decide) (v := vI (tcol t)) rfl ?_
    refine v_imul hG dX7_add_15 ?_
    refine v_istore (lo' := [(4, vI (z * (tcol t))), (0, .ref (kT ad b t)), (1, vI u), (2, vI v), (3, vI w)]) hG dX7_add_16 (by decide) rfl ?_
    refine v_iconst hG dX7_add_18 ?_
    refine v_istore (lo' := [(5, vI 0), (4, vI (z * (tcol t))), (0, .ref (kT ad b t)), (1, vI u), (2, vI v), (3, vI w)]) hG dX7_add_19 (by decide) rfl ?_
    refine v_lo [2, 3, 4, 5, 1, 0] (lo' := [(0, .ref (kT ad b t)), (1, vI u), (2, vI v), (3, vI w), (4, vI (z * (tcol t))), (5, vI 0)]) rfl ?_
    have L4 : ∀ mz : Nat, ∀ (k : Nat), ((k : Int) ≤ tcol t) → (tcol t - (k : Int)).toNat = mz → ∀ x2 : Int, x2 = ((k : Int)) → ∀ x3 : Int → Int, x3 = (addF f (z * tcol t) (k : Int) u v w) → V G 0 0 (XT D A ad K hB mB rB tz tc Q qa tp bo e uc lr nx b t z x3) 21 [(0, .ref (kT ad b t)), (1, vI u), (2, vI v), (3, vI w), (4, vI (z * (tcol t))), (5, vI x2)] [] := by
      intro dL4
      induction dL4 using Nat.strongRecOn with
      | ind dL4 ihL4 =>
        intro k hq5 hq6
        intro x2 hx2
        subst hx2
        intro x3 hx3
        subst hx3
        refine v_iload hG dX7_add_21 5 rfl ?_
        refine v_aload_n hG dX7_add_23 rfl 0 rfl ?_
        refine y7_get hb ht hG dX7_add_24 zf_X7_15 (k := 1) (by decide) (v := vI (tcol t)) rfl ?_
        refine v_icmp_ge (tgt := 66) hG dX7_add_27 (by decide) (by omega) (by omega) (fun c7 => ?_) (fun c7 => ?_)
        · skip
          refine v_aload_n hG dX7_add_66 rfl 0 rfl ?_
          refine v_dup hG dX7_add_67 rfl ?_
          refine y7_get hb ht hG dX7_add_68 zf_X7_19 (k := 2) (by decide) (v := vI z) rfl ?_
          refine v_iconst hG dX7_add_71 ?_
          refine v_iadd hG dX7_add_72 ?_
          refine y7_size hb ht hG dX7_add_73 zf_X7_19 ?_
          refine v_aload_n hG dX7_add_76 rfl 0 rfl ?_
          refine y7_get hb ht hG dX7_add_77 zf_X7_19 (k := 2) (by decide) (v := vI (z + 1)) rfl ?_
          have e8 : addF f (z * tcol t) (k : Int) u v w = addF f (z * tcol t) (tcol t) u v w := by rw [show (k : Int) = tcol t by omega]
          exact v_ireturn hG hR dX7_add_80 () rfl (by trivial) (fun _ hM => by rw [← e8]; exact hM)
        · skip
          refine v_aload_n hG dX7_add_30 rfl 0 rfl ?_
          refine y7_get hb ht hG dX7_add_31 zf_X7_9 (k := 0) (by decide) (v := .ref (kC ad b t)) rfl ?_
          refine v_iload hG dX7_add_34 4 rfl ?_
          refine v_iload hG dX7_add_36 5 rfl ?_
          refine v_iadd hG dX7_add_38 ?_
          refine v_iload hG dX7_add_39 5 rfl ?_
          have J10 : ∀ z9 : Int, z9 = (if (k : Int) = 0 then u else if (k : Int) = 1 then v else w) → V G 0 0 (XT D A ad K hB mB rB tz tc Q qa tp bo e uc lr nx b t z (addF f (z * tcol t) (k : Int) u v w)) 59 [(0, .ref (kT ad b t)), (1, vI u), (2, vI v), (3, vI w), (4, vI (z * (tcol t))), (5, vI (k : Int))] [vI z9, vI ((z * (tcol t)) + (k : Int)), .ref (kC ad b t)] := by
            intro z9 hz9
            refine y7_st hb ht hG dX7_add_59 (by omega) ?_
            refine v_iinc (lo' := [(5, vI ((k : Int) + 1)), (0, .ref (kT ad b t)), (1, vI u), (2, vI v), (3, vI w), (4, vI (z * (tcol t)))]) hG dX7_add_60 5 rfl (by decide) rfl ?_
            refine v_goto (tgt := 21) hG dX7_add_63 (by decide) ?_
            refine v_lo [1, 2, 3, 4, 5, 0] (lo' := [(0, .ref (kT ad b t)), (1, vI u), (2, vI v), (3, vI w), (4, vI (z * (tcol t))), (5, vI ((k : Int) + 1))]) rfl ?_
            exact ihL4 _ (by omega) (k + 1) (by omega) rfl _ (by first | omega | rfl | (simp [c1, c7, hz9]; done)) _ (by exact addF_step (by assumption))
          refine v_if_ne (tgt := 48) hG dX7_add_41 (by decide) (by omega) (fun c11 => ?_) (fun c11 => ?_)
          · skip
            refine v_iload hG dX7_add_48 5 rfl ?_
            refine v_iconst hG dX7_add_50 ?_
            refine v_icmp_ne (tgt := 58) hG dX7_add_51 (by decide) (by omega) (by omega) (fun c12 => ?_) (fun c12 => ?_)
            · skip
              refine v_iload_n hG dX7_add_58 rfl 3 rfl ?_
              exact J10 _ (by first | rfl | (simp only [if_neg c1, if_neg c7, if_neg c11, if_neg c12]; done) | (simp [bi, c1, c7, c11, c12]; done))
            · skip
              refine v_iload_n hG dX7_add_54 rfl 2 rfl ?_
              refine v_goto (tgt := 59) hG dX7_add_55 (by decide) ?_
              exact J10 _ (by first | rfl | (simp only [if_neg c1, if_neg c7, if_neg c11, if_pos c12]; done) | (simp [bi, c1, c7, c11, c12]; done))
          · skip
            refine v_iload_n hG dX7_add_44 rfl 1 rfl ?_
            refine v_goto (tgt := 59) hG dX7_add_45 (by decide) ?_
            exact J10 _ (by first | rfl | (simp only [if_neg c1, if_neg c7, if_pos c11]; done) | (simp [bi, c1, c7, c11]; done))
    exact L4 _ 0 (by omega) rfl _ (by first | omega | rfl | (simp [c1]; done)) _ (by exact addF_0.symm)
set_option maxHeartbeats 4000000 in
set_option maxRecDepth 100000 in
theorem kc7_at (l : Launch) (D : Dx) (A : Nat → Prop) (ad : Nat → Nat) (K : Int → Int) (hB mB rB tz : Nat → Int → Int) (tc : Nat → Int → Int) (Q qa : Nat → Int → Int) (tp : Nat → Nat) (bo e uc lr nx : Int → Int) (b t : Nat) (z : Int) (f : Int → Int) (hb : b < 3) (ht : t < 4) (r : Int) (g : Int) (hz : 0 ≤ z ∧ z ≤ 500) (hrr : 0 ≤ r ∧ r < z) (hgg : 0 ≤ g ∧ g < tcol t) (hfit : z * tcol t ≤ (tlen t : Int)) : CT l D A yX7_at cX7_at 3 (some .int) { frames := 1, cells := 0, slots := 0, locals := 22 } [.ref (kT ad b t), vI r, vI g] (XT D A ad K hB mB rB tz tc Q qa tp bo e uc lr nx b t z f) (fun _ : Unit => some (vI (f (r * tcol t + g)))) (fun _ => True) (fun _ => XT D A ad K hB mB rB tz tc Q qa tp bo e uc lr nx b t z f) := by
  refine ct_of (lo0 := [(0, .ref (kT ad b t)), (1, vI r), (2, vI g)]) (by decide) (Nat.le_of_ble_eq_true rfl) rfl ?_
  intro G hG hR
  have htc := tcol_rng t
  have htl := tlen_rng t
  have hzm := zc_mul (z := z) (t := t) (by omega)
  have hrm : 0 * tcol t ≤ r * tcol t := Int.mul_le_mul_of_nonneg_right hrr.1 (by omega)
  have hrm2 : (r + 1) * tcol t ≤ z * tcol t := Int.mul_le_mul_of_nonneg_right (by omega) (by omega)
  have hrm3 := zc_mul (z := r) (t := t) (by omega)
  refine v_iload_n hG dX7_at_0 rfl 1 rfl ?_
  refine v_iconst hG dX7_at_1 ?_
  refine v_aload_n hG dX7_at_2 rfl 0 rfl ?_
  refine y7_get hb ht hG dX7_at_3 zf_X7_19 (k := 2) (by decide) (v := vI z) rfl ?_
  refine v_iconst hG dX7_at_6 ?_
  refine v_isub hG dX7_at_7 ?_
  refine v_callSN (k1' := 0) (k2' := 0) hG dX7_at_8 zc_X11_within ⟨zl_X7_26, zt_X11_within⟩ (fun l => kc11_within l D A (XT D A ad K hB mB rB tz tc Q qa tp bo e uc lr nx b t z f) r 0 (z - 1) (by omega) (by omega) (by omega)) rfl (fun _ h => h) ⟨by decide, by decide⟩ rfl rfl ⟨by decide, by decide⟩ (rest := []) rfl (Nat.le_of_ble_eq_true rfl) (fun u1 => [vI (bi (0 ≤ r ∧ r ≤ (z - 1)))]) (fun _ => rfl) (fun u1 hu1 => ?_)
  refine v_ifb_eq (p := 0 ≤ r ∧ r ≤ (z - 1)) (tgt := 28) hG dX7_at_11 (by decide) (fun c2 => ?_) (fun c2 => ?_)
  · skip
    exfalso; omega
  · skip
    refine v_iload_n hG dX7_at_14 rfl 2 rfl ?_
    refine v_iconst hG dX7_at_15 ?_
    refine v_aload_n hG dX7_at_16 rfl 0 rfl ?_
    refine y7_get hb ht hG dX7_at_17 zf_X7_15 (k := 1) (by decide) (v := vI (tcol t)) rfl ?_
    refine v_iconst hG dX7_at_20 ?_
    refine v_isub hG dX7_at_21 ?_
    refine v_callSN (k1' := 0) (k2' := 0) hG dX7_at_22 zc_X11_within ⟨zl_X7_26, zt_X11_within⟩ (fun l => kc11_within l D A (XT D A ad K hB mB rB tz tc Q qa tp bo e uc lr nx b t z f) g 0 ((tcol t) - 1) (by omega) (by omega) (by omega)) rfl (fun _ h => h) ⟨by decide, by decide⟩ rfl rfl ⟨by decide, by decide⟩ (rest := []) rfl (Nat.le_of_ble_eq_true rfl) (fun u3 => [vI (bi (0 ≤ g ∧ g ≤ ((tcol t) - 1)))]) (fun _ => rfl) (fun u3 hu3 => ?_)
    refine v_ifb_ne (p := 0 ≤ g ∧ g ≤ ((tcol t) - 1)) (tgt := 30) hG dX7_at_25 (by decide) (fun c4 => ?_) (fun c4 => ?_)
    · skip
      refine v_aload_n hG dX7_at_30 rfl 0 rfl ?_
      refine y7_get hb ht hG dX7_at_31 zf_X7_9 (k := 0) (by decide) (v := .ref (kC ad b t)) rfl ?_
      refine v_iload_n hG dX7_at_34 rfl 1 rfl ?_
      refine v_aload_n hG dX7_at_35 rfl 0 rfl ?_
      refine y7_get hb ht hG dX7_at_36 zf_X7_15 (k := 1) (by decide) (v := vI (tcol t)) rfl ?_
      refine v_imul hG dX7_at_39 ?_
      refine v_iload_n hG dX7_at_40 rfl 2 rfl ?_
      refine v_iadd hG dX7_at_41 ?_
      refine y7_ld hb ht hG dX7_at_42 (by omega) rfl ?_
      have e5 : @Eq Int (f (r * tcol t + g)) (f ((r * (tcol t)) + g)) := by first | rfl | omega | (exact bi_congr (by omega)) | (simp [c2, c4]; done)
      exact v_ireturn hG hR dX7_at_43 () (congrArg (fun z => some (vI z)) e5) (by trivial) (fun _ hM => hM)
    · skip
      exfalso; omega
set_option maxHeartbeats 4000000 in
set_option maxRecDepth 100000 in
theorem kc7_copyFrom (l : Launch) (D : Dx) (A : Nat → Prop) (ad : Nat → Nat) (K : Int → Int) (hB mB rB tz : Nat → Int → Int) (tc : Nat → Int → Int) (Q qa : Nat → Int → Int) (tp : Nat → Nat) (bo e uc lr nx : Int → Int) (b t : Nat) (z : Int) (f : Int → Int) (hb : b < 3) (ht : t < 4) (c : Nat) (hc3 : c < 3) (hcb : c ≠ b) (hz : 0 ≤ tz c t ∧ tz c t ≤ 500) (hfit : tz c t * tcol t ≤ (tlen t : Int)) : CT l D A yX7_copyFrom cX7_copyFrom 3 none { frames := 0, cells := 0, slots := 0, locals := 0 } [.ref (kT ad b t), .ref (kT ad c t)] (XT D A ad K hB mB rB tz tc Q qa tp bo e uc lr nx b t z f) (fun _ : Unit => none) (fun _ => True) (fun _ => XT D A ad K hB mB rB tz tc Q qa tp bo e uc lr nx b t (tz c t) (cpy (tz c t * tcol t) (tc (4 * c + t)) f)) := by
  refine ct_of (lo0 := [(0, .ref (kT ad b t)), (1, .ref (kT ad c t))]) (by decide) (Nat.le_of_ble_eq_true rfl) rfl ?_
  intro G hG hR
  have htc := tcol_rng t
  have htl := tlen_rng t
  have hzm := zc_mul (z := tz c t) (t := t) (by omega)
  refine v_aload_n hG dX7_copyFrom_0 rfl 0 rfl ?_
  refine v_aload_n hG dX7_copyFrom_1 rfl 1 rfl ?_
  refine y7_getO hcb hc3 ht hG dX7_copyFrom_2 zf_X7_19 (k := 2) (by decide) (v := vI (tz c t)) rfl ?_
  refine y7_size hb ht hG dX7_copyFrom_5 zf_X7_19 ?_
  refine v_iconst hG dX7_copyFrom_8 ?_
  refine v_istore_n (lo' := [(2, vI 0), (0, .ref (kT ad b t)), (1, .ref (kT ad c t))]) hG dX7_copyFrom_9 rfl (by decide) rfl ?_
  refine v_lo [1, 2, 0] (lo' := [(0, .ref (kT ad b t)), (1, .ref (kT ad c t)), (2, vI 0)]) rfl ?_
  have L3 : ∀ mz : Nat, ∀ (k : Nat), ((k : Int) ≤ tz c t * tcol t) → (tz c t * tcol t - (k : Int)).toNat = mz → ∀ x1 : Int, x1 = ((k : Int)) → ∀ x2 : Int → Int, x2 = (cpy (k : Int) (tc (4 * c + t)) f) → V G 0 0 (XT D A ad K hB mB rB tz tc Q qa tp bo e uc lr nx b t (tz c t) x2) 10 [(0, .ref (kT ad b t)), (1, .ref (kT ad c t)), (2, vI x1)] [] := by
    intro dL3
    induction dL3 using Nat.strongRecOn with
    | ind dL3 ihL3 =>
      intro k hq4 hq5
      intro x1 hx1
      subst hx1
      intro x2 hx2
      subst hx2
      refine v_iload_n hG dX7_copyFrom_10 rfl 2 rfl ?_
      refine v_aload_n hG dX7_copyFrom_11 rfl 0 rfl ?_
      refine y7_get hb ht hG dX7_copyFrom_12 zf_X7_19 (k := 2) (by decide) (v := vI (tz c t)) rfl ?_
      refine v_aload_n hG dX7_copyFrom_15 rfl 0 rfl ?_
      refine y7_get hb ht hG dX7_copyFrom_16 zf_X7_15 (k := 1) (by decide) (v := vI (tcol t)) rfl ?_
      refine v_imul hG dX7_copyFrom_19 ?_
      refine v_icmp_ge (tgt := 59) hG dX7_copyFrom_20 (by decide) (by omega) (by omega) (fun c6 => ?_) (fun c6 => ?_)
      · skip
        have e7 : cpy (k : Int) (tc (4 * c + t)) f = cpy (tz c t * tcol t) (tc (4 * c + t)) f := by rw [show (k : Int) = tz c t * tcol t by omega]
        exact v_return hG hR dX7_copyFrom_59 () rfl (by trivial) (fun _ hM => by rw [← e7]; exact hM)
      · skip
        refine v_iload_n hG dX7_copyFrom_23 rfl 2 rfl ?_
        refine v_aload_n hG dX7_copyFrom_24 rfl 0 rfl ?_
        refine y7_get hb ht hG dX7_copyFrom_25 zf_X7_9 (k := 0) (by decide) (v := .ref (kC ad b t)) rfl ?_
        refine y7_len hb ht hG dX7_copyFrom_28 ?_
        refine v_icmp_ge (tgt := 59) hG dX7_copyFrom_29 (by decide) (by omega) (by omega) (fun c8 => ?_) (fun c8 => ?_)
        · skip
          have e9 : cpy (k : Int) (tc (4 * c + t)) f = cpy (tz c t * tcol t) (tc (4 * c + t)) f := by rw [show (k : Int) = tz c t * tcol t by omega]
          exact v_return hG hR dX7_copyFrom_59 () rfl (by trivial) (fun _ hM => by rw [← e9]; exact hM)
        · skip
          refine v_iload_n hG dX7_copyFrom_32 rfl 2 rfl ?_
          refine v_aload_n hG dX7_copyFrom_33 rfl 1 rfl ?_
          refine y7_getO hcb hc3 ht hG dX7_copyFrom_34 zf_X7_9 (k := 0) (by decide) (v := .ref (kC ad c t)) rfl ?_
          refine y7_len hc3 ht hG dX7_copyFrom_37 ?_
          refine v_icmp_ge (tgt := 59) hG dX7_copyFrom_38 (by decide) (by omega) (by omega) (fun c10 => ?_) (fun c10 => ?_)
          · skip
            have e11 : cpy (k : Int) (tc (4 * c + t)) f = cpy (tz c t * tcol t) (tc (4 * c + t)) f := by rw [show (k : Int) = tz c t * tcol t by omega]
            exact v_return hG hR dX7_copyFrom_59 () rfl (by trivial) (fun _ hM => by rw [← e11]; exact hM)
          · skip
            refine v_aload_n hG dX7_copyFrom_41 rfl 0 rfl ?_
            refine y7_get hb ht hG dX7_copyFrom_42 zf_X7_9 (k := 0) (by decide) (v := .ref (kC ad b t)) rfl ?_
            refine v_iload_n hG dX7_copyFrom_45 rfl 2 rfl ?_
            refine v_aload_n hG dX7_copyFrom_46 rfl 1 rfl ?_
            refine y7_getO hcb hc3 ht hG dX7_copyFrom_47 zf_X7_9 (k := 0) (by decide) (v := .ref (kC ad c t)) rfl ?_
            refine v_iload_n hG dX7_copyFrom_50 rfl 2 rfl ?_
            refine y7_ldO hcb hc3 ht hG dX7_copyFrom_51 (by omega) rfl ?_
            refine y7_st hb ht hG dX7_copyFrom_52 (by omega) ?_
            refine v_iinc (lo' := [(2, vI ((k : Int) + 1)), (0, .ref (kT ad b t)), (1, .ref (kT ad c t))]) hG dX7_copyFrom_53 2 rfl (by decide) rfl ?_
            refine v_goto (tgt := 10) hG dX7_copyFrom_56 (by decide) ?_
            refine v_lo [1, 2, 0] (lo' := [(0, .ref (kT ad b t)), (1, .ref (kT ad c t)), (2, vI ((k : Int) + 1))]) rfl ?_
            exact ihL3 _ (by omega) (k + 1) (by omega) rfl _ (by first | omega | rfl | (simp [c6, c8, c10]; done)) _ (by exact cpy_step)
  exact L3 _ 0 (by omega) rfl _ (by first | omega | rfl | (simp []; done)) _ (by exact cpy_0.symm)
