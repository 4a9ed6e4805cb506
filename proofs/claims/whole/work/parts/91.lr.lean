/-! ROWS OF THE LAW; the two worlds side by side -/
/-- what is the law's own of a walk: its end, its script, where it may write -/
def LG (b L : Nat) (xs : Nat → Int32) (a0 : Nat) : Gx → Prop
  | (_, _, _, R, s, _, args, below, meth, c, A, Q) => R = room_1 ∧ args = #[Value.ref b] ∧ Q = lw_Z below #[Value.ref b] s ∧ va_X b L xs s s.heap ∧ b < s.heap.size ∧ s.heap.size = a0 ∧ A = (fun q => a0 ≤ q) ∧ meth.sig.returnType = ret ∧ meth.locks = false ∧ c.code = code
section LR
variable {D : Dx} {A : Nat → Prop} {G : Gx} {cc : ByteArray} {nL : Nat} {own : String} {rm : Room} {k1 k2 pc : Nat} {P P' : Heap → Prop} {lo : List (Nat × Value)} {st : List Value} {b L a0 : Nat} {xs : Nat → Int32}
theorem v_sld {x : Int} (hG : Ok D A G cc nL own rm) (hL : LG b L xs a0 G) (hd : decode cc pc = .ok (.iaload, 1)) (hn : L ≤ 2560) (hx : 0 ≤ x ∧ x < L) (kk : V G k1 k2 P (pc + 1) lo (vI (xs x.toNat).toInt :: st)) : V G k1 k2 P pc lo (vI x :: .ref b :: st) := by
  obtain ⟨p, l, e, R, s, m, args, below, meth, c, A', Q⟩ := G
  obtain ⟨hrm, hx0, hb, hml, hown, hts, hA, hK⟩ := hG
  obtain ⟨l1, l2, l3, l4, l5, l6, l7, -⟩ := hL
  subst l7
  intro H locs ls hP hS hl
  refine va_sld hx0 hb l4 l5 (by omega) hS (ii_in hx (by omega)) hd ?_
  rw [ii_clamp (by omega), ii_eqT (xs x.toNat)]
  exact kk H locs ls hP hS hl
theorem v_slen (hG : Ok D A G cc nL own rm) (hL : LG b L xs a0 G) (hd : decode cc pc = .ok (.arraylength, 1)) (kk : V G k1 k2 P (pc + 1) lo (vI (L : Int) :: st)) : V G k1 k2 P pc lo (.ref b :: st) := by
  obtain ⟨p, l, e, R, s, m, args, below, meth, c, A', Q⟩ := G
  obtain ⟨hrm, hx0, hb, hml, hown, hts, hA, hK⟩ := hG
  obtain ⟨l1, l2, l3, l4, l5, l6, l7, -⟩ := hL
  subst l7
  intro H locs ls hP hS hl
  refine va_slen hx0 hb l4 l5 (by omega) hS hd ?_
  rw [← ii_nat]
  exact kk H locs ls hP hS hl
theorem v_icmp_eqR {x : Int} {off : Int} {tgt : Nat} (hG : Ok D A G cc nL own rm) (hd : decode cc pc = .ok (.if_icmp .eq off, 3)) (ht : (pc : Int) + off = (tgt : Int)) (kt : V G k1 k2 P tgt lo st) : V G k1 k2 P pc lo (vI x :: vI x :: st) := by
  obtain ⟨p, l, e, R, s, m, args, below, meth, c, A', Q⟩ := G
  obtain ⟨hrm, hx, hb, hml, hown, hts, hA, hK⟩ := hG
  intro H locs ls hP hS hl
  exact lv_icmp_eq hx hb hd ht (fun _ => kt H locs ls hP hS hl) (fun q => absurd rfl q)
theorem v_lcmpR {x : Int} (hG : Ok D A G cc nL own rm) (hd : decode cc pc = .ok (.lcmp, 1)) (kk : V G k1 k2 P (pc + 1) lo (vI 0 :: st)) : V G k1 k2 P pc lo (vL x :: vL x :: st) := by
  obtain ⟨p, l, e, R, s, m, args, below, meth, c, A', Q⟩ := G
  obtain ⟨hrm, hx, hb, hml, hown, hts, hA, hK⟩ := hG
  intro H locs ls hP hS hl
  refine W.lcmp hx hb hd ?_
  have e0 : lg_cmp (ll x) (ll x) = ii 0 := by
    unfold lg_cmp
    rw [if_neg (fun q => Int64.lt_irrefl q), if_pos rfl]
    rfl
  rw [e0]
  exact kk H locs ls hP hS hl
/-- the law's end -/
theorem v_lawret (hG : Ok D A G cc nL own rm) (hL : LG b L xs a0 G) (hk : k1 ≤ 600000 ∧ k2 ≤ 7302250) (hd : decode code pc = .ok (.ireturn, 1)) : V G k1 k2 P pc lo [vI 1] := by
  obtain ⟨p, l, e, R, s, m, args, below, meth, c, A', Q⟩ := G
  obtain ⟨hrm, hx, hb, hml, hown, hts, hA, hK⟩ := hG
  obtain ⟨l1, l2, l3, l4, l5, l6, l7, l8, l9, l10⟩ := hL
  subst l7; subst l3; subst l2; subst l1
  intro H locs ls hP hS hl
  refine W.widen hk.1 hk.2 ?_
  refine va_forget (fun q hq => ?_) (lw_ret hx l10 l8 l9 hd)
  have := hS.2.2 q hq
  rw [l6]; exact this
end LR
/-! the two worlds -/
def AC (a0 : Nat) : Nat → Prop := fun q => a0 ≤ q ∧ ¬ (a0 + 97 ≤ q ∧ q < a0 + 106)
def AM (a0 : Nat) : Nat → Prop := fun q => a0 + 97 ≤ q ∧ q < a0 + 106
def amL (a0 : Nat) : Nat → Nat := fun k => a0 + 97 + k
def S3 (s ic t : Int → Int) : Nat → Int → Int := fun q => if q = 0 then s else if q = 1 then ic else t
theorem S3_0 {s ic t x : Int → Int} : uS (S3 s ic t) 0 x = S3 x ic t := by
  funext q
  unfold uS S3
  (repeat' split) <;> first | rfl | omega
theorem S3_20 {s ic t x y : Int → Int} : uS (uS (S3 s ic t) 2 y) 0 x = uS (uS (uS (S3 x ic t) 0 x) 1 ic) 2 y := by
  funext q
  unfold uS S3
  (repeat' split) <;> first | rfl | omega
/-- what is seen of rows behind the third -/
theorem CW_S {D : Dx} {A : Nat → Prop} {ad : Nat → Nat} {K : Int → Int} {S S' Q qa : Nat → Int → Int} {tp : Nat → Nat} {bo e uc lr nx : Int → Int} {H : Heap} (h : ∀ b, b < 3 → S' b = S b) (hw : CW D A ad K S Q qa tp bo e uc lr nx H) : CW D A ad K S' Q qa tp bo e uc lr nx H := by
  obtain ⟨hB, mB, rB, tz, tc, hA, hX⟩ := hw
  exact ⟨hB, mB, rB, tz, tc, fun b hb => by rw [h b hb]; exact hA b hb, hX⟩
theorem CW_3 {D : Dx} {A : Nat → Prop} {ad : Nat → Nat} {K : Int → Int} {S Q qa : Nat → Int → Int} {tp : Nat → Nat} {bo e uc lr nx s ic t : Int → Int} {H : Heap} (h0 : S 0 = s) (h1 : S 1 = ic) (h2 : S 2 = t) (hw : CW D A ad K S Q qa tp bo e uc lr nx H) : CW D A ad K (S3 s ic t) Q qa tp bo e uc lr nx H := by
  refine CW_S (fun b hb => ?_) hw
  rcases (show b = 0 ∨ b = 1 ∨ b = 2 by omega) with rfl | rfl | rfl
  · exact h0.symm
  · exact h1.symm
  · exact h2.symm
theorem CW_3r {D : Dx} {A : Nat → Prop} {ad : Nat → Nat} {K : Int → Int} {S Q qa : Nat → Int → Int} {tp : Nat → Nat} {bo e uc lr nx s ic t : Int → Int} {H : Heap} (h0 : S 0 = s) (h1 : S 1 = ic) (h2 : S 2 = t) (hw : CW D A ad K (S3 s ic t) Q qa tp bo e uc lr nx H) : CW D A ad K S Q qa tp bo e uc lr nx H := by
  refine CW_S (fun b hb => ?_) hw
  rcases (show b = 0 ∨ b = 1 ∨ b = 2 by omega) with rfl | rfl | rfl
  · exact h0
  · exact h1
  · exact h2
theorem XW_same {D : Dx} {A : Nat → Prop} {ad : Nat → Nat} {K : Int → Int} {hB mB rB tz : Nat → Int → Int} {tc : Nat → Int → Int} {Q qa : Nat → Int → Int} {tp : Nat → Nat} {bo e uc lr nx : Int → Int} {H H' : Heap} (h : XW D A ad K hB mB rB tz tc Q qa tp bo e uc lr nx H) (ho : ∀ q, q < H.size → A q → H'[q]? = H[q]?) : XW D A ad K hB mB rB tz tc Q qa tp bo e uc lr nx H' := by
  have k : ∀ {k : Nat} {v : va_E}, dom K k → va_at D.1 vwCl (ad k, v) H → va_at D.1 vwCl (ad k, v) H' := fun {k v} hk hv => hv.kept (ho _ (h.lt hk) (h.i.2.1 k hk))
  exact ⟨h.i, k (Or.inl (by omega)) h.f0, k (Or.inl (by omega)) h.f1, k (Or.inl (by omega)) h.f2, k (Or.inl (by omega)) h.f3, k (Or.inl (by omega)) h.f4, k (Or.inl (by omega)) h.f5, k (Or.inl (by omega)) h.f6, fun b hb => k (Or.inl (by omega)) (h.fb b hb), fun b hb => k (Or.inl (by omega)) (h.fa b hb), fun b t hb ht => k (Or.inl (by omega)) (h.ft b t hb ht), fun b t hb ht => k (Or.inl (by omega)) (h.fc b t hb ht), fun b x hb h0 h8 => k (Or.inl (by omega)) (h.fm b x hb h0 h8), fun b x hb h0 h8 h6 => k (dom_row hb h0 h8 h6) (h.fr b x hb h0 h8 h6), fun p hp => k (Or.inl (by omega)) (h.fp p hp), fun j p hj hp => k (Or.inl (by omega)) (h.fq j p hj hp)⟩
theorem CW_kept9 {D : Dx} {A : Nat → Prop} {ad : Nat → Nat} {K : Int → Int} {S Q qa : Nat → Int → Int} {tp : Nat → Nat} {bo e uc lr nx : Int → Int} {H H' : Heap} (h : CW D A ad K S Q qa tp bo e uc lr nx H) (ho : ∀ q, q < H.size → A q → H'[q]? = H[q]?) : CW D A ad K S Q qa tp bo e uc lr nx H' := by
  obtain ⟨hB, mB, rB, tz, tc, hA, hX⟩ := h
  exact ⟨hB, mB, rB, tz, tc, hA, XW_same hX ho⟩
theorem MW_same {D : Dx} {A : Nat → Prop} {a : Nat → Nat} {s im fr bY tr ln bl bo g lg : Int → Int} {H H' : Heap} (h : MW D A a s im fr bY tr ln bl bo g lg H) (ho : ∀ q, q < H.size → A q → H'[q]? = H[q]?) : MW D A a s im fr bY tr ln bl bo g lg H' := by
  refine ⟨fun k q hq => ?_, h.2⟩
  have hv := h.1 k q hq
  exact hv.kept (ho _ hv.lt (h.2.2 k q hq))
/-- beside the class's calls, beside the model's -/
def F1 (D : Dx) (a0 : Nat) (s im fr bY tr ln bl bo g lg : Int → Int) : Heap → Prop := fun H => MW D (AM a0) (amL a0) s im fr bY tr ln bl bo g lg H ∧ a0 + 106 ≤ H.size
def F2 (D : Dx) (a0 : Nat) (ad : Nat → Nat) (K : Int → Int) (S Q qa : Nat → Int → Int) (tp : Nat → Nat) (bo e uc lr nx : Int → Int) : Heap → Prop := fun H => CW D (AC a0) ad K S Q qa tp bo e uc lr nx H ∧ a0 + 106 ≤ H.size
theorem F1_st {D : Dx} {a0 : Nat} {s im fr bY tr ln bl bo g lg : Int → Int} {P : Heap → Prop} : ∀ H H' : Heap, F1 D a0 s im fr bY tr ln bl bo g lg H → P H → H.size ≤ H'.size → (∀ q, q < H.size → ¬ AC a0 q → H'[q]? = H[q]?) → F1 D a0 s im fr bY tr ln bl bo g lg H' := fun H H' h _ hz ho => ⟨MW_same h.1 (fun q h1 h2 => ho q h1 (fun h3 => h3.2 h2)), Nat.le_trans h.2 hz⟩
theorem F2_st {D : Dx} {a0 : Nat} {ad : Nat → Nat} {K : Int → Int} {S Q qa : Nat → Int → Int} {tp : Nat → Nat} {bo e uc lr nx : Int → Int} {P : Heap → Prop} : ∀ H H' : Heap, F2 D a0 ad K S Q qa tp bo e uc lr nx H → P H → H.size ≤ H'.size → (∀ q, q < H.size → ¬ AM a0 q → H'[q]? = H[q]?) → F2 D a0 ad K S Q qa tp bo e uc lr nx H' := fun H H' h _ hz ho => ⟨CW_kept9 h.1 (fun q h1 h2 => ho q h1 (fun h3 => h2.2 h3)), Nat.le_trans h.2 hz⟩
def LWP (D : Dx) (a0 : Nat) (ad : Nat → Nat) (K : Int → Int) (Q qa : Nat → Int → Int) (tp : Nat → Nat) (s im ic t fr bY tr ln bl bo g lg e uc lr nx : Int → Int) : Heap → Prop := fun H => CW D (AC a0) ad K (S3 s ic t) Q qa tp bo e uc lr nx H ∧ F1 D a0 s im fr bY tr ln bl bo g lg H
theorem l_act_len {s : Int → Int} {m a : Int} : (l_act s m a).length ≤ 1000 := by
  have h1 := cutL_len (s (50 + m))
  have h2 := prtL_len (s (50 + m))
  have h3 := telL_len (s (50 + m))
  have h4 : ([] : List Int).length = 0 := rfl
  unfold l_act actL
  (repeat' split) <;> omega
theorem S3_1 {s ic t : Int → Int} : S3 s ic t 1 = ic := rfl
theorem S3_2 {s ic t : Int → Int} : S3 s ic t 2 = t := rfl
theorem S3_00 {s ic t : Int → Int} : S3 s ic t 0 = s := rfl
/-- rows of a two-fold change, each by its lemma -/
theorem Sa_0 {S : Nat → Int → Int} {x : Int → Int} : uS S 0 x 0 = x := uS_eq
theorem Sa_1 {S : Nat → Int → Int} {x : Int → Int} : uS S 0 x 1 = S 1 := uS_ne (by decide)
theorem Sa_2 {S : Nat → Int → Int} {x : Int → Int} : uS S 0 x 2 = S 2 := uS_ne (by decide)
theorem Sb_1 {S : Nat → Int → Int} {y : Int → Int} : uS S 2 y 1 = S 1 := uS_ne (by decide)
theorem Sb_2 {S : Nat → Int → Int} {y : Int → Int} : uS S 2 y 2 = y := uS_eq
theorem Sc_1 {S : Nat → Int → Int} {y : Int → Int} : uS S 1 y 1 = y := uS_eq
theorem Sc_2 {S : Nat → Int → Int} {y : Int → Int} : uS S 1 y 2 = S 2 := uS_ne (by decide)
theorem Sc_0 {S : Nat → Int → Int} {y : Int → Int} : uS S 1 y 0 = S 0 := uS_ne (by decide)
