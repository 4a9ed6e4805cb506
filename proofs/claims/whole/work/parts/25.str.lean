/-! ROWS of the texts' own members -/
section VSTR
variable {D : Dx} {A : Nat → Prop} {G : Gx} {cc : ByteArray} {nL : Nat} {own : String} {rm : Room} {k1 k2 pc : Nat} {P P' : Heap → Prop} {lo : List (Nat × Value)} {st : List Value}
abbrev zK (D : Dx) (i : Nat) : Nat := D.2.2.2.2.2.1 i
abbrev zV (D : Dx) (i : Nat) : Nat := D.2.2.2.2.2.2 i
def zn (i : Nat) : Int := ((zlen.getD i 0 : Nat) : Int)
def zch (i : Nat) (k : Int) : Int := ((zbyt.getD i []).getD k.toNat 0).toInt
theorem zn_rng (i : Nat) (h : i < 7) : 0 ≤ zn i ∧ zn i ≤ 16 := by
  have e : ∀ i, i < 7 → 0 ≤ zn i ∧ zn i ≤ 16 := by decide +kernel
  exact e i h
theorem zch_rng (i : Nat) (h : i < 7) {k : Int} (hk : 0 ≤ k ∧ k < 16) : 0 ≤ zch i k ∧ zch i k ≤ 127 := by
  have e : ∀ i, i < 7 → ∀ k : Nat, k < 16 → 0 ≤ zch i (k : Int) ∧ zch i (k : Int) ≤ 127 := by decide +kernel
  have := e i h k.toNat (by omega)
  rw [Int.toNat_of_nonneg hk.1] at this
  exact this
theorem v_ldcS {idx i : Nat} {tx : String} (hG : Ok D A G cc nL own rm) (hd : decode cc pc = .ok (.ldc idx, 2)) (hi : (own, idx, tx, i) ∈ ztx) (kk : V G k1 k2 P (pc + 2) lo (.ref (zK D i) :: st)) : V G k1 k2 P pc lo st := by
  obtain ⟨p, l, e, R, s, m, args, below, meth, c, A', Q⟩ := G
  obtain ⟨hrm, hx, hb, hml, hown, hts, hA, hK⟩ := hG
  subst hA
  intro H locs ls hP hS hl
  exact va_ldcS hx hb hown (hK.2.2.2.1 _ hi) hd (kk H locs ls hP hS hl)
theorem v_strval {i : Nat} (hG : Ok D A G cc nL "java/lang/String" rm) (hd : decode cc pc = .ok (.getfield 9, 3)) (hi : i < 7) (kk : V G k1 k2 P (pc + 3) lo (.ref (zV D i) :: st)) : V G k1 k2 P pc lo (.ref (zK D i) :: st) := by
  obtain ⟨p, l, e, R, s, m, args, below, meth, c, A', Q⟩ := G
  obtain ⟨hrm, hx, hb, hml, hown, hts, hA, hK⟩ := hG
  subst hA
  intro H locs ls hP hS hl
  exact vk_getf hx hb (hK.2.2.2.2.1.1 i hi).2.2.1 hS hown (hts _ (ztb 1569 (by decide +kernel) (by decide +kernel))) (fun _ h => h) hd (kk H locs ls hP hS hl)
theorem v_strcod {i : Nat} (hG : Ok D A G cc nL "java/lang/String" rm) (hd : decode cc pc = .ok (.getfield 15, 3)) (hi : i < 7) (kk : V G k1 k2 P (pc + 3) lo (vI 0 :: st)) : V G k1 k2 P pc lo (.ref (zK D i) :: st) := by
  obtain ⟨p, l, e, R, s, m, args, below, meth, c, A', Q⟩ := G
  obtain ⟨hrm, hx, hb, hml, hown, hts, hA, hK⟩ := hG
  subst hA
  intro H locs ls hP hS hl
  exact vk_getf hx hb (hK.2.2.2.2.1.1 i hi).2.1 hS hown (hts _ (ztb 1570 (by decide +kernel) (by decide +kernel))) (fun _ h => h) hd (kk H locs ls hP hS hl)
theorem v_strcmp (hG : Ok D A G cc nL "java/lang/String" rm) (hd : decode cc pc = .ok (.getstatic 38, 3)) (kk : V G k1 k2 P (pc + 3) lo (vI 1 :: st)) : V G k1 k2 P pc lo st := by
  obtain ⟨p, l, e, R, s, m, args, below, meth, c, A', Q⟩ := G
  obtain ⟨hrm, hx, hb, hml, hown, hts, hA, hK⟩ := hG
  subst hA
  intro H locs ls hP hS hl
  exact va_gets hx hb hK.2.2.2.2.2.1 hS hown (hts _ (ztb 300 (by decide +kernel) (by decide +kernel))) (fun _ h => h) hd (kk H locs ls hP hS hl)
theorem v_strfmt (hG : Ok D A G cc nL "java/lang/String" rm) (hd : decode cc pc = .ok (.getstatic 1053, 3)) (kn : V G k1 k2 P (pc + 3) lo (.null :: st)) (kk : ∀ t : Nat, V G k1 k2 P (pc + 3) lo (.ref t :: st)) : V G k1 k2 P pc lo st := by
  obtain ⟨p, l, e, R, s, m, args, below, meth, c, A', Q⟩ := G
  obtain ⟨hrm, hx, hb, hml, hown, hts, hA, hK⟩ := hG
  subst hA
  intro H locs ls hP hS hl
  rcases hK.2.2.2.2.2.2 with z | ⟨t, z⟩
  · exact va_gets hx hb z hS hown (hts _ (ztb 316 (by decide +kernel) (by decide +kernel))) (fun _ h => h) hd (kn H locs ls hP hS hl)
  · exact va_gets hx hb z hS hown (hts _ (ztb 316 (by decide +kernel) (by decide +kernel))) (fun _ h => h) hd (kk t H locs ls hP hS hl)
theorem v_strlen {i : Nat} (hG : Ok D A G cc nL own rm) (hd : decode cc pc = .ok (.arraylength, 1)) (hi : i < 7) (kk : V G k1 k2 P (pc + 1) lo (vI (zn i) :: st)) : V G k1 k2 P pc lo (.ref (zV D i) :: st) := by
  obtain ⟨p, l, e, R, s, m, args, below, meth, c, A', Q⟩ := G
  obtain ⟨hrm, hx, hb, hml, hown, hts, hA, hK⟩ := hG
  subst hA
  intro H locs ls hP hS hl
  have e9 : ∀ i, i < 7 → Int32.ofNat (zlen.getD i 0) = ii (zn i) := by decide +kernel
  exact va_tlen hx hb (hK.2.2.2.2.1.1 i hi).2.2.2 hS (e9 i hi) hd (kk H locs ls hP hS hl)
theorem v_strld {i : Nat} {k : Int} (hG : Ok D A G cc nL own rm) (hd : decode cc pc = .ok (.baload, 1)) (hi : i < 7) (hk : 0 ≤ k ∧ k < zn i) (kk : V G k1 k2 P (pc + 1) lo (vI (zch i k) :: st)) : V G k1 k2 P pc lo (vI k :: .ref (zV D i) :: st) := by
  obtain ⟨p, l, e, R, s, m, args, below, meth, c, A', Q⟩ := G
  obtain ⟨hrm, hx, hb, hml, hown, hts, hA, hK⟩ := hG
  subst hA
  intro H locs ls hP hS hl
  have hr := zn_rng i hi
  refine va_tb hx hb (hK.2.2.2.2.1.1 i hi).2.2.2 hS (ii_in hk (by unfold zn at hr; omega)) (v := vI (zch i k)) ?_ hd (kk H locs ls hP hS hl)
  rw [ii_clamp (by omega)]
  show Value.int _ = .int (ii _)
  unfold zch
  rw [ii_of]
variable {y x : MethodName} {bytes : ByteArray} {maxL n idx : Nat} {ret : Option FieldType} {rm' : Room} {As rest : List Value} {b : Nat} {S : Type} {rv : S → Option Value} {φ : S → Prop} {P1 : S → Heap → Prop} {k1' k2' : Nat}
theorem v_callK {i : Nat} (hi : i < 7) (hcl : y.cls = "java/lang/String") (hG : Ok D A G cc nL own rm) (hd : decode cc pc = .ok (.invokevirtual idx, 3)) (hc : zC y bytes maxL ret n) (hl : Cond.methodLink own idx y ∈ zTB ∧ Cond.instanceMethod y ∈ zTB ∧ Cond.selects y.cls y y ∈ zTB) (hM : ∀ l, CT l D A y bytes maxL ret rm' (.ref (zK D i) :: As) P' rv φ P1) (hn : As.length = n) (hP : ∀ H, P H → P' H) (hroom : rm'.frames + 1 ≤ rm.frames ∧ 8 + (maxL + 11) + rm'.locals ≤ rm.locals) (h1 : k1 + rm'.cells = k1') (h2 : k2 + rm'.slots = k2') (h3 : k1' ≤ rm.cells ∧ k2' ≤ rm.slots) (hst : st = As.reverse ++ .ref (zK D i) :: rest) (hw : (rest.map fun v => v.category).sum ≤ 8) (out : S → List Value) (hout : ∀ u, (rv u).toList ++ rest = out u) (kk : ∀ u, φ u → V G k1' k2' (P1 u) (pc + 3) lo (out u)) : V G k1 k2 P pc lo st := by
  refine v_of_run (A := A) (a := (Value.ref (zK D i) :: As).toArray) h1 h2 out hout (fun p l e R s m args below meth c A' Q hg => by subst hg; exact hG.2.2.2.2.2.2.1) (fun p l e R s m args below meth c A' Q hg => ?_) kk
  subst hg
  obtain ⟨hrm, hx, hb, hml, hown, hts, hA, hK⟩ := hG
  subst hrm; subst hA
  intro H locs ls hp hS hlv
  have hz := zpre (l := l) (av := .ref (zK D i) :: As) hP hK hS hp
  exact va_runV (nL := c.maxLocals) ⟨hx, hb, rfl, hown, hts⟩ (hM l) ⟨zcb hts hc hl.1 hroom, hts _ hl.2.1, hts _ hl.2.2⟩ ⟨hz.1, by rw [hcl]; exact vk_recv hK.2.2.2.2.1 hi hS, hz.2⟩ rfl hn hlv.1 hst (lv_room hw) hd ⟨by rw [h1]; exact h3.1, by rw [h2]; exact h3.2⟩
theorem v_xreturn {S : Type} {ty : FieldType} {rv : S → Option Value} {φ : S → Prop} {P1 : S → Heap → Prop} {nm : String} {x : Int} (hG : Ok D A G cc nL own rm) (hR : Rt G (some ty) (QV rv φ P1 A) k1 k2 nm) (hd : decode cc pc = .ok (.ireturn, 1)) (hz : narrow ty (vI x) = vI x) (u : S) (hv : rv u = some (vI x)) (hφ : φ u) (hp : ∀ H, P H → P1 u H) : V G k1 k2 P pc lo [vI x] := by
  obtain ⟨p, l, e, R, s, m, args, below, meth, c, A', Q⟩ := G
  obtain ⟨hrm, hx, hb, hml, hown, hts, hA, hK⟩ := hG
  intro H locs ls hP hS hl
  obtain ⟨hr, hlocks, hQ, -⟩ := hR
  subst hQ; subst hA
  exact W.zret hx hb hr hz (fun t ht hW => ⟨⟨u, by rw [hv], hφ, by rw [ht]; exact hp H hP⟩, hS.F ht⟩) hS.2.2 hd hlocks
theorem nar_char {x : Int} (h : 0 ≤ x ∧ x ≤ 127) : narrow .char (vI x) = vI x := by
  obtain ⟨n, rfl⟩ := Int.eq_ofNat_of_zero_le h.1
  have e : ∀ n : Nat, n < 128 → narrow .char (vI (n : Int)) = vI (n : Int) := by decide +kernel
  exact e n (by omega)
theorem iand_255 {x : Int} (h : 0 ≤ x ∧ x ≤ 127) : iand x 255 = x := by
  obtain ⟨n, rfl⟩ := Int.eq_ofNat_of_zero_le h.1
  have e : ∀ n : Nat, n < 128 → iand (n : Int) 255 = (n : Int) := by decide +kernel
  exact e n (by omega)
end VSTR
