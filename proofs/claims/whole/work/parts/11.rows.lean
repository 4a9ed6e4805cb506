/-! ROWS: one for each instruction, over V -/
theorem ii_byte {n : Int} (h : -128 ≤ n ∧ n < 128) : (Int8.ofInt n).toInt32 = ii n := by
  apply Int32.toInt_inj.mp
  rw [Int8.toInt_toInt32, Int8.toInt_ofInt, ii_toInt (by omega), show Int8.size = 256 from rfl]
  exact Int.bmod_eq_of_le (by omega) (by omega)
theorem ii_short {n : Int} (h : -32768 ≤ n ∧ n < 32768) : (Int16.ofInt n).toInt32 = ii n := by
  apply Int32.toInt_inj.mp
  rw [Int16.toInt_toInt32, Int16.toInt_ofInt, ii_toInt (by omega), show Int16.size = 65536 from rfl]
  exact Int.bmod_eq_of_le (by omega) (by omega)
section VR
variable {D : Dx} {A : Nat → Prop} {G : Gx} {cc : ByteArray} {nL : Nat} {own : String} {rm : Room} {k1 k2 pc : Nat} {P : Heap → Prop} {lo : List (Nat × Value)} {st : List Value}
theorem v_iconst {n : Int} (hG : Ok D A G cc nL own rm) (hd : decode cc pc = .ok (.iconst n, 1)) (kk : V G k1 k2 P (pc + 1) lo (vI n :: st)) : V G k1 k2 P pc lo (st) := by
  obtain ⟨p, l, e, R, s, m, args, below, meth, c, A', Q⟩ := G
  obtain ⟨hrm, hx, hb, hml, hown, hts, hA, hK⟩ := hG
  intro H locs ls hP hS hl
  exact lv_iconst hx hb (v := ii n) hd rfl (kk H locs ls hP hS hl)
theorem v_bipush {n : Int} (hG : Ok D A G cc nL own rm) (hd : decode cc pc = .ok (.bipush n, 2)) (hn : -128 ≤ n ∧ n < 128) (kk : V G k1 k2 P (pc + 2) lo (vI n :: st)) : V G k1 k2 P pc lo (st) := by
  obtain ⟨p, l, e, R, s, m, args, below, meth, c, A', Q⟩ := G
  obtain ⟨hrm, hx, hb, hml, hown, hts, hA, hK⟩ := hG
  intro H locs ls hP hS hl
  exact lv_bipush hx hb (v := ii n) hd (ii_byte hn) (kk H locs ls hP hS hl)
theorem v_sipush {n : Int} (hG : Ok D A G cc nL own rm) (hd : decode cc pc = .ok (.sipush n, 3)) (hn : -32768 ≤ n ∧ n < 32768) (kk : V G k1 k2 P (pc + 3) lo (vI n :: st)) : V G k1 k2 P pc lo (st) := by
  obtain ⟨p, l, e, R, s, m, args, below, meth, c, A', Q⟩ := G
  obtain ⟨hrm, hx, hb, hml, hown, hts, hA, hK⟩ := hG
  intro H locs ls hP hS hl
  exact lv_sipush hx hb (v := ii n) hd (ii_short hn) (kk H locs ls hP hS hl)
theorem v_ldc {ix : Nat} {v : Int32} {n : Int} (hG : Ok D A G cc nL own rm) (hd : decode cc pc = .ok (.ldc ix, 2)) (hw : Cond.constant own ix v ∈ zTB) (hv : v = ii n) (kk : V G k1 k2 P (pc + 2) lo (vI n :: st)) : V G k1 k2 P pc lo (st) := by
  obtain ⟨p, l, e, R, s, m, args, below, meth, c, A', Q⟩ := G
  obtain ⟨hrm, hx, hb, hml, hown, hts, hA, hK⟩ := hG
  intro H locs ls hP hS hl
  subst hv
  exact lv_ldc hx hb hown (hts _ hw) hd (kk H locs ls hP hS hl)
theorem v_ldcw {ix : Nat} {v : Int32} {n : Int} (hG : Ok D A G cc nL own rm) (hd : decode cc pc = .ok (.ldc_w ix, 3)) (hw : Cond.constant own ix v ∈ zTB) (hv : v = ii n) (kk : V G k1 k2 P (pc + 3) lo (vI n :: st)) : V G k1 k2 P pc lo (st) := by
  obtain ⟨p, l, e, R, s, m, args, below, meth, c, A', Q⟩ := G
  obtain ⟨hrm, hx, hb, hml, hown, hts, hA, hK⟩ := hG
  intro H locs ls hP hS hl
  subst hv
  exact lv_ldcw hx hb hown (hts _ hw) hd (kk H locs ls hP hS hl)
theorem v_ldc2 {ix : Nat} {v : Int64} {n : Int} (hG : Ok D A G cc nL own rm) (hd : decode cc pc = .ok (.ldc2_w ix, 3)) (hw : Cond.constantLong own ix v ∈ zTB) (hv : v = ll n) (kk : V G k1 k2 P (pc + 3) lo (vL n :: st)) : V G k1 k2 P pc lo (st) := by
  obtain ⟨p, l, e, R, s, m, args, below, meth, c, A', Q⟩ := G
  obtain ⟨hrm, hx, hb, hml, hown, hts, hA, hK⟩ := hG
  intro H locs ls hP hS hl
  subst hv
  exact lv_ldc2 hx hb hown (hts _ hw) hd (kk H locs ls hP hS hl)
theorem v_lconst0  (hG : Ok D A G cc nL own rm) (hd : decode cc pc = .ok (.lconst 0, 1)) (kk : V G k1 k2 P (pc + 1) lo (vL 0 :: st)) : V G k1 k2 P pc lo (st) := by
  obtain ⟨p, l, e, R, s, m, args, below, meth, c, A', Q⟩ := G
  obtain ⟨hrm, hx, hb, hml, hown, hts, hA, hK⟩ := hG
  intro H locs ls hP hS hl
  exact lv_lconst hx hb (v := ll 0) hd rfl (kk H locs ls hP hS hl)
theorem v_lconst1  (hG : Ok D A G cc nL own rm) (hd : decode cc pc = .ok (.lconst 1, 1)) (kk : V G k1 k2 P (pc + 1) lo (vL 1 :: st)) : V G k1 k2 P pc lo (st) := by
  obtain ⟨p, l, e, R, s, m, args, below, meth, c, A', Q⟩ := G
  obtain ⟨hrm, hx, hb, hml, hown, hts, hA, hK⟩ := hG
  intro H locs ls hP hS hl
  exact lv_lconst hx hb (v := ll 1) hd rfl (kk H locs ls hP hS hl)
theorem v_iload_n {q : Fin 4} {i : Nat} {x : Int} (hG : Ok D A G cc nL own rm) (hd : decode cc pc = .ok (.iload_n q, 1)) (hi : (q : Nat) = i) (j : Nat) (hj : lo[j]? = some (i, vI x)) (kk : V G k1 k2 P (pc + 1) lo (vI x :: st)) : V G k1 k2 P pc lo (st) := by
  obtain ⟨p, l, e, R, s, m, args, below, meth, c, A', Q⟩ := G
  obtain ⟨hrm, hx, hb, hml, hown, hts, hA, hK⟩ := hG
  intro H locs ls hP hS hl
  exact lv_iload_n hx hb hd hi (lv_at hl j hj) (kk H locs ls hP hS hl)
theorem v_iload {i : Nat} {x : Int} (hG : Ok D A G cc nL own rm) (hd : decode cc pc = .ok (.iload i, 2)) (j : Nat) (hj : lo[j]? = some (i, vI x)) (kk : V G k1 k2 P (pc + 2) lo (vI x :: st)) : V G k1 k2 P pc lo (st) := by
  obtain ⟨p, l, e, R, s, m, args, below, meth, c, A', Q⟩ := G
  obtain ⟨hrm, hx, hb, hml, hown, hts, hA, hK⟩ := hG
  intro H locs ls hP hS hl
  exact lv_iload hx hb hd (lv_at hl j hj) (kk H locs ls hP hS hl)
theorem v_lload_n {q : Fin 4} {i : Nat} {x : Int} (hG : Ok D A G cc nL own rm) (hd : decode cc pc = .ok (.lload_n q, 1)) (hi : (q : Nat) = i) (j : Nat) (hj : lo[j]? = some (i, vL x)) (kk : V G k1 k2 P (pc + 1) lo (vL x :: st)) : V G k1 k2 P pc lo (st) := by
  obtain ⟨p, l, e, R, s, m, args, below, meth, c, A', Q⟩ := G
  obtain ⟨hrm, hx, hb, hml, hown, hts, hA, hK⟩ := hG
  intro H locs ls hP hS hl
  exact lv_lload_n hx hb hd hi (lv_at hl j hj) (kk H locs ls hP hS hl)
theorem v_lload {i : Nat} {x : Int} (hG : Ok D A G cc nL own rm) (hd : decode cc pc = .ok (.lload i, 2)) (j : Nat) (hj : lo[j]? = some (i, vL x)) (kk : V G k1 k2 P (pc + 2) lo (vL x :: st)) : V G k1 k2 P pc lo (st) := by
  obtain ⟨p, l, e, R, s, m, args, below, meth, c, A', Q⟩ := G
  obtain ⟨hrm, hx, hb, hml, hown, hts, hA, hK⟩ := hG
  intro H locs ls hP hS hl
  exact lv_lload hx hb hd (lv_at hl j hj) (kk H locs ls hP hS hl)
theorem v_aload_n {q : Fin 4} {i : Nat} {x : Nat} (hG : Ok D A G cc nL own rm) (hd : decode cc pc = .ok (.aload_n q, 1)) (hi : (q : Nat) = i) (j : Nat) (hj : lo[j]? = some (i, .ref x)) (kk : V G k1 k2 P (pc + 1) lo (.ref x :: st)) : V G k1 k2 P pc lo (st) := by
  obtain ⟨p, l, e, R, s, m, args, below, meth, c, A', Q⟩ := G
  obtain ⟨hrm, hx, hb, hml, hown, hts, hA, hK⟩ := hG
  intro H locs ls hP hS hl
  exact lv_aload_n hx hb hd hi (lv_at hl j hj) (kk H locs ls hP hS hl)
theorem v_aload {i : Nat} {x : Nat} (hG : Ok D A G cc nL own rm) (hd : decode cc pc = .ok (.aload i, 2)) (j : Nat) (hj : lo[j]? = some (i, .ref x)) (kk : V G k1 k2 P (pc + 2) lo (.ref x :: st)) : V G k1 k2 P pc lo (st) := by
  obtain ⟨p, l, e, R, s, m, args, below, meth, c, A', Q⟩ := G
  obtain ⟨hrm, hx, hb, hml, hown, hts, hA, hK⟩ := hG
  intro H locs ls hP hS hl
  exact lv_aload hx hb hd (lv_at hl j hj) (kk H locs ls hP hS hl)
theorem v_aloadN_n {q : Fin 4} {i : Nat}  (hG : Ok D A G cc nL own rm) (hd : decode cc pc = .ok (.aload_n q, 1)) (hi : (q : Nat) = i) (j : Nat) (hj : lo[j]? = some (i, .null)) (kk : V G k1 k2 P (pc + 1) lo (.null :: st)) : V G k1 k2 P pc lo (st) := by
  obtain ⟨p, l, e, R, s, m, args, below, meth, c, A', Q⟩ := G
  obtain ⟨hrm, hx, hb, hml, hown, hts, hA, hK⟩ := hG
  intro H locs ls hP hS hl
  exact lv_aload_nN hx hb hd hi (lv_at hl j hj) (kk H locs ls hP hS hl)
theorem v_aloadN {i : Nat}  (hG : Ok D A G cc nL own rm) (hd : decode cc pc = .ok (.aload i, 2)) (j : Nat) (hj : lo[j]? = some (i, .null)) (kk : V G k1 k2 P (pc + 2) lo (.null :: st)) : V G k1 k2 P pc lo (st) := by
  obtain ⟨p, l, e, R, s, m, args, below, meth, c, A', Q⟩ := G
  obtain ⟨hrm, hx, hb, hml, hown, hts, hA, hK⟩ := hG
  intro H locs ls hP hS hl
  exact lv_aloadN hx hb hd (lv_at hl j hj) (kk H locs ls hP hS hl)
theorem v_istore_n {f : Fin 4} {i : Nat} {x : Int} {lo' : List (Nat × Value)} (hG : Ok D A G cc nL own rm) (hd : decode cc pc = .ok (.istore_n f, 1)) (hi : (f : Nat) = i) (hn : i < nL) (hl' : (i, (vI x : Value)) :: lo.filter (fun q => !(q.1 == i) && !(q.1 + 1 == i && q.2.category == 2)) = lo') (kk : V G k1 k2 P (pc + 1) lo' st) : V G k1 k2 P pc lo (vI x :: st) := by
  obtain ⟨p, l, e, R, s, m, args, below, meth, c, A', Q⟩ := G
  obtain ⟨hrm, hx, hb, hml, hown, hts, hA, hK⟩ := hG
  intro H locs ls hP hS hl
  subst hml
  exact lv_istore_n hx hb hd hi hl hn hl' (fun ls' hl2 => kk H locs ls' hP hS hl2)
theorem v_istore {i : Nat} {x : Int} {lo' : List (Nat × Value)} (hG : Ok D A G cc nL own rm) (hd : decode cc pc = .ok (.istore i, 2))  (hn : i < nL) (hl' : (i, (vI x : Value)) :: lo.filter (fun q => !(q.1 == i) && !(q.1 + 1 == i && q.2.category == 2)) = lo') (kk : V G k1 k2 P (pc + 2) lo' st) : V G k1 k2 P pc lo (vI x :: st) := by
  obtain ⟨p, l, e, R, s, m, args, below, meth, c, A', Q⟩ := G
  obtain ⟨hrm, hx, hb, hml, hown, hts, hA, hK⟩ := hG
  intro H locs ls hP hS hl
  subst hml
  exact lv_istore hx hb hd hl hn hl' (fun ls' hl2 => kk H locs ls' hP hS hl2)
theorem v_lstore_n {f : Fin 4} {i : Nat} {x : Int} {lo' : List (Nat × Value)} (hG : Ok D A G cc nL own rm) (hd : decode cc pc = .ok (.lstore_n f, 1)) (hi : (f : Nat) = i) (hn : i + 1 < nL) (hl' : (i, (vL x : Value)) :: lo.filter (fun q => !(q.1 == i) && (!(q.1 == i + 1) && !(q.1 + 1 == i && q.2.category == 2))) = lo') (kk : V G k1 k2 P (pc + 1) lo' st) : V G k1 k2 P pc lo (vL x :: st) := by
  obtain ⟨p, l, e, R, s, m, args, below, meth, c, A', Q⟩ := G
  obtain ⟨hrm, hx, hb, hml, hown, hts, hA, hK⟩ := hG
  intro H locs ls hP hS hl
  subst hml
  exact lv_lstore_n hx hb hd hi hl hn hl' (fun ls' hl2 => kk H locs ls' hP hS hl2)
theorem v_lstore {i : Nat} {x : Int} {lo' : List (Nat × Value)} (hG : Ok D A G cc nL own rm) (hd : decode cc pc = .ok (.lstore i, 2))  (hn : i + 1 < nL) (hl' : (i, (vL x : Value)) :: lo.filter (fun q => !(q.1 == i) && (!(q.1 == i + 1) && !(q.1 + 1 == i && q.2.category == 2))) = lo') (kk : V G k1 k2 P (pc + 2) lo' st) : V G k1 k2 P pc lo (vL x :: st) := by
  obtain ⟨p, l, e, R, s, m, args, below, meth, c, A', Q⟩ := G
  obtain ⟨hrm, hx, hb, hml, hown, hts, hA, hK⟩ := hG
  intro H locs ls hP hS hl
  subst hml
  exact lv_lstore hx hb hd hl hn hl' (fun ls' hl2 => kk H locs ls' hP hS hl2)
theorem v_astore_n {f : Fin 4} {i : Nat} {x : Nat} {lo' : List (Nat × Value)} (hG : Ok D A G cc nL own rm) (hd : decode cc pc = .ok (.astore_n f, 1)) (hi : (f : Nat) = i) (hn : i < nL) (hl' : (i, (.ref x : Value)) :: lo.filter (fun q => !(q.1 == i) && !(q.1 + 1 == i && q.2.category == 2)) = lo') (kk : V G k1 k2 P (pc + 1) lo' st) : V G k1 k2 P pc lo (.ref x :: st) := by
  obtain ⟨p, l, e, R, s, m, args, below, meth, c, A', Q⟩ := G
  obtain ⟨hrm, hx, hb, hml, hown, hts, hA, hK⟩ := hG
  intro H locs ls hP hS hl
  subst hml
  exact lv_astore_n hx hb hd hi hl hn hl' (fun ls' hl2 => kk H locs ls' hP hS hl2)
theorem v_astore {i : Nat} {x : Nat} {lo' : List (Nat × Value)} (hG : Ok D A G cc nL own rm) (hd : decode cc pc = .ok (.astore i, 2))  (hn : i < nL) (hl' : (i, (.ref x : Value)) :: lo.filter (fun q => !(q.1 == i) && !(q.1 + 1 == i && q.2.category == 2)) = lo') (kk : V G k1 k2 P (pc + 2) lo' st) : V G k1 k2 P pc lo (.ref x :: st) := by
  obtain ⟨p, l, e, R, s, m, args, below, meth, c, A', Q⟩ := G
  obtain ⟨hrm, hx, hb, hml, hown, hts, hA, hK⟩ := hG
  intro H locs ls hP hS hl
  subst hml
  exact lv_astore hx hb hd hl hn hl' (fun ls' hl2 => kk H locs ls' hP hS hl2)
theorem v_astoreN_n {f : Fin 4} {i : Nat}  {lo' : List (Nat × Value)} (hG : Ok D A G cc nL own rm) (hd : decode cc pc = .ok (.astore_n f, 1)) (hi : (f : Nat) = i) (hn : i < nL) (hl' : (i, (.null : Value)) :: lo.filter (fun q => !(q.1 == i) && !(q.1 + 1 == i && q.2.category == 2)) = lo') (kk : V G k1 k2 P (pc + 1) lo' st) : V G k1 k2 P pc lo (.null :: st) := by
  obtain ⟨p, l, e, R, s, m, args, below, meth, c, A', Q⟩ := G
  obtain ⟨hrm, hx, hb, hml, hown, hts, hA, hK⟩ := hG
  intro H locs ls hP hS hl
  subst hml
  exact lv_astore_nN hx hb hd hi hl hn hl' (fun ls' hl2 => kk H locs ls' hP hS hl2)
theorem v_astoreN {i : Nat}  {lo' : List (Nat × Value)} (hG : Ok D A G cc nL own rm) (hd : decode cc pc = .ok (.astore i, 2))  (hn : i < nL) (hl' : (i, (.null : Value)) :: lo.filter (fun q => !(q.1 == i) && !(q.1 + 1 == i && q.2.category == 2)) = lo') (kk : V G k1 k2 P (pc + 2) lo' st) : V G k1 k2 P pc lo (.null :: st) := by
  obtain ⟨p, l, e, R, s, m, args, below, meth, c, A', Q⟩ := G
  obtain ⟨hrm, hx, hb, hml, hown, hts, hA, hK⟩ := hG
  intro H locs ls hP hS hl
  subst hml
  exact lv_astoreN hx hb hd hl hn hl' (fun ls' hl2 => kk H locs ls' hP hS hl2)
theorem v_iinc {i : Nat} {n x : Int} {lo' : List (Nat × Value)} (hG : Ok D A G cc nL own rm) (hd : decode cc pc = .ok (.iinc i n, 3)) (j : Nat) (hj : lo[j]? = some (i, vI x)) (hn : i < nL) (hl' : (i, vI (x + n)) :: lo.filter (fun q => !(q.1 == i) && !(q.1 + 1 == i && q.2.category == 2)) = lo') (kk : V G k1 k2 P (pc + 3) lo' st) : V G k1 k2 P pc lo st := by
  obtain ⟨p, l, e, R, s, m, args, below, meth, c, A', Q⟩ := G
  obtain ⟨hrm, hx, hb, hml, hown, hts, hA, hK⟩ := hG
  intro H locs ls hP hS hl
  subst hml
  exact lv_iinc hx hb (v := ii (x + n)) hd hl hj (ii_add x n) hn hl' (fun ls' hl2 => kk H locs ls' hP hS hl2)
theorem v_iadd {x y : Int} (hG : Ok D A G cc nL own rm) (hd : decode cc pc = .ok (.iadd, 1)) (kk : V G k1 k2 P (pc + 1) lo (vI (x + y) :: st)) : V G k1 k2 P pc lo (vI y :: vI x :: st) := by
  obtain ⟨p, l, e, R, s, m, args, below, meth, c, A', Q⟩ := G
  obtain ⟨hrm, hx, hb, hml, hown, hts, hA, hK⟩ := hG
  intro H locs ls hP hS hl
  refine lv_iadd hx hb hd ?_
  rw [ii_add]
  exact kk H locs ls hP hS hl
theorem v_isub {x y : Int} (hG : Ok D A G cc nL own rm) (hd : decode cc pc = .ok (.isub, 1)) (kk : V G k1 k2 P (pc + 1) lo (vI (x - y) :: st)) : V G k1 k2 P pc lo (vI y :: vI x :: st) := by
  obtain ⟨p, l, e, R, s, m, args, below, meth, c, A', Q⟩ := G
  obtain ⟨hrm, hx, hb, hml, hown, hts, hA, hK⟩ := hG
  intro H locs ls hP hS hl
  refine lv_isub hx hb hd ?_
  rw [ii_sub]
  exact kk H locs ls hP hS hl
theorem v_imul {x y : Int} (hG : Ok D A G cc nL own rm) (hd : decode cc pc = .ok (.imul, 1)) (kk : V G k1 k2 P (pc + 1) lo (vI (x * y) :: st)) : V G k1 k2 P pc lo (vI y :: vI x :: st) := by
  obtain ⟨p, l, e, R, s, m, args, below, meth, c, A', Q⟩ := G
  obtain ⟨hrm, hx, hb, hml, hown, hts, hA, hK⟩ := hG
  intro H locs ls hP hS hl
  refine lv_imul hx hb hd ?_
  rw [ii_mul]
  exact kk H locs ls hP hS hl
theorem v_ladd {x y : Int} (hG : Ok D A G cc nL own rm) (hd : decode cc pc = .ok (.ladd, 1)) (kk : V G k1 k2 P (pc + 1) lo (vL (x + y) :: st)) : V G k1 k2 P pc lo (vL y :: vL x :: st) := by
  obtain ⟨p, l, e, R, s, m, args, below, meth, c, A', Q⟩ := G
  obtain ⟨hrm, hx, hb, hml, hown, hts, hA, hK⟩ := hG
  intro H locs ls hP hS hl
  refine lv_ladd hx hb hd ?_
  rw [ll_add]
  exact kk H locs ls hP hS hl
theorem v_lsub {x y : Int} (hG : Ok D A G cc nL own rm) (hd : decode cc pc = .ok (.lsub, 1)) (kk : V G k1 k2 P (pc + 1) lo (vL (x - y) :: st)) : V G k1 k2 P pc lo (vL y :: vL x :: st) := by
  obtain ⟨p, l, e, R, s, m, args, below, meth, c, A', Q⟩ := G
  obtain ⟨hrm, hx, hb, hml, hown, hts, hA, hK⟩ := hG
  intro H locs ls hP hS hl
  refine lv_lsub hx hb hd ?_
  rw [ll_sub]
  exact kk H locs ls hP hS hl
theorem v_lmul {x y : Int} (hG : Ok D A G cc nL own rm) (hd : decode cc pc = .ok (.lmul, 1)) (kk : V G k1 k2 P (pc + 1) lo (vL (x * y) :: st)) : V G k1 k2 P pc lo (vL y :: vL x :: st) := by
  obtain ⟨p, l, e, R, s, m, args, below, meth, c, A', Q⟩ := G
  obtain ⟨hrm, hx, hb, hml, hown, hts, hA, hK⟩ := hG
  intro H locs ls hP hS hl
  refine lv_lmul hx hb hd ?_
  rw [ll_mul]
  exact kk H locs ls hP hS hl
theorem v_ineg {x : Int} (hG : Ok D A G cc nL own rm) (hd : decode cc pc = .ok (.ineg, 1)) (kk : V G k1 k2 P (pc + 1) lo (vI (-x) :: st)) : V G k1 k2 P pc lo (vI x :: st) := by
  obtain ⟨p, l, e, R, s, m, args, below, meth, c, A', Q⟩ := G
  obtain ⟨hrm, hx, hb, hml, hown, hts, hA, hK⟩ := hG
  intro H locs ls hP hS hl
  refine lv_ineg hx hb hd ?_
  rw [ii_neg]
  exact kk H locs ls hP hS hl
theorem v_idiv {x y : Int} (hG : Ok D A G cc nL own rm) (hd : decode cc pc = .ok (.idiv, 1)) (h1 : 0 ≤ x ∧ x < 2147483648) (h2 : 0 < y ∧ y < 2147483648) (kk : V G k1 k2 P (pc + 1) lo (vI (x / y) :: st)) : V G k1 k2 P pc lo (vI y :: vI x :: st) := by
  obtain ⟨p, l, e, R, s, m, args, below, meth, c, A', Q⟩ := G
  obtain ⟨hrm, hx, hb, hml, hown, hts, hA, hK⟩ := hG
  intro H locs ls hP hS hl
  refine lv_idiv hx hb hd (fun q => by have := (ii_eq (x := y) (y := 0) (by omega) (by omega)).mp q; omega) ?_
  rw [ii_div h1 h2]
  exact kk H locs ls hP hS hl
theorem v_idivT {x y : Int} (hG : Ok D A G cc nL own rm) (hd : decode cc pc = .ok (.idiv, 1)) (h1 : -2147483647 ≤ x ∧ x < 2147483648) (h2 : 0 < y ∧ y < 2147483648) (kk : V G k1 k2 P (pc + 1) lo (vI (x.tdiv y) :: st)) : V G k1 k2 P pc lo (vI y :: vI x :: st) := by
  obtain ⟨p, l, e, R, s, m, args, below, meth, c, A', Q⟩ := G
  obtain ⟨hrm, hx, hb, hml, hown, hts, hA, hK⟩ := hG
  intro H locs ls hP hS hl
  refine lv_idiv hx hb hd (fun q => by have := (ii_eq (x := y) (y := 0) (by omega) (by omega)).mp q; omega) ?_
  rw [ii_tdiv h1 h2]
  exact kk H locs ls hP hS hl
theorem v_irem {x y : Int} (hG : Ok D A G cc nL own rm) (hd : decode cc pc = .ok (.irem, 1)) (h1 : 0 ≤ x ∧ x < 2147483648) (h2 : 0 < y ∧ y < 2147483648) (kk : V G k1 k2 P (pc + 1) lo (vI (x % y) :: st)) : V G k1 k2 P pc lo (vI y :: vI x :: st) := by
  obtain ⟨p, l, e, R, s, m, args, below, meth, c, A', Q⟩ := G
  obtain ⟨hrm, hx, hb, hml, hown, hts, hA, hK⟩ := hG
  intro H locs ls hP hS hl
  refine lv_irem hx hb hd (fun q => by have := (ii_eq (x := y) (y := 0) (by omega) (by omega)).mp q; omega) ?_
  rw [ii_rem h1 h2]
  exact kk H locs ls hP hS hl
theorem v_ldiv {x y : Int} (hG : Ok D A G cc nL own rm) (hd : decode cc pc = .ok (.ldiv, 1)) (h1 : 0 ≤ x ∧ x < 9223372036854775808) (h2 : 0 < y ∧ y < 9223372036854775808) (kk : V G k1 k2 P (pc + 1) lo (vL (x / y) :: st)) : V G k1 k2 P pc lo (vL y :: vL x :: st) := by
  obtain ⟨p, l, e, R, s, m, args, below, meth, c, A', Q⟩ := G
  obtain ⟨hrm, hx, hb, hml, hown, hts, hA, hK⟩ := hG
  intro H locs ls hP hS hl
  refine lv_ldiv hx hb hd (fun q => by have := (ll_eq (x := y) (y := 0) (by omega) (by omega)).mp q; omega) ?_
  rw [ll_div h1 h2]
  exact kk H locs ls hP hS hl
theorem v_lrem {x y : Int} (hG : Ok D A G cc nL own rm) (hd : decode cc pc = .ok (.lrem, 1)) (h1 : 0 ≤ x ∧ x < 9223372036854775808) (h2 : 0 < y ∧ y < 9223372036854775808) (kk : V G k1 k2 P (pc + 1) lo (vL (x % y) :: st)) : V G k1 k2 P pc lo (vL y :: vL x :: st) := by
  obtain ⟨p, l, e, R, s, m, args, below, meth, c, A', Q⟩ := G
  obtain ⟨hrm, hx, hb, hml, hown, hts, hA, hK⟩ := hG
  intro H locs ls hP hS hl
  refine lv_lrem hx hb hd (fun q => by have := (ll_eq (x := y) (y := 0) (by omega) (by omega)).mp q; omega) ?_
  rw [ll_rem h1 h2]
  exact kk H locs ls hP hS hl
theorem v_iand {x y : Int} (hG : Ok D A G cc nL own rm) (hd : decode cc pc = .ok (.iand, 1)) (kk : V G k1 k2 P (pc + 1) lo (vI (iand x y) :: st)) : V G k1 k2 P pc lo (vI y :: vI x :: st) := by
  obtain ⟨p, l, e, R, s, m, args, below, meth, c, A', Q⟩ := G
  obtain ⟨hrm, hx, hb, hml, hown, hts, hA, hK⟩ := hG
  intro H locs ls hP hS hl
  refine lv_iand hx hb hd ?_
  rw [iand_row]
  exact kk H locs ls hP hS hl
theorem v_ior {x y : Int} (hG : Ok D A G cc nL own rm) (hd : decode cc pc = .ok (.ior, 1)) (kk : V G k1 k2 P (pc + 1) lo (vI (ior x y) :: st)) : V G k1 k2 P pc lo (vI y :: vI x :: st) := by
  obtain ⟨p, l, e, R, s, m, args, below, meth, c, A', Q⟩ := G
  obtain ⟨hrm, hx, hb, hml, hown, hts, hA, hK⟩ := hG
  intro H locs ls hP hS hl
  refine lv_ior hx hb hd ?_
  rw [ior_row]
  exact kk H locs ls hP hS hl
theorem v_ixor {x y : Int} (hG : Ok D A G cc nL own rm) (hd : decode cc pc = .ok (.ixor, 1)) (kk : V G k1 k2 P (pc + 1) lo (vI (ixor x y) :: st)) : V G k1 k2 P pc lo (vI y :: vI x :: st) := by
  obtain ⟨p, l, e, R, s, m, args, below, meth, c, A', Q⟩ := G
  obtain ⟨hrm, hx, hb, hml, hown, hts, hA, hK⟩ := hG
  intro H locs ls hP hS hl
  refine lv_ixor hx hb hd ?_
  rw [ixor_row]
  exact kk H locs ls hP hS hl
theorem v_ishl {x y : Int} (hG : Ok D A G cc nL own rm) (hd : decode cc pc = .ok (.ishl, 1)) (h : 0 ≤ y ∧ y < 32) (kk : V G k1 k2 P (pc + 1) lo (vI (x * 2 ^ y.toNat) :: st)) : V G k1 k2 P pc lo (vI y :: vI x :: st) := by
  obtain ⟨p, l, e, R, s, m, args, below, meth, c, A', Q⟩ := G
  obtain ⟨hrm, hx, hb, hml, hown, hts, hA, hK⟩ := hG
  intro H locs ls hP hS hl
  refine lv_ishl hx hb hd ?_
  rw [ii_shl h]
  exact kk H locs ls hP hS hl
theorem v_ishr {x y : Int} (hG : Ok D A G cc nL own rm) (hd : decode cc pc = .ok (.ishr, 1)) (h1 : (-2147483648 ≤ x ∧ x < 2147483648)) (h : 0 ≤ y ∧ y < 32) (kk : V G k1 k2 P (pc + 1) lo (vI (x / 2 ^ y.toNat) :: st)) : V G k1 k2 P pc lo (vI y :: vI x :: st) := by
  obtain ⟨p, l, e, R, s, m, args, below, meth, c, A', Q⟩ := G
  obtain ⟨hrm, hx, hb, hml, hown, hts, hA, hK⟩ := hG
  intro H locs ls hP hS hl
  refine lv_ishr hx hb hd ?_
  rw [ii_shr h1 h]
  exact kk H locs ls hP hS hl
theorem v_i2l {x : Int} (hG : Ok D A G cc nL own rm) (hd : decode cc pc = .ok (.i2l, 1)) (h : (-2147483648 ≤ x ∧ x < 2147483648)) (kk : V G k1 k2 P (pc + 1) lo (vL x :: st)) : V G k1 k2 P pc lo (vI x :: st) := by
  obtain ⟨p, l, e, R, s, m, args, below, meth, c, A', Q⟩ := G
  obtain ⟨hrm, hx, hb, hml, hown, hts, hA, hK⟩ := hG
  intro H locs ls hP hS hl
  exact lv_i2l hx hb hd (ll_i2l h) (kk H locs ls hP hS hl)
theorem v_lcmp {x y : Int} (hG : Ok D A G cc nL own rm) (hd : decode cc pc = .ok (.lcmp, 1)) (h1 : (-9223372036854775808 ≤ x ∧ x < 9223372036854775808)) (h2 : (-9223372036854775808 ≤ y ∧ y < 9223372036854775808)) (kk : V G k1 k2 P (pc + 1) lo (vI (lcmp x y) :: st)) : V G k1 k2 P pc lo (vL y :: vL x :: st) := by
  obtain ⟨p, l, e, R, s, m, args, below, meth, c, A', Q⟩ := G
  obtain ⟨hrm, hx, hb, hml, hown, hts, hA, hK⟩ := hG
  intro H locs ls hP hS hl
  refine W.lcmp hx hb hd ?_
  rw [ll_cmp h1 h2]
  exact kk H locs ls hP hS hl
theorem v_i2c {x : Int} (hG : Ok D A G cc nL own rm) (hd : decode cc pc = .ok (.i2c, 1)) (h : 0 ≤ x ∧ x < 65536) (kk : V G k1 k2 P (pc + 1) lo (vI x :: st)) : V G k1 k2 P pc lo (vI x :: st) := by
  obtain ⟨p, l, e, R, s, m, args, below, meth, c, A', Q⟩ := G
  obtain ⟨hrm, hx, hb, hml, hown, hts, hA, hK⟩ := hG
  intro H locs ls hP hS hl
  refine lv_i2c hx hb (v := ii x) hd ?_ (kk H locs ls hP hS hl)
  obtain ⟨n, rfl⟩ := Int.eq_ofNat_of_zero_le h.1
  have hn : n < 65536 := by omega
  rw [ii_nat]
  apply Int32.toBitVec_inj.mp
  apply BitVec.eq_of_toNat_eq
  show ((Int32.ofNat n).toUInt32 % 65536).toBitVec.toNat = n % 2 ^ 32
  rw [UInt32.toNat_toBitVec, UInt32.toNat_mod]
  show (n % 2 ^ 32) % 65536 = n % 2 ^ 32
  omega
theorem v_dup {v : Value} (hG : Ok D A G cc nL own rm) (hd : decode cc pc = .ok (.dup, 1)) (hv : v.category = 1) (kk : V G k1 k2 P (pc + 1) lo (v :: v :: st)) : V G k1 k2 P pc lo (v :: st) := by
  obtain ⟨p, l, e, R, s, m, args, below, meth, c, A', Q⟩ := G
  obtain ⟨hrm, hx, hb, hml, hown, hts, hA, hK⟩ := hG
  intro H locs ls hP hS hl
  exact lv_dup hx hb hd hv (kk H locs ls hP hS hl)
theorem v_pop {v : Value} (hG : Ok D A G cc nL own rm) (hd : decode cc pc = .ok (.pop, 1)) (hv : v.category = 1) (kk : V G k1 k2 P (pc + 1) lo (st)) : V G k1 k2 P pc lo (v :: st) := by
  obtain ⟨p, l, e, R, s, m, args, below, meth, c, A', Q⟩ := G
  obtain ⟨hrm, hx, hb, hml, hown, hts, hA, hK⟩ := hG
  intro H locs ls hP hS hl
  exact lv_pop hx hb hd hv (kk H locs ls hP hS hl)
theorem v_dup_x1 {v u : Value} (hG : Ok D A G cc nL own rm) (hd : decode cc pc = .ok (.dup_x1, 1)) (hv : v.category = 1) (hu : u.category = 1) (kk : V G k1 k2 P (pc + 1) lo (v :: u :: v :: st)) : V G k1 k2 P pc lo (v :: u :: st) := by
  obtain ⟨p, l, e, R, s, m, args, below, meth, c, A', Q⟩ := G
  obtain ⟨hrm, hx, hb, hml, hown, hts, hA, hK⟩ := hG
  intro H locs ls hP hS hl
  exact lv_dup_x1 hx hb hd hv hu (kk H locs ls hP hS hl)
theorem v_dup2 {v u : Value} (hG : Ok D A G cc nL own rm) (hd : decode cc pc = .ok (.dup2, 1)) (hv : v.category = 1) (hu : u.category = 1) (kk : V G k1 k2 P (pc + 1) lo (v :: u :: v :: u :: st)) : V G k1 k2 P pc lo (v :: u :: st) := by
  obtain ⟨p, l, e, R, s, m, args, below, meth, c, A', Q⟩ := G
  obtain ⟨hrm, hx, hb, hml, hown, hts, hA, hK⟩ := hG
  intro H locs ls hP hS hl
  exact lv_dup2_11 hx hb hd hv hu (kk H locs ls hP hS hl)
theorem v_null  (hG : Ok D A G cc nL own rm) (hd : decode cc pc = .ok (.aconst_null, 1)) (kk : V G k1 k2 P (pc + 1) lo (.null :: st)) : V G k1 k2 P pc lo (st) := by
  obtain ⟨p, l, e, R, s, m, args, below, meth, c, A', Q⟩ := G
  obtain ⟨hrm, hx, hb, hml, hown, hts, hA, hK⟩ := hG
  intro H locs ls hP hS hl
  exact lv_null hx hb hd (kk H locs ls hP hS hl)
theorem v_if_eq {x : Int} {off : Int} {tgt : Nat} (hG : Ok D A G cc nL own rm) (hd : decode cc pc = .ok (.ifCond .eq off, 3)) (ht : (pc : Int) + off = (tgt : Int)) (h1 : (-2147483648 ≤ x ∧ x < 2147483648)) (kt : x = 0 → V G k1 k2 P tgt lo st) (kf : ¬ (x = 0) → V G k1 k2 P (pc + 3) lo st) : V G k1 k2 P pc lo (vI x :: st) := by
  obtain ⟨p, l, e, R, s, m, args, below, meth, c, A', Q⟩ := G
  obtain ⟨hrm, hx, hb, hml, hown, hts, hA, hK⟩ := hG
  intro H locs ls hP hS hl
  exact lv_if_eq hx hb hd ht (fun q => kt ((ii_eq (y := 0) h1 (by omega)).mp q) H locs ls hP hS hl) (fun q => kf (fun z => q ((ii_eq (y := 0) h1 (by omega)).mpr z)) H locs ls hP hS hl)
theorem v_icmp_eq {x y : Int} {off : Int} {tgt : Nat} (hG : Ok D A G cc nL own rm) (hd : decode cc pc = .ok (.if_icmp .eq off, 3)) (ht : (pc : Int) + off = (tgt : Int)) (h1 : (-2147483648 ≤ x ∧ x < 2147483648)) (h2 : (-2147483648 ≤ y ∧ y < 2147483648)) (kt : x = y → V G k1 k2 P tgt lo st) (kf : ¬ (x = y) → V G k1 k2 P (pc + 3) lo st) : V G k1 k2 P pc lo (vI y :: vI x :: st) := by
  obtain ⟨p, l, e, R, s, m, args, below, meth, c, A', Q⟩ := G
  obtain ⟨hrm, hx, hb, hml, hown, hts, hA, hK⟩ := hG
  intro H locs ls hP hS hl
  exact lv_icmp_eq hx hb hd ht (fun q => kt ((ii_eq h1 h2).mp q) H locs ls hP hS hl) (fun q => kf (fun z => q ((ii_eq h1 h2).mpr z)) H locs ls hP hS hl)
theorem v_if_ne {x : Int} {off : Int} {tgt : Nat} (hG : Ok D A G cc nL own rm) (hd : decode cc pc = .ok (.ifCond .ne off, 3)) (ht : (pc : Int) + off = (tgt : Int)) (h1 : (-2147483648 ≤ x ∧ x < 2147483648)) (kt : ¬ x = 0 → V G k1 k2 P tgt lo st) (kf : x = 0 → V G k1 k2 P (pc + 3) lo st) : V G k1 k2 P pc lo (vI x :: st) := by
  obtain ⟨p, l, e, R, s, m, args, below, meth, c, A', Q⟩ := G
  obtain ⟨hrm, hx, hb, hml, hown, hts, hA, hK⟩ := hG
  intro H locs ls hP hS hl
  exact lv_if_ne hx hb hd ht (fun q => kt (fun z => q ((ii_eq (y := 0) h1 (by omega)).mpr z)) H locs ls hP hS hl) (fun q => kf ((ii_eq (y := 0) h1 (by omega)).mp q) H locs ls hP hS hl)
theorem v_icmp_ne {x y : Int} {off : Int} {tgt : Nat} (hG : Ok D A G cc nL own rm) (hd : decode cc pc = .ok (.if_icmp .ne off, 3)) (ht : (pc : Int) + off = (tgt : Int)) (h1 : (-2147483648 ≤ x ∧ x < 2147483648)) (h2 : (-2147483648 ≤ y ∧ y < 2147483648)) (kt : ¬ x = y → V G k1 k2 P tgt lo st) (kf : x = y → V G k1 k2 P (pc + 3) lo st) : V G k1 k2 P pc lo (vI y :: vI x :: st) := by
  obtain ⟨p, l, e, R, s, m, args, below, meth, c, A', Q⟩ := G
  obtain ⟨hrm, hx, hb, hml, hown, hts, hA, hK⟩ := hG
  intro H locs ls hP hS hl
  exact lv_icmp_ne hx hb hd ht (fun q => kt (fun z => q ((ii_eq h1 h2).mpr z)) H locs ls hP hS hl) (fun q => kf ((ii_eq h1 h2).mp q) H locs ls hP hS hl)
theorem v_if_lt {x : Int} {off : Int} {tgt : Nat} (hG : Ok D A G cc nL own rm) (hd : decode cc pc = .ok (.ifCond .lt off, 3)) (ht : (pc : Int) + off = (tgt : Int)) (h1 : (-2147483648 ≤ x ∧ x < 2147483648)) (kt : x < 0 → V G k1 k2 P tgt lo st) (kf : ¬ (x < 0) → V G k1 k2 P (pc + 3) lo st) : V G k1 k2 P pc lo (vI x :: st) := by
  obtain ⟨p, l, e, R, s, m, args, below, meth, c, A', Q⟩ := G
  obtain ⟨hrm, hx, hb, hml, hown, hts, hA, hK⟩ := hG
  intro H locs ls hP hS hl
  exact lv_if_lt hx hb hd ht (fun q => kt ((ii_lt (y := 0) h1 (by omega)).mp q) H locs ls hP hS hl) (fun q => kf (fun z => q ((ii_lt (y := 0) h1 (by omega)).mpr z)) H locs ls hP hS hl)
theorem v_icmp_lt {x y : Int} {off : Int} {tgt : Nat} (hG : Ok D A G cc nL own rm) (hd : decode cc pc = .ok (.if_icmp .lt off, 3)) (ht : (pc : Int) + off = (tgt : Int)) (h1 : (-2147483648 ≤ x ∧ x < 2147483648)) (h2 : (-2147483648 ≤ y ∧ y < 2147483648)) (kt : x < y → V G k1 k2 P tgt lo st) (kf : ¬ (x < y) → V G k1 k2 P (pc + 3) lo st) : V G k1 k2 P pc lo (vI y :: vI x :: st) := by
  obtain ⟨p, l, e, R, s, m, args, below, meth, c, A', Q⟩ := G
  obtain ⟨hrm, hx, hb, hml, hown, hts, hA, hK⟩ := hG
  intro H locs ls hP hS hl
  exact lv_icmp_lt hx hb hd ht (fun q => kt ((ii_lt h1 h2).mp q) H locs ls hP hS hl) (fun q => kf (fun z => q ((ii_lt h1 h2).mpr z)) H locs ls hP hS hl)
theorem v_if_ge {x : Int} {off : Int} {tgt : Nat} (hG : Ok D A G cc nL own rm) (hd : decode cc pc = .ok (.ifCond .ge off, 3)) (ht : (pc : Int) + off = (tgt : Int)) (h1 : (-2147483648 ≤ x ∧ x < 2147483648)) (kt : 0 ≤ x → V G k1 k2 P tgt lo st) (kf : ¬ (0 ≤ x) → V G k1 k2 P (pc + 3) lo st) : V G k1 k2 P pc lo (vI x :: st) := by
  obtain ⟨p, l, e, R, s, m, args, below, meth, c, A', Q⟩ := G
  obtain ⟨hrm, hx, hb, hml, hown, hts, hA, hK⟩ := hG
  intro H locs ls hP hS hl
  exact lv_if_ge hx hb hd ht (fun q => kt ((ii_le (x := 0) (by omega) h1).mp q) H locs ls hP hS hl) (fun q => kf (fun z => q ((ii_le (x := 0) (by omega) h1).mpr z)) H locs ls hP hS hl)
theorem v_icmp_ge {x y : Int} {off : Int} {tgt : Nat} (hG : Ok D A G cc nL own rm) (hd : decode cc pc = .ok (.if_icmp .ge off, 3)) (ht : (pc : Int) + off = (tgt : Int)) (h1 : (-2147483648 ≤ x ∧ x < 2147483648)) (h2 : (-2147483648 ≤ y ∧ y < 2147483648)) (kt : y ≤ x → V G k1 k2 P tgt lo st) (kf : ¬ (y ≤ x) → V G k1 k2 P (pc + 3) lo st) : V G k1 k2 P pc lo (vI y :: vI x :: st) := by
  obtain ⟨p, l, e, R, s, m, args, below, meth, c, A', Q⟩ := G
  obtain ⟨hrm, hx, hb, hml, hown, hts, hA, hK⟩ := hG
  intro H locs ls hP hS hl
  exact lv_icmp_ge hx hb hd ht (fun q => kt ((ii_le h2 h1).mp q) H locs ls hP hS hl) (fun q => kf (fun z => q ((ii_le h2 h1).mpr z)) H locs ls hP hS hl)
theorem v_if_gt {x : Int} {off : Int} {tgt : Nat} (hG : Ok D A G cc nL own rm) (hd : decode cc pc = .ok (.ifCond .gt off, 3)) (ht : (pc : Int) + off = (tgt : Int)) (h1 : (-2147483648 ≤ x ∧ x < 2147483648)) (kt : 0 < x → V G k1 k2 P tgt lo st) (kf : ¬ (0 < x) → V G k1 k2 P (pc + 3) lo st) : V G k1 k2 P pc lo (vI x :: st) := by
  obtain ⟨p, l, e, R, s, m, args, below, meth, c, A', Q⟩ := G
  obtain ⟨hrm, hx, hb, hml, hown, hts, hA, hK⟩ := hG
  intro H locs ls hP hS hl
  exact lv_if_gt hx hb hd ht (fun q => kt ((ii_lt (x := 0) (by omega) h1).mp q) H locs ls hP hS hl) (fun q => kf (fun z => q ((ii_lt (x := 0) (by omega) h1).mpr z)) H locs ls hP hS hl)
theorem v_icmp_gt {x y : Int} {off : Int} {tgt : Nat} (hG : Ok D A G cc nL own rm) (hd : decode cc pc = .ok (.if_icmp .gt off, 3)) (ht : (pc : Int) + off = (tgt : Int)) (h1 : (-2147483648 ≤ x ∧ x < 2147483648)) (h2 : (-2147483648 ≤ y ∧ y < 2147483648)) (kt : y < x → V G k1 k2 P tgt lo st) (kf : ¬ (y < x) → V G k1 k2 P (pc + 3) lo st) : V G k1 k2 P pc lo (vI y :: vI x :: st) := by
  obtain ⟨p, l, e, R, s, m, args, below, meth, c, A', Q⟩ := G
  obtain ⟨hrm, hx, hb, hml, hown, hts, hA, hK⟩ := hG
  intro H locs ls hP hS hl
  exact lv_icmp_gt hx hb hd ht (fun q => kt ((ii_lt h2 h1).mp q) H locs ls hP hS hl) (fun q => kf (fun z => q ((ii_lt h2 h1).mpr z)) H locs ls hP hS hl)
theorem v_if_le {x : Int} {off : Int} {tgt : Nat} (hG : Ok D A G cc nL own rm) (hd : decode cc pc = .ok (.ifCond .le off, 3)) (ht : (pc : Int) + off = (tgt : Int)) (h1 : (-2147483648 ≤ x ∧ x < 2147483648)) (kt : x ≤ 0 → V G k1 k2 P tgt lo st) (kf : ¬ (x ≤ 0) → V G k1 k2 P (pc + 3) lo st) : V G k1 k2 P pc lo (vI x :: st) := by
  obtain ⟨p, l, e, R, s, m, args, below, meth, c, A', Q⟩ := G
  obtain ⟨hrm, hx, hb, hml, hown, hts, hA, hK⟩ := hG
  intro H locs ls hP hS hl
  exact lv_if_le hx hb hd ht (fun q => kt ((ii_le (y := 0) h1 (by omega)).mp q) H locs ls hP hS hl) (fun q => kf (fun z => q ((ii_le (y := 0) h1 (by omega)).mpr z)) H locs ls hP hS hl)
theorem v_icmp_le {x y : Int} {off : Int} {tgt : Nat} (hG : Ok D A G cc nL own rm) (hd : decode cc pc = .ok (.if_icmp .le off, 3)) (ht : (pc : Int) + off = (tgt : Int)) (h1 : (-2147483648 ≤ x ∧ x < 2147483648)) (h2 : (-2147483648 ≤ y ∧ y < 2147483648)) (kt : x ≤ y → V G k1 k2 P tgt lo st) (kf : ¬ (x ≤ y) → V G k1 k2 P (pc + 3) lo st) : V G k1 k2 P pc lo (vI y :: vI x :: st) := by
  obtain ⟨p, l, e, R, s, m, args, below, meth, c, A', Q⟩ := G
  obtain ⟨hrm, hx, hb, hml, hown, hts, hA, hK⟩ := hG
  intro H locs ls hP hS hl
  exact lv_icmp_le hx hb hd ht (fun q => kt ((ii_le h1 h2).mp q) H locs ls hP hS hl) (fun q => kf (fun z => q ((ii_le h1 h2).mpr z)) H locs ls hP hS hl)
theorem v_goto {off : Int} {tgt : Nat} (hG : Ok D A G cc nL own rm) (hd : decode cc pc = .ok (.goto off, 3)) (ht : (pc : Int) + off = (tgt : Int)) (kk : V G k1 k2 P tgt lo st) : V G k1 k2 P pc lo st := by
  obtain ⟨p, l, e, R, s, m, args, below, meth, c, A', Q⟩ := G
  obtain ⟨hrm, hx, hb, hml, hown, hts, hA, hK⟩ := hG
  intro H locs ls hP hS hl
  exact lv_goto hx hb hd ht (kk H locs ls hP hS hl)
theorem v_ifnull {x : Nat} {off : Int} (hG : Ok D A G cc nL own rm) (hd : decode cc pc = .ok (.ifnull off, 3)) (kk : V G k1 k2 P (pc + 3) lo st) : V G k1 k2 P pc lo (.ref x :: st) := by
  obtain ⟨p, l, e, R, s, m, args, below, meth, c, A', Q⟩ := G
  obtain ⟨hrm, hx, hb, hml, hown, hts, hA, hK⟩ := hG
  intro H locs ls hP hS hl
  exact lv_ifnull hx hb hd (kk H locs ls hP hS hl)
theorem v_ifnullN {off : Int} {tgt : Nat} (hG : Ok D A G cc nL own rm) (hd : decode cc pc = .ok (.ifnull off, 3)) (ht : (pc : Int) + off = (tgt : Int)) (kk : V G k1 k2 P tgt lo st) : V G k1 k2 P pc lo (.null :: st) := by
  obtain ⟨p, l, e, R, s, m, args, below, meth, c, A', Q⟩ := G
  obtain ⟨hrm, hx, hb, hml, hown, hts, hA, hK⟩ := hG
  intro H locs ls hP hS hl
  exact lv_ifnullN hx hb hd ht (kk H locs ls hP hS hl)
theorem v_ifnonnull {x : Nat} {off : Int} {tgt : Nat} (hG : Ok D A G cc nL own rm) (hd : decode cc pc = .ok (.ifnonnull off, 3)) (ht : (pc : Int) + off = (tgt : Int)) (kk : V G k1 k2 P tgt lo st) : V G k1 k2 P pc lo (.ref x :: st) := by
  obtain ⟨p, l, e, R, s, m, args, below, meth, c, A', Q⟩ := G
  obtain ⟨hrm, hx, hb, hml, hown, hts, hA, hK⟩ := hG
  intro H locs ls hP hS hl
  exact lv_ifnonnull hx hb hd ht (kk H locs ls hP hS hl)
theorem v_ifnonnullN {off : Int} (hG : Ok D A G cc nL own rm) (hd : decode cc pc = .ok (.ifnonnull off, 3)) (kk : V G k1 k2 P (pc + 3) lo st) : V G k1 k2 P pc lo (.null :: st) := by
  obtain ⟨p, l, e, R, s, m, args, below, meth, c, A', Q⟩ := G
  obtain ⟨hrm, hx, hb, hml, hown, hts, hA, hK⟩ := hG
  intro H locs ls hP hS hl
  exact lv_ifnonnullN hx hb hd (kk H locs ls hP hS hl)
theorem v_tabOut {dflt a b : Int} {offs : Array Int} {len : Nat} {x : Int} {tgt : Nat} (hG : Ok D A G cc nL own rm) (hd : decode cc pc = .ok (.tableswitch dflt a b offs, len)) (h1 : (-2147483648 ≤ x ∧ x < 2147483648)) (h : x < a ∨ b < x) (ht : (pc : Int) + dflt = (tgt : Int)) (kk : V G k1 k2 P tgt lo st) : V G k1 k2 P pc lo (vI x :: st) := by
  obtain ⟨p, l, e, R, s, m, args, below, meth, c, A', Q⟩ := G
  obtain ⟨hrm, hx, hb, hml, hown, hts, hA, hK⟩ := hG
  intro H locs ls hP hS hl
  exact lv_tableOut hx hb hd (by rw [ii_toInt h1]; exact h) ht (kk H locs ls hP hS hl)
theorem v_tabIn {dflt a b : Int} {offs : Array Int} {len : Nat} {x : Int} {off : Int} {tgt : Nat} (hG : Ok D A G cc nL own rm) (hd : decode cc pc = .ok (.tableswitch dflt a b offs, len)) (y : Int) (hy : x = y) (h1 : (-2147483648 ≤ y ∧ y < 2147483648)) (h2 : ¬ y < a) (h3 : ¬ b < y) (ho : offs[(y - a).toNat]? = some off) (ht : (pc : Int) + off = (tgt : Int)) (kk : V G k1 k2 P tgt lo st) : V G k1 k2 P pc lo (vI x :: st) := by
  obtain ⟨p, l, e, R, s, m, args, below, meth, c, A', Q⟩ := G
  obtain ⟨hrm, hx, hb, hml, hown, hts, hA, hK⟩ := hG
  intro H locs ls hP hS hl
  subst hy
  exact lv_tableIn hx hb hd (by rw [ii_toInt h1]; exact h2) (by rw [ii_toInt h1]; exact h3) (by rw [ii_toInt h1]; exact ho) ht (kk H locs ls hP hS hl)
theorem v_lookup {dflt : Int} {ps : Array (Int × Int)} {len : Nat} {x : Int} {off : Int} {tgt : Nat} (hG : Ok D A G cc nL own rm) (hd : decode cc pc = .ok (.lookupswitch dflt ps, len)) (h1 : (-2147483648 ≤ x ∧ x < 2147483648)) (hp : (ps.toList.zip (ps.toList.drop 1)).all (fun (a, next) => a.1 < next.1) = true) (ho : Op.lookupswitch.offset ps.toList dflt x = off) (ht : (pc : Int) + off = (tgt : Int)) (kk : V G k1 k2 P tgt lo st) : V G k1 k2 P pc lo (vI x :: st) := by
  obtain ⟨p, l, e, R, s, m, args, below, meth, c, A', Q⟩ := G
  obtain ⟨hrm, hx, hb, hml, hown, hts, hA, hK⟩ := hG
  intro H locs ls hP hS hl
  exact lv_lookup hx hb hd hp (by rw [ii_toInt h1]; exact ho) ht (kk H locs ls hP hS hl)
theorem v_lo {lo' : List (Nat × Value)} (ks : List Nat) (h : lv_pick lo ks = lo') (kk : V G k1 k2 P pc lo' st) : V G k1 k2 P pc lo st := by
  obtain ⟨p, l, e, R, s, m, args, below, meth, c, A', Q⟩ := G
  intro H locs ls hP hS hl
  exact kk H locs ls hP hS (lv_sub hl ks h)
theorem v_P {P' : Heap → Prop} (h : ∀ H, P H → P' H) (kk : V G k1 k2 P' pc lo st) : V G k1 k2 P pc lo st := by
  obtain ⟨p, l, e, R, s, m, args, below, meth, c, A', Q⟩ := G
  intro H locs ls hP hS hl
  exact kk H locs ls (h H hP) hS hl
theorem v_widen {k1' k2' : Nat} (h1 : k1 ≤ k1') (h2 : k2 ≤ k2') (kk : V G k1' k2' P pc lo st) : V G k1 k2 P pc lo st := by
  obtain ⟨p, l, e, R, s, m, args, below, meth, c, A', Q⟩ := G
  intro H locs ls hP hS hl
  exact W.widen h1 h2 (kk H locs ls hP hS hl)
theorem v_ex {α : Sort _} {Pa : α → Heap → Prop} (kk : ∀ a, V G k1 k2 (Pa a) pc lo st) : V G k1 k2 (fun H => ∃ a, Pa a H) pc lo st := by
  obtain ⟨p, l, e, R, s, m, args, below, meth, c, A', Q⟩ := G
  intro H locs ls hP hS hl
  obtain ⟨a, hP⟩ := hP
  exact kk a H locs ls hP hS hl
theorem v_and {φ : Prop} (kk : φ → V G k1 k2 P pc lo st) : V G k1 k2 (fun H => φ ∧ P H) pc lo st := by
  obtain ⟨p, l, e, R, s, m, args, below, meth, c, A', Q⟩ := G
  intro H locs ls hP hS hl
  exact kk hP.1 H locs ls hP.2 hS hl
def QV {S : Type} (rv : S → Option Value) (φ : S → Prop) (P1 : S → Heap → Prop) (A : Nat → Prop) : Array Value → State → Outcome → State → Prop := fun _ st oc t => (∃ u : S, oc = .returned (rv u) ∧ φ u ∧ P1 u t.heap) ∧ va_F A st t
def CT (l : Launch) (D : Dx) (A : Nat → Prop) (y : MethodName) (bytes : ByteArray) (maxL : Nat) (ret : Option FieldType) (rm : Room) (av : List Value) (P : Heap → Prop) {S : Type} (rv : S → Option Value) (φ : S → Prop) (P1 : S → Heap → Prop) : Prop :=
  Met l y (.code y bytes maxL ret :: zTB) rm (va_Pc av (fun U => P U.heap ∧ KB D A U)) (QV rv φ P1 A) rm.cells rm.slots A
def Rt : Gx → Option FieldType → (Array Value → State → Outcome → State → Prop) → Nat → Nat → String → Prop
  | (_, _, _, _, s, _, args, below, meth, _, A, Q), ret, Qc, mc, ms, nm => meth.sig.returnType = ret ∧ meth.locks = false ∧ Q = MQ below Qc args s mc ms A ∧ meth.name = nm
theorem ct_of {l : Launch} {y : MethodName} {bytes : ByteArray} {maxL : Nat} {ret : Option FieldType} {av : List Value} {S : Type} {rv : S → Option Value} {φ : S → Prop} {P1 : S → Heap → Prop} {lo0 : List (Nat × Value)} (hy : plainName y.cls = true) (hlen : (lg_sl av).length ≤ maxL) (hlo : lv_args 0 av = lo0)
    (body : ∀ G : Gx, Ok D A G bytes maxL y.cls rm → Rt G ret (QV rv φ P1 A) rm.cells rm.slots y.name → V G 0 0 P 0 lo0 []) : CT l D A y bytes maxL ret rm av P rv φ P1 := by
  refine Met.ofW (cc := bytes) (maxL := maxL) (ret := ret) hy rfl ?_
  intro p e s m args below meth c s₁ B hml hv
  obtain ⟨rfl, hP, hK⟩ := hv
  have hts := atoms_spec (ws := .code y bytes maxL ret :: zTB) B.pre
  have hown : s.vm.findClass y.cls = some m.cls := findClass_of_methodNamed B.named
  have hl := lv_entry av (n := maxL) hlen
  rw [lg_entry_eq]
  rw [hlo] at hl
  refine body (p, l, e, _, s, m, av.toArray, below, meth, c, A, _) ⟨rfl, B.exec, B.bytes, hml, hown, fun w hw => hts w (List.mem_cons_of_mem _ hw), rfl, hK⟩ ⟨B.returns, B.notSynchronized, rfl, (name_of_methodNamed B.named B.method).1⟩ s.heap [] _ hP va_S.rf ?_
  rw [hml]
  exact hl
theorem v_ireturn {S : Type} {rv : S → Option Value} {φ : S → Prop} {P1 : S → Heap → Prop} {nm : String} {x : Int} (hG : Ok D A G cc nL own rm) (hR : Rt G (some .int) (QV rv φ P1 A) k1 k2 nm) (hd : decode cc pc = .ok (.ireturn, 1)) (u : S) (hv : rv u = some (vI x)) (hφ : φ u) (hp : ∀ H, P H → P1 u H) : V G k1 k2 P pc lo [vI x] := by
  obtain ⟨p, l, e, R, s, m, args, below, meth, c, A', Q⟩ := G
  obtain ⟨hrm, hx, hb, hml, hown, hts, hA, hK⟩ := hG
  intro H locs ls hP hS hl
  obtain ⟨hr, hlocks, hQ, -⟩ := hR
  subst hQ; subst hA
  exact W.iret hx hb hr (fun t ht hW => ⟨⟨u, by rw [hv], hφ, by rw [ht]; exact hp H hP⟩, hS.F ht⟩) hS.2.2 hd hlocks
theorem v_lreturn {S : Type} {rv : S → Option Value} {φ : S → Prop} {P1 : S → Heap → Prop} {nm : String} {x : Int} (hG : Ok D A G cc nL own rm) (hR : Rt G (some .long) (QV rv φ P1 A) k1 k2 nm) (hd : decode cc pc = .ok (.lreturn, 1)) (u : S) (hv : rv u = some (vL x)) (hφ : φ u) (hp : ∀ H, P H → P1 u H) : V G k1 k2 P pc lo [vL x] := by
  obtain ⟨p, l, e, R, s, m, args, below, meth, c, A', Q⟩ := G
  obtain ⟨hrm, hx, hb, hml, hown, hts, hA, hK⟩ := hG
  intro H locs ls hP hS hl
  obtain ⟨hr, hlocks, hQ, -⟩ := hR
  subst hQ; subst hA
  exact W.lret hx hb hr (fun t ht hW => ⟨⟨u, by rw [hv], hφ, by rw [ht]; exact hp H hP⟩, hS.F ht⟩) hS.2.2 hd hlocks
theorem v_zreturn {S : Type} {rv : S → Option Value} {φ : S → Prop} {P1 : S → Heap → Prop} {nm : String} {x : Int} (hG : Ok D A G cc nL own rm) (hR : Rt G (some .boolean) (QV rv φ P1 A) k1 k2 nm) (hd : decode cc pc = .ok (.ireturn, 1)) (hz : x = 0 ∨ x = 1) (u : S) (hv : rv u = some (vI x)) (hφ : φ u) (hp : ∀ H, P H → P1 u H) : V G k1 k2 P pc lo [vI x] := by
  obtain ⟨p, l, e, R, s, m, args, below, meth, c, A', Q⟩ := G
  obtain ⟨hrm, hx, hb, hml, hown, hts, hA, hK⟩ := hG
  intro H locs ls hP hS hl
  obtain ⟨hr, hlocks, hQ, -⟩ := hR
  subst hQ; subst hA
  exact W.zret hx hb hr (by rcases hz with rfl | rfl <;> rfl) (fun t ht hW => ⟨⟨u, by rw [hv], hφ, by rw [ht]; exact hp H hP⟩, hS.F ht⟩) hS.2.2 hd hlocks
theorem v_areturn {S : Type} {rv : S → Option Value} {φ : S → Prop} {P1 : S → Heap → Prop} {nm C : String} {v : Value} (hG : Ok D A G cc nL own rm) (hR : Rt G (some (.object C)) (QV rv φ P1 A) k1 k2 nm) (hd : decode cc pc = .ok (.areturn, 1)) (hz : v = .null ∨ ∃ a, v = .ref a) (u : S) (hv : rv u = some v) (hφ : φ u) (hp : ∀ H, P H → P1 u H) : V G k1 k2 P pc lo [v] := by
  obtain ⟨p, l, e, R, s, m, args, below, meth, c, A', Q⟩ := G
  obtain ⟨hrm, hx, hb, hml, hown, hts, hA, hK⟩ := hG
  intro H locs ls hP hS hl
  obtain ⟨hr, hlocks, hQ, -⟩ := hR
  subst hQ; subst hA
  exact W.aret hx hb hr (Or.inl ⟨_, rfl⟩) hz (fun t ht hW => ⟨⟨u, by rw [hv], hφ, by rw [ht]; exact hp H hP⟩, hS.F ht⟩) hS.2.2 hd hlocks
theorem v_return {S : Type} {rv : S → Option Value} {φ : S → Prop} {P1 : S → Heap → Prop} {nm : String} (hG : Ok D A G cc nL own rm) (hR : Rt G none (QV rv φ P1 A) k1 k2 nm) (hd : decode cc pc = .ok (.return_, 1)) (u : S) (hv : rv u = none) (hφ : φ u) (hp : ∀ H, P H → P1 u H) : V G k1 k2 P pc lo [] := by
  obtain ⟨p, l, e, R, s, m, args, below, meth, c, A', Q⟩ := G
  obtain ⟨hrm, hx, hb, hml, hown, hts, hA, hK⟩ := hG
  intro H locs ls hP hS hl
  obtain ⟨hr, hlocks, hQ, -⟩ := hR
  subst hQ; subst hA
  exact W.vret hx hb hr (fun t ht hW => ⟨⟨u, by rw [hv], hφ, by rw [ht]; exact hp H hP⟩, hS.F ht⟩) hS.2.2 hd hlocks
end VR
