/-! ROWS of the heap and of calls, over V: what P says is all that is known of the heap -/
section VM
variable {D : Dx} {A : Nat → Prop} {G : Gx} {cc : ByteArray} {nL : Nat} {own : String} {rm : Room} {k1 k2 pc : Nat} {P P' : Heap → Prop} {lo : List (Nat × Value)} {st : List Value}
/-- a class of the worlds: its place, name, fields, their types; its words are among the tables' -/
def zCl (ci : Nat) (C : String) (T : u_T) (N : Nat) (ty : Nat → FieldType) : Prop := vwCl[ci]? = some (C, T, N) ∧ (∀ w ∈ u_ws C T N, w ∈ zTB) ∧ (∀ k, k < N → parseFieldDescriptor (T k).2.2.1 = some (ty k)) ∧ (∀ a, a < N → ∀ b, b < N → a ≠ b → (T a).2.1 ≠ (T b).2.1)
/-- a field's reference: the class that speaks, the entry, the class that it names -/
def zFl (own : String) (idx : Nat) (ref : String) (q : String × String × String × Bool) : Prop := Cond.fieldLink own idx ref q.2.1 q.2.2.1 ∈ zTB ∧ (ref = q.1 ∨ Cond.sameField ref q.1 q.2.1 q.2.2.1 ∈ zTB)
theorem zFl.same {ref : String} {idx : Nat} {q : String × String × String × Bool} {s : State} {args : Array Value} (h : zFl own idx ref q) (hts : ∀ w ∈ zTB, w.before args s = true) : ∀ x, s.fieldFound? q.1 q.2.1 q.2.2.1 = some x → s.fieldFound? ref q.2.1 q.2.2.1 = some x := by
  intro x hx
  rcases h.2 with e | e
  · rw [e]; exact hx
  · exact u_same (hts _ e) x hx
theorem v_get {a ci idx : Nat} {C ref : String} {T : u_T} {N : Nat} {ty : Nat → FieldType} {fs : List Value} {v : Value} (hG : Ok D A G cc nL own rm) (hd : decode cc pc = .ok (.getfield idx, 3)) (hC : zCl ci C T N ty) (k : Nat) (hF : zFl own idx ref (T k)) (hk : k < N) (hc : ∀ H, P H → va_at D.1 vwCl (a, .inr (ci, fs)) H) (hv : fs[k]? = some v) (kk : V G k1 k2 P (pc + 3) lo (v :: st)) : V G k1 k2 P pc lo (.ref a :: st) := by
  obtain ⟨p, l, e, R, s, m, args, below, meth, c, A', Q⟩ := G
  obtain ⟨hrm, hx, hb, hml, hown, hts, hA, hK⟩ := hG
  intro H locs ls hP hS hl
  refine va_get (ws := [(a, .inr (ci, fs))]) hx hb hts hC.2.1 hown hK.1 (fun q x hq => ?_) 0 rfl hC.1 k hk (hts _ hF.1) (hF.same hts) hv hd (kk H locs ls hP hS hl)
  match q, hq with
  | 0, hq => cases hq; exact hc H hP
  | q + 1, hq => simp at hq
theorem v_put {a ci idx : Nat} {C ref : String} {T : u_T} {N : Nat} {ty : Nat → FieldType} {fs : List Value} {v : Value} (hG : Ok D A G cc nL own rm) (hd : decode cc pc = .ok (.putfield idx, 3)) (hC : zCl ci C T N ty) (k : Nat) (hF : zFl own idx ref (T k)) (hk : k < N) (hfin : (T k).2.2.2 = false) (hn : narrow (ty k) v = v) (hfit : fits (ty k) v = true) (hl9 : k < fs.length) (hc : ∀ H, P H → va_at D.1 vwCl (a, .inr (ci, fs)) H ∧ A a)
    (hw : ∀ H H', P H → va_at D.1 vwCl (a, .inr (ci, fs.set k v)) H' → H'.size = H.size → (∀ q, q ≠ a → H'[q]? = H[q]?) → P' H') (kk : V G k1 k2 P' (pc + 3) lo st) : V G k1 k2 P pc lo (v :: .ref a :: st) := by
  obtain ⟨p, l, e, R, s, m, args, below, meth, c, A', Q⟩ := G
  obtain ⟨hrm, hx, hb, hml, hown, hts, hA, hK⟩ := hG
  subst hA
  intro H locs ls hP hS hl
  obtain ⟨hCl, hin, hty, hnm⟩ := hC
  have hap := va_apart (own := own) hts hin ty hty hnm hK.1 hCl
  obtain ⟨⟨r, h1, cell, q1, q2, q3, q4⟩, hAa⟩ := hc H hP
  have hr : r = (C, T, N) := Option.some.inj (h1.symm.trans hCl)
  subst hr
  obtain ⟨hSl, hfc, kC, hkC, hkind⟩ := hK.1.1 ci _ hCl
  obtain ⟨cf, kf, fi, f, hi, hsl⟩ := hSl k hk
  have hlay := hts _ (hin _ (u_in_lay hk))
  unfold u_lay at hlay
  rw [if_neg (by rw [hfin]; decide)] at hlay
  have hst := (u_facts hfc hkC (u_lays hts hin hk) hi).1
  have h6 := u_store hfc hkC hkind hlay hi (hty k hk) hn hfit
  refine W.putK hx hb (f := f) ⟨hown, hts _ hF.1, ⟨_, _, _, hF.same hts _ hi⟩, hst⟩ (by rw [q2]; exact h6) q1 q3 (by rw [hsl]; exact k2_hasslot (q4 k hk)) rfl rfl hd fun H' e1 e2 e3 => ?_
  rw [hsl] at e1 ⊢
  exact kk H' _ ls (hw H H' hP ⟨_, hCl, t_OB.to (V := updV (vp_V fs) k v) ⟨_, e1, q2, q3, t_set q4 hap hk v⟩ (fun j _ => vp_updV_set hl9 v j)⟩ e2 e3) (hS.put e2 e3 hAa) hl
theorem v_putF {a ci idx : Nat} {C ref : String} {T : u_T} {N : Nat} {ty : Nat → FieldType} {fs : List Value} {v : Value} {ret : Option FieldType} {Qc : Array Value → State → Outcome → State → Prop} {mc ms : Nat} (hG : Ok D A G cc nL own rm) (hR : Rt G ret Qc mc ms "<init>") (hd : decode cc pc = .ok (.putfield idx, 3)) (hC : zCl ci C T N ty) (k : Nat) (hF : zFl own idx ref (T k)) (hk : k < N) (hfin : (T k).2.2.2 = true) (hdecl : (T k).1 = own) (hn : narrow (ty k) v = v) (hfit : fits (ty k) v = true) (hl9 : k < fs.length) (hc : ∀ H, P H → va_at D.1 vwCl (a, .inr (ci, fs)) H ∧ A a)
    (hw : ∀ H H', P H → va_at D.1 vwCl (a, .inr (ci, fs.set k v)) H' → H'.size = H.size → (∀ q, q ≠ a → H'[q]? = H[q]?) → P' H') (kk : V G k1 k2 P' (pc + 3) lo st) : V G k1 k2 P pc lo (v :: .ref a :: st) := by
  obtain ⟨p, l, e, R, s, m, args, below, meth, c, A', Q⟩ := G
  obtain ⟨hrm, hx, hb, hml, hown, hts, hA, hK⟩ := hG
  obtain ⟨-, -, -, hin2⟩ := hR
  subst hA
  intro H locs ls hP hS hl
  obtain ⟨hCl, hin, hty, hnm⟩ := hC
  have hap := va_apart (own := own) hts hin ty hty hnm hK.1 hCl
  obtain ⟨⟨r, h1, cell, q1, q2, q3, q4⟩, hAa⟩ := hc H hP
  have hr : r = (C, T, N) := Option.some.inj (h1.symm.trans hCl)
  subst hr
  obtain ⟨hSl, hfc, kC, hkC, hkind⟩ := hK.1.1 ci _ hCl
  obtain ⟨cf, kf, fi, f, hi, hsl⟩ := hSl k hk
  have hlay := hts _ (hin _ (u_in_lay hk))
  unfold u_lay at hlay
  rw [if_pos hfin] at hlay
  have hst := (u_facts hfc hkC (u_lays hts hin hk) hi).1
  have hcf : m.cls = cf := by
    obtain ⟨_, _, c', _, _, _, -, -, hf', -, -, -, hown2, -⟩ := Cond.laysFinal_spec hlay
    have e1 : c' = cf := by have := hi.symm.trans hf'; simp at this; exact this.1.symm
    rw [hdecl] at hown2
    rw [← e1]; exact Option.some.inj (hown.symm.trans hown2)
  have h6 := u_fits hfc hkC hkind (Or.inr hlay) hi (hty k hk) hn hfit
  refine W.putFinK hx hb hown (hts _ hF.1) (hF.same hts _ hi) hst hcf hin2 (by rw [q2]; exact h6) q1 q3 (by rw [hsl]; exact k2_hasslot (q4 k hk)) rfl rfl hd fun H' e1 e2 e3 => ?_
  rw [hsl] at e1 ⊢
  exact kk H' _ ls (hw H H' hP ⟨_, hCl, t_OB.to (V := updV (vp_V fs) k v) ⟨_, e1, q2, q3, t_set q4 hap hk v⟩ (fun j _ => vp_updV_set hl9 v j)⟩ e2 e3) (hS.put e2 e3 hAa) hl
theorem zarr {a t0 : Nat} {cA : ClassId} {ty : FieldType} {x : vp_A} {s : State} {H : Heap} (hK : KB D A s) (ht : (zty D)[t0]? = some (cA, ty)) (N : Nat) (f : Nat → Value) : s.isArrayOf (arrV cA N f) ty := (hK.1.2 t0 _ ht).1 N f
/-- arrays of ints (.int) or of booleans (.boolean): t0 is their kind's place in zty -/
theorem v_iald {a : Nat} {n : Nat} {f : Nat → Int} {x : Int} (hG : Ok D A G cc nL own rm) (hd : decode cc pc = .ok (.iaload, 1)) (hn : n ≤ 2147483647) (hx : 0 ≤ x ∧ x < n) (hc : ∀ H, P H → va_at D.1 vwCl (a, .inl (D.2.1, n, .inl (fun q => ii (f q)))) H) (kk : V G k1 k2 P (pc + 1) lo (vI (f x.toNat) :: st)) : V G k1 k2 P pc lo (vI x :: .ref a :: st) := by
  obtain ⟨p, l, e, R, s, m, args, below, meth, c, A', Q⟩ := G
  obtain ⟨hrm, hx0, hb, hml, hown, hts, hA, hK⟩ := hG
  intro H locs ls hP hS hl
  refine va_iald (ws := [(a, .inl (D.2.1, n, .inl (fun q => ii (f q))))]) hx0 hb hK.1 (fun q x hq => ?_) 0 0 rfl rfl (ii_in hx hn) hd ?_
  · match q, hq with
    | 0, hq => cases hq; exact hc H hP
    | q + 1, hq => simp at hq
  · rw [ii_clamp (by omega)]
    exact kk H locs ls hP hS hl
theorem v_zald {a : Nat} {n : Nat} {f : Nat → Int} {x : Int} (hG : Ok D A G cc nL own rm) (hd : decode cc pc = .ok (.baload, 1)) (hn : n ≤ 2147483647) (hx : 0 ≤ x ∧ x < n) (hc : ∀ H, P H → va_at D.1 vwCl (a, .inl (D.2.2.1, n, .inl (fun q => ii (f q)))) H) (kk : V G k1 k2 P (pc + 1) lo (vI (f x.toNat) :: st)) : V G k1 k2 P pc lo (vI x :: .ref a :: st) := by
  obtain ⟨p, l, e, R, s, m, args, below, meth, c, A', Q⟩ := G
  obtain ⟨hrm, hx0, hb, hml, hown, hts, hA, hK⟩ := hG
  intro H locs ls hP hS hl
  refine va_zald (ws := [(a, .inl (D.2.2.1, n, .inl (fun q => ii (f q))))]) hx0 hb hK.1 (fun q x hq => ?_) 0 1 rfl rfl (ii_in hx hn) hd ?_
  · match q, hq with
    | 0, hq => cases hq; exact hc H hP
    | q + 1, hq => simp at hq
  · rw [ii_clamp (by omega)]
    exact kk H locs ls hP hS hl
theorem v_iast {a : Nat} {n : Nat} {f : Nat → Int} {x v : Int} (hG : Ok D A G cc nL own rm) (hd : decode cc pc = .ok (.iastore, 1)) (hn : n ≤ 2147483647) (hx : 0 ≤ x ∧ x < n) (hc : ∀ H, P H → va_at D.1 vwCl (a, .inl (D.2.1, n, .inl (fun q => ii (f q)))) H ∧ A a)
    (hw : ∀ H H', P H → va_at D.1 vwCl (a, .inl (D.2.1, n, .inl (fun q => ii (if q = x.toNat then v else f q)))) H' → H'.size = H.size → (∀ q, q ≠ a → H'[q]? = H[q]?) → P' H') (kk : V G k1 k2 P' (pc + 1) lo st) : V G k1 k2 P pc lo (vI v :: vI x :: .ref a :: st) := by
  obtain ⟨p, l, e, R, s, m, args, below, meth, c, A', Q⟩ := G
  obtain ⟨hrm, hx0, hb, hml, hown, hts, hA, hK⟩ := hG
  subst hA
  intro H locs ls hP hS hl
  obtain ⟨hP0, hAa⟩ := hc H hP
  refine W.iast hx0 hb hP0 ((hK.1.2 0 _ rfl).1 n (fun j => .int (ii (f j)))) (fun q => by cases q) (by show ¬ (ii x < 0 ∨ (arrV _ _ _).slots.size ≤ _); rw [arrV_size]; exact ii_in hx hn) rfl rfl hd fun H1 e1 z oq => ?_
  refine kk H1 _ ls (hw H H1 hP ?_ z oq) (hS.put z oq hAa) hl
  show H1[a]? = some (vp_cell _ _)
  rw [e1]
  rw [vp_cell_i, vp_cell_i, arrV_store, ii_clamp (by omega)]
  congr 2
  funext q
  by_cases hq : q = x.toNat
  · subst hq
    simp [updV]
  · simp [updV, hq]
theorem v_zast {a : Nat} {n : Nat} {f : Nat → Int} {x v : Int} (hG : Ok D A G cc nL own rm) (hd : decode cc pc = .ok (.bastore, 1)) (hn : n ≤ 2147483647) (hx : 0 ≤ x ∧ x < n) (hv : v = 0 ∨ v = 1) (hc : ∀ H, P H → va_at D.1 vwCl (a, .inl (D.2.2.1, n, .inl (fun q => ii (f q)))) H ∧ A a)
    (hw : ∀ H H', P H → va_at D.1 vwCl (a, .inl (D.2.2.1, n, .inl (fun q => ii (if q = x.toNat then v else f q)))) H' → H'.size = H.size → (∀ q, q ≠ a → H'[q]? = H[q]?) → P' H') (kk : V G k1 k2 P' (pc + 1) lo st) : V G k1 k2 P pc lo (vI v :: vI x :: .ref a :: st) := by
  obtain ⟨p, l, e, R, s, m, args, below, meth, c, A', Q⟩ := G
  obtain ⟨hrm, hx0, hb, hml, hown, hts, hA, hK⟩ := hG
  subst hA
  intro H locs ls hP hS hl
  obtain ⟨hP0, hAa⟩ := hc H hP
  have hz : narrow .boolean (.int (ii v)) = .int (ii v) := by rcases hv with rfl | rfl <;> rfl
  refine W.zast hx0 hb hP0 ((hK.1.2 1 _ rfl).1 n (fun j => .int (ii (f j)))) (fun q => by cases q) (by show ¬ (ii x < 0 ∨ (arrV _ _ _).slots.size ≤ _); rw [arrV_size]; exact ii_in hx hn) rfl rfl hd fun H1 e1 z oq => ?_
  refine kk H1 _ ls (hw H H1 hP ?_ z oq) (hS.put z oq hAa) hl
  show H1[a]? = some (vp_cell _ _)
  rw [e1]
  rw [vp_cell_i, vp_cell_i, arrV_store, ii_clamp (by omega)]
  congr 2
  funext q
  by_cases hq : q = x.toNat
  · subst hq
    simp [updV, hz]
  · simp [updV, hq]
theorem v_alen {a : Nat} {n : Nat} {x : vp_A} (t0 : Nat) {cA : ClassId} {ty : FieldType} (hG : Ok D A G cc nL own rm) (hd : decode cc pc = .ok (.arraylength, 1)) (ht : (zty D)[t0]? = some (cA, ty)) (hn : x.1 = n) (hc : ∀ H, P H → va_at D.1 vwCl (a, .inl (cA, x)) H) (kk : V G k1 k2 P (pc + 1) lo (vI n :: st)) : V G k1 k2 P pc lo (.ref a :: st) := by
  obtain ⟨p, l, e, R, s, m, args, below, meth, c, A', Q⟩ := G
  obtain ⟨hrm, hx0, hb, hml, hown, hts, hA, hK⟩ := hG
  intro H locs ls hP hS hl
  refine va_alen (ws := [(a, .inl (cA, x))]) hx0 hb hK.1 (fun q x hq => ?_) 0 t0 rfl ht (v := ii n) (by rw [ii_nat, hn]) hd (kk H locs ls hP hS hl)
  match q, hq with
  | 0, hq => cases hq; exact hc H hP
  | q + 1, hq => simp at hq
theorem v_aald {a : Nat} {n : Nat} {f : Nat → Option Nat} {x : Int} (t0 : Nat) {cA : ClassId} {C : String} {v : Value} (hG : Ok D A G cc nL own rm) (hd : decode cc pc = .ok (.aaload, 1)) (ht : (zty D)[t0]? = some (cA, .object C)) (hn : n ≤ 2147483647) (hx : 0 ≤ x ∧ x < n) (hc : ∀ H, P H → va_at D.1 vwCl (a, .inl (cA, n, .inr (.inr (.inr (.inr f))))) H) (hv : va_rf (f x.toNat) = v) (kk : V G k1 k2 P (pc + 1) lo (v :: st)) : V G k1 k2 P pc lo (vI x :: .ref a :: st) := by
  obtain ⟨p, l, e, R, s, m, args, below, meth, c, A', Q⟩ := G
  obtain ⟨hrm, hx0, hb, hml, hown, hts, hA, hK⟩ := hG
  intro H locs ls hP hS hl
  refine va_aldq (ws := [(a, .inl (cA, n, .inr (.inr (.inr (.inr f)))))]) hx0 hb hK.1 (fun q x hq => ?_) 0 t0 rfl ht (ii_in hx hn) hd ?_
  · match q, hq with
    | 0, hq => cases hq; exact hc H hP
    | q + 1, hq => simp at hq
  · rw [ii_clamp (by omega), hv]
    exact kk H locs ls hP hS hl
/-- what a call's reference needs of the tables -/
def zC (y : MethodName) (bytes : ByteArray) (maxL : Nat) (ret : Option FieldType) (n : Nat) : Prop := Cond.code y bytes maxL ret ∈ zTB ∧ Cond.initialized y.cls ∈ zTB ∧ (y.cls ≠ "java/lang/invoke/MethodHandle" ∧ y.cls ≠ "java/lang/invoke/VarHandle") ∧ (parseMethodDescriptor y.desc).map (fun d => d.parameters.length) = some n
theorem v_of_run {mc ms k1' k2' : Nat} {rest : List Value} {S : Type} {rv : S → Option Value} {φ : S → Prop} {P1 : S → Heap → Prop} {a : Array Value} (h1 : k1 + mc = k1') (h2 : k2 + ms = k2') (out : S → List Value) (hout : ∀ u, (rv u).toList ++ rest = out u) (hA : ∀ p l e R s m args below meth c A' Q, G = (p, l, e, R, s, m, args, below, meth, c, A', Q) → A' = A)
    (hrun : ∀ p l e R s m args below meth c A' Q, G = (p, l, e, R, s, m, args, below, meth, c, A', Q) → ∀ (H : Heap) (locs : List Loc) (ls : Array Slot), P H → va_S A s.heap H locs → lv_has ls c.maxLocals lo → va_Run p l e R s m args below meth c H locs k1 k2 mc ms (F0 m pc ls st) rest (QV rv φ P1 A a) A)
    (kk : ∀ u, φ u → V G k1' k2' (P1 u) (pc + 3) lo (out u)) : V G k1 k2 P pc lo st := by
  obtain ⟨p, l, e, R, s, m, args, below, meth, c, A', Q⟩ := G
  have hA := hA _ _ _ _ _ _ _ _ _ _ _ _ rfl
  have hrun := hrun _ _ _ _ _ _ _ _ _ _ _ _ rfl
  subst hA
  subst h1; subst h2
  intro H locs ls hP hS hl T hT X
  obtain ⟨v, st₀, t, T', L, h0, X', hL, e1, e2, ⟨⟨u, hv, hφ, hp⟩, hz, hk⟩, stp⟩ := hrun H locs ls hP hS hl T hT X
  cases hv
  rw [h0] at hz hk
  have hS' : va_S A' s.heap t.heap (locs ++ L) := ⟨Nat.le_trans hS.1 hz, fun q h1 h2 => by rw [hk q (Nat.lt_of_lt_of_le h1 hS.1) h2]; exact hS.2.1 q h1 h2, fun q hq => by
      rcases List.mem_append.mp hq with h | h
      · exact hS.2.2 q h
      · exact hL q h⟩
  obtain ⟨t2, a1, b1⟩ := kk u hφ t.heap (locs ++ L) ls hp hS' hl T' e1 X'
  rw [← hout u] at a1
  exact ⟨t2, stp t2 a1, b1⟩
theorem zpre {l : Launch} {s : State} {H : Heap} {locs : List Loc} {av : List Value} (hP : ∀ H, P H → P' H) (hK : KB D A s) (hS : va_S A s.heap H locs) (hp : P H) : FrameBlind (va_Pc av (fun U => P' U.heap ∧ KB D A U)) ∧ ∀ U : State, U.heap = H → s.WarmedH U.vm → va_Pc av (fun U => P' U.heap ∧ KB D A U) av.toArray U := by
  refine ⟨fun a U g mk q => ⟨q.1, q.2.1, KB.same (s := U) (U := U.calling g mk a) rfl rfl q.2.2⟩, fun U hU hW => ⟨rfl, by rw [hU]; exact hP H hp, KB.warm hW (fun a h1 h2 => by rw [hU]; exact hS.2.1 a h1 h2) hK⟩⟩
theorem zcb {s : State} {args : Array Value} {idx maxL n : Nat} {y : MethodName} {bytes : ByteArray} {ret : Option FieldType} {rm' R : Room} (hts : ∀ w ∈ zTB, w.before args s = true) (hc : zC y bytes maxL ret n) (hl : Cond.methodLink own idx y ∈ zTB) (hroom : rm'.frames + 1 ≤ R.frames ∧ 8 + (maxL + 11) + rm'.locals ≤ R.locals) : CallB R s args own idx y bytes maxL ret (.code y bytes maxL ret :: zTB) rm' rm'.cells rm'.slots n := by
  have hg : GoodIn zTB (.code y bytes maxL ret :: zTB) := by
    intro w hw
    rcases List.mem_cons.mp hw with rfl | hw
    · exact ⟨hc.1, good_of_word (List.mem_filter.mp hc.1).2⟩
    · exact ⟨hw, good_of_word (List.mem_filter.mp hw).2⟩
  exact callB_of n hts hg rfl rfl rfl (hts _ hc.2.1) (hts _ hl) ⟨hc.2.2.1.1, hc.2.2.1.2, hc.2.2.2⟩ hroom
/-- the receiver's class is known -/
def zRv (D : Dx) (P : Heap → Prop) (b : Nat) (C : String) : Prop := ∀ H, P H → ∃ (ci : Nat) (fs : List Value) (q : vw_C), va_at D.1 vwCl (b, .inr (ci, fs)) H ∧ vwCl[ci]? = some q ∧ q.1 = C
theorem zRv.get {b : Nat} {C : String} {s : State} {H : Heap} (h : zRv D P b C) (hK : KB D A s) (hp : P H) : ∃ cell : Cell, H[b]? = some cell ∧ cell.vm.isStatics = false ∧ s.vm.findClass C = some cell.cls := by
  obtain ⟨ci, fs, q, h1, h2, rfl⟩ := h H hp
  exact va_recv hK.1 (ws := [(b, .inr (ci, fs))]) (q0 := 0) (fun k x hk => by
    match k, hk with
    | 0, hk => cases hk; exact h1
    | k + 1, hk => simp at hk) h2 rfl
variable {y x : MethodName} {bytes : ByteArray} {maxL n idx : Nat} {ret : Option FieldType} {rm' : Room} {As rest : List Value} {b : Nat} {S : Type} {rv : S → Option Value} {φ : S → Prop} {P1 : S → Heap → Prop} {k1' k2' : Nat}
theorem v_callV (hG : Ok D A G cc nL own rm) (hd : decode cc pc = .ok (.invokevirtual idx, 3)) (hc : zC y bytes maxL ret n) (hl : Cond.methodLink own idx y ∈ zTB ∧ Cond.instanceMethod y ∈ zTB ∧ Cond.selects y.cls y y ∈ zTB) (hM : ∀ l, CT l D A y bytes maxL ret rm' (.ref b :: As) P' rv φ P1) (hn : As.length = n) (hrec : zRv D P b y.cls) (hP : ∀ H, P H → P' H) (hroom : rm'.frames + 1 ≤ rm.frames ∧ 8 + (maxL + 11) + rm'.locals ≤ rm.locals) (h1 : k1 + rm'.cells = k1') (h2 : k2 + rm'.slots = k2') (h3 : k1' ≤ rm.cells ∧ k2' ≤ rm.slots) (hst : st = As.reverse ++ .ref b :: rest) (hw : (rest.map fun v => v.category).sum ≤ 8) (out : S → List Value) (hout : ∀ u, (rv u).toList ++ rest = out u) (kk : ∀ u, φ u → V G k1' k2' (P1 u) (pc + 3) lo (out u)) : V G k1 k2 P pc lo st := by
  refine v_of_run (A := A) (a := (Value.ref b :: As).toArray) h1 h2 out hout (fun p l e R s m args below meth c A' Q hg => by subst hg; exact hG.2.2.2.2.2.2.1) (fun p l e R s m args below meth c A' Q hg => ?_) kk
  subst hg
  obtain ⟨hrm, hx, hb, hml, hown, hts, hA, hK⟩ := hG
  subst hrm
  intro H locs ls hp hS hlv
  have hz := zpre (l := l) (av := .ref b :: As) hP hK hS hp
  exact va_runV (nL := c.maxLocals) ⟨hx, hb, rfl, hown, hts⟩ (hM l) ⟨zcb hts hc hl.1 hroom, hts _ hl.2.1, hts _ hl.2.2⟩ ⟨hz.1, hrec.get hK hp, hz.2⟩ rfl hn hlv.1 hst (lv_room hw) hd ⟨by rw [h1]; exact h3.1, by rw [h2]; exact h3.2⟩
theorem v_callS (hG : Ok D A G cc nL own rm) (hd : decode cc pc = .ok (.invokestatic idx, 3)) (hc : zC y bytes maxL ret n) (hl : Cond.methodLink own idx y ∈ zTB ∧ Cond.static y ∈ zTB) (hM : ∀ l, CT l D A y bytes maxL ret rm' As P' rv φ P1) (hn : As.length = n) (hP : ∀ H, P H → P' H) (hroom : rm'.frames + 1 ≤ rm.frames ∧ 8 + (maxL + 11) + rm'.locals ≤ rm.locals) (h1 : k1 + rm'.cells = k1') (h2 : k2 + rm'.slots = k2') (h3 : k1' ≤ rm.cells ∧ k2' ≤ rm.slots) (hst : st = As.reverse ++ rest) (hw : (rest.map fun v => v.category).sum ≤ 8) (out : S → List Value) (hout : ∀ u, (rv u).toList ++ rest = out u) (kk : ∀ u, φ u → V G k1' k2' (P1 u) (pc + 3) lo (out u)) : V G k1 k2 P pc lo st := by
  refine v_of_run (A := A) (a := As.toArray) h1 h2 out hout (fun p l e R s m args below meth c A' Q hg => by subst hg; exact hG.2.2.2.2.2.2.1) (fun p l e R s m args below meth c A' Q hg => ?_) kk
  subst hg
  obtain ⟨hrm, hx, hb, hml, hown, hts, hA, hK⟩ := hG
  subst hrm
  intro H locs ls hp hS hlv
  have hz := zpre (l := l) (av := As) hP hK hS hp
  exact va_runS (nL := c.maxLocals) ⟨hx, hb, rfl, hown, hts⟩ (hM l) ⟨zcb hts hc hl.1 hroom, hts _ hl.2⟩ hz rfl hn hlv.1 hst (lv_room hw) hd ⟨by rw [h1]; exact h3.1, by rw [h2]; exact h3.2⟩
theorem v_callSN {host : String} (hG : Ok D A G cc nL own rm) (hd : decode cc pc = .ok (.invokestatic idx, 3)) (hc : zC y bytes maxL ret n) (hl : Cond.methodLinkNest own idx y host ∈ zNB ∧ Cond.static y ∈ zTB) (hM : ∀ l, CT l D A y bytes maxL ret rm' As P' rv φ P1) (hn : As.length = n) (hP : ∀ H, P H → P' H) (hroom : rm'.frames + 1 ≤ rm.frames ∧ 8 + (maxL + 11) + rm'.locals ≤ rm.locals) (h1 : k1 + rm'.cells = k1') (h2 : k2 + rm'.slots = k2') (h3 : k1' ≤ rm.cells ∧ k2' ≤ rm.slots) (hst : st = As.reverse ++ rest) (hw : (rest.map fun v => v.category).sum ≤ 8) (out : S → List Value) (hout : ∀ u, (rv u).toList ++ rest = out u) (kk : ∀ u, φ u → V G k1' k2' (P1 u) (pc + 3) lo (out u)) : V G k1 k2 P pc lo st := by
  refine v_of_run (A := A) (a := As.toArray) h1 h2 out hout (fun p l e R s m args below meth c A' Q hg => by subst hg; exact hG.2.2.2.2.2.2.1) (fun p l e R s m args below meth c A' Q hg => ?_) kk
  subst hg
  obtain ⟨hrm, hx, hb, hml, hown, hts, hA, hK⟩ := hG
  subst hrm
  intro H locs ls hp hS hlv
  have hz := zpre (l := l) (av := As) hP hK hS hp
  have hg : GoodIn zTB (.code y bytes maxL ret :: zTB) := by
    intro w hw
    rcases List.mem_cons.mp hw with rfl | hw
    · exact ⟨hc.1, good_of_word (List.mem_filter.mp hc.1).2⟩
    · exact ⟨hw, good_of_word (List.mem_filter.mp hw).2⟩
  exact va_runSN (nL := c.maxLocals) ⟨hx, hb, rfl, hown, hts⟩ (hM l) ⟨va_cnB n hts hg rfl rfl rfl (hK.2.1 _ hl.1) (hts _ hc.2.1) ⟨hc.2.2.1.1, hc.2.2.1.2, hc.2.2.2⟩ hroom, hts _ hl.2, trivial⟩ hz rfl hn hlv.1 hst (lv_room hw) hd ⟨by rw [h1]; exact h3.1, by rw [h2]; exact h3.2⟩
theorem v_callI (hG : Ok D A G cc nL own rm) (hd : decode cc pc = .ok (.invokespecial idx, 3)) (hc : zC y bytes maxL none n) (hl : Cond.methodLink own idx y ∈ zTB ∧ Cond.instanceMethod y ∈ zTB) (hy : y.name = "<init>") (hM : ∀ l, CT l D A y bytes maxL none rm' (.ref b :: As) P' rv φ P1) (hn : As.length = n) (hP : ∀ H, P H → P' H) (hroom : rm'.frames + 1 ≤ rm.frames ∧ 8 + (maxL + 11) + rm'.locals ≤ rm.locals) (h1 : k1 + rm'.cells = k1') (h2 : k2 + rm'.slots = k2') (h3 : k1' ≤ rm.cells ∧ k2' ≤ rm.slots) (hst : st = As.reverse ++ .ref b :: rest) (hw : (rest.map fun v => v.category).sum ≤ 8) (out : S → List Value) (hout : ∀ u, (rv u).toList ++ rest = out u) (kk : ∀ u, φ u → V G k1' k2' (P1 u) (pc + 3) lo (out u)) : V G k1 k2 P pc lo st := by
  refine v_of_run (A := A) (a := (Value.ref b :: As).toArray) h1 h2 out hout (fun p l e R s m args below meth c A' Q hg => by subst hg; exact hG.2.2.2.2.2.2.1) (fun p l e R s m args below meth c A' Q hg => ?_) kk
  subst hg
  obtain ⟨hrm, hx, hb, hml, hown, hts, hA, hK⟩ := hG
  subst hrm
  intro H locs ls hp hS hlv
  have hz := zpre (l := l) (av := .ref b :: As) hP hK hS hp
  exact va_runI (nL := c.maxLocals) ⟨hx, hb, rfl, hown, hts⟩ (hM l) ⟨zcb hts hc hl.1 hroom, hy, hts _ hl.2⟩ hz rfl hn hlv.1 hst (lv_room hw) hd ⟨by rw [h1]; exact h3.1, by rw [h2]; exact h3.2⟩
theorem v_callIN {host : String} (hG : Ok D A G cc nL own rm) (hd : decode cc pc = .ok (.invokespecial idx, 3)) (hc : zC y bytes maxL none n) (hl : Cond.methodLinkNest own idx y host ∈ zNB ∧ Cond.instanceMethod y ∈ zTB) (hy : y.name = "<init>") (hM : ∀ l, CT l D A y bytes maxL none rm' (.ref b :: As) P' rv φ P1) (hn : As.length = n) (hP : ∀ H, P H → P' H) (hroom : rm'.frames + 1 ≤ rm.frames ∧ 8 + (maxL + 11) + rm'.locals ≤ rm.locals) (h1 : k1 + rm'.cells = k1') (h2 : k2 + rm'.slots = k2') (h3 : k1' ≤ rm.cells ∧ k2' ≤ rm.slots) (hst : st = As.reverse ++ .ref b :: rest) (hw : (rest.map fun v => v.category).sum ≤ 8) (out : S → List Value) (hout : ∀ u, (rv u).toList ++ rest = out u) (kk : ∀ u, φ u → V G k1' k2' (P1 u) (pc + 3) lo (out u)) : V G k1 k2 P pc lo st := by
  refine v_of_run (A := A) (a := (Value.ref b :: As).toArray) h1 h2 out hout (fun p l e R s m args below meth c A' Q hg => by subst hg; exact hG.2.2.2.2.2.2.1) (fun p l e R s m args below meth c A' Q hg => ?_) kk
  subst hg
  obtain ⟨hrm, hx, hb, hml, hown, hts, hA, hK⟩ := hG
  subst hrm
  intro H locs ls hp hS hlv
  have hz := zpre (l := l) (av := .ref b :: As) hP hK hS hp
  have hg : GoodIn zTB (.code y bytes maxL none :: zTB) := by
    intro w hw
    rcases List.mem_cons.mp hw with rfl | hw
    · exact ⟨hc.1, good_of_word (List.mem_filter.mp hc.1).2⟩
    · exact ⟨hw, good_of_word (List.mem_filter.mp hw).2⟩
  exact va_runIN (nL := c.maxLocals) ⟨hx, hb, rfl, hown, hts⟩ (hM l) ⟨va_cnB n hts hg rfl rfl rfl (hK.2.1 _ hl.1) (hts _ hc.2.1) ⟨hc.2.2.1.1, hc.2.2.1.2, hc.2.2.2⟩ hroom, hy, hts _ hl.2⟩ hz rfl hn hlv.1 hst (lv_room hw) hd ⟨by rw [h1]; exact h3.1, by rw [h2]; exact h3.2⟩
/-- a virtual call that names x and runs y: C is the receiver's class -/
def zU (own : String) (idx : Nat) (C owner : String) (x y : MethodName) : Prop := Cond.methodLink own idx x ∈ zTB ∧ Cond.sameMethod x.cls owner x.name x.desc ∈ zTB ∧ Cond.selects C x y ∈ zTB ∧ Cond.instanceMethod y ∈ zTB ∧ Cond.instanceMethod ⟨owner, x.name, x.desc⟩ ∈ zTB ∧ (∃ b m r, Cond.code ⟨owner, x.name, x.desc⟩ b m r ∈ zTB) ∧ (owner ≠ "java/lang/invoke/MethodHandle" ∧ owner ≠ "java/lang/invoke/VarHandle") ∧ x.desc = y.desc
theorem v_callU {C owner : String} (hG : Ok D A G cc nL own rm) (hd : decode cc pc = .ok (.invokevirtual idx, 3)) (hc : zC y bytes maxL ret n) (hl : zU own idx C owner x y) (hM : ∀ l, CT l D A y bytes maxL ret rm' (.ref b :: As) P' rv φ P1) (hn : As.length = n) (hrec : zRv D P b C) (hP : ∀ H, P H → P' H) (hroom : rm'.frames + 1 ≤ rm.frames ∧ 8 + (maxL + 11) + rm'.locals ≤ rm.locals) (h1 : k1 + rm'.cells = k1') (h2 : k2 + rm'.slots = k2') (h3 : k1' ≤ rm.cells ∧ k2' ≤ rm.slots) (hst : st = As.reverse ++ .ref b :: rest) (hw : (rest.map fun v => v.category).sum ≤ 8) (out : S → List Value) (hout : ∀ u, (rv u).toList ++ rest = out u) (kk : ∀ u, φ u → V G k1' k2' (P1 u) (pc + 3) lo (out u)) : V G k1 k2 P pc lo st := by
  refine v_of_run (A := A) (a := (Value.ref b :: As).toArray) h1 h2 out hout (fun p l e R s m args below meth c A' Q hg => by subst hg; exact hG.2.2.2.2.2.2.1) (fun p l e R s m args below meth c A' Q hg => ?_) kk
  subst hg
  obtain ⟨hrm, hx, hb, hml, hown, hts, hA, hK⟩ := hG
  subst hrm
  intro H locs ls hp hS hlv
  have hz := zpre (l := l) (av := .ref b :: As) hP hK hS hp
  have hg : GoodIn zTB (.code y bytes maxL ret :: zTB) := by
    intro w hw
    rcases List.mem_cons.mp hw with rfl | hw
    · exact ⟨hc.1, good_of_word (List.mem_filter.mp hc.1).2⟩
    · exact ⟨hw, good_of_word (List.mem_filter.mp hw).2⟩
  obtain ⟨l1, l2, l3, l4, l5, ⟨b0, m0, r0, l6⟩, l7, l8⟩ := hl
  have hcu : va_CU R s args own C owner idx x y bytes maxL ret (.code y bytes maxL ret :: zTB) rm' rm'.cells rm'.slots n := by
    refine ⟨⟨rfl, rfl, hroom.1, hroom.2, pay_in hts hg, List.mem_cons_self⟩, hts _ hc.1, hts _ hc.2.1, l7, fun sig h => ?_, hts _ l1, hts _ l2, va_Decl.of (hts _ l5) (hts _ l6), hts _ l3, hts _ l4⟩
    have h2 := hc.2.2.2
    rw [← l8, h] at h2
    exact (Option.some.inj h2).symm
  exact va_runU (nL := c.maxLocals) ⟨hx, hb, rfl, hown, hts⟩ (hM l) hcu ⟨hz.1, hrec.get hK hp, hz.2⟩ rfl hn hlv.1 hst (lv_room hw) hd ⟨by rw [h1]; exact h3.1, by rw [h2]; exact h3.2⟩
theorem v_callSU {C : String} {ci : Nat} {q : vw_C} (hG : Ok D A G cc nL own rm) (hd : decode cc pc = .ok (.invokespecial idx, 3)) (hc : zC y bytes maxL ret n) (hl : Cond.methodLink own idx y ∈ zTB ∧ Cond.sameMethod y.cls y.cls y.name y.desc ∈ zTB ∧ Cond.superclass own y.cls ∈ zTB ∧ Cond.instanceMethod y ∈ zTB) (hy : y.name ≠ "<init>") (hcl : vwCl[ci]? = some q) (hq : q.1 = C) (hM : ∀ l, CT l D A y bytes maxL ret rm' (.ref b :: As) P' rv φ P1) (hn : As.length = n) (hrec : zRv D P b C) (hP : ∀ H, P H → P' H) (hroom : rm'.frames + 1 ≤ rm.frames ∧ 8 + (maxL + 11) + rm'.locals ≤ rm.locals) (h1 : k1 + rm'.cells = k1') (h2 : k2 + rm'.slots = k2') (h3 : k1' ≤ rm.cells ∧ k2' ≤ rm.slots) (hst : st = As.reverse ++ .ref b :: rest) (hw : (rest.map fun v => v.category).sum ≤ 8) (out : S → List Value) (hout : ∀ u, (rv u).toList ++ rest = out u) (kk : ∀ u, φ u → V G k1' k2' (P1 u) (pc + 3) lo (out u)) : V G k1 k2 P pc lo st := by
  refine v_of_run (A := A) (a := (Value.ref b :: As).toArray) h1 h2 out hout (fun p l e R s m args below meth c A' Q hg => by subst hg; exact hG.2.2.2.2.2.2.1) (fun p l e R s m args below meth c A' Q hg => ?_) kk
  subst hg
  obtain ⟨hrm, hx, hb, hml, hown, hts, hA, hK⟩ := hG
  subst hrm
  intro H locs ls hp hS hlv
  have hz := zpre (l := l) (av := .ref b :: As) hP hK hS hp
  have hg : GoodIn zTB (.code y bytes maxL ret :: zTB) := by
    intro w hw
    rcases List.mem_cons.mp hw with rfl | hw
    · exact ⟨hc.1, good_of_word (List.mem_filter.mp hc.1).2⟩
    · exact ⟨hw, good_of_word (List.mem_filter.mp hw).2⟩
  have hcs : va_CS R s args own idx y bytes maxL ret (.code y bytes maxL ret :: zTB) rm' rm'.cells rm'.slots n := by
    refine ⟨⟨rfl, rfl, hroom.1, hroom.2, pay_in hts hg, List.mem_cons_self⟩, hts _ hl.1, hts _ hl.2.1, hts _ hl.2.2.1, hts _ hl.2.2.2, hts _ hc.2.1, hts _ hc.1, hy, fun sig h => ?_⟩
    have h2 := hc.2.2.2
    rw [h] at h2
    exact (Option.some.inj h2).symm
  subst hq
  exact va_runSU (nL := c.maxLocals) (hK.1.1 ci q hcl).2 ⟨hx, hb, rfl, hown, hts⟩ (hM l) hcs ⟨hz.1, hrec.get hK hp, hz.2⟩ rfl hn hlv.1 hst (lv_room hw) hd ⟨by rw [h1]; exact h3.1, by rw [h2]; exact h3.2⟩
end VM
