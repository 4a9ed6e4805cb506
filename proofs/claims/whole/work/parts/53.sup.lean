/-! CALLS OF super, and of a class that is no plain name -/
section VX
variable {D : Dx} {A : Nat → Prop} {G : Gx} {cc : ByteArray} {nL : Nat} {own : String} {rm : Room} {k1 k2 pc : Nat} {P P' : Heap → Prop} {lo : List (Nat × Value)} {st : List Value}
theorem ct_ofF {l : Launch} {y : MethodName} {bytes : ByteArray} {maxL : Nat} {ret : Option FieldType} {av : List Value} {S : Type} {rv : S → Option Value} {φ : S → Prop} {P1 : S → Heap → Prop} {lo0 : List (Nat × Value)} (hy : plainFor y = true) (hlen : (lg_sl av).length ≤ maxL) (hlo : lv_args 0 av = lo0)
    (body : ∀ G : Gx, Ok D A G bytes maxL y.cls rm → Rt G ret (QV rv φ P1 A) rm.cells rm.slots y.name → V G 0 0 P 0 lo0 []) : CT l D A y bytes maxL ret rm av P rv φ P1 := by
  unfold CT Met
  refine Jvm.Free.MetFree.of_bodySF (code := bytes) (maxLocals := maxL) (ret := ret) hy ?_ ?_
  · intro a s m h hn
    have hw := atoms_spec (ws := .code y bytes maxL ret :: zTB) h _ List.mem_cons_self
    obtain ⟨meth, c, g1, g2, g3, g4, g5, g6, -⟩ := Cond.code_spec hn hw
    exact ⟨meth, c, g1, g2, g3, g4, g5, g6⟩
  · intro p e s m args below meth c s₁ B hml hv _
    have hz : s₁.heap = s.heap := by rw [B.state]; rfl
    obtain ⟨rfl, hP, hK⟩ := hv
    have hts := atoms_spec (ws := .code y bytes maxL ret :: zTB) B.pre
    have hown : s.vm.findClass y.cls = some m.cls := findClass_of_methodNamed B.named
    have hl := lv_entry av (n := maxL) hlen
    rw [hlo] at hl
    have key := body (p, l, e, _, s, m, av.toArray, below, meth, c, A, _) ⟨rfl, B.exec, B.bytes, hml, hown, fun w hw => hts w (List.mem_cons_of_mem _ hw), rfl, hK⟩ ⟨B.returns, B.notSynchronized, rfl, (name_of_methodNamed B.named B.method).1⟩ s.heap [] _ hP va_S.rf (by rw [hml]; exact hl)
    rw [← lg_entry_eq] at key
    obtain ⟨t, a1, o, b1, b2, b3⟩ := key s₁ hz (Stand.of_body B)
    exact ⟨t, o, a1, b1, b2, b3⟩
variable {y x : MethodName} {bytes : ByteArray} {maxL n idx : Nat} {ret : Option FieldType} {rm' : Room} {As rest : List Value} {b : Nat} {S : Type} {rv : S → Option Value} {φ : S → Prop} {P1 : S → Heap → Prop} {k1' k2' : Nat}
/-- super's method that super itself inherits: the entry names x, y runs, of the class above -/
theorem z_subclass {s : State} {ar : Array Value} {c1 c2 : ClassId} {A1 A2 : String} (h1 : s.vm.findClass A1 = some c1) (h2 : s.vm.findClass A2 = some c2) (h : (Cond.superclass A1 A2).before ar s = true) : s.vm.isSubclass c1 c2 = true := by
  obtain ⟨q, k, kp, g1, g2, g3, g4, -⟩ := Cond.superclass_spec h1 h
  have e : q = c2 := Option.some.inj (g1.symm.trans h2)
  subst e
  have hz : 0 < s.vm.classes.size := Nat.lt_of_le_of_lt (Nat.zero_le _) (Array.getElem?_eq_some_iff.mp g2).1
  unfold Vm.isSubclass
  unfold Vm.isSubclassAux
  rw [g2]
  simp only [g4]
  obtain ⟨n, hn⟩ := Nat.exists_eq_succ_of_ne_zero (Nat.pos_iff_ne_zero.mp hz)
  rw [hn]
  unfold Vm.isSubclassAux
  simp
theorem v_callSX {C : String} {ci : Nat} {q : vw_C} (hG : Ok D A G cc nL own rm) (hd : decode cc pc = .ok (.invokespecial idx, 3)) (hc : zC y bytes maxL ret n) (hl : Cond.methodLink own idx x ∈ zTB ∧ Cond.sameMethod x.cls y.cls x.name x.desc ∈ zTB ∧ Cond.superclass own x.cls ∈ zTB ∧ Cond.superclass x.cls y.cls ∈ zTB ∧ Cond.instanceMethod y ∈ zTB) (hxy : (⟨y.cls, x.name, x.desc⟩ : MethodName) = y) (hy : x.name ≠ "<init>") (hcl : vwCl[ci]? = some q) (hq : q.1 = C) (hM : ∀ l, CT l D A y bytes maxL ret rm' (.ref b :: As) P' rv φ P1) (hn : As.length = n) (hrec : zRv D P b C) (hP : ∀ H, P H → P' H) (hroom : rm'.frames + 1 ≤ rm.frames ∧ 8 + (maxL + 11) + rm'.locals ≤ rm.locals) (h1 : k1 + rm'.cells = k1') (h2 : k2 + rm'.slots = k2') (h3 : k1' ≤ rm.cells ∧ k2' ≤ rm.slots) (hst : st = As.reverse ++ .ref b :: rest) (hw : (rest.map fun v => v.category).sum ≤ 8) (out : S → List Value) (hout : ∀ u, (rv u).toList ++ rest = out u) (kk : ∀ u, φ u → V G k1' k2' (P1 u) (pc + 3) lo (out u)) : V G k1 k2 P pc lo st := by
  refine v_of_run (A := A) (a := (Value.ref b :: As).toArray) h1 h2 out hout (fun p l e R s m args below meth c A' Q hg => by subst hg; exact hG.2.2.2.2.2.2.1) (fun p l e R s m args below meth c A' Q hg => ?_) kk
  subst hg
  obtain ⟨hrm, hx, hb, hml, hown, hts, hA, hK⟩ := hG
  subst hrm
  intro H locs ls hp hS hlv
  have hz := zpre (l := l) (av := .ref b :: As) hP hK hS hp
  have hg : GoodIn zTB (.code y bytes maxL ret :: zTB) := by
    intro w hw
    rcases List.mem_cons.mp hw with rfl | hw
    · exact ⟨hc.1, good_of_word (List.mem_filter.mp hc.1).2⟩
    · exact ⟨hw, good_of_word (List.mem_filter.mp hw).2⟩
  have hini := hts _ hc.2.1
  have hB : Back l R p e below s args y 3 8 (PreOf R rm'.cells rm'.slots (va_Pc (.ref b :: As) (fun U => P' U.heap ∧ KB D A U))) (PostOf (QV rv φ P1 A) rm'.cells rm'.slots A) := back_of (bytes := bytes) (maxL := maxL) (ret := ret) (hM l) hz.1 rfl rfl hroom.1 hroom.2 (pay_in hts hg) List.mem_cons_self (fun a' U hW => word_at hW (Or.inl (by first | rfl | simp [Cond.onTables, Cond.keeps, Cond.steady])) hini)
  obtain ⟨cellB, hcB, hoB, hclB⟩ := hrec.get hK hp
  obtain ⟨kB, hkB, -⟩ := (hK.1.1 ci q hcl).2.2
  subst hq
  have hsame := (hK.1.1 ci q hcl).2.1
  have e9 := Option.some.inj (hsame.symm.trans hclB)
  intro T hT X
  obtain ⟨mk, methM, hnamed, hmethM, hstM, habM⟩ := Cond.instanceMethod_spec (hts _ hl.2.2.2.2)
  obtain ⟨methM', cM, hmethM', -, -, -, -, -, -, hsigM⟩ := Cond.code_spec hnamed (hts _ hc.1)
  cases hmethM.symm.trans hmethM'
  obtain ⟨ps, dk, kp, hps, hdk, hkp, hsuper, -, -, hnid⟩ := Cond.superclass_spec hown (hts _ hl.2.2.1)
  have hsub := z_subclass hps (findClass_of_methodNamed hnamed) (hts _ hl.2.2.2.1)
  have hnx : s.methodNamed? ⟨y.cls, x.name, x.desc⟩ = some mk := by rw [hxy]; exact hnamed
  have hlen : As.length = methM.sig.parameters.length := by
    have g := hc.2.2.2
    rw [hsigM] at g
    exact hn.trans (Option.some.inj g).symm
  obtain ⟨vm₁, X₁, hstep₁⟩ := X.invokespecialUp hx hown (hts _ hl.1) (hts _ hl.2.1) hnx hmethM hstM habM hy hdk hnid hps hsuper hsub (a := b) (cell := cellB) (by rw [hT]; exact hcB) (fun z h => by rw [h] at hoB; cases hoB) (by rw [← e9]; exact hkB) (g := F0 m pc ls st) rfl (argsL := As) (rest := rest) hlen hst (by rw [hb]; exact hd)
  obtain ⟨v, B, X', hpost, hsteps⟩ := hB m meth c ⟨T.setVm vm₁, locs, k1, k2⟩ { (F0 m pc ls st) with stack := rest } (.invokespecial idx) mk (Value.ref b :: As).toArray X₁ rfl (hlv.1) (by rw [hb]; exact hd) (by show 2 * (F0 m pc ls st).monitorRoom + _ ≤ _; exact lv_room hw) (X₁.named hnamed) ⟨by show k1 + _ ≤ _; rw [h1]; exact h3.1, by show k2 + _ ≤ _; rw [h2]; exact h3.2, hz.2 (T.setVm vm₁) hT X₁.warmed⟩
  obtain ⟨U', l2, c2, s2⟩ := B
  obtain ⟨g', mk2, t, L, e1, e2, hq2, h1', hL, h2', h3'⟩ := hpost
  dsimp only [Pt.U, Pt.locs, Pt.cells, Pt.slots] at X' e1 e2 h1' h2' h3' hsteps
  subst h1'; subst h2'; subst h3'
  exact ⟨v, (T.setVm vm₁).calling g' mk2 (Value.ref b :: As).toArray, t, U', L, hT, X', hL, e1, e2, hq2, fun target h => hstep₁ _ (by rw [doInvoke_state]; exact hsteps.trans h)⟩
end VX
