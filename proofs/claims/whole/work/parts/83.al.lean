/-! NEW OBJECTS AND ARRAYS; contracts over fewer places -/
theorem KB.narrow {D : Dx} {A B : Nat → Prop} {U : State} (h : KB D A U) (hAB : ∀ q, B q → A q) : KB D B U := by
  obtain ⟨h1, h2, h3, h4, h5, h6, h7⟩ := h
  exact ⟨h1, h2, h3, h4, h5.narrow hAB, h6.narrow hAB, h7.narrow hAB⟩
/-- a contract over fewer places; what lies elsewhere stays -/
theorem CT_fr {l : Launch} {D : Dx} {A0 A : Nat → Prop} {y : MethodName} {bytes : ByteArray} {maxL : Nat} {ret : Option FieldType} {rm : Room} {av : List Value} {S : Type} {P : Heap → Prop} {rv : S → Option Value} {φ : S → Prop} {P1 : S → Heap → Prop} {F : Heap → Prop} (hA : ∀ q, A0 q → A q) (hF : ∀ H H', F H → P H → H.size ≤ H'.size → (∀ q, q < H.size → ¬ A0 q → H'[q]? = H[q]?) → F H') (h : CT l D A0 y bytes maxL ret rm av P rv φ P1) : CT l D A y bytes maxL ret rm av (fun H => P H ∧ F H) rv φ (fun u H => P1 u H ∧ F H) := by
  unfold CT Met at h ⊢
  intro p e h1 h2 h3 s m args below hf ha hP hK
  obtain ⟨ha2, ⟨hP2, hF2⟩, hKB⟩ := hP
  obtain ⟨n, o, a1, a2, a3, ⟨⟨u, b1, b2, b3⟩, b4⟩, L, c1, c2⟩ := h p e h1 h2 h3 s m args below hf ha ⟨ha2, hP2, hKB.narrow hA⟩ hK
  exact ⟨n, o, a1, a2, a3, ⟨⟨u, b1, b2, b3, hF _ _ hF2 hP2 b4.1 b4.2⟩, b4.1, fun q x y => b4.2 q x (fun z => y (hA q z))⟩, L, c1, fun q hq => hA _ (c2 q hq)⟩
/-- array classes over Mark and Plate can be made -/
def AOs (U : State) : Prop := va_AO "MirrorPlate$Mark" U ∧ va_AO "MirrorPlate$Plate" U
def AOk : Gx → Prop
  | (_, _, _, _, s, _, _, _, _, _, _, _) => AOs s
theorem AOs.moved {s U : State} (h : s.vm.Alike U.vm) (h1 : AOs s) : AOs U := ⟨h1.1.moved h, h1.2.moved h⟩
def CTo (l : Launch) (D : Dx) (A : Nat → Prop) (y : MethodName) (bytes : ByteArray) (maxL : Nat) (ret : Option FieldType) (rm : Room) (av : List Value) (P : Heap → Prop) {S : Type} (rv : S → Option Value) (φ : S → Prop) (P1 : S → Heap → Prop) : Prop :=
  Met l y (.code y bytes maxL ret :: zTB) rm (va_Pc av (fun U => P U.heap ∧ KB D A U ∧ AOs U)) (QV rv φ P1 A) rm.cells rm.slots A
theorem ct_ofo {D : Dx} {A : Nat → Prop} {rm : Room} {P : Heap → Prop} {l : Launch} {y : MethodName} {bytes : ByteArray} {maxL : Nat} {ret : Option FieldType} {av : List Value} {S : Type} {rv : S → Option Value} {φ : S → Prop} {P1 : S → Heap → Prop} {lo0 : List (Nat × Value)} (hy : plainName y.cls = true) (hlen : (lg_sl av).length ≤ maxL) (hlo : lv_args 0 av = lo0)
    (body : ∀ G : Gx, Ok D A G bytes maxL y.cls rm → AOk G → Rt G ret (QV rv φ P1 A) rm.cells rm.slots y.name → V G 0 0 P 0 lo0 []) : CTo l D A y bytes maxL ret rm av P rv φ P1 := by
  refine Met.ofW (cc := bytes) (maxL := maxL) (ret := ret) hy rfl ?_
  intro p e s m args below meth c s₁ B hml hv
  obtain ⟨rfl, hP, hK, hO⟩ := hv
  have hts := atoms_spec (ws := .code y bytes maxL ret :: zTB) B.pre
  have hown : s.vm.findClass y.cls = some m.cls := findClass_of_methodNamed B.named
  have hl := lv_entry av (n := maxL) hlen
  rw [lg_entry_eq]
  rw [hlo] at hl
  refine body (p, l, e, _, s, m, av.toArray, below, meth, c, A, _) ⟨rfl, B.exec, B.bytes, hml, hown, fun w hw => hts w (List.mem_cons_of_mem _ hw), rfl, hK⟩ hO ⟨B.returns, B.notSynchronized, rfl, (name_of_methodNamed B.named B.method).1⟩ s.heap [] _ hP va_S.rf ?_
  rw [hml]
  exact hl
theorem CTo_fr {l : Launch} {D : Dx} {A0 A : Nat → Prop} {y : MethodName} {bytes : ByteArray} {maxL : Nat} {ret : Option FieldType} {rm : Room} {av : List Value} {S : Type} {P : Heap → Prop} {rv : S → Option Value} {φ : S → Prop} {P1 : S → Heap → Prop} {F : Heap → Prop} {P' : Heap → Prop} {P1' : S → Heap → Prop} (hA : ∀ q, A0 q → A q) (hF : ∀ H H', F H → P H → H.size ≤ H'.size → (∀ q, q < H.size → ¬ A0 q → H'[q]? = H[q]?) → F H') (hP : ∀ H, P' H → P H ∧ F H) (hQ : ∀ u H, P1 u H ∧ F H → P1' u H) (h : CTo l D A0 y bytes maxL ret rm av P rv φ P1) : CTo l D A y bytes maxL ret rm av P' rv φ P1' := by
  unfold CTo Met at h ⊢
  intro p e h1 h2 h3 s m args below hf ha hPP hK
  obtain ⟨ha2, hP2, hKB, hO⟩ := hPP
  obtain ⟨hP3, hF3⟩ := hP _ hP2
  obtain ⟨n, o, a1, a2, a3, ⟨⟨u, b1, b2, b3⟩, b4⟩, L, c1, c2⟩ := h p e h1 h2 h3 s m args below hf ha ⟨ha2, hP3, hKB.narrow hA, hO⟩ hK
  exact ⟨n, o, a1, a2, a3, ⟨⟨u, b1, b2, hQ _ _ ⟨b3, hF _ _ hF3 hP3 b4.1 b4.2⟩⟩, b4.1, fun q x y => b4.2 q x (fun z => y (hA q z))⟩, L, c1, fun q hq => hA _ (c2 q hq)⟩
theorem zpreo {D : Dx} {A : Nat → Prop} {P P' : Heap → Prop} {l : Launch} {s : State} {H : Heap} {locs : List Loc} {av : List Value} (hP : ∀ H, P H → P' H) (hK : KB D A s) (hO : AOs s) (hS : va_S A s.heap H locs) (hp : P H) : FrameBlind (va_Pc av (fun U => P' U.heap ∧ KB D A U ∧ AOs U)) ∧ ∀ U : State, U.heap = H → s.WarmedH U.vm → va_Pc av (fun U => P' U.heap ∧ KB D A U ∧ AOs U) av.toArray U := by
  refine ⟨fun a U g mk q => ⟨q.1, q.2.1, KB.same (s := U) (U := U.calling g mk a) rfl rfl q.2.2.1, q.2.2.2.moved (Vm.Alike.refl _)⟩, fun U hU hW => ⟨rfl, by rw [hU]; exact hP H hp, KB.warm hW (fun a h1 h2 => by rw [hU]; exact hS.2.1 a h1 h2) hK, hO.moved hW.alike⟩⟩
section AL
variable {D : Dx} {A : Nat → Prop} {G : Gx} {cc : ByteArray} {nL : Nat} {own : String} {rm : Room} {k1 k2 pc : Nat} {P P' : Heap → Prop} {lo : List (Nat × Value)} {st : List Value}
theorem v_objInit {a idx : Nat} (hG : Ok D A G cc nL own rm) (hd : decode cc pc = .ok (.invokespecial idx, 3)) (hl : Cond.methodLink own idx Lib.objectInit ∈ zTB ∧ Cond.instanceMethod Lib.objectInit ∈ zTB ∧ Cond.code Lib.objectInit ⟨#[0xb1]⟩ 1 none ∈ zTB) (hr : 1 ≤ rm.frames ∧ 20 ≤ rm.locals) (hw : (st.map fun v => v.category).sum ≤ 8) (kk : V G k1 k2 P (pc + 3) lo st) : V G k1 k2 P pc lo (.ref a :: st) := by
  obtain ⟨p, l, e, R, s, m, args, below, meth, c, A', Q⟩ := G
  obtain ⟨hrm, hx, hb, hml, hown, hts, hA, hK⟩ := hG
  subst hrm
  intro H locs ls hP hS hlv
  refine W.objInit hx hb hown (hts _ hl.1) (hts _ hl.2.1) (hts _ hl.2.2) rfl hlv.1 rfl hd hr.1 ?_ (kk H locs ls hP hS hlv)
  show 2 * 0 + _ + 12 ≤ _
  omega
theorem v_new {C : String} {T : u_T} {N ci idx n : Nat} {ty : Nat → FieldType} {fs : List Value} (hG : Ok D A G cc nL own rm) (hd : decode cc pc = .ok (.new idx, 3)) (hC : zCl ci C T N ty) (hw : Cond.classLink own idx C ∈ zTB ∧ Cond.instantiable C N ∈ zTB ∧ Cond.initialized C ∈ zTB) (hfs : ∀ j, j < N → defaultValue (ty j) = vp_V fs j) (hk : k1 + 1 ≤ rm.cells ∧ k2 + N ≤ rm.slots) (hn : ∀ H, P H → H.size = n) (hP : ∀ H H', P H → va_at D.1 vwCl (n, .inr (ci, fs)) H' → H'.size = n + 1 → (∀ q, q < n → H'[q]? = H[q]?) → P' H') (kk : V G (k1 + 1) (k2 + N) P' (pc + 3) lo (.ref n :: st)) : V G k1 k2 P pc lo st := by
  obtain ⟨p, l, e, R, s, m, args, below, meth, c, A', Q⟩ := G
  obtain ⟨hrm, hx, hb, hml, hown, hts, hA, hK⟩ := hG
  subst hA
  subst hrm
  intro H locs ls hPH hS hl
  have hsz := hn H hPH
  obtain ⟨hCl, hin, hty, hnm⟩ := hC
  have hKn := hK.1.1 ci _ hCl
  refine W.newcK hx hb hown (hts _ hw.1) (hts _ hw.2.1) (hts _ hw.2.2) rfl hd hk.1 hk.2 hKn.2.1 hsz fun H1 kC hkC e1 z1 o1 => ?_
  exact kk H1 locs ls (hP H H1 hPH ⟨_, hCl, (u_born ty hts hin hKn hkC e1 hty).to hfs⟩ z1 o1) ⟨Nat.le_trans hS.1 (by omega), fun x h1 h2 => (o1 x (by have := hS.1; omega)).trans (hS.2.1 x h1 h2), hS.2.2⟩ hl
theorem v_newi {N n : Nat} (hG : Ok D A G cc nL own rm) (hd : decode cc pc = .ok (.newarray .int, 2)) (harr : Cond.arrayClass .int ∈ zTB) (hN : N ≤ 100000) (hk : k1 + 1 ≤ rm.cells ∧ k2 + N ≤ rm.slots) (hn : ∀ H, P H → H.size = n) (hP : ∀ H H', P H → va_at D.1 vwCl (n, .inl (D.2.1, ra N (fun _ => 0))) H' → H'.size = n + 1 → (∀ q, q < n → H'[q]? = H[q]?) → P' H') (kk : V G (k1 + 1) (k2 + N) P' (pc + 2) lo (.ref n :: st)) : V G k1 k2 P pc lo (vI (N : Int) :: st) := by
  obtain ⟨p, l, e, R, s, m, args, below, meth, c, A', Q⟩ := G
  obtain ⟨hrm, hx, hb, hml, hown, hts, hA, hK⟩ := hG
  subst hA
  subst hrm
  intro H locs ls hPH hS hl
  have hsz := hn H hPH
  have hN0 : ¬ ii (N : Int) < 0 := fun q => by
    have := (ii_lt (x := (N : Int)) (y := 0) (by omega) (by omega)).mp q
    omega
  have hNc : (ii (N : Int)).toNatClampNeg = N := by rw [ii_clamp (by omega)]; omega
  refine va_newaK (atype := .int) hx hb (hts _ harr) rfl hd rfl hN0 hNc (by show N * 4 ≤ _; omega) hk.1 hk.2 hsz fun H1 cA e1 z1 o1 hAr hNm => ?_
  have hcA : cA = D.2.1 := Option.some.inj (hNm.symm.trans (hK.1.2 0 _ rfl).2)
  subst hcA
  exact kk H1 locs ls (hP H H1 hPH e1 z1 o1) ⟨Nat.le_trans hS.1 (by omega), fun x h1 h2 => (o1 x (by have := hS.1; omega)).trans (hS.2.1 x h1 h2), hS.2.2⟩ hl
theorem v_newz {N n : Nat} (hG : Ok D A G cc nL own rm) (hd : decode cc pc = .ok (.newarray .boolean, 2)) (harr : Cond.arrayClass .boolean ∈ zTB) (hN : N ≤ 100000) (hk : k1 + 1 ≤ rm.cells ∧ k2 + N ≤ rm.slots) (hn : ∀ H, P H → H.size = n) (hP : ∀ H H', P H → va_at D.1 vwCl (n, .inl (D.2.2.1, ra N (fun _ => 0))) H' → H'.size = n + 1 → (∀ q, q < n → H'[q]? = H[q]?) → P' H') (kk : V G (k1 + 1) (k2 + N) P' (pc + 2) lo (.ref n :: st)) : V G k1 k2 P pc lo (vI (N : Int) :: st) := by
  obtain ⟨p, l, e, R, s, m, args, below, meth, c, A', Q⟩ := G
  obtain ⟨hrm, hx, hb, hml, hown, hts, hA, hK⟩ := hG
  subst hA
  subst hrm
  intro H locs ls hPH hS hl
  have hsz := hn H hPH
  have hN0 : ¬ ii (N : Int) < 0 := fun q => by
    have := (ii_lt (x := (N : Int)) (y := 0) (by omega) (by omega)).mp q
    omega
  have hNc : (ii (N : Int)).toNatClampNeg = N := by rw [ii_clamp (by omega)]; omega
  refine va_newaK (atype := .boolean) hx hb (hts _ harr) rfl hd rfl hN0 hNc (by show N * 1 ≤ _; omega) hk.1 hk.2 hsz fun H1 cA e1 z1 o1 hAr hNm => ?_
  have hcA : cA = D.2.2.1 := Option.some.inj (hNm.symm.trans (hK.1.2 1 _ rfl).2)
  subst hcA
  exact kk H1 locs ls (hP H H1 hPH e1 z1 o1) ⟨Nat.le_trans hS.1 (by omega), fun x h1 h2 => (o1 x (by have := hS.1; omega)).trans (hS.2.1 x h1 h2), hS.2.2⟩ hl
theorem v_newq {C : String} {cA : ClassId} {N n idx t0 : Nat} (hG : Ok D A G cc nL own rm) (hd : decode cc pc = .ok (.anewarray idx, 3)) (hO : AOk G) (hC : C = "MirrorPlate$Mark" ∨ C = "MirrorPlate$Plate") (hcl : Cond.classLink own idx C ∈ zTB) (ht : (zty D)[t0]? = some (cA, .object C)) (hN : N ≤ 100000) (hk : k1 + 1 ≤ rm.cells ∧ k2 + N ≤ rm.slots) (hn : ∀ H, P H → H.size = n) (hP : ∀ H H', P H → va_at D.1 vwCl (n, .inl (cA, N, .inr (.inr (.inr (.inr (fun _ => none)))))) H' → H'.size = n + 1 → (∀ q, q < n → H'[q]? = H[q]?) → P' H') (kk : V G (k1 + 1) (k2 + N) P' (pc + 3) lo (.ref n :: st)) : V G k1 k2 P pc lo (vI (N : Int) :: st) := by
  obtain ⟨p, l, e, R, s, m, args, below, meth, c, A', Q⟩ := G
  obtain ⟨hrm, hx, hb, hml, hown, hts, hA, hK⟩ := hG
  subst hA
  subst hrm
  intro H locs ls hPH hS hl
  have hsz := hn H hPH
  have hN0 : ¬ ii (N : Int) < 0 := fun q => by
    have := (ii_lt (x := (N : Int)) (y := 0) (by omega) (by omega)).mp q
    omega
  have hNc : (ii (N : Int)).toNatClampNeg = N := by rw [ii_clamp (by omega)]; omega
  refine W.anew hx hb hown (hts _ hcl) (va_AO.use (hC.elim (fun e => by rw [e]; exact hO.1) (fun e => by rw [e]; exact hO.2))) rfl hd rfl hN0 (by rw [hNc]; omega) hk.1 (by rw [hNc]; exact hk.2) fun cB kA comp f1 f2 f3 f4 => ?_
  obtain ⟨kA', comp', g1, g2, g3, g4⟩ := (hK.1.2 t0 _ ht).2
  have hcA : cB = cA := Option.some.inj (f1.symm.trans g4)
  subst hcA
  rw [hNc]
  generalize hH1 : H.push ({ cls := cB, slots := Array.replicate N .null, vm := .none } : Cell) = H1
  have z1 : H1.size = n + 1 := by rw [← hH1, Array.size_push, hsz]
  have e1 : H1[n]? = some (arrV cB N (fun _ => .null)) := by rw [← hH1, ← hsz, Array.getElem?_push_size, ← arrV_new]
  have o1 : ∀ q : Nat, q < n → H1[q]? = H[q]? := fun q hq => by rw [← hH1, Array.getElem?_push, if_neg (by omega)]
  rw [hsz]
  exact kk H1 locs ls (hP H H1 hPH e1 z1 o1) ⟨Nat.le_trans hS.1 (by omega), fun x h1 h2 => (o1 x (by have := hS.1; omega)).trans (hS.2.1 x h1 h2), hS.2.2⟩ hl
theorem v_aast {a n v t0 ci : Nat} {f : Nat → Option Nat} {x : Int} {cA : ClassId} {E : String} {r : vw_C} {vs : List Value} (hG : Ok D A G cc nL own rm) (hd : decode cc pc = .ok (.aastore, 1)) (ht : (zty D)[t0]? = some (cA, .object E)) (hn : n ≤ 2147483647) (hx : 0 ≤ x ∧ x < n) (hc : ∀ H, P H → va_at D.1 vwCl (a, .inl (cA, n, .inr (.inr (.inr (.inr f))))) H ∧ A a) (hv : ∀ H, P H → va_at D.1 vwCl (v, .inr (ci, vs)) H) (hr : vwCl[ci]? = some r) (hE : r.1 = E ∨ Cond.castable r.1 E ∈ zNB)
    (hw : ∀ H H', P H → va_at D.1 vwCl (a, .inl (cA, n, .inr (.inr (.inr (.inr (fun q => if q = x.toNat then some v else f q)))))) H' → H'.size = H.size → (∀ q, q ≠ a → H'[q]? = H[q]?) → P' H') (kk : V G k1 k2 P' (pc + 1) lo st) : V G k1 k2 P pc lo (.ref v :: vI x :: .ref a :: st) := by
  obtain ⟨p, l, e, R, s, m, args, below, meth, c, A', Q⟩ := G
  obtain ⟨hrm, hx0, hb, hml, hown, hts, hA, hK⟩ := hG
  subst hA
  intro H locs ls hP hS hl
  obtain ⟨hP0, hAa⟩ := hc H hP
  have hany : va_Any E s H v := by
    refine va_rAny (ws := [(v, .inr (ci, vs))]) (q0 := 0) hK.1 (fun q y hq => ?_) rfl hr (fun comp c0 h1 h2 => ?_)
    · match q, hq with
      | 0, hq => cases hq; exact hv H hP
      | q + 1, hq => simp at hq
    · rcases hE with e | e
      · subst e; exact vb_asgS comp c0 h1 h2
      · exact vb_asgC (hK.2.1 _ e) comp c0 h1 h2
  obtain ⟨cellV, g1, g3, ⟨kC, hkC⟩, hasg⟩ := hany
  obtain ⟨kA, comp, y1, y2, y3, -⟩ := (hK.1.2 t0 _ ht).2
  obtain ⟨kE, hkE, -⟩ := Vm.findClass_spec y3
  have hin : vp_in (ii x) n := ii_in hx hn
  have hlt : (ii x).toNatClampNeg < n := Nat.not_le.mp fun q => hin (Or.inr q)
  have h0 : ¬ ii x < 0 := fun q => hin (Or.inl q)
  refine W.aast hx0 hb hP0 (fun q h => by cases h) (fun h => by cases h) y1 y2 rfl hkE ⟨h0, by show _ < (arrV _ _ _).slots.size; rw [arrV_size]; exact hlt⟩ g1 (fun q h => by rw [h] at g3; cases g3) hkC (hasg _ y3) rfl rfl hd fun H1 e1 z oq => ?_
  refine kk H1 _ ls (hw H H1 hP ?_ z oq) (hS.put z oq hAa) hl
  show H1[a]? = some (vp_cell _ _)
  rw [e1]
  rw [vp_cell_q, vp_cell_q, arrV_store, ii_clamp (by omega)]
  congr 2
  funext q
  by_cases hq : q = x.toNat
  · subst hq
    simp [updV, va_rf]
  · simp [updV, hq]
/-- cells made one behind the other, from a on -/
def FZ (D : Dx) (a : Nat) (L : List va_E) (H : Heap) : Prop := H.size = a + L.length ∧ ∀ k x, L[k]? = some x → va_at D.1 vwCl (a + k, x) H
theorem FZ.push {a : Nat} {L L' : List va_E} {x : va_E} {n : Nat} {H H' : Heap} (h : FZ D a L H) (hn : a + L.length = n) (hL : L ++ [x] = L') (hx : va_at D.1 vwCl (n, x) H') (hz : H'.size = n + 1) (ho : ∀ q, q < n → H'[q]? = H[q]?) : FZ D a L' H' := by
  subst hL; subst hn
  refine ⟨by rw [hz, List.length_append]; rfl, fun k y hk => ?_⟩
  by_cases e : k < L.length
  · rw [List.getElem?_append_left e] at hk
    exact (h.2 k y hk).kept (ho _ (by show a + k < _; omega))
  · rw [List.getElem?_append_right (by omega)] at hk
    have hz2 : k - L.length < 1 := (List.getElem?_eq_some_iff.mp hk).1
    rw [show k - L.length = 0 by omega] at hk
    cases hk
    rw [show k = L.length by omega]
    exact hx
theorem FZ.set {a k : Nat} {L L' : List va_E} {x : va_E} {H H' : Heap} (h : FZ D a L H) (hk : k < L.length) (hL : L.set k x = L') (hx : va_at D.1 vwCl (a + k, x) H') (hz : H'.size = H.size) (ho : ∀ q, q ≠ a + k → H'[q]? = H[q]?) : FZ D a L' H' := by
  subst hL
  refine ⟨by rw [hz, List.length_set]; exact h.1, fun j y hj => ?_⟩
  by_cases e : j = k
  · subst e
    rw [List.getElem?_set_self hk] at hj
    cases hj
    exact hx
  · rw [List.getElem?_set_ne (fun q => e q.symm)] at hj
    exact (h.2 j y hj).kept (ho _ (by show a + j ≠ a + k; omega))
theorem fz_new {a : Nat} {L L' : List va_E} {C : String} {T : u_T} {N ci idx n : Nat} {ty : Nat → FieldType} {fs : List Value} (hG : Ok D A G cc nL own rm) (hd : decode cc pc = .ok (.new idx, 3)) (hC : zCl ci C T N ty) (hw : Cond.classLink own idx C ∈ zTB ∧ Cond.instantiable C N ∈ zTB ∧ Cond.initialized C ∈ zTB) (hfs : ∀ j, j < N → defaultValue (ty j) = vp_V fs j) (hk : k1 + 1 ≤ rm.cells ∧ k2 + N ≤ rm.slots) (hn : a + L.length = n) (hL : L ++ [.inr (ci, fs)] = L') (kk : V G (k1 + 1) (k2 + N) (FZ D a L') (pc + 3) lo (.ref n :: st)) : V G k1 k2 (FZ D a L) pc lo st :=
  v_new hG hd hC hw hfs hk (fun H h => h.1.trans hn) (fun H H' h hx hz ho => h.push hn hL hx hz ho) kk
theorem fz_newi {a : Nat} {L L' : List va_E} {N n : Nat} (hG : Ok D A G cc nL own rm) (hd : decode cc pc = .ok (.newarray .int, 2)) (harr : Cond.arrayClass .int ∈ zTB) (hN : N ≤ 100000) (hk : k1 + 1 ≤ rm.cells ∧ k2 + N ≤ rm.slots) (hn : a + L.length = n) (hL : L ++ [.inl (D.2.1, ra N (fun _ => 0))] = L') (kk : V G (k1 + 1) (k2 + N) (FZ D a L') (pc + 2) lo (.ref n :: st)) : V G k1 k2 (FZ D a L) pc lo (vI (N : Int) :: st) :=
  v_newi hG hd harr hN hk (fun H h => h.1.trans hn) (fun H H' h hx hz ho => h.push hn hL hx hz ho) kk
theorem fz_newz {a : Nat} {L L' : List va_E} {N n : Nat} (hG : Ok D A G cc nL own rm) (hd : decode cc pc = .ok (.newarray .boolean, 2)) (harr : Cond.arrayClass .boolean ∈ zTB) (hN : N ≤ 100000) (hk : k1 + 1 ≤ rm.cells ∧ k2 + N ≤ rm.slots) (hn : a + L.length = n) (hL : L ++ [.inl (D.2.2.1, ra N (fun _ => 0))] = L') (kk : V G (k1 + 1) (k2 + N) (FZ D a L') (pc + 2) lo (.ref n :: st)) : V G k1 k2 (FZ D a L) pc lo (vI (N : Int) :: st) :=
  v_newz hG hd harr hN hk (fun H h => h.1.trans hn) (fun H H' h hx hz ho => h.push hn hL hx hz ho) kk
theorem fz_newq {a : Nat} {L L' : List va_E} {C : String} {cA : ClassId} {N n idx t0 : Nat} (hG : Ok D A G cc nL own rm) (hd : decode cc pc = .ok (.anewarray idx, 3)) (hO : AOk G) (hC : C = "MirrorPlate$Mark" ∨ C = "MirrorPlate$Plate") (hcl : Cond.classLink own idx C ∈ zTB) (ht : (zty D)[t0]? = some (cA, .object C)) (hN : N ≤ 100000) (hk : k1 + 1 ≤ rm.cells ∧ k2 + N ≤ rm.slots) (hn : a + L.length = n) (hL : L ++ [.inl (cA, N, .inr (.inr (.inr (.inr (fun _ => none)))))] = L') (kk : V G (k1 + 1) (k2 + N) (FZ D a L') (pc + 3) lo (.ref n :: st)) : V G k1 k2 (FZ D a L) pc lo (vI (N : Int) :: st) :=
  v_newq hG hd hO hC hcl ht hN hk (fun H h => h.1.trans hn) (fun H H' h hx hz ho => h.push hn hL hx hz ho) kk
theorem fz_put {a ci idx i k : Nat} {L L' : List va_E} {C ref : String} {T : u_T} {N : Nat} {ty : Nat → FieldType} {fs : List Value} {v : Value} (hG : Ok D A G cc nL own rm) (hA : ∀ q, a ≤ q → A q) (hd : decode cc pc = .ok (.putfield idx, 3)) (hC : zCl ci C T N ty) (k : Nat) (hF : zFl own idx ref (T k)) (hk : k < N) (hfin : (T k).2.2.2 = false) (hn : narrow (ty k) v = v) (hfit : fits (ty k) v = true) (hl9 : k < fs.length) (hi : L[i]? = some (.inr (ci, fs))) (hL : L.set i (.inr (ci, fs.set k v)) = L') (kk : V G k1 k2 (FZ D a L') (pc + 3) lo st) : V G k1 k2 (FZ D a L) pc lo (v :: .ref (a + i) :: st) :=
  v_put hG hd hC k hF hk hfin hn hfit hl9 (fun H h => ⟨h.2 i _ hi, hA _ (Nat.le_add_right a i)⟩) (fun H H' h hx hz ho => h.set (List.getElem?_eq_some_iff.mp hi).1 hL hx hz ho) kk
theorem fz_putF {a ci idx i : Nat} {L L' : List va_E} {C ref : String} {T : u_T} {N : Nat} {ty : Nat → FieldType} {fs : List Value} {v : Value} {ret : Option FieldType} {Qc : Array Value → State → Outcome → State → Prop} {mc ms : Nat} (hG : Ok D A G cc nL own rm) (hR : Rt G ret Qc mc ms "<init>") (hA : ∀ q, a ≤ q → A q) (hd : decode cc pc = .ok (.putfield idx, 3)) (hC : zCl ci C T N ty) (k : Nat) (hF : zFl own idx ref (T k)) (hk : k < N) (hfin : (T k).2.2.2 = true) (hdecl : (T k).1 = own) (hn : narrow (ty k) v = v) (hfit : fits (ty k) v = true) (hl9 : k < fs.length) (hi : L[i]? = some (.inr (ci, fs))) (hL : L.set i (.inr (ci, fs.set k v)) = L') (kk : V G k1 k2 (FZ D a L') (pc + 3) lo st) : V G k1 k2 (FZ D a L) pc lo (v :: .ref (a + i) :: st) :=
  v_putF hG hR hd hC k hF hk hfin hdecl hn hfit hl9 (fun H h => ⟨h.2 i _ hi, hA _ (Nat.le_add_right a i)⟩) (fun H H' h hx hz ho => h.set (List.getElem?_eq_some_iff.mp hi).1 hL hx hz ho) kk
theorem fz_get {a ci idx i : Nat} {L : List va_E} {C ref : String} {T : u_T} {N : Nat} {ty : Nat → FieldType} {fs : List Value} {v : Value} (hG : Ok D A G cc nL own rm) (hd : decode cc pc = .ok (.getfield idx, 3)) (hC : zCl ci C T N ty) (k : Nat) (hF : zFl own idx ref (T k)) (hk : k < N) (hi : L[i]? = some (.inr (ci, fs))) (hv : fs[k]? = some v) (kk : V G k1 k2 (FZ D a L) (pc + 3) lo (v :: st)) : V G k1 k2 (FZ D a L) pc lo (.ref (a + i) :: st) :=
  v_get hG hd hC k hF hk (fun H h => h.2 i _ hi) hv kk
theorem fz_iast {a i : Nat} {L L' : List va_E} {n : Nat} {f : Int → Int} {x v : Int} (hG : Ok D A G cc nL own rm) (hA : ∀ q, a ≤ q → A q) (hd : decode cc pc = .ok (.iastore, 1)) (hn : n ≤ 2147483647) (hx : 0 ≤ x ∧ x < n) (hi : L[i]? = some (.inl (D.2.1, ra n f))) (hL : L.set i (.inl (D.2.1, ra n (sU f x v))) = L') (kk : V G k1 k2 (FZ D a L') (pc + 1) lo st) : V G k1 k2 (FZ D a L) pc lo (vI v :: vI x :: .ref (a + i) :: st) := by
  refine v_iast (a := a + i) (f := fun q => f (q : Int)) hG hd hn hx (fun H h => ⟨h.2 i _ hi, hA _ (Nat.le_add_right a i)⟩) (fun H H' h hq hz ho => h.set (List.getElem?_eq_some_iff.mp hi).1 hL ?_ hz ho) kk
  have e : (fun q : Nat => ii (if q = x.toNat then v else f (q : Int))) = ri (sU f x v) := by
    funext q
    show ii _ = ii _
    rw [sU_at]
    by_cases h : q = x.toNat
    · rw [if_pos h, if_pos (by omega)]
    · rw [if_neg h, if_neg (by omega)]
  rw [e] at hq
  exact hq
theorem fz_aast {a i j t0 ci n : Nat} {L L' : List va_E} {f : Nat → Option Nat} {x : Int} {cA : ClassId} {E : String} {r : vw_C} {vs : List Value} (hG : Ok D A G cc nL own rm) (hA : ∀ q, a ≤ q → A q) (hd : decode cc pc = .ok (.aastore, 1)) (ht : (zty D)[t0]? = some (cA, .object E)) (hn : n ≤ 2147483647) (hx : 0 ≤ x ∧ x < n) (hi : L[i]? = some (.inl (cA, n, .inr (.inr (.inr (.inr f)))))) (hj : L[j]? = some (.inr (ci, vs))) (hr : vwCl[ci]? = some r) (hE : r.1 = E ∨ Cond.castable r.1 E ∈ zNB) (hL : L.set i (.inl (cA, n, .inr (.inr (.inr (.inr (fun q => if q = x.toNat then some (a + j) else f q)))))) = L') (kk : V G k1 k2 (FZ D a L') (pc + 1) lo st) : V G k1 k2 (FZ D a L) pc lo (.ref (a + j) :: vI x :: .ref (a + i) :: st) :=
  v_aast hG hd ht hn hx (fun H h => ⟨h.2 i _ hi, hA _ (Nat.le_add_right a i)⟩) (fun H h => h.2 j _ hj) hr hE (fun H H' h hq hz ho => h.set (List.getElem?_eq_some_iff.mp hi).1 hL hq hz ho) kk
/-- what was made before stays beside what a constructor makes -/
theorem FZ_split {a n : Nat} {L M : List va_E} {H : Heap} (hn : L.length = n) : FZ D a (L ++ M) H ↔ FZ D (a + n) M H ∧ ∀ k x, L[k]? = some x → va_at D.1 vwCl (a + k, x) H := by
  subst hn
  constructor
  · intro h
    refine ⟨⟨by rw [h.1, List.length_append]; omega, fun k x hk => ?_⟩, fun k x hk => h.2 k x ?_⟩
    · rw [Nat.add_assoc]
      exact h.2 _ x (by rw [List.getElem?_append_right (by omega), show L.length + k - L.length = k by omega]; exact hk)
    · rw [List.getElem?_append_left (List.getElem?_eq_some_iff.mp hk).1]; exact hk
  · intro h
    refine ⟨by rw [h.1.1, List.length_append]; omega, fun k x hk => ?_⟩
    by_cases e : k < L.length
    · rw [List.getElem?_append_left e] at hk
      exact h.2 k x hk
    · rw [List.getElem?_append_right (by omega)] at hk
      have := h.1.2 _ x hk
      rw [show a + L.length + (k - L.length) = a + k by omega] at this
      exact this
theorem CT_fz {l : Launch} {a n : Nat} {L M M' X X' : List va_E} {y : MethodName} {bytes : ByteArray} {maxL : Nat} {ret : Option FieldType} {rm : Room} {av : List Value} {S : Type} {rv : S → Option Value} {φ : S → Prop} (hA : ∀ q, a ≤ q → A q) (hn : L.length = n) (hX : L ++ M = X) (hX' : L ++ M' = X') (h : CT l D (fun q => a + n ≤ q) y bytes maxL ret rm av (FZ D (a + n) M) rv φ (fun _ => FZ D (a + n) M')) : CT l D A y bytes maxL ret rm av (FZ D a X) rv φ (fun _ => FZ D a X') := by
  subst hX; subst hX'
  have h2 := CT_fr (A := A) (F := fun H => ∀ k x, L[k]? = some x → va_at D.1 vwCl (a + k, x) H) (fun q (hq : a + n ≤ q) => hA q (by omega)) (fun H H' hF _ hz ho k x hk => (hF k x hk).kept (ho _ (hF k x hk).lt (by have := (List.getElem?_eq_some_iff.mp hk).1; show ¬ (a + n ≤ a + k); omega))) h
  exact CT_map (I := Unit) (P := fun _ => _) (rv := fun _ => rv) (φ := fun _ => φ) (P1 := fun _ => _) (fun H hH => ⟨(), (FZ_split hn).mp hH⟩) (fun _ => h2) (fun _ u hu => ⟨u, rfl, hu, fun H hH => (FZ_split hn).mpr hH⟩)
theorem CTo_fz {l : Launch} {a n : Nat} {L M M' X X' : List va_E} {y : MethodName} {bytes : ByteArray} {maxL : Nat} {ret : Option FieldType} {rm : Room} {av : List Value} {S : Type} {rv : S → Option Value} {φ : S → Prop} (hA : ∀ q, a ≤ q → A q) (hn : L.length = n) (hX : L ++ M = X) (hX' : L ++ M' = X') (h : CTo l D (fun q => a + n ≤ q) y bytes maxL ret rm av (FZ D (a + n) M) rv φ (fun _ => FZ D (a + n) M')) : CTo l D A y bytes maxL ret rm av (FZ D a X) rv φ (fun _ => FZ D a X') := by
  subst hX; subst hX'
  exact CTo_fr (A := A) (F := fun H => ∀ k x, L[k]? = some x → va_at D.1 vwCl (a + k, x) H) (fun q (hq : a + n ≤ q) => hA q (by omega)) (fun H H' hF _ hz ho k x hk => (hF k x hk).kept (ho _ (hF k x hk).lt (by have := (List.getElem?_eq_some_iff.mp hk).1; show ¬ (a + n ≤ a + k); omega))) (fun H hH => (FZ_split hn).mp hH) (fun _ H hH => (FZ_split hn).mpr hH) h
theorem v_callIo {y : MethodName} {bytes : ByteArray} {maxL n idx b k1' k2' : Nat} {rm' : Room} {As rest : List Value} {S : Type} {rv : S → Option Value} {φ : S → Prop} {P1 : S → Heap → Prop} (hG : Ok D A G cc nL own rm) (hO : AOk G) (hd : decode cc pc = .ok (.invokespecial idx, 3)) (hc : zC y bytes maxL none n) (hl : Cond.methodLink own idx y ∈ zTB ∧ Cond.instanceMethod y ∈ zTB) (hy : y.name = "<init>") (hM : ∀ l, CTo l D A y bytes maxL none rm' (.ref b :: As) P' rv φ P1) (hn : As.length = n) (hP : ∀ H, P H → P' H) (hroom : rm'.frames + 1 ≤ rm.frames ∧ 8 + (maxL + 11) + rm'.locals ≤ rm.locals) (h1 : k1 + rm'.cells = k1') (h2 : k2 + rm'.slots = k2') (h3 : k1' ≤ rm.cells ∧ k2' ≤ rm.slots) (hst : st = As.reverse ++ .ref b :: rest) (hw : (rest.map fun v => v.category).sum ≤ 8) (out : S → List Value) (hout : ∀ u, (rv u).toList ++ rest = out u) (kk : ∀ u, φ u → V G k1' k2' (P1 u) (pc + 3) lo (out u)) : V G k1 k2 P pc lo st := by
  refine v_of_run (A := A) (a := (Value.ref b :: As).toArray) h1 h2 out hout (fun p l e R s m args below meth c A' Q hg => by subst hg; exact hG.2.2.2.2.2.2.1) (fun p l e R s m args below meth c A' Q hg => ?_) kk
  subst hg
  obtain ⟨hrm, hx, hb, hml, hown, hts, hA, hK⟩ := hG
  subst hrm
  intro H locs ls hp hS hlv
  have hz := zpreo (l := l) (av := .ref b :: As) hP hK hO hS hp
  exact va_runI (nL := c.maxLocals) ⟨hx, hb, rfl, hown, hts⟩ (hM l) ⟨zcb hts hc hl.1 hroom, hy, hts _ hl.2⟩ hz rfl hn hlv.1 hst (lv_room hw) hd ⟨by rw [h1]; exact h3.1, by rw [h2]; exact h3.2⟩
end AL
