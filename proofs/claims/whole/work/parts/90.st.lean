/-! THE LAW'S START: what the tables and the given say -/
theorem st_w {s : State} {args : Array Value} (hts : ∀ w ∈ lw_tbl, w.before args s = true) : ∀ w ∈ zTB, w.before args s = true := fun w hw => hts w (List.mem_filter.mp hw).1
theorem st_t {s : State} {args : Array Value} (hts : ∀ w ∈ lw_tbl, w.before args s = true) (i : Nat) {w : Cond} (h : tables_1[i]? = some w) : w.before args s = true := hts w (List.mem_append_right _ (List.mem_of_getElem? h))
theorem st_cls {s : State} {args : Array Value} (hts : ∀ w ∈ lw_tbl, w.before args s = true) : ∃ f : Nat → ClassId × (Nat → Nat), ∀ (c : Nat) (q : vw_C), vwCl[c]? = some q → u_Kn s q.1 q.2.1 q.2.2 (f c).1 (f c).2 := by
  have hz := st_w hts
  have key : ∀ c : Nat, ∃ x : ClassId × (Nat → Nat), ∀ q, vwCl[c]? = some q → u_Kn s q.1 q.2.1 q.2.2 x.1 x.2 := by
    intro c
    rcases (show c = 0 ∨ c = 1 ∨ c = 2 ∨ c = 3 ∨ c = 4 ∨ c = 5 ∨ c = 6 ∨ c = 7 ∨ c = 8 ∨ c = 9 ∨ c = 10 ∨ c = 11 ∨ c = 12 ∨ 13 ≤ c by omega) with rfl | rfl | rfl | rfl | rfl | rfl | rfl | rfl | rfl | rfl | rfl | rfl | rfl | h
    · obtain ⟨cC, iS, h⟩ := u_known (C := RX0) (T := TX0) (N := 11) (n := 11) hz zcl0.2.1 (st_t hts 75 (by decide +kernel))
      exact ⟨(cC, iS), fun q hq => by cases hq; exact h⟩
    · obtain ⟨cC, iS, h⟩ := u_known (C := RX1) (T := TX1) (N := 9) (n := 9) hz zcl1.2.1 (st_t hts 489 (by decide +kernel))
      exact ⟨(cC, iS), fun q hq => by cases hq; exact h⟩
    · obtain ⟨cC, iS, h⟩ := u_known (C := RX2) (T := TX2) (N := 9) (n := 9) hz zcl2.2.1 (st_t hts 457 (by decide +kernel))
      exact ⟨(cC, iS), fun q hq => by cases hq; exact h⟩
    · obtain ⟨cC, iS, h⟩ := u_known (C := RX3) (T := TX3) (N := 9) (n := 9) hz zcl3.2.1 (st_t hts 441 (by decide +kernel))
      exact ⟨(cC, iS), fun q hq => by cases hq; exact h⟩
    · obtain ⟨cC, iS, h⟩ := u_known (C := RX4) (T := TX4) (N := 9) (n := 9) hz zcl4.2.1 (st_t hts 82 (by decide +kernel))
      exact ⟨(cC, iS), fun q hq => by cases hq; exact h⟩
    · obtain ⟨cC, iS, h⟩ := u_known (C := RX5) (T := TX5) (N := 9) (n := 9) hz zcl5.2.1 (st_t hts 473 (by decide +kernel))
      exact ⟨(cC, iS), fun q hq => by cases hq; exact h⟩
    · obtain ⟨cC, iS, h⟩ := u_known (C := RX6) (T := TX6) (N := 11) (n := 11) hz zcl6.2.1 (st_t hts 30 (by decide +kernel))
      exact ⟨(cC, iS), fun q hq => by cases hq; exact h⟩
    · obtain ⟨cC, iS, h⟩ := u_known (C := RX7) (T := TX7) (N := 3) (n := 3) hz zcl7.2.1 (st_t hts 149 (by decide +kernel))
      exact ⟨(cC, iS), fun q hq => by cases hq; exact h⟩
    · obtain ⟨cC, iS, h⟩ := u_known (C := RX8) (T := TX8) (N := 10) (n := 10) hz zcl8.2.1 (st_t hts 521 (by decide +kernel))
      exact ⟨(cC, iS), fun q hq => by cases hq; exact h⟩
    · obtain ⟨cC, iS, h⟩ := u_known (C := RX9) (T := TX9) (N := 2) (n := 2) hz zcl9.2.1 (st_t hts 214 (by decide +kernel))
      exact ⟨(cC, iS), fun q hq => by cases hq; exact h⟩
    · obtain ⟨cC, iS, h⟩ := u_known (C := RX10) (T := TX10) (N := 9) (n := 9) hz zcl10.2.1 (st_t hts 505 (by decide +kernel))
      exact ⟨(cC, iS), fun q hq => by cases hq; exact h⟩
    · obtain ⟨cC, iS, h⟩ := u_known (C := RX11) (T := TX11) (N := 9) (n := 9) hz zcl11.2.1 (st_t hts 22 (by decide +kernel))
      exact ⟨(cC, iS), fun q hq => by cases hq; exact h⟩
    · obtain ⟨cC, iS, h⟩ := u_known (C := RX12) (T := TX12) (N := 23) (n := 23) hz zcl12.2.1 (st_t hts 1055 (by decide +kernel))
      exact ⟨(cC, iS), fun q hq => by cases hq; exact h⟩
    · exact ⟨(Classical.choice ⟨(u_known (C := RX12) (T := TX12) (N := 23) (n := 23) hz zcl12.2.1 (st_t hts 1055 (by decide +kernel))).choose⟩, fun _ => 0), fun q hq => by
        have : c < 13 := (List.getElem?_eq_some_iff.mp hq).1
        omega⟩
  exact ⟨fun c => (key c).choose, fun c => (key c).choose_spec⟩
theorem st_arrI {s : State} {args : Array Value} {ty : FieldType} (h : (Cond.arrayClass ty).before args s = true) : ∃ cA : ClassId, ArrOfT s cA ty ∧ s.vm.findClass ("[" ++ ty.toString) = some cA := by
  obtain ⟨c, k, comp, h1, h2, h3⟩ := Cond.arrayClass_spec h
  exact ⟨c, fun n z => ⟨(fun k h => (by cases h)), k, h2, comp, h3⟩, h1⟩
theorem st_arrQ {s : State} {args : Array Value} {C : String} (h : (Cond.arrayOver (.object C)).before args s = true) : ∃ cA : ClassId, ArrOfT s cA (.object C) ∧ va_RA s cA (.object C) := by
  obtain ⟨comp, c, k, h1, -, h2, h3, h4⟩ := Cond.arrayOver_spec h
  exact ⟨c, fun n z => ⟨(fun k h => (by cases h)), k, h2, comp, h3⟩, k, comp, h2, h3, h1, h4⟩
def ztm : Nat → Term := fun i => if i = 0 then .string "MirrorPlate$Plate" 74 else if i = 1 then .string "MirrorPlate$Plate" 95 else if i = 2 then .string "MirrorPlate$Plate" 101 else if i = 3 then .string "MirrorPlateModel" 105 else if i = 4 then .string "MirrorPlateModel" 111 else if i = 5 then .string "MirrorPlateModel" 113 else .string "MirrorPlateModel" 118
theorem st_eqr {args : Array Value} {s : State} {t u : Term} {a : Nat} (h : (Cond.eq t u).before args s = true) (ht : t.eval args s none [] s = some (.ref a)) : u.eval args s none [] s = some (.ref a) := by
  cases hu : u.eval args s none [] s with
  | none => simp [Cond.before, Cond.holds, Cond.value, ht, hu] at h
  | some v =>
    cases v <;> simp [Cond.before, Cond.holds, Cond.value, ht, hu] at h
    subst h; rfl
theorem kb_start {s : State} {b : Nat} (hts : ∀ w ∈ lw_tbl, w.before #[Value.ref b] s = true) (hgv : (Jvm.Cond.and given_1 narrow_1).before #[Value.ref b] s = true) : ∃ D : Dx, KB D (fun q => s.heap.size ≤ q) s ∧ AOs s := by
  obtain ⟨f, hf⟩ := st_cls hts
  have hs := flat_of_before _ hgv
  obtain ⟨cI, hI1, hI2⟩ := st_arrI (st_t hts (w := .arrayClass .int) 73 (by decide +kernel))
  obtain ⟨cZ, hZ1, hZ2⟩ := st_arrI (st_t hts (w := .arrayClass .boolean) 1129 (by decide +kernel))
  have hOM := st_t hts (w := .arrayOver (.object "MirrorPlate$Mark")) 81 (by decide +kernel)
  have hOP := st_t hts (w := .arrayOver (.object "MirrorPlate$Plate")) 212 (by decide +kernel)
  obtain ⟨cM, hM1, hM2⟩ := st_arrQ hOM
  obtain ⟨cP, hP1, hP2⟩ := st_arrQ hOP
  have hA : ∀ a : Nat, a < s.heap.size → ¬ s.heap.size ≤ a := fun a h1 h2 => by omega
  obtain ⟨adK, adV, hS, hK⟩ := vk_Sof (args := #[Value.ref b]) (s := s) (N := 7) (tm := ztm) (len := zlen) (byt := zbyt) (A := fun q => s.heap.size ≤ q)
    (by decide +kernel)
    (fun i hi => hs _ ((by decide +kernel : ∀ i, i < 7 → Cond.exactly (ztm i) "java/lang/String" ∈ flatC (Jvm.Cond.and given_1 narrow_1)) i hi))
    (fun i hi => hs _ ((by decide +kernel : ∀ i, i < 7 → Cond.eq (.field (ztm i) "java/lang/String" "coder" "B") (.int 0) ∈ flatC (Jvm.Cond.and given_1 narrow_1)) i hi))
    (fun i hi => hs _ ((by decide +kernel : ∀ i, i < 7 → Cond.arrayOf (.field (ztm i) "java/lang/String" "value" "[B") .byte ∈ flatC (Jvm.Cond.and given_1 narrow_1)) i hi))
    (fun i hi => hs _ ((by decide +kernel : ∀ i, i < 7 → Cond.eq (.length (.field (ztm i) "java/lang/String" "value" "[B")) (.int (Int32.ofNat (zlen.getD i 0))) ∈ flatC (Jvm.Cond.and given_1 narrow_1)) i hi))
    (fun i hi j hj => hs _ ((by decide +kernel : ∀ i, i < 7 → ∀ j, j < zlen.getD i 0 → Cond.eq (.elem (.field (ztm i) "java/lang/String" "value" "[B") (.int (Int32.ofNat j))) (.int ((zbyt.getD i []).getD j 0)) ∈ flatC (Jvm.Cond.and given_1 narrow_1)) i hi j hj))
    (fun i j hi hj hn => ((by decide +kernel : ∀ i, i < 7 → ∀ j, j < 7 → i ≠ j → Cond.not (Cond.eq (ztm i) (ztm j)) ∈ flatC (Jvm.Cond.and given_1 narrow_1) ∨ Cond.not (Cond.eq (ztm j) (ztm i)) ∈ flatC (Jvm.Cond.and given_1 narrow_1)) i hi j hj hn).elim (fun h => Or.inl (hs _ h)) (fun h => Or.inr (hs _ h)))
    hA
  have hR : ∀ q ∈ ztx, vk_R q.1 q.2.1 q.2.2.1 (adK q.2.2.2) s := by
    have hw : ∀ q ∈ ztx, Cond.stringRef q.1 q.2.1 q.2.2.1 ∈ tables_1 := by decide +kernel
    have e1 := st_eqr (hs _ (by decide +kernel : Cond.eq (.string "MirrorPlate$Plate" 95) (.string "MirrorPlateModel" 87) ∈ flatC (Jvm.Cond.and given_1 narrow_1))) (hK 1 (by decide))
    have e2 := st_eqr (hs _ (by decide +kernel : Cond.eq (.string "MirrorPlate$Plate" 101) (.string "MirrorPlateModel" 93) ∈ flatC (Jvm.Cond.and given_1 narrow_1))) (hK 2 (by decide))
    intro q hq
    have h1 : (Cond.stringRef q.1 q.2.1 q.2.2.1).before #[Value.ref b] s = true := hts _ (List.mem_append_right _ (hw q hq))
    simp only [ztx, List.mem_cons, List.not_mem_nil, or_false] at hq
    rcases hq with rfl | rfl | rfl | rfl | rfl | rfl | rfl | rfl | rfl
    · exact vk_R.of h1 (hK 0 (by decide))
    · exact vk_R.of h1 (hK 1 (by decide))
    · exact vk_R.of h1 (hK 2 (by decide))
    · exact vk_R.of h1 e1
    · exact vk_R.of h1 e2
    · exact vk_R.of h1 (hK 3 (by decide))
    · exact vk_R.of h1 (hK 4 (by decide))
    · exact vk_R.of h1 (hK 5 (by decide))
    · exact vk_R.of h1 (hK 6 (by decide))
  refine ⟨((fun c => (f c).1, fun c => (f c).2), cI, cZ, cM, cP, adK, adV), ⟨⟨hf, fun k q hk => ?_⟩, fun w hw => ?_, fun q hq => ?_, hR, hS, ?_, ?_⟩, va_AO.of hOM, va_AO.of hOP⟩
  · rcases (show k = 0 ∨ k = 1 ∨ k = 2 ∨ k = 3 ∨ 4 ≤ k by omega) with rfl | rfl | rfl | rfl | h
    · cases hk; exact ⟨hI1, hI2⟩
    · cases hk; exact ⟨hZ1, hZ2⟩
    · cases hk; exact ⟨hM1, hM2⟩
    · cases hk; exact ⟨hP1, hP2⟩
    · have : k < 4 := (List.getElem?_eq_some_iff.mp hk).1
      omega
  · have h1 := (List.mem_filter.mp hw).1
    have h2 := (List.mem_filter.mp hw).2
    have h3 := hts w (List.mem_append_right _ h1)
    cases w <;> first | exact va_Nw.of rfl h3 | exact Bool.noConfusion h2
  · exact va_Nc.of (hs _ ((by decide +kernel : ∀ q ∈ znc, Cond.not (.castable q.1 q.2) ∈ flatC (Jvm.Cond.and given_1 narrow_1)) q hq))
  · exact va_Zof (args := #[Value.ref b]) (hts _ (List.mem_append_right _ (by decide +kernel))) (hts _ (List.mem_append_right _ (by decide +kernel))) (va_eqi (hs _ (by decide +kernel))) hA
  · exact va_Zqof (args := #[Value.ref b]) (hts _ (List.mem_append_right _ (by decide +kernel))) (hts _ (List.mem_append_right _ (by decide +kernel))) (hs _ (by decide +kernel)) hA
