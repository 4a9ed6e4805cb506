/-! THE MODEL'S WORLD: one object, eight arrays -/
def sU (f : Int → Int) (j v : Int) : Int → Int := fun q => if q = j then v else f q
theorem sU_eq {f : Int → Int} {j v : Int} : sU f j v j = v := if_pos rfl
theorem sU_ne {f : Int → Int} {j v q : Int} (h : q ≠ j) : sU f j v q = f q := if_neg h
def cpy (n : Int) (f g : Int → Int) : Int → Int := fun q => if 0 ≤ q ∧ q < n then f q else g q
theorem cpy_step {k : Nat} {f g : Int → Int} : sU (cpy k f g) k (f k) = cpy ((k + 1 : Nat) : Int) f g := by
  funext q
  unfold sU cpy
  by_cases h : q = k
  · subst h; rw [if_pos rfl, if_pos (by omega)]
  · rw [if_neg h]
    by_cases h2 : 0 ≤ q ∧ q < (k : Int)
    · rw [if_pos h2, if_pos (by omega)]
    · rw [if_neg h2, if_neg (by omega)]
theorem cpy_0 {f g : Int → Int} : cpy 0 f g = g := by
  funext q
  unfold cpy
  rw [if_neg (by omega)]
theorem cpy_in {n q : Int} {f g : Int → Int} (h : 0 ≤ q ∧ q < n) : cpy n f g q = f q := if_pos h
theorem cpy_out {n q : Int} {f g : Int → Int} (h : ¬ (0 ≤ q ∧ q < n)) : cpy n f g q = g q := if_neg h
def bi (p : Prop) [Decidable p] : Int := if p then 1 else 0
theorem bi_01 (p : Prop) [Decidable p] : bi p = 0 ∨ bi p = 1 := by unfold bi; split <;> simp
theorem bi_pos {p : Prop} [Decidable p] (h : p) : bi p = 1 := if_pos h
theorem bi_neg {p : Prop} [Decidable p] (h : ¬ p) : bi p = 0 := if_neg h
theorem bi_0 {p : Prop} [Decidable p] : bi p = 0 ↔ ¬ p := by unfold bi; split <;> simp [*]
theorem bi_1 {p : Prop} [Decidable p] : bi p = 1 ↔ p := by unfold bi; split <;> simp [*]
theorem bi_congr {p q : Prop} [Decidable p] [Decidable q] (h : p ↔ q) : bi p = bi q := by
  by_cases hp : p
  · rw [bi_pos hp, bi_pos (h.mp hp)]
  · rw [bi_neg hp, bi_neg (fun q => hp (h.mpr q))]
def mfs (a : Nat → Nat) (s im fr bY tr ln bl bo g lg : Int → Int) : List Value := [vI (g 0), .ref (a 1), .ref (a 2), .ref (a 3), vI (g 1), vI (g 2), vI (g 3), vI (g 4), vI (g 5), vI (g 6), .ref (a 4), .ref (a 5), .ref (a 6), .ref (a 7), vI (g 7), vL (lg 0), vL (lg 1), vL (lg 2), .ref (a 8), vI (g 8), vI (g 9), vI (g 10), vI (g 11)]
abbrev ri (f : Int → Int) : Nat → Int32 := fun q => ii (f (q : Int))
def mcells (D : Dx) (a : Nat → Nat) (s im fr bY tr ln bl bo g lg : Int → Int) : va_W := [(a 0, .inr (12, mfs a s im fr bY tr ln bl bo g lg)), (a 1, .inl (D.2.1, 973, .inl (ri s))), (a 2, .inl (D.2.1, 973, .inl (ri im))), (a 3, .inl (D.2.1, 43, .inl (ri fr))), (a 4, .inl (D.2.1, 6, .inl (ri bY))), (a 5, .inl (D.2.2.1, 64, .inl (ri tr))), (a 6, .inl (D.2.1, 8, .inl (ri ln))), (a 7, .inl (D.2.1, 8, .inl (ri bl))), (a 8, .inl (D.2.1, 20, .inl (ri bo)))]
def MW (D : Dx) (A : Nat → Prop) (a : Nat → Nat) (s im fr bY tr ln bl bo g lg : Int → Int) (H : Heap) : Prop := va_P D.1 vwCl (mcells D a s im fr bY tr ln bl bo g lg) H ∧ va_D A (mcells D a s im fr bY tr ln bl bo g lg)
theorem mw_set {D : Dx} {A : Nat → Prop} {w w' : va_W} {H H' : Heap} {j b : Nat} {e0 e : va_E} (hM : va_P D.1 vwCl w H ∧ va_D A w) (h : w[j]? = some (b, e0)) (h' : w.set j (b, e) = w') (he : va_at D.1 vwCl (b, e) H') (oq : ∀ q, q ≠ b → H'[q]? = H[q]?) : va_P D.1 vwCl w' H' ∧ va_D A w' := by
  subst h'
  exact ⟨hM.1.set hM.2 h he oq, hM.2.set h⟩
theorem zcl12 : zCl 12 RX12 TX12 23 tyX12 := ⟨rfl, by decide +kernel, tyX12_ok, nmX12⟩
section MWR
variable {D : Dx} {A : Nat → Prop} {G : Gx} {cc : ByteArray} {nL : Nat} {own : String} {rm : Room} {k1 k2 pc : Nat} {lo : List (Nat × Value)} {st : List Value} {a : Nat → Nat} {s im fr bY tr ln bl bo g lg : Int → Int}
theorem zfl12_s : zFl RX12 9 RX12 (TX12 1) := ⟨ztb 1060 (by decide +kernel) (by decide +kernel), Or.inl rfl⟩
theorem mg_s (hG : Ok D A G cc nL RX12 rm) (hd : decode cc pc = .ok (.getfield 9, 3)) (kk : V G k1 k2 (MW D A a s im fr bY tr ln bl bo g lg) (pc + 3) lo (.ref (a 1) :: st)) : V G k1 k2 (MW D A a s im fr bY tr ln bl bo g lg) pc lo (.ref (a 0) :: st) := by
  exact v_get hG hd zcl12 1 zfl12_s (by decide) (fun H hM => hM.1 0 _ rfl) rfl kk
theorem zfl12_image : zFl RX12 15 RX12 (TX12 2) := ⟨ztb 1061 (by decide +kernel) (by decide +kernel), Or.inl rfl⟩
theorem mg_image (hG : Ok D A G cc nL RX12 rm) (hd : decode cc pc = .ok (.getfield 15, 3)) (kk : V G k1 k2 (MW D A a s im fr bY tr ln bl bo g lg) (pc + 3) lo (.ref (a 2) :: st)) : V G k1 k2 (MW D A a s im fr bY tr ln bl bo g lg) pc lo (.ref (a 0) :: st) := by
  exact v_get hG hd zcl12 2 zfl12_image (by decide) (fun H hM => hM.1 0 _ rfl) rfl kk
theorem zfl12_frame : zFl RX12 18 RX12 (TX12 3) := ⟨ztb 1062 (by decide +kernel) (by decide +kernel), Or.inl rfl⟩
theorem mg_frame (hG : Ok D A G cc nL RX12 rm) (hd : decode cc pc = .ok (.getfield 18, 3)) (kk : V G k1 k2 (MW D A a s im fr bY tr ln bl bo g lg) (pc + 3) lo (.ref (a 3) :: st)) : V G k1 k2 (MW D A a s im fr bY tr ln bl bo g lg) pc lo (.ref (a 0) :: st) := by
  exact v_get hG hd zcl12 3 zfl12_frame (by decide) (fun H hM => hM.1 0 _ rfl) rfl kk
theorem zfl12_hasImage : zFl RX12 307 RX12 (TX12 4) := ⟨ztb 1063 (by decide +kernel) (by decide +kernel), Or.inl rfl⟩
theorem mg_hasImage {z : Int} (hG : Ok D A G cc nL RX12 rm) (hd : decode cc pc = .ok (.getfield 307, 3)) (hz : g 1 = z) (kk : V G k1 k2 (MW D A a s im fr bY tr ln bl bo g lg) (pc + 3) lo (vI z :: st)) : V G k1 k2 (MW D A a s im fr bY tr ln bl bo g lg) pc lo (.ref (a 0) :: st) := by
  subst hz; exact v_get hG hd zcl12 4 zfl12_hasImage (by decide) (fun H hM => hM.1 0 _ rfl) rfl kk
theorem mp_hasImage {v : Int} (hG : Ok D A G cc nL RX12 rm) (hd : decode cc pc = .ok (.putfield 307, 3)) (hb : v = 0 ∨ v = 1) (kk : V G k1 k2 (MW D A a s im fr bY tr ln bl bo (sU g 1 v) lg) (pc + 3) lo st) : V G k1 k2 (MW D A a s im fr bY tr ln bl bo g lg) pc lo (vI v :: .ref (a 0) :: st) :=
  v_put hG hd zcl12 4 zfl12_hasImage (by decide) rfl (by rcases hb with rfl | rfl <;> rfl) (by rcases hb with rfl | rfl <;> rfl) (by show 4 < 23; decide) (fun H hM => ⟨hM.1 0 _ rfl, hM.2.2 0 _ rfl⟩) (fun H H' hM he _ oq => mw_set hM (j := 0) rfl rfl he oq) kk
theorem zfl12_act : zFl RX12 72 RX12 (TX12 5) := ⟨ztb 1064 (by decide +kernel) (by decide +kernel), Or.inl rfl⟩
theorem mg_act {z : Int} (hG : Ok D A G cc nL RX12 rm) (hd : decode cc pc = .ok (.getfield 72, 3)) (hz : g 2 = z) (kk : V G k1 k2 (MW D A a s im fr bY tr ln bl bo g lg) (pc + 3) lo (vI z :: st)) : V G k1 k2 (MW D A a s im fr bY tr ln bl bo g lg) pc lo (.ref (a 0) :: st) := by
  subst hz; exact v_get hG hd zcl12 5 zfl12_act (by decide) (fun H hM => hM.1 0 _ rfl) rfl kk
theorem mp_act {v : Int} (hG : Ok D A G cc nL RX12 rm) (hd : decode cc pc = .ok (.putfield 72, 3)) (kk : V G k1 k2 (MW D A a s im fr bY tr ln bl bo (sU g 2 v) lg) (pc + 3) lo st) : V G k1 k2 (MW D A a s im fr bY tr ln bl bo g lg) pc lo (vI v :: .ref (a 0) :: st) :=
  v_put hG hd zcl12 5 zfl12_act (by decide) rfl (by rfl) (by rfl) (by show 5 < 23; decide) (fun H hM => ⟨hM.1 0 _ rfl, hM.2.2 0 _ rfl⟩) (fun H H' hM he _ oq => mw_set hM (j := 0) rfl rfl he oq) kk
theorem zfl12_spot : zFl RX12 45 RX12 (TX12 6) := ⟨ztb 1065 (by decide +kernel) (by decide +kernel), Or.inl rfl⟩
theorem mg_spot {z : Int} (hG : Ok D A G cc nL RX12 rm) (hd : decode cc pc = .ok (.getfield 45, 3)) (hz : g 3 = z) (kk : V G k1 k2 (MW D A a s im fr bY tr ln bl bo g lg) (pc + 3) lo (vI z :: st)) : V G k1 k2 (MW D A a s im fr bY tr ln bl bo g lg) pc lo (.ref (a 0) :: st) := by
  subst hz; exact v_get hG hd zcl12 6 zfl12_spot (by decide) (fun H hM => hM.1 0 _ rfl) rfl kk
theorem mp_spot {v : Int} (hG : Ok D A G cc nL RX12 rm) (hd : decode cc pc = .ok (.putfield 45, 3)) (kk : V G k1 k2 (MW D A a s im fr bY tr ln bl bo (sU g 3 v) lg) (pc + 3) lo st) : V G k1 k2 (MW D A a s im fr bY tr ln bl bo g lg) pc lo (vI v :: .ref (a 0) :: st) :=
  v_put hG hd zcl12 6 zfl12_spot (by decide) rfl (by rfl) (by rfl) (by show 6 < 23; decide) (fun H hM => ⟨hM.1 0 _ rfl, hM.2.2 0 _ rfl⟩) (fun H H' hM he _ oq => mw_set hM (j := 0) rfl rfl he oq) kk
theorem zfl12_end : zFl RX12 48 RX12 (TX12 7) := ⟨ztb 1066 (by decide +kernel) (by decide +kernel), Or.inl rfl⟩
theorem mg_end {z : Int} (hG : Ok D A G cc nL RX12 rm) (hd : decode cc pc = .ok (.getfield 48, 3)) (hz : g 4 = z) (kk : V G k1 k2 (MW D A a s im fr bY tr ln bl bo g lg) (pc + 3) lo (vI z :: st)) : V G k1 k2 (MW D A a s im fr bY tr ln bl bo g lg) pc lo (.ref (a 0) :: st) := by
  subst hz; exact v_get hG hd zcl12 7 zfl12_end (by decide) (fun H hM => hM.1 0 _ rfl) rfl kk
theorem mp_end {v : Int} (hG : Ok D A G cc nL RX12 rm) (hd : decode cc pc = .ok (.putfield 48, 3)) (kk : V G k1 k2 (MW D A a s im fr bY tr ln bl bo (sU g 4 v) lg) (pc + 3) lo st) : V G k1 k2 (MW D A a s im fr bY tr ln bl bo g lg) pc lo (vI v :: .ref (a 0) :: st) :=
  v_put hG hd zcl12 7 zfl12_end (by decide) rfl (by rfl) (by rfl) (by show 7 < 23; decide) (fun H hM => ⟨hM.1 0 _ rfl, hM.2.2 0 _ rfl⟩) (fun H H' hM he _ oq => mw_set hM (j := 0) rfl rfl he oq) kk
theorem zfl12_isWrong : zFl RX12 51 RX12 (TX12 8) := ⟨ztb 1067 (by decide +kernel) (by decide +kernel), Or.inl rfl⟩
theorem mg_isWrong {z : Int} (hG : Ok D A G cc nL RX12 rm) (hd : decode cc pc = .ok (.getfield 51, 3)) (hz : g 5 = z) (kk : V G k1 k2 (MW D A a s im fr bY tr ln bl bo g lg) (pc + 3) lo (vI z :: st)) : V G k1 k2 (MW D A a s im fr bY tr ln bl bo g lg) pc lo (.ref (a 0) :: st) := by
  subst hz; exact v_get hG hd zcl12 8 zfl12_isWrong (by decide) (fun H hM => hM.1 0 _ rfl) rfl kk
theorem mp_isWrong {v : Int} (hG : Ok D A G cc nL RX12 rm) (hd : decode cc pc = .ok (.putfield 51, 3)) (hb : v = 0 ∨ v = 1) (kk : V G k1 k2 (MW D A a s im fr bY tr ln bl bo (sU g 5 v) lg) (pc + 3) lo st) : V G k1 k2 (MW D A a s im fr bY tr ln bl bo g lg) pc lo (vI v :: .ref (a 0) :: st) :=
  v_put hG hd zcl12 8 zfl12_isWrong (by decide) rfl (by rcases hb with rfl | rfl <;> rfl) (by rcases hb with rfl | rfl <;> rfl) (by show 8 < 23; decide) (fun H hM => ⟨hM.1 0 _ rfl, hM.2.2 0 _ rfl⟩) (fun H H' hM he _ oq => mw_set hM (j := 0) rfl rfl he oq) kk
theorem zfl12_open : zFl RX12 75 RX12 (TX12 9) := ⟨ztb 1068 (by decide +kernel) (by decide +kernel), Or.inl rfl⟩
theorem mg_open {z : Int} (hG : Ok D A G cc nL RX12 rm) (hd : decode cc pc = .ok (.getfield 75, 3)) (hz : g 6 = z) (kk : V G k1 k2 (MW D A a s im fr bY tr ln bl bo g lg) (pc + 3) lo (vI z :: st)) : V G k1 k2 (MW D A a s im fr bY tr ln bl bo g lg) pc lo (.ref (a 0) :: st) := by
  subst hz; exact v_get hG hd zcl12 9 zfl12_open (by decide) (fun H hM => hM.1 0 _ rfl) rfl kk
theorem mp_open {v : Int} (hG : Ok D A G cc nL RX12 rm) (hd : decode cc pc = .ok (.putfield 75, 3)) (kk : V G k1 k2 (MW D A a s im fr bY tr ln bl bo (sU g 6 v) lg) (pc + 3) lo st) : V G k1 k2 (MW D A a s im fr bY tr ln bl bo g lg) pc lo (vI v :: .ref (a 0) :: st) :=
  v_put hG hd zcl12 9 zfl12_open (by decide) rfl (by rfl) (by rfl) (by show 9 < 23; decide) (fun H hM => ⟨hM.1 0 _ rfl, hM.2.2 0 _ rfl⟩) (fun H H' hM he _ oq => mw_set hM (j := 0) rfl rfl he oq) kk
theorem zfl12_by : zFl RX12 21 RX12 (TX12 10) := ⟨ztb 1069 (by decide +kernel) (by decide +kernel), Or.inl rfl⟩
theorem mg_by (hG : Ok D A G cc nL RX12 rm) (hd : decode cc pc = .ok (.getfield 21, 3)) (kk : V G k1 k2 (MW D A a s im fr bY tr ln bl bo g lg) (pc + 3) lo (.ref (a 4) :: st)) : V G k1 k2 (MW D A a s im fr bY tr ln bl bo g lg) pc lo (.ref (a 0) :: st) := by
  exact v_get hG hd zcl12 10 zfl12_by (by decide) (fun H hM => hM.1 0 _ rfl) rfl kk
theorem zfl12_truths : zFl RX12 24 RX12 (TX12 11) := ⟨ztb 1070 (by decide +kernel) (by decide +kernel), Or.inl rfl⟩
theorem mg_truths (hG : Ok D A G cc nL RX12 rm) (hd : decode cc pc = .ok (.getfield 24, 3)) (kk : V G k1 k2 (MW D A a s im fr bY tr ln bl bo g lg) (pc + 3) lo (.ref (a 5) :: st)) : V G k1 k2 (MW D A a s im fr bY tr ln bl bo g lg) pc lo (.ref (a 0) :: st) := by
  exact v_get hG hd zcl12 11 zfl12_truths (by decide) (fun H hM => hM.1 0 _ rfl) rfl kk
theorem zfl12_line : zFl RX12 28 RX12 (TX12 12) := ⟨ztb 1071 (by decide +kernel) (by decide +kernel), Or.inl rfl⟩
theorem mg_line (hG : Ok D A G cc nL RX12 rm) (hd : decode cc pc = .ok (.getfield 28, 3)) (kk : V G k1 k2 (MW D A a s im fr bY tr ln bl bo g lg) (pc + 3) lo (.ref (a 6) :: st)) : V G k1 k2 (MW D A a s im fr bY tr ln bl bo g lg) pc lo (.ref (a 0) :: st) := by
  exact v_get hG hd zcl12 12 zfl12_line (by decide) (fun H hM => hM.1 0 _ rfl) rfl kk
theorem zfl12_bestLine : zFl RX12 31 RX12 (TX12 13) := ⟨ztb 1072 (by decide +kernel) (by decide +kernel), Or.inl rfl⟩
theorem mg_bestLine (hG : Ok D A G cc nL RX12 rm) (hd : decode cc pc = .ok (.getfield 31, 3)) (kk : V G k1 k2 (MW D A a s im fr bY tr ln bl bo g lg) (pc + 3) lo (.ref (a 7) :: st)) : V G k1 k2 (MW D A a s im fr bY tr ln bl bo g lg) pc lo (.ref (a 0) :: st) := by
  exact v_get hG hd zcl12 13 zfl12_bestLine (by decide) (fun H hM => hM.1 0 _ rfl) rfl kk
theorem zfl12_least : zFl RX12 203 RX12 (TX12 14) := ⟨ztb 1073 (by decide +kernel) (by decide +kernel), Or.inl rfl⟩
theorem mg_least {z : Int} (hG : Ok D A G cc nL RX12 rm) (hd : decode cc pc = .ok (.getfield 203, 3)) (hz : g 7 = z) (kk : V G k1 k2 (MW D A a s im fr bY tr ln bl bo g lg) (pc + 3) lo (vI z :: st)) : V G k1 k2 (MW D A a s im fr bY tr ln bl bo g lg) pc lo (.ref (a 0) :: st) := by
  subst hz; exact v_get hG hd zcl12 14 zfl12_least (by decide) (fun H hM => hM.1 0 _ rfl) rfl kk
theorem mp_least {v : Int} (hG : Ok D A G cc nL RX12 rm) (hd : decode cc pc = .ok (.putfield 203, 3)) (kk : V G k1 k2 (MW D A a s im fr bY tr ln bl bo (sU g 7 v) lg) (pc + 3) lo st) : V G k1 k2 (MW D A a s im fr bY tr ln bl bo g lg) pc lo (vI v :: .ref (a 0) :: st) :=
  v_put hG hd zcl12 14 zfl12_least (by decide) rfl (by rfl) (by rfl) (by show 14 < 23; decide) (fun H hM => ⟨hM.1 0 _ rfl, hM.2.2 0 _ rfl⟩) (fun H H' hM he _ oq => mw_set hM (j := 0) rfl rfl he oq) kk
theorem zfl12_risks : zFl RX12 217 RX12 (TX12 15) := ⟨ztb 1074 (by decide +kernel) (by decide +kernel), Or.inl rfl⟩
theorem mg_risks {z : Int} (hG : Ok D A G cc nL RX12 rm) (hd : decode cc pc = .ok (.getfield 217, 3)) (hz : lg 0 = z) (kk : V G k1 k2 (MW D A a s im fr bY tr ln bl bo g lg) (pc + 3) lo (vL z :: st)) : V G k1 k2 (MW D A a s im fr bY tr ln bl bo g lg) pc lo (.ref (a 0) :: st) := by
  subst hz; exact v_get hG hd zcl12 15 zfl12_risks (by decide) (fun H hM => hM.1 0 _ rfl) rfl kk
theorem mp_risks {v : Int} (hG : Ok D A G cc nL RX12 rm) (hd : decode cc pc = .ok (.putfield 217, 3)) (kk : V G k1 k2 (MW D A a s im fr bY tr ln bl bo g (sU lg 0 v)) (pc + 3) lo st) : V G k1 k2 (MW D A a s im fr bY tr ln bl bo g lg) pc lo (vL v :: .ref (a 0) :: st) :=
  v_put hG hd zcl12 15 zfl12_risks (by decide) rfl (by rfl) (by rfl) (by show 15 < 23; decide) (fun H hM => ⟨hM.1 0 _ rfl, hM.2.2 0 _ rfl⟩) (fun H H' hM he _ oq => mw_set hM (j := 0) rfl rfl he oq) kk
theorem zfl12_cleanWays : zFl RX12 221 RX12 (TX12 16) := ⟨ztb 1075 (by decide +kernel) (by decide +kernel), Or.inl rfl⟩
theorem mg_cleanWays {z : Int} (hG : Ok D A G cc nL RX12 rm) (hd : decode cc pc = .ok (.getfield 221, 3)) (hz : lg 1 = z) (kk : V G k1 k2 (MW D A a s im fr bY tr ln bl bo g lg) (pc + 3) lo (vL z :: st)) : V G k1 k2 (MW D A a s im fr bY tr ln bl bo g lg) pc lo (.ref (a 0) :: st) := by
  subst hz; exact v_get hG hd zcl12 16 zfl12_cleanWays (by decide) (fun H hM => hM.1 0 _ rfl) rfl kk
theorem mp_cleanWays {v : Int} (hG : Ok D A G cc nL RX12 rm) (hd : decode cc pc = .ok (.putfield 221, 3)) (kk : V G k1 k2 (MW D A a s im fr bY tr ln bl bo g (sU lg 1 v)) (pc + 3) lo st) : V G k1 k2 (MW D A a s im fr bY tr ln bl bo g lg) pc lo (vL v :: .ref (a 0) :: st) :=
  v_put hG hd zcl12 16 zfl12_cleanWays (by decide) rfl (by rfl) (by rfl) (by show 16 < 23; decide) (fun H hM => ⟨hM.1 0 _ rfl, hM.2.2 0 _ rfl⟩) (fun H H' hM he _ oq => mw_set hM (j := 0) rfl rfl he oq) kk
theorem zfl12_allWays : zFl RX12 224 RX12 (TX12 17) := ⟨ztb 1076 (by decide +kernel) (by decide +kernel), Or.inl rfl⟩
theorem mg_allWays {z : Int} (hG : Ok D A G cc nL RX12 rm) (hd : decode cc pc = .ok (.getfield 224, 3)) (hz : lg 2 = z) (kk : V G k1 k2 (MW D A a s im fr bY tr ln bl bo g lg) (pc + 3) lo (vL z :: st)) : V G k1 k2 (MW D A a s im fr bY tr ln bl bo g lg) pc lo (.ref (a 0) :: st) := by
  subst hz; exact v_get hG hd zcl12 17 zfl12_allWays (by decide) (fun H hM => hM.1 0 _ rfl) rfl kk
theorem mp_allWays {v : Int} (hG : Ok D A G cc nL RX12 rm) (hd : decode cc pc = .ok (.putfield 224, 3)) (kk : V G k1 k2 (MW D A a s im fr bY tr ln bl bo g (sU lg 2 v)) (pc + 3) lo st) : V G k1 k2 (MW D A a s im fr bY tr ln bl bo g lg) pc lo (vL v :: .ref (a 0) :: st) :=
  v_put hG hd zcl12 17 zfl12_allWays (by decide) rfl (by rfl) (by rfl) (by show 17 < 23; decide) (fun H hM => ⟨hM.1 0 _ rfl, hM.2.2 0 _ rfl⟩) (fun H H' hM he _ oq => mw_set hM (j := 0) rfl rfl he oq) kk
theorem zfl12_bodies : zFl RX12 34 RX12 (TX12 18) := ⟨ztb 1077 (by decide +kernel) (by decide +kernel), Or.inl rfl⟩
theorem mg_bodies (hG : Ok D A G cc nL RX12 rm) (hd : decode cc pc = .ok (.getfield 34, 3)) (kk : V G k1 k2 (MW D A a s im fr bY tr ln bl bo g lg) (pc + 3) lo (.ref (a 8) :: st)) : V G k1 k2 (MW D A a s im fr bY tr ln bl bo g lg) pc lo (.ref (a 0) :: st) := by
  exact v_get hG hd zcl12 18 zfl12_bodies (by decide) (fun H hM => hM.1 0 _ rfl) rfl kk
theorem zfl12_ranMany : zFl RX12 271 RX12 (TX12 19) := ⟨ztb 1078 (by decide +kernel) (by decide +kernel), Or.inl rfl⟩
theorem mg_ranMany {z : Int} (hG : Ok D A G cc nL RX12 rm) (hd : decode cc pc = .ok (.getfield 271, 3)) (hz : g 8 = z) (kk : V G k1 k2 (MW D A a s im fr bY tr ln bl bo g lg) (pc + 3) lo (vI z :: st)) : V G k1 k2 (MW D A a s im fr bY tr ln bl bo g lg) pc lo (.ref (a 0) :: st) := by
  subst hz; exact v_get hG hd zcl12 19 zfl12_ranMany (by decide) (fun H hM => hM.1 0 _ rfl) rfl kk
theorem mp_ranMany {v : Int} (hG : Ok D A G cc nL RX12 rm) (hd : decode cc pc = .ok (.putfield 271, 3)) (kk : V G k1 k2 (MW D A a s im fr bY tr ln bl bo (sU g 8 v) lg) (pc + 3) lo st) : V G k1 k2 (MW D A a s im fr bY tr ln bl bo g lg) pc lo (vI v :: .ref (a 0) :: st) :=
  v_put hG hd zcl12 19 zfl12_ranMany (by decide) rfl (by rfl) (by rfl) (by show 19 < 23; decide) (fun H hM => ⟨hM.1 0 _ rfl, hM.2.2 0 _ rfl⟩) (fun H H' hM he _ oq => mw_set hM (j := 0) rfl rfl he oq) kk
theorem zfl12_kind : zFl RX12 280 RX12 (TX12 20) := ⟨ztb 1079 (by decide +kernel) (by decide +kernel), Or.inl rfl⟩
theorem mg_kind {z : Int} (hG : Ok D A G cc nL RX12 rm) (hd : decode cc pc = .ok (.getfield 280, 3)) (hz : g 9 = z) (kk : V G k1 k2 (MW D A a s im fr bY tr ln bl bo g lg) (pc + 3) lo (vI z :: st)) : V G k1 k2 (MW D A a s im fr bY tr ln bl bo g lg) pc lo (.ref (a 0) :: st) := by
  subst hz; exact v_get hG hd zcl12 20 zfl12_kind (by decide) (fun H hM => hM.1 0 _ rfl) rfl kk
theorem mp_kind {v : Int} (hG : Ok D A G cc nL RX12 rm) (hd : decode cc pc = .ok (.putfield 280, 3)) (kk : V G k1 k2 (MW D A a s im fr bY tr ln bl bo (sU g 9 v) lg) (pc + 3) lo st) : V G k1 k2 (MW D A a s im fr bY tr ln bl bo g lg) pc lo (vI v :: .ref (a 0) :: st) :=
  v_put hG hd zcl12 20 zfl12_kind (by decide) rfl (by rfl) (by rfl) (by show 20 < 23; decide) (fun H hM => ⟨hM.1 0 _ rfl, hM.2.2 0 _ rfl⟩) (fun H H' hM he _ oq => mw_set hM (j := 0) rfl rfl he oq) kk
theorem zfl12_number : zFl RX12 277 RX12 (TX12 21) := ⟨ztb 1080 (by decide +kernel) (by decide +kernel), Or.inl rfl⟩
theorem mg_number {z : Int} (hG : Ok D A G cc nL RX12 rm) (hd : decode cc pc = .ok (.getfield 277, 3)) (hz : g 10 = z) (kk : V G k1 k2 (MW D A a s im fr bY tr ln bl bo g lg) (pc + 3) lo (vI z :: st)) : V G k1 k2 (MW D A a s im fr bY tr ln bl bo g lg) pc lo (.ref (a 0) :: st) := by
  subst hz; exact v_get hG hd zcl12 21 zfl12_number (by decide) (fun H hM => hM.1 0 _ rfl) rfl kk
theorem mp_number {v : Int} (hG : Ok D A G cc nL RX12 rm) (hd : decode cc pc = .ok (.putfield 277, 3)) (kk : V G k1 k2 (MW D A a s im fr bY tr ln bl bo (sU g 10 v) lg) (pc + 3) lo st) : V G k1 k2 (MW D A a s im fr bY tr ln bl bo g lg) pc lo (vI v :: .ref (a 0) :: st) :=
  v_put hG hd zcl12 21 zfl12_number (by decide) rfl (by rfl) (by rfl) (by show 21 < 23; decide) (fun H hM => ⟨hM.1 0 _ rfl, hM.2.2 0 _ rfl⟩) (fun H H' hM he _ oq => mw_set hM (j := 0) rfl rfl he oq) kk
theorem zfl12_tellsV : zFl RX12 292 RX12 (TX12 22) := ⟨ztb 1081 (by decide +kernel) (by decide +kernel), Or.inl rfl⟩
theorem mg_tellsV {z : Int} (hG : Ok D A G cc nL RX12 rm) (hd : decode cc pc = .ok (.getfield 292, 3)) (hz : g 11 = z) (kk : V G k1 k2 (MW D A a s im fr bY tr ln bl bo g lg) (pc + 3) lo (vI z :: st)) : V G k1 k2 (MW D A a s im fr bY tr ln bl bo g lg) pc lo (.ref (a 0) :: st) := by
  subst hz; exact v_get hG hd zcl12 22 zfl12_tellsV (by decide) (fun H hM => hM.1 0 _ rfl) rfl kk
theorem mp_tellsV {v : Int} (hG : Ok D A G cc nL RX12 rm) (hd : decode cc pc = .ok (.putfield 292, 3)) (kk : V G k1 k2 (MW D A a s im fr bY tr ln bl bo (sU g 11 v) lg) (pc + 3) lo st) : V G k1 k2 (MW D A a s im fr bY tr ln bl bo g lg) pc lo (vI v :: .ref (a 0) :: st) :=
  v_put hG hd zcl12 22 zfl12_tellsV (by decide) rfl (by rfl) (by rfl) (by show 22 < 23; decide) (fun H hM => ⟨hM.1 0 _ rfl, hM.2.2 0 _ rfl⟩) (fun H H' hM he _ oq => mw_set hM (j := 0) rfl rfl he oq) kk
theorem ma_s {x z : Int} (hG : Ok D A G cc nL own rm) (hd : decode cc pc = .ok (.iaload, 1)) (hx : 0 ≤ x ∧ x < 973) (hz : s x = z) (kk : V G k1 k2 (MW D A a s im fr bY tr ln bl bo g lg) (pc + 1) lo (vI z :: st)) : V G k1 k2 (MW D A a s im fr bY tr ln bl bo g lg) pc lo (vI x :: .ref (a 1) :: st) := by
  subst hz
  refine v_iald (n := 973) (f := fun q => s (q : Int)) hG hd (by decide) hx (fun H hM => hM.1 1 _ rfl) ?_
  rw [Int.toNat_of_nonneg hx.1]
  exact kk
theorem ms_s {x v : Int} (hG : Ok D A G cc nL own rm) (hd : decode cc pc = .ok (.iastore, 1)) (hx : 0 ≤ x ∧ x < 973) (kk : V G k1 k2 (MW D A a (sU s x v) im fr bY tr ln bl bo g lg) (pc + 1) lo st) : V G k1 k2 (MW D A a s im fr bY tr ln bl bo g lg) pc lo (vI v :: vI x :: .ref (a 1) :: st) := by
  refine v_iast (n := 973) (f := fun q => s (q : Int)) hG hd (by decide) hx (fun H hM => ⟨hM.1 1 _ rfl, hM.2.2 1 _ rfl⟩) (fun H H' hM he _ oq => ?_) kk
  refine mw_set hM (j := 1) rfl ?_ he oq
  have e : (fun q : Nat => ii (if q = x.toNat then v else s (q : Int))) = ri (sU s x v) := by
    funext q
    show ii _ = ii (if (q : Int) = x then v else s q)
    by_cases h : q = x.toNat
    · rw [if_pos h, if_pos (by omega)]
    · rw [if_neg h, if_neg (by omega)]
  rw [e]
  rfl
theorem ma_image {x z : Int} (hG : Ok D A G cc nL own rm) (hd : decode cc pc = .ok (.iaload, 1)) (hx : 0 ≤ x ∧ x < 973) (hz : im x = z) (kk : V G k1 k2 (MW D A a s im fr bY tr ln bl bo g lg) (pc + 1) lo (vI z :: st)) : V G k1 k2 (MW D A a s im fr bY tr ln bl bo g lg) pc lo (vI x :: .ref (a 2) :: st) := by
  subst hz
  refine v_iald (n := 973) (f := fun q => im (q : Int)) hG hd (by decide) hx (fun H hM => hM.1 2 _ rfl) ?_
  rw [Int.toNat_of_nonneg hx.1]
  exact kk
theorem ms_image {x v : Int} (hG : Ok D A G cc nL own rm) (hd : decode cc pc = .ok (.iastore, 1)) (hx : 0 ≤ x ∧ x < 973) (kk : V G k1 k2 (MW D A a s (sU im x v) fr bY tr ln bl bo g lg) (pc + 1) lo st) : V G k1 k2 (MW D A a s im fr bY tr ln bl bo g lg) pc lo (vI v :: vI x :: .ref (a 2) :: st) := by
  refine v_iast (n := 973) (f := fun q => im (q : Int)) hG hd (by decide) hx (fun H hM => ⟨hM.1 2 _ rfl, hM.2.2 2 _ rfl⟩) (fun H H' hM he _ oq => ?_) kk
  refine mw_set hM (j := 2) rfl ?_ he oq
  have e : (fun q : Nat => ii (if q = x.toNat then v else im (q : Int))) = ri (sU im x v) := by
    funext q
    show ii _ = ii (if (q : Int) = x then v else im q)
    by_cases h : q = x.toNat
    · rw [if_pos h, if_pos (by omega)]
    · rw [if_neg h, if_neg (by omega)]
  rw [e]
  rfl
theorem ma_frame {x z : Int} (hG : Ok D A G cc nL own rm) (hd : decode cc pc = .ok (.iaload, 1)) (hx : 0 ≤ x ∧ x < 43) (hz : fr x = z) (kk : V G k1 k2 (MW D A a s im fr bY tr ln bl bo g lg) (pc + 1) lo (vI z :: st)) : V G k1 k2 (MW D A a s im fr bY tr ln bl bo g lg) pc lo (vI x :: .ref (a 3) :: st) := by
  subst hz
  refine v_iald (n := 43) (f := fun q => fr (q : Int)) hG hd (by decide) hx (fun H hM => hM.1 3 _ rfl) ?_
  rw [Int.toNat_of_nonneg hx.1]
  exact kk
theorem ms_frame {x v : Int} (hG : Ok D A G cc nL own rm) (hd : decode cc pc = .ok (.iastore, 1)) (hx : 0 ≤ x ∧ x < 43) (kk : V G k1 k2 (MW D A a s im (sU fr x v) bY tr ln bl bo g lg) (pc + 1) lo st) : V G k1 k2 (MW D A a s im fr bY tr ln bl bo g lg) pc lo (vI v :: vI x :: .ref (a 3) :: st) := by
  refine v_iast (n := 43) (f := fun q => fr (q : Int)) hG hd (by decide) hx (fun H hM => ⟨hM.1 3 _ rfl, hM.2.2 3 _ rfl⟩) (fun H H' hM he _ oq => ?_) kk
  refine mw_set hM (j := 3) rfl ?_ he oq
  have e : (fun q : Nat => ii (if q = x.toNat then v else fr (q : Int))) = ri (sU fr x v) := by
    funext q
    show ii _ = ii (if (q : Int) = x then v else fr q)
    by_cases h : q = x.toNat
    · rw [if_pos h, if_pos (by omega)]
    · rw [if_neg h, if_neg (by omega)]
  rw [e]
  rfl
theorem ma_by {x z : Int} (hG : Ok D A G cc nL own rm) (hd : decode cc pc = .ok (.iaload, 1)) (hx : 0 ≤ x ∧ x < 6) (hz : bY x = z) (kk : V G k1 k2 (MW D A a s im fr bY tr ln bl bo g lg) (pc + 1) lo (vI z :: st)) : V G k1 k2 (MW D A a s im fr bY tr ln bl bo g lg) pc lo (vI x :: .ref (a 4) :: st) := by
  subst hz
  refine v_iald (n := 6) (f := fun q => bY (q : Int)) hG hd (by decide) hx (fun H hM => hM.1 4 _ rfl) ?_
  rw [Int.toNat_of_nonneg hx.1]
  exact kk
theorem ms_by {x v : Int} (hG : Ok D A G cc nL own rm) (hd : decode cc pc = .ok (.iastore, 1)) (hx : 0 ≤ x ∧ x < 6) (kk : V G k1 k2 (MW D A a s im fr (sU bY x v) tr ln bl bo g lg) (pc + 1) lo st) : V G k1 k2 (MW D A a s im fr bY tr ln bl bo g lg) pc lo (vI v :: vI x :: .ref (a 4) :: st) := by
  refine v_iast (n := 6) (f := fun q => bY (q : Int)) hG hd (by decide) hx (fun H hM => ⟨hM.1 4 _ rfl, hM.2.2 4 _ rfl⟩) (fun H H' hM he _ oq => ?_) kk
  refine mw_set hM (j := 4) rfl ?_ he oq
  have e : (fun q : Nat => ii (if q = x.toNat then v else bY (q : Int))) = ri (sU bY x v) := by
    funext q
    show ii _ = ii (if (q : Int) = x then v else bY q)
    by_cases h : q = x.toNat
    · rw [if_pos h, if_pos (by omega)]
    · rw [if_neg h, if_neg (by omega)]
  rw [e]
  rfl
theorem ma_truths {x z : Int} (hG : Ok D A G cc nL own rm) (hd : decode cc pc = .ok (.baload, 1)) (hx : 0 ≤ x ∧ x < 64) (hz : tr x = z) (kk : V G k1 k2 (MW D A a s im fr bY tr ln bl bo g lg) (pc + 1) lo (vI z :: st)) : V G k1 k2 (MW D A a s im fr bY tr ln bl bo g lg) pc lo (vI x :: .ref (a 5) :: st) := by
  subst hz
  refine v_zald (n := 64) (f := fun q => tr (q : Int)) hG hd (by decide) hx (fun H hM => hM.1 5 _ rfl) ?_
  rw [Int.toNat_of_nonneg hx.1]
  exact kk
theorem ms_truths {x v : Int} (hG : Ok D A G cc nL own rm) (hd : decode cc pc = .ok (.bastore, 1)) (hx : 0 ≤ x ∧ x < 64) (hb : v = 0 ∨ v = 1) (kk : V G k1 k2 (MW D A a s im fr bY (sU tr x v) ln bl bo g lg) (pc + 1) lo st) : V G k1 k2 (MW D A a s im fr bY tr ln bl bo g lg) pc lo (vI v :: vI x :: .ref (a 5) :: st) := by
  refine v_zast (n := 64) (f := fun q => tr (q : Int)) hG hd (by decide) hx hb (fun H hM => ⟨hM.1 5 _ rfl, hM.2.2 5 _ rfl⟩) (fun H H' hM he _ oq => ?_) kk
  refine mw_set hM (j := 5) rfl ?_ he oq
  have e : (fun q : Nat => ii (if q = x.toNat then v else tr (q : Int))) = ri (sU tr x v) := by
    funext q
    show ii _ = ii (if (q : Int) = x then v else tr q)
    by_cases h : q = x.toNat
    · rw [if_pos h, if_pos (by omega)]
    · rw [if_neg h, if_neg (by omega)]
  rw [e]
  rfl
theorem ma_line {x z : Int} (hG : Ok D A G cc nL own rm) (hd : decode cc pc = .ok (.iaload, 1)) (hx : 0 ≤ x ∧ x < 8) (hz : ln x = z) (kk : V G k1 k2 (MW D A a s im fr bY tr ln bl bo g lg) (pc + 1) lo (vI z :: st)) : V G k1 k2 (MW D A a s im fr bY tr ln bl bo g lg) pc lo (vI x :: .ref (a 6) :: st) := by
  subst hz
  refine v_iald (n := 8) (f := fun q => ln (q : Int)) hG hd (by decide) hx (fun H hM => hM.1 6 _ rfl) ?_
  rw [Int.toNat_of_nonneg hx.1]
  exact kk
theorem ms_line {x v : Int} (hG : Ok D A G cc nL own rm) (hd : decode cc pc = .ok (.iastore, 1)) (hx : 0 ≤ x ∧ x < 8) (kk : V G k1 k2 (MW D A a s im fr bY tr (sU ln x v) bl bo g lg) (pc + 1) lo st) : V G k1 k2 (MW D A a s im fr bY tr ln bl bo g lg) pc lo (vI v :: vI x :: .ref (a 6) :: st) := by
  refine v_iast (n := 8) (f := fun q => ln (q : Int)) hG hd (by decide) hx (fun H hM => ⟨hM.1 6 _ rfl, hM.2.2 6 _ rfl⟩) (fun H H' hM he _ oq => ?_) kk
  refine mw_set hM (j := 6) rfl ?_ he oq
  have e : (fun q : Nat => ii (if q = x.toNat then v else ln (q : Int))) = ri (sU ln x v) := by
    funext q
    show ii _ = ii (if (q : Int) = x then v else ln q)
    by_cases h : q = x.toNat
    · rw [if_pos h, if_pos (by omega)]
    · rw [if_neg h, if_neg (by omega)]
  rw [e]
  rfl
theorem ma_bestLine {x z : Int} (hG : Ok D A G cc nL own rm) (hd : decode cc pc = .ok (.iaload, 1)) (hx : 0 ≤ x ∧ x < 8) (hz : bl x = z) (kk : V G k1 k2 (MW D A a s im fr bY tr ln bl bo g lg) (pc + 1) lo (vI z :: st)) : V G k1 k2 (MW D A a s im fr bY tr ln bl bo g lg) pc lo (vI x :: .ref (a 7) :: st) := by
  subst hz
  refine v_iald (n := 8) (f := fun q => bl (q : Int)) hG hd (by decide) hx (fun H hM => hM.1 7 _ rfl) ?_
  rw [Int.toNat_of_nonneg hx.1]
  exact kk
theorem ms_bestLine {x v : Int} (hG : Ok D A G cc nL own rm) (hd : decode cc pc = .ok (.iastore, 1)) (hx : 0 ≤ x ∧ x < 8) (kk : V G k1 k2 (MW D A a s im fr bY tr ln (sU bl x v) bo g lg) (pc + 1) lo st) : V G k1 k2 (MW D A a s im fr bY tr ln bl bo g lg) pc lo (vI v :: vI x :: .ref (a 7) :: st) := by
  refine v_iast (n := 8) (f := fun q => bl (q : Int)) hG hd (by decide) hx (fun H hM => ⟨hM.1 7 _ rfl, hM.2.2 7 _ rfl⟩) (fun H H' hM he _ oq => ?_) kk
  refine mw_set hM (j := 7) rfl ?_ he oq
  have e : (fun q : Nat => ii (if q = x.toNat then v else bl (q : Int))) = ri (sU bl x v) := by
    funext q
    show ii _ = ii (if (q : Int) = x then v else bl q)
    by_cases h : q = x.toNat
    · rw [if_pos h, if_pos (by omega)]
    · rw [if_neg h, if_neg (by omega)]
  rw [e]
  rfl
theorem ma_bodies {x z : Int} (hG : Ok D A G cc nL own rm) (hd : decode cc pc = .ok (.iaload, 1)) (hx : 0 ≤ x ∧ x < 20) (hz : bo x = z) (kk : V G k1 k2 (MW D A a s im fr bY tr ln bl bo g lg) (pc + 1) lo (vI z :: st)) : V G k1 k2 (MW D A a s im fr bY tr ln bl bo g lg) pc lo (vI x :: .ref (a 8) :: st) := by
  subst hz
  refine v_iald (n := 20) (f := fun q => bo (q : Int)) hG hd (by decide) hx (fun H hM => hM.1 8 _ rfl) ?_
  rw [Int.toNat_of_nonneg hx.1]
  exact kk
theorem ms_bodies {x v : Int} (hG : Ok D A G cc nL own rm) (hd : decode cc pc = .ok (.iastore, 1)) (hx : 0 ≤ x ∧ x < 20) (kk : V G k1 k2 (MW D A a s im fr bY tr ln bl (sU bo x v) g lg) (pc + 1) lo st) : V G k1 k2 (MW D A a s im fr bY tr ln bl bo g lg) pc lo (vI v :: vI x :: .ref (a 8) :: st) := by
  refine v_iast (n := 20) (f := fun q => bo (q : Int)) hG hd (by decide) hx (fun H hM => ⟨hM.1 8 _ rfl, hM.2.2 8 _ rfl⟩) (fun H H' hM he _ oq => ?_) kk
  refine mw_set hM (j := 8) rfl ?_ he oq
  have e : (fun q : Nat => ii (if q = x.toNat then v else bo (q : Int))) = ri (sU bo x v) := by
    funext q
    show ii _ = ii (if (q : Int) = x then v else bo q)
    by_cases h : q = x.toNat
    · rw [if_pos h, if_pos (by omega)]
    · rw [if_neg h, if_neg (by omega)]
  rw [e]
  rfl
theorem mw_recv : zRv D (MW D A a s im fr bY tr ln bl bo g lg) (a 0) RX12 := fun H hM => ⟨12, _, (RX12, TX12, 23), hM.1 0 _ rfl, rfl, rfl⟩
theorem v_ifb_eq {P : Heap → Prop} {p : Prop} [Decidable p] {off : Int} {tgt : Nat} (hG : Ok D A G cc nL own rm) (hd : decode cc pc = .ok (.ifCond .eq off, 3)) (ht : (pc : Int) + off = (tgt : Int)) (kt : ¬ p → V G k1 k2 P tgt lo st) (kf : p → V G k1 k2 P (pc + 3) lo st) : V G k1 k2 P pc lo (vI (bi p) :: st) :=
  v_if_eq hG hd ht (by rcases bi_01 p with h | h <;> rw [h] <;> decide) (fun h => kt (bi_0.mp h)) (fun h => kf (Classical.not_not.mp (fun q => h (bi_0.mpr q))))
theorem v_ifb_ne {P : Heap → Prop} {p : Prop} [Decidable p] {off : Int} {tgt : Nat} (hG : Ok D A G cc nL own rm) (hd : decode cc pc = .ok (.ifCond .ne off, 3)) (ht : (pc : Int) + off = (tgt : Int)) (kt : p → V G k1 k2 P tgt lo st) (kf : ¬ p → V G k1 k2 P (pc + 3) lo st) : V G k1 k2 P pc lo (vI (bi p) :: st) :=
  v_if_ne hG hd ht (by rcases bi_01 p with h | h <;> rw [h] <;> decide) (fun h => kt (Classical.not_not.mp (fun q => h (bi_0.mpr q)))) (fun h => kf (bi_0.mp h))
end MWR
