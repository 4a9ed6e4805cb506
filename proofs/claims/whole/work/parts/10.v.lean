/-! THE JUDGEMENT: a method's walk, with heap, written places and locals' array hidden -/
def zTB : List Cond := lw_tbl.filter goodWord
theorem ztb {w : Cond} (i : Nat) (h : tables_1[i]? = some w) (hg : goodWord w = true) : w ∈ zTB := List.mem_filter.mpr ⟨List.mem_append_right _ (List.mem_of_getElem? h), hg⟩
def zisN : Cond → Bool
  | .methodLinkNest .. => true
  | .castable .. => true
  | _ => false
def zNB : List Cond := tables_1.filter zisN
theorem znb {w : Cond} (i : Nat) (h : tables_1[i]? = some w) (hg : zisN w = true) : w ∈ zNB := List.mem_filter.mpr ⟨List.mem_of_getElem? h, hg⟩
theorem zgood {y : MethodName} {cc : ByteArray} {maxL : Nat} {ret : Option FieldType} {u : Cond} (h : Cond.code y cc maxL ret ∈ zTB) : GoodIn (u :: zTB) (.code y cc maxL ret :: zTB) := by
  have key : ∀ w ∈ zTB, w ∈ u :: zTB ∧ ((w.onTables && w.keeps) = true ∨ ∃ ty, w = .arrayClass ty) := fun w hw => ⟨List.mem_cons_of_mem _ hw, good_of_word (List.mem_filter.mp hw).2⟩
  intro w hw
  rcases List.mem_cons.mp hw with rfl | hw
  · exact key _ h
  · exact key _ hw
theorem znest_warm {s U : State} (hW : s.WarmedH U.vm) (h : ∀ w ∈ zNB, va_Nw w s) : ∀ w ∈ zNB, va_Nw w U := by
  intro w hw
  have h1 := h w hw
  have h2 := (List.mem_filter.mp hw).2
  cases w <;> first | exact va_Nw.warmM hW h1 | exact va_Nw.warmC hW h1 | (exact Bool.noConfusion h2)
theorem znest_same {s U : State} (hv : s.vm = U.vm) (h : ∀ w ∈ zNB, va_Nw w s) : ∀ w ∈ zNB, va_Nw w U := by
  intro w hw
  have h1 := h w hw
  have h2 := (List.mem_filter.mp hw).2
  cases w <;> first | exact va_Nw.same rfl hv h1 | (exact Bool.noConfusion h2)

/-- what is known of classes, arrays, texts: (class ids, slots), the array classes of int, boolean, Mark, Plate; where texts and their bytes lie -/
abbrev Dx : Type := va_G × ClassId × ClassId × ClassId × ClassId × (Nat → Nat) × (Nat → Nat)
def zty (D : Dx) : List (ClassId × FieldType) := [(D.2.1, .int), (D.2.2.1, .boolean), (D.2.2.2.1, .object "MirrorPlate$Mark"), (D.2.2.2.2.1, .object "MirrorPlate$Plate")]
def zlen : List Nat := [16, 6, 3, 5, 5, 5, 5]
def zbyt : List (List Int32) := [[119, 101, 97, 114, 109, 101, 110, 100, 114, 105, 115, 107, 115, 117, 114, 101], [109, 107, 100, 120, 116, 118], [60, 61, 62], [119, 101, 97, 114, 32], [109, 101, 110, 100, 32], [114, 105, 115, 107, 32], [115, 117, 114, 101, 32]]
def ztx : List (String × Nat × String × Nat) := [("MirrorPlate$Plate", 74, "wearmendrisksure", 0), ("MirrorPlate$Plate", 95, "mkdxtv", 1), ("MirrorPlate$Plate", 101, "<=>", 2), ("MirrorPlateModel", 87, "mkdxtv", 1), ("MirrorPlateModel", 93, "<=>", 2), ("MirrorPlateModel", 105, "wear ", 3), ("MirrorPlateModel", 111, "mend ", 4), ("MirrorPlateModel", 113, "risk ", 5), ("MirrorPlateModel", 118, "sure ", 6)]
def znc : List (String × String) := [("MirrorPlate$Mark", "MirrorPlate$Line"), ("MirrorPlate$Letter", "MirrorPlate$Line"), ("MirrorPlate$Numeral", "MirrorPlate$Line"), ("MirrorPlate$Turned", "MirrorPlate$Line"), ("MirrorPlate$Told", "MirrorPlate$Line"), ("MirrorPlate$Mark", "MirrorPlate$Letter"), ("MirrorPlate$Line", "MirrorPlate$Letter"), ("MirrorPlate$Numeral", "MirrorPlate$Letter"), ("MirrorPlate$Hatch", "MirrorPlate$Letter"), ("MirrorPlate$Told", "MirrorPlate$Letter"), ("MirrorPlate$Mark", "MirrorPlate$Numeral"), ("MirrorPlate$Line", "MirrorPlate$Numeral"), ("MirrorPlate$Letter", "MirrorPlate$Numeral"), ("MirrorPlate$Hatch", "MirrorPlate$Numeral"), ("MirrorPlate$Turned", "MirrorPlate$Numeral"), ("MirrorPlate$Mark", "MirrorPlate$Hatch"), ("MirrorPlate$Line", "MirrorPlate$Hatch"), ("MirrorPlate$Letter", "MirrorPlate$Hatch"), ("MirrorPlate$Numeral", "MirrorPlate$Hatch"), ("MirrorPlate$Turned", "MirrorPlate$Hatch"), ("MirrorPlate$Told", "MirrorPlate$Hatch"), ("MirrorPlate$Mark", "MirrorPlate$Turned"), ("MirrorPlate$Line", "MirrorPlate$Turned"), ("MirrorPlate$Letter", "MirrorPlate$Turned"), ("MirrorPlate$Numeral", "MirrorPlate$Turned"), ("MirrorPlate$Hatch", "MirrorPlate$Turned"), ("MirrorPlate$Told", "MirrorPlate$Turned"), ("MirrorPlate$Mark", "MirrorPlate$Told"), ("MirrorPlate$Line", "MirrorPlate$Told"), ("MirrorPlate$Letter", "MirrorPlate$Told"), ("MirrorPlate$Numeral", "MirrorPlate$Told"), ("MirrorPlate$Hatch", "MirrorPlate$Told"), ("MirrorPlate$Turned", "MirrorPlate$Told")]
def KB (D : Dx) (A : Nat → Prop) (U : State) : Prop :=
  va_K D.1 vwCl (zty D) U ∧ (∀ w ∈ zNB, va_Nw w U) ∧ (∀ q ∈ znc, va_Nc q.1 q.2 U) ∧ (∀ q ∈ ztx, vk_R q.1 q.2.1 q.2.2.1 (D.2.2.2.2.2.1 q.2.2.2) U) ∧
  vk_S 7 zlen zbyt D.2.2.2.2.2.1 D.2.2.2.2.2.2 A U U.heap ∧ va_Z "java/lang/String" "COMPACT_STRINGS" "Z" (.int 1) A U U.heap ∧ va_Zq "jdk/internal/util/Preconditions" "SIOOBE_FORMATTER" "Ljava/util/function/BiFunction;" A U U.heap
theorem KB.same {D : Dx} {A : Nat → Prop} {s U : State} (hv : s.vm = U.vm) (hh : U.heap = s.heap) (h : KB D A s) : KB D A U := by
  obtain ⟨h1, h2, h3, h4, h5, h6, h7⟩ := h
  have ha : s.vm.Alike U.vm := by rw [hv]; exact Vm.Alike.refl _
  exact ⟨h1.moved ha, znest_same hv h2, fun q hq => (h3 q hq).moved ha, fun q hq => (h4 q hq).same hv.symm, by rw [hh]; exact h5.moved ha, by rw [hh]; exact h6.moved ha, by rw [hh]; exact h7.moved ha⟩
theorem KB.warm {D : Dx} {A : Nat → Prop} {s U : State} (hW : s.WarmedH U.vm) (hk : ∀ a : Nat, a < s.heap.size → ¬ A a → U.heap[a]? = s.heap[a]?) (h : KB D A s) : KB D A U := by
  obtain ⟨h1, h2, h3, h4, h5, h6, h7⟩ := h
  have ha : s.vm.Alike U.vm := hW.alike
  exact ⟨h1.moved ha, znest_warm hW h2, fun q hq => (h3 q hq).moved ha, fun q hq => (h4 q hq).warm hW, (h5.kept hk).moved ha, (h6.kept hk).moved ha, (h7.kept hk).moved ha⟩
/-! numbers: an int of the machine by a whole number -/
def ii (x : Int) : Int32 := Int32.ofInt x
def ll (x : Int) : Int64 := Int64.ofInt x
abbrev vI (x : Int) : Value := .int (ii x)
abbrev vL (x : Int) : Value := .long (ll x)
theorem ii_toInt {x : Int} (h : -2147483648 ≤ x ∧ x < 2147483648) : (ii x).toInt = x := by
  show (Int32.ofInt x).toInt = x
  rw [Int32.toInt_ofInt, show Int32.size = 4294967296 from rfl]
  exact Int.bmod_eq_of_le (by omega) (by omega)
theorem ll_toInt {x : Int} (h : -9223372036854775808 ≤ x ∧ x < 9223372036854775808) : (ll x).toInt = x := by
  show (Int64.ofInt x).toInt = x
  rw [Int64.toInt_ofInt, show Int64.size = 18446744073709551616 from rfl]
  exact Int.bmod_eq_of_le (by omega) (by omega)
theorem ii_rng (x : Int32) : -2147483648 ≤ x.toInt ∧ x.toInt < 2147483648 := by
  have h1 := Int32.le_toInt x
  have h2 := Int32.toInt_lt x
  omega
theorem ii_of (x : Int32) : ii x.toInt = x := Int32.ofInt_toInt x
theorem ii_eqT (x : Int32) : x = ii x.toInt := (ii_of x).symm
theorem ii_add (x y : Int) : ii x + ii y = ii (x + y) := (Int32.ofInt_add x y).symm
theorem ii_sub (x y : Int) : ii x - ii y = ii (x - y) := (Int32.ofInt_sub x y).symm
theorem ii_mul (x y : Int) : ii x * ii y = ii (x * y) := (Int32.ofInt_mul x y).symm
theorem ii_neg (x : Int) : -ii x = ii (-x) := (Int32.ofInt_neg x).symm
theorem ll_add (x y : Int) : ll x + ll y = ll (x + y) := (Int64.ofInt_add x y).symm
theorem ll_sub (x y : Int) : ll x - ll y = ll (x - y) := (Int64.ofInt_sub x y).symm
theorem ll_mul (x y : Int) : ll x * ll y = ll (x * y) := (Int64.ofInt_mul x y).symm
theorem ii_lt {x y : Int} (hx : -2147483648 ≤ x ∧ x < 2147483648) (hy : -2147483648 ≤ y ∧ y < 2147483648) : ii x < ii y ↔ x < y := by
  rw [Int32.lt_iff_toInt_lt, ii_toInt hx, ii_toInt hy]
theorem ii_le {x y : Int} (hx : -2147483648 ≤ x ∧ x < 2147483648) (hy : -2147483648 ≤ y ∧ y < 2147483648) : ii x ≤ ii y ↔ x ≤ y := by
  rw [Int32.le_iff_toInt_le, ii_toInt hx, ii_toInt hy]
theorem ii_eq {x y : Int} (hx : -2147483648 ≤ x ∧ x < 2147483648) (hy : -2147483648 ≤ y ∧ y < 2147483648) : ii x = ii y ↔ x = y := by
  rw [← Int32.toInt_inj, ii_toInt hx, ii_toInt hy]
theorem ii_nat (n : Nat) : ii (n : Int) = Int32.ofNat n := by
  show Int32.ofInt (n : Int) = Int32.ofNat n
  exact Int32.ofInt_eq_ofNat
theorem ii_clamp {x : Int} (h : -2147483648 ≤ x ∧ x < 2147483648) : (ii x).toNatClampNeg = x.toNat := by
  show (ii x).toInt.toNat = x.toNat
  rw [ii_toInt h]
theorem ii_in {x : Int} {n : Nat} (h : 0 ≤ x ∧ x < n) (hn : n ≤ 2147483647) : vp_in (ii x) n := by
  rw [vp_in_iff, ii_toInt (by omega)]
  exact h
theorem ii_div {x y : Int} (hx : 0 ≤ x ∧ x < 2147483648) (hy : 0 < y ∧ y < 2147483648) : ii x / ii y = ii (x / y) := by
  apply Int32.toInt_inj.mp
  have h1 : x / y ≤ x := Int.ediv_le_self _ hx.1
  have h2 : 0 ≤ x / y := Int.ediv_nonneg hx.1 (by omega)
  rw [lg_idiv_nonneg (by rw [ii_toInt (by omega)]; omega) (by rw [ii_toInt (by omega)]; omega), ii_toInt (by omega), ii_toInt (by omega), ii_toInt (by omega)]
theorem ii_rem {x y : Int} (hx : 0 ≤ x ∧ x < 2147483648) (hy : 0 < y ∧ y < 2147483648) : ii x - ii x / ii y * ii y = ii (x % y) := by
  rw [ii_div hx hy, ii_mul, ii_sub, Int.emod_def, Int.mul_comm]
theorem tdiv_rng {x y : Int} (hy : 0 < y) : (0 ≤ x → 0 ≤ x.tdiv y ∧ x.tdiv y ≤ x) ∧ (x ≤ 0 → x ≤ x.tdiv y ∧ x.tdiv y ≤ 0) := by
  refine ⟨fun h => ?_, fun h => ?_⟩
  · rw [Int.tdiv_eq_ediv_of_nonneg h]
    exact ⟨Int.ediv_nonneg h (by omega), Int.ediv_le_self _ h⟩
  · have e : x.tdiv y = -((-x) / y) := by
      rw [← Int.tdiv_eq_ediv_of_nonneg (a := -x) (by omega), Int.neg_tdiv, Int.neg_neg]
    have h1 : (-x) / y ≤ -x := Int.ediv_le_self _ (by omega)
    have h2 : 0 ≤ (-x) / y := Int.ediv_nonneg (by omega) (by omega)
    omega
theorem ii_tdiv {x y : Int} (hx : -2147483647 ≤ x ∧ x < 2147483648) (hy : 0 < y ∧ y < 2147483648) : ii x / ii y = ii (x.tdiv y) := by
  apply Int32.toInt_inj.mp
  have h := tdiv_rng (x := x) hy.1
  have hr : -2147483648 ≤ x.tdiv y ∧ x.tdiv y < 2147483648 := by
    rcases Int.le_total 0 x with q | q
    · have := h.1 q; omega
    · have := h.2 q; omega
  rw [Int32.toInt_div, ii_toInt (by omega), ii_toInt (by omega), ii_toInt hr]
  exact Int.bmod_eq_of_le (by omega) (by omega)
theorem ii_sl {k : Int} (h : 0 ≤ k ∧ k < 32) : ((ii k &&& 31).toBitVec.smod 32).toNat = k.toNat := by
  have e : ∀ n : Nat, n < 32 → ((Int32.ofNat n &&& 31).toBitVec.smod 32).toNat = n := by decide +kernel
  obtain ⟨n, rfl⟩ := Int.eq_ofNat_of_zero_le h.1
  rw [ii_nat]
  exact e n (by omega)
theorem ii_shr {x k : Int} (hx : -2147483648 ≤ x ∧ x < 2147483648) (h : 0 ≤ k ∧ k < 32) : ii x >>> (ii k &&& 31) = ii (x / 2 ^ k.toNat) := by
  apply Int32.toInt_inj.mp
  rw [pk_shr _ _ k.toNat (ii_sl h), ii_toInt hx, Int.shiftRight_eq_div_pow]
  have hp : (0 : Int) < 2 ^ k.toNat := Int.pow_pos (by omega)
  have hr : -2147483648 ≤ x / 2 ^ k.toNat ∧ x / 2 ^ k.toNat < 2147483648 := by
    rcases Int.le_total 0 x with q | q
    · have h1 : x / 2 ^ k.toNat ≤ x := Int.ediv_le_self _ q
      have h2 : 0 ≤ x / 2 ^ k.toNat := Int.ediv_nonneg q (by omega)
      omega
    · have h1 : x / 2 ^ k.toNat ≤ 0 := Int.ediv_nonpos_of_nonpos_of_neg q hp
      have h2 : x ≤ x / 2 ^ k.toNat := by
        rw [Int.le_ediv_iff_mul_le hp]
        have : x * 2 ^ k.toNat ≤ x * 1 := Int.mul_le_mul_of_nonpos_left q (by omega)
        omega
      omega
  rw [ii_toInt hr]
  norm_cast
theorem ii_bn (x : Int) : (ii x).toBitVec = BitVec.ofInt 32 x := rfl
theorem ii_shl {x k : Int} (h : 0 ≤ k ∧ k < 32) : ii x <<< (ii k &&& 31) = ii (x * 2 ^ k.toNat) := by
  apply Int32.toBitVec_inj.mp
  apply BitVec.eq_of_toNat_eq
  rw [pk_shl _ _ k.toNat (ii_sl h), ← ii_mul]
  have e : (ii (2 ^ k.toNat)).toBitVec.toNat = 2 ^ k.toNat := by
    have h1 : ii (2 ^ k.toNat) = Int32.ofNat (2 ^ k.toNat) := by rw [← ii_nat]; norm_cast
    have h2 : 2 ^ k.toNat < 2 ^ 32 := Nat.pow_lt_pow_right (by omega) (by omega)
    rw [h1]
    exact Nat.mod_eq_of_lt h2
  rw [Int32.toBitVec_mul, BitVec.toNat_mul, e]
def iand (x y : Int) : Int := (ii x &&& ii y).toInt
def ior (x y : Int) : Int := (ii x ||| ii y).toInt
def ixor (x y : Int) : Int := (ii x ^^^ ii y).toInt

theorem iand_row (x y : Int) : ii x &&& ii y = ii (iand x y) := (ii_of _).symm
theorem ior_row (x y : Int) : ii x ||| ii y = ii (ior x y) := (ii_of _).symm
theorem ixor_row (x y : Int) : ii x ^^^ ii y = ii (ixor x y) := (ii_of _).symm
theorem ll_lt {x y : Int} (hx : -9223372036854775808 ≤ x ∧ x < 9223372036854775808) (hy : -9223372036854775808 ≤ y ∧ y < 9223372036854775808) : ll x < ll y ↔ x < y := by
  rw [Int64.lt_iff_toInt_lt, ll_toInt hx, ll_toInt hy]
theorem ll_eq {x y : Int} (hx : -9223372036854775808 ≤ x ∧ x < 9223372036854775808) (hy : -9223372036854775808 ≤ y ∧ y < 9223372036854775808) : ll x = ll y ↔ x = y := by
  rw [← Int64.toInt_inj, ll_toInt hx, ll_toInt hy]
def lcmp (x y : Int) : Int := if y < x then 1 else if x = y then 0 else -1
theorem ll_cmp {x y : Int} (hx : -9223372036854775808 ≤ x ∧ x < 9223372036854775808) (hy : -9223372036854775808 ≤ y ∧ y < 9223372036854775808) : lg_cmp (ll x) (ll y) = ii (lcmp x y) := by
  unfold lg_cmp lcmp
  by_cases h1 : y < x
  · rw [if_pos (show ll x > ll y from (ll_lt hy hx).mpr h1), if_pos h1]; rfl
  · rw [if_neg (show ¬ ll x > ll y from fun q => h1 ((ll_lt hy hx).mp q)), if_neg h1]
    by_cases h2 : x = y
    · rw [if_pos ((ll_eq hx hy).mpr h2), if_pos h2]; rfl
    · rw [if_neg (fun q => h2 ((ll_eq hx hy).mp q)), if_neg h2]; rfl
theorem ll_div {x y : Int} (hx : 0 ≤ x ∧ x < 9223372036854775808) (hy : 0 < y ∧ y < 9223372036854775808) : ll x / ll y = ll (x / y) := by
  apply Int64.toInt_inj.mp
  have h1 : x / y ≤ x := Int.ediv_le_self _ hx.1
  have h2 : 0 ≤ x / y := Int.ediv_nonneg hx.1 (by omega)
  rw [lg_ldiv_nonneg (by rw [ll_toInt (by omega)]; omega) (by rw [ll_toInt (by omega)]; omega), ll_toInt (by omega), ll_toInt (by omega), ll_toInt (by omega)]
theorem ll_rem {x y : Int} (hx : 0 ≤ x ∧ x < 9223372036854775808) (hy : 0 < y ∧ y < 9223372036854775808) : ll x - ll x / ll y * ll y = ll (x % y) := by
  rw [ll_div hx hy, ll_mul, ll_sub, Int.emod_def, Int.mul_comm]
theorem ll_i2l {x : Int} (hx : -2147483648 ≤ x ∧ x < 2147483648) : (ii x).toInt64 = ll x := by
  apply Int64.toInt_inj.mp
  rw [Int32.toInt_toInt64, ii_toInt hx, ll_toInt (by omega)]
/-- the walk's fixed things: program, launch, env, room, state at entry, method, args, frames below, method, code, what may be written, the end -/
abbrev Gx : Type := Program × Launch × Env × Room × State × MethodId × Array Value × List Frame × Method × Code × (Nat → Prop) × (State → Prop)
def V : Gx → Nat → Nat → (Heap → Prop) → Nat → List (Nat × Value) → List Value → Prop
  | (p, l, e, R, s, m, args, below, meth, c, A, Q), k, n, P, pc, lo, st => ∀ (H : Heap) (locs : List Loc) (ls : Array Slot), P H → va_S A s.heap H locs → lv_has ls c.maxLocals lo → W p l e R s m args below meth c H locs k n Q (F0 m pc ls st)
def Ok (D : Dx) (A : Nat → Prop) : Gx → ByteArray → Nat → String → Room → Prop
  | (p, _, _, R, s, m, args, _, _, c, A', _), cc, nL, own, rm => R = rm ∧ p.tables.exec = Jvm.exec ∧ c.code = cc ∧ c.maxLocals = nL ∧ s.vm.findClass own = some m.cls ∧ (∀ w ∈ zTB, w.before args s = true) ∧ A' = A ∧ KB D A s
