/-! THE WORLDS THAT THE CONSTRUCTORS LEAVE -/
def cellsC (D : Dx) (a : Nat) : List va_E := [.inr (11, [.ref (a + 7), .ref (a + 25), .ref (a + 43), .ref (a + 61), .ref (a + 92), .ref (a + 94), .ref (a + 95), .ref (a + 96), vI 0]), .inr (6, [.ref (a + 2), .ref (a + 3), .ref (a + 4), .ref (a + 5), vI 0, vI 0, .ref (a + 6), vI 0, vI 0, vI 20, vI 8]), .inl (D.2.1, ra 10 (fun _ => 0)), .inl (D.2.1, ra 10 (fun _ => 0)), .inl (D.2.1, ra 10 (fun _ => 0)), .inl (D.2.1, ra 100 (fun _ => 0)), .inl (D.2.1, ra 0 (fun _ => 0)), .inr (0, [vI 0, vI 0, vI 0, vI 0, vI 0, .ref (a + 1), .ref (a + 8), .ref (a + 17), .ref (a + 19), .ref (a + 21), .ref (a + 23)]), .inl (D.2.2.2.1, 8, .inr (.inr (.inr (.inr (fun q => if q = (7 : Int).toNat then some (a + 16) else (fun q => if q = (6 : Int).toNat then some (a + 15) else (fun q => if q = (5 : Int).toNat then some (a + 14) else (fun q => if q = (4 : Int).toNat then some (a + 13) else (fun q => if q = (3 : Int).toNat then some (a + 12) else (fun q => if q = (2 : Int).toNat then some (a + 11) else (fun q => if q = (1 : Int).toNat then some (a + 10) else (fun q => if q = (0 : Int).toNat then some (a + 9) else (fun _ => none) q) q) q) q) q) q) q) q))))), .inr (4, [vI 0, vI 0, vI 0, vI 0, vI 1, vI 0, vI 0, vI 0, vI 0]), .inr (4, [vI 0, vI 1, vI 0, vI 0, vI 1, vI 0, vI 0, vI 0, vI 0]), .inr (4, [vI 0, vI 2, vI 0, vI 0, vI 1, vI 0, vI 0, vI 0, vI 0]), .inr (4, [vI 0, vI 3, vI 0, vI 0, vI 1, vI 0, vI 0, vI 0, vI 0]), .inr (4, [vI 0, vI 4, vI 0, vI 0, vI 1, vI 0, vI 0, vI 0, vI 0]), .inr (4, [vI 0, vI 5, vI 0, vI 0, vI 1, vI 0, vI 0, vI 0, vI 0]), .inr (4, [vI 0, vI 6, vI 0, vI 0, vI 1, vI 0, vI 0, vI 0, vI 0]), .inr (4, [vI 0, vI 7, vI 0, vI 0, vI 1, vI 0, vI 0, vI 0, vI 0]), .inr (7, [.ref (a + 18), vI 1, vI 0]), .inl (D.2.1, ra 100 (fun _ => 0)), .inr (7, [.ref (a + 20), vI 2, vI 0]), .inl (D.2.1, ra 12 (fun _ => 0)), .inr (7, [.ref (a + 22), vI 2, vI 0]), .inl (D.2.1, ra 16 (fun _ => 0)), .inr (7, [.ref (a + 24), vI 3, vI 0]), .inl (D.2.1, ra 24 (fun _ => 0)), .inr (0, [vI 0, vI 0, vI 0, vI 0, vI 0, .ref (a + 1), .ref (a + 26), .ref (a + 35), .ref (a + 37), .ref (a + 39), .ref (a + 41)]), .inl (D.2.2.2.1, 8, .inr (.inr (.inr (.inr (fun q => if q = (7 : Int).toNat then some (a + 34) else (fun q => if q = (6 : Int).toNat then some (a + 33) else (fun q => if q = (5 : Int).toNat then some (a + 32) else (fun q => if q = (4 : Int).toNat then some (a + 31) else (fun q => if q = (3 : Int).toNat then some (a + 30) else (fun q => if q = (2 : Int).toNat then some (a + 29) else (fun q => if q = (1 : Int).toNat then some (a + 28) else (fun q => if q = (0 : Int).toNat then some (a + 27) else (fun _ => none) q) q) q) q) q) q) q) q))))), .inr (4, [vI 0, vI 0, vI 0, vI 0, vI 1, vI 0, vI 0, vI 0, vI 0]), .inr (4, [vI 0, vI 1, vI 0, vI 0, vI 1, vI 0, vI 0, vI 0, vI 0]), .inr (4, [vI 0, vI 2, vI 0, vI 0, vI 1, vI 0, vI 0, vI 0, vI 0]), .inr (4, [vI 0, vI 3, vI 0, vI 0, vI 1, vI 0, vI 0, vI 0, vI 0]), .inr (4, [vI 0, vI 4, vI 0, vI 0, vI 1, vI 0, vI 0, vI 0, vI 0]), .inr (4, [vI 0, vI 5, vI 0, vI 0, vI 1, vI 0, vI 0, vI 0, vI 0]), .inr (4, [vI 0, vI 6, vI 0, vI 0, vI 1, vI 0, vI 0, vI 0, vI 0]), .inr (4, [vI 0, vI 7, vI 0, vI 0, vI 1, vI 0, vI 0, vI 0, vI 0]), .inr (7, [.ref (a + 36), vI 1, vI 0]), .inl (D.2.1, ra 100 (fun _ => 0)), .inr (7, [.ref (a + 38), vI 2, vI 0]), .inl (D.2.1, ra 12 (fun _ => 0)), .inr (7, [.ref (a + 40), vI 2, vI 0]), .inl (D.2.1, ra 16 (fun _ => 0)), .inr (7, [.ref (a + 42), vI 3, vI 0]), .inl (D.2.1, ra 24 (fun _ => 0)), .inr (0, [vI 0, vI 0, vI 0, vI 0, vI 0, .ref (a + 1), .ref (a + 44), .ref (a + 53), .ref (a + 55), .ref (a + 57), .ref (a + 59)]), .inl (D.2.2.2.1, 8, .inr (.inr (.inr (.inr (fun q => if q = (7 : Int).toNat then some (a + 52) else (fun q => if q = (6 : Int).toNat then some (a + 51) else (fun q => if q = (5 : Int).toNat then some (a + 50) else (fun q => if q = (4 : Int).toNat then some (a + 49) else (fun q => if q = (3 : Int).toNat then some (a + 48) else (fun q => if q = (2 : Int).toNat then some (a + 47) else (fun q => if q = (1 : Int).toNat then some (a + 46) else (fun q => if q = (0 : Int).toNat then some (a + 45) else (fun _ => none) q) q) q) q) q) q) q) q))))), .inr (4, [vI 0, vI 0, vI 0, vI 0, vI 1, vI 0, vI 0, vI 0, vI 0]), .inr (4, [vI 0, vI 1, vI 0, vI 0, vI 1, vI 0, vI 0, vI 0, vI 0]), .inr (4, [vI 0, vI 2, vI 0, vI 0, vI 1, vI 0, vI 0, vI 0, vI 0]), .inr (4, [vI 0, vI 3, vI 0, vI 0, vI 1, vI 0, vI 0, vI 0, vI 0]), .inr (4, [vI 0, vI 4, vI 0, vI 0, vI 1, vI 0, vI 0, vI 0, vI 0]), .inr (4, [vI 0, vI 5, vI 0, vI 0, vI 1, vI 0, vI 0, vI 0, vI 0]), .inr (4, [vI 0, vI 6, vI 0, vI 0, vI 1, vI 0, vI 0, vI 0, vI 0]), .inr (4, [vI 0, vI 7, vI 0, vI 0, vI 1, vI 0, vI 0, vI 0, vI 0]), .inr (7, [.ref (a + 54), vI 1, vI 0]), .inl (D.2.1, ra 100 (fun _ => 0)), .inr (7, [.ref (a + 56), vI 2, vI 0]), .inl (D.2.1, ra 12 (fun _ => 0)), .inr (7, [.ref (a + 58), vI 2, vI 0]), .inl (D.2.1, ra 16 (fun _ => 0)), .inr (7, [.ref (a + 60), vI 3, vI 0]), .inl (D.2.1, ra 24 (fun _ => 0)), .inl (D.2.2.2.2.1, 5, .inr (.inr (.inr (.inr (fun q => if q = (4 : Int).toNat then some (a + 86) else (fun q => if q = (3 : Int).toNat then some (a + 80) else (fun q => if q = (2 : Int).toNat then some (a + 74) else (fun q => if q = (1 : Int).toNat then some (a + 68) else (fun q => if q = (0 : Int).toNat then some (a + 62) else (fun _ => none) q) q) q) q) q))))), .inr (6, [.ref (a + 63), .ref (a + 64), .ref (a + 65), .ref (a + 66), vI 0, vI 0, .ref (a + 67), vI 0, vI 0, vI 20, vI 8]), .inl (D.2.1, ra 10 (fun _ => 0)), .inl (D.2.1, ra 10 (fun _ => 0)), .inl (D.2.1, ra 10 (fun _ => 0)), .inl (D.2.1, ra 100 (fun _ => 0)), .inl (D.2.1, ra 0 (fun _ => 0)), .inr (6, [.ref (a + 69), .ref (a + 70), .ref (a + 71), .ref (a + 72), vI 0, vI 0, .ref (a + 73), vI 0, vI 0, vI 20, vI 8]), .inl (D.2.1, ra 10 (fun _ => 0)), .inl (D.2.1, ra 10 (fun _ => 0)), .inl (D.2.1, ra 10 (fun _ => 0)), .inl (D.2.1, ra 100 (fun _ => 0)), .inl (D.2.1, ra 0 (fun _ => 0)), .inr (6, [.ref (a + 75), .ref (a + 76), .ref (a + 77), .ref (a + 78), vI 0, vI 0, .ref (a + 79), vI 0, vI 0, vI 20, vI 8]), .inl (D.2.1, ra 10 (fun _ => 0)), .inl (D.2.1, ra 10 (fun _ => 0)), .inl (D.2.1, ra 10 (fun _ => 0)), .inl (D.2.1, ra 100 (fun _ => 0)), .inl (D.2.1, ra 0 (fun _ => 0)), .inr (6, [.ref (a + 81), .ref (a + 82), .ref (a + 83), .ref (a + 84), vI 0, vI 0, .ref (a + 85), vI 0, vI 0, vI 20, vI 8]), .inl (D.2.1, ra 10 (fun _ => 0)), .inl (D.2.1, ra 10 (fun _ => 0)), .inl (D.2.1, ra 10 (fun _ => 0)), .inl (D.2.1, ra 100 (fun _ => 0)), .inl (D.2.1, ra 0 (fun _ => 0)), .inr (6, [.ref (a + 87), .ref (a + 88), .ref (a + 89), .ref (a + 90), vI 0, vI 0, .ref (a + 91), vI 0, vI 0, vI 20, vI 8]), .inl (D.2.1, ra 10 (fun _ => 0)), .inl (D.2.1, ra 10 (fun _ => 0)), .inl (D.2.1, ra 10 (fun _ => 0)), .inl (D.2.1, ra 100 (fun _ => 0)), .inl (D.2.1, ra 0 (fun _ => 0)), .inr (9, [.ref (a + 93), vI 0]), .inl (D.2.1, ra 20 (fun _ => 0)), .inl (D.2.1, ra 8 (fun _ => 0)), .inl (D.2.1, ra 64 (fun _ => 0)), .inl (D.2.1, ra 64 (fun _ => 0))]
def cellsM (D : Dx) (a : Nat) : List va_E := [.inr (12, [vI 0, .ref (a + 98), .ref (a + 99), .ref (a + 100), vI 0, vI 0, vI 0, vI 0, vI 0, vI 0, .ref (a + 101), .ref (a + 102), .ref (a + 103), .ref (a + 104), vI 0, vL 0, vL 0, vL 0, .ref (a + 105), vI 0, vI 0, vI 0, vI 0]), .inl (D.2.1, ra 973 (sU (fun _ => 0) 49 (-1))), .inl (D.2.1, ra 973 (fun _ => 0)), .inl (D.2.1, ra 43 (fun _ => 0)), .inl (D.2.1, ra 6 (fun _ => 0)), .inl (D.2.2.1, ra 64 (fun _ => 0)), .inl (D.2.1, ra 8 (fun _ => 0)), .inl (D.2.1, ra 8 (fun _ => 0)), .inl (D.2.1, ra 20 (fun _ => 0))]
def z0 : Int → Int := fun _ => 0
def s00 : Int → Int := sU (fun _ => 0) 49 (-1)
def offA (k : Nat) : Nat := if k < 7 then (if k = 0 then 0 else if k = 1 then 61 else 90 + k) else if k < 20 then 7 + 18 * (k - 10) else if k < 30 then 8 + 18 * (k - 20) else if k < 50 then 17 + 18 * ((k - 30) / 4) + 2 * ((k - 30) % 4) else if k < 100 then 18 + 18 * ((k - 50) / 4) + 2 * ((k - 50) % 4) else if k < 300 then 9 + 18 * ((k - 100) / 8) + (k - 100) % 8 else if k < 310 then (if k = 305 then 1 else 62 + 6 * (k - 300)) else (if (k - 310) % 6 = 5 then 2 + (k - 310) / 6 else 63 + 6 * ((k - 310) % 6) + (k - 310) / 6)
def ad0 (a : Nat) : Nat → Nat := fun k => a + offA k
def domB (k : Nat) : Bool := decide (k ≤ 6 ∨ (10 ≤ k ∧ k < 13) ∨ (20 ≤ k ∧ k < 23) ∨ (30 ≤ k ∧ k < 42) ∨ (50 ≤ k ∧ k < 62) ∨ (100 ≤ k ∧ k < 124) ∨ (300 ≤ k ∧ k < 306) ∨ (310 ≤ k ∧ k < 334))
def invA (y : Nat) : Nat := ((List.range 334).find? (fun k => domB k && offA k == y)).getD 0
theorem invA_off : ∀ k, k < 334 → domB k = true → invA (offA k) = k := by decide +kernel
theorem offA_lt : ∀ k, k < 334 → domB k = true → offA k < 97 := by decide +kernel
theorem dom_0 {k : Nat} (h : dom z0 k) : k < 334 ∧ domB k = true := by
  rcases h with h | ⟨_, _, h3⟩
  · exact ⟨by omega, decide_eq_true h⟩
  · have h3 : (0 : Int) = 6 := h3
    omega
theorem XI_0 (a : Nat) : XI (AC a) (ad0 a) z0 := by
  refine ⟨fun j k hj hk he => ?_, fun k hk => ?_, fun x h0 h8 => by show (0 : Int) ≤ 0 ∧ (0 : Int) ≤ 6; omega⟩
  · obtain ⟨j1, j2⟩ := dom_0 hj
    obtain ⟨k1, k2⟩ := dom_0 hk
    have he : a + offA j = a + offA k := he
    have e : offA j = offA k := by omega
    rw [← invA_off j j1 j2, e, invA_off k k1 k2]
  · obtain ⟨k1, k2⟩ := dom_0 hk
    have := offA_lt k k1 k2
    show a ≤ a + offA k ∧ ¬ (a + 97 ≤ a + offA k ∧ a + offA k < a + 106)
    omega
def mB0 : Nat → Int → Int := fun _ q => if 3 ≤ q ∧ q < 11 then 1 else 0
def Q00 : Nat → Int → Int := fun _ q => if q = 4 then 20 else if q = 5 then 8 else 0
def tp0 (a : Nat) : Nat → Nat := fun p => if p = 5 then a + 6 else a + (67 + 6 * p)
def y0 : Nat → Int → Int := fun _ _ => 0
theorem XW_0 {D : Dx} {a : Nat} {H : Heap} (h : ∀ k x, (cellsC D a)[k]? = some x → va_at D.1 vwCl (a + k, x) H) : XW D (AC a) (ad0 a) z0 (fun _ => s00) mB0 y0 y0 y0 Q00 y0 (tp0 a) z0 z0 z0 z0 z0 H := by
  refine ⟨XI_0 a, h 0 _ rfl, ?_, h 92 _ rfl, h 93 _ rfl, h 94 _ rfl, h 95 _ rfl, h 96 _ rfl, fun b hb => ?_, fun b hb => ?_, fun b t hb ht => ?_, fun b t hb ht => ?_, fun b x hb h0 h8 => ?_, fun b x hb h0 h8 h6 => ?_, fun p hp => ?_, fun j p hj hp => ?_⟩
  · refine rq_ext (fun q hq => ?_) (h 61 _ rfl)
    rcases (show q = 0 ∨ q = 1 ∨ q = 2 ∨ q = 3 ∨ q = 4 by omega) with rfl | rfl | rfl | rfl | rfl <;> rfl
  · rcases (show b = 0 ∨ b = 1 ∨ b = 2 by omega) with rfl | rfl | rfl
    · exact h 7 _ rfl
    · exact h 25 _ rfl
    · exact h 43 _ rfl
  · rcases (show b = 0 ∨ b = 1 ∨ b = 2 by omega) with rfl | rfl | rfl
    · refine rq_ext (fun q hq => ?_) (h 8 _ rfl)
      rcases (show q = 0 ∨ q = 1 ∨ q = 2 ∨ q = 3 ∨ q = 4 ∨ q = 5 ∨ q = 6 ∨ q = 7 by omega) with rfl | rfl | rfl | rfl | rfl | rfl | rfl | rfl <;> rfl
    · refine rq_ext (fun q hq => ?_) (h 26 _ rfl)
      rcases (show q = 0 ∨ q = 1 ∨ q = 2 ∨ q = 3 ∨ q = 4 ∨ q = 5 ∨ q = 6 ∨ q = 7 by omega) with rfl | rfl | rfl | rfl | rfl | rfl | rfl | rfl <;> rfl
    · refine rq_ext (fun q hq => ?_) (h 44 _ rfl)
      rcases (show q = 0 ∨ q = 1 ∨ q = 2 ∨ q = 3 ∨ q = 4 ∨ q = 5 ∨ q = 6 ∨ q = 7 by omega) with rfl | rfl | rfl | rfl | rfl | rfl | rfl | rfl <;> rfl
  · rcases (show b = 0 ∨ b = 1 ∨ b = 2 by omega) with rfl | rfl | rfl <;> rcases (show t = 0 ∨ t = 1 ∨ t = 2 ∨ t = 3 by omega) with rfl | rfl | rfl | rfl
    · exact h 17 _ rfl
    · exact h 19 _ rfl
    · exact h 21 _ rfl
    · exact h 23 _ rfl
    · exact h 35 _ rfl
    · exact h 37 _ rfl
    · exact h 39 _ rfl
    · exact h 41 _ rfl
    · exact h 53 _ rfl
    · exact h 55 _ rfl
    · exact h 57 _ rfl
    · exact h 59 _ rfl
  · rcases (show b = 0 ∨ b = 1 ∨ b = 2 by omega) with rfl | rfl | rfl <;> rcases (show t = 0 ∨ t = 1 ∨ t = 2 ∨ t = 3 by omega) with rfl | rfl | rfl | rfl
    · exact h 18 _ rfl
    · exact h 20 _ rfl
    · exact h 22 _ rfl
    · exact h 24 _ rfl
    · exact h 36 _ rfl
    · exact h 38 _ rfl
    · exact h 40 _ rfl
    · exact h 42 _ rfl
    · exact h 54 _ rfl
    · exact h 56 _ rfl
    · exact h 58 _ rfl
    · exact h 60 _ rfl
  · obtain ⟨n, rfl⟩ := Int.eq_ofNat_of_zero_le h0
    rcases (show b = 0 ∨ b = 1 ∨ b = 2 by omega) with rfl | rfl | rfl <;> rcases (show n = 0 ∨ n = 1 ∨ n = 2 ∨ n = 3 ∨ n = 4 ∨ n = 5 ∨ n = 6 ∨ n = 7 by omega) with rfl | rfl | rfl | rfl | rfl | rfl | rfl | rfl
    · exact h 9 _ rfl
    · exact h 10 _ rfl
    · exact h 11 _ rfl
    · exact h 12 _ rfl
    · exact h 13 _ rfl
    · exact h 14 _ rfl
    · exact h 15 _ rfl
    · exact h 16 _ rfl
    · exact h 27 _ rfl
    · exact h 28 _ rfl
    · exact h 29 _ rfl
    · exact h 30 _ rfl
    · exact h 31 _ rfl
    · exact h 32 _ rfl
    · exact h 33 _ rfl
    · exact h 34 _ rfl
    · exact h 45 _ rfl
    · exact h 46 _ rfl
    · exact h 47 _ rfl
    · exact h 48 _ rfl
    · exact h 49 _ rfl
    · exact h 50 _ rfl
    · exact h 51 _ rfl
    · exact h 52 _ rfl
  · have h6 : (0 : Int) = 6 := h6
    omega
  · rcases (show p = 0 ∨ p = 1 ∨ p = 2 ∨ p = 3 ∨ p = 4 ∨ p = 5 by omega) with rfl | rfl | rfl | rfl | rfl | rfl
    · exact h 62 _ rfl
    · exact h 68 _ rfl
    · exact h 74 _ rfl
    · exact h 80 _ rfl
    · exact h 86 _ rfl
    · exact h 1 _ rfl
  · rcases (show j = 0 ∨ j = 1 ∨ j = 2 ∨ j = 3 by omega) with rfl | rfl | rfl | rfl <;> rcases (show p = 0 ∨ p = 1 ∨ p = 2 ∨ p = 3 ∨ p = 4 ∨ p = 5 by omega) with rfl | rfl | rfl | rfl | rfl | rfl
    · exact h 63 _ rfl
    · exact h 69 _ rfl
    · exact h 75 _ rfl
    · exact h 81 _ rfl
    · exact h 87 _ rfl
    · exact h 2 _ rfl
    · exact h 64 _ rfl
    · exact h 70 _ rfl
    · exact h 76 _ rfl
    · exact h 82 _ rfl
    · exact h 88 _ rfl
    · exact h 3 _ rfl
    · exact h 65 _ rfl
    · exact h 71 _ rfl
    · exact h 77 _ rfl
    · exact h 83 _ rfl
    · exact h 89 _ rfl
    · exact h 4 _ rfl
    · exact h 66 _ rfl
    · exact h 72 _ rfl
    · exact h 78 _ rfl
    · exact h 84 _ rfl
    · exact h 90 _ rfl
    · exact h 5 _ rfl
theorem CW_00 {D : Dx} {a : Nat} {H : Heap} (h : ∀ k x, (cellsC D a)[k]? = some x → va_at D.1 vwCl (a + k, x) H) : CW D (AC a) (ad0 a) z0 (S3 s00 s00 s00) Q00 y0 (tp0 a) z0 z0 z0 z0 z0 H := by
  refine CW_3 (S := fun _ => s00) rfl rfl rfl ⟨_, _, _, _, _, fun b hb => ?_, XW_0 h⟩
  refine ⟨⟨rfl, rfl, rfl, rfl, rfl, rfl⟩, ⟨rfl, rfl, rfl, rfl⟩, fun x g1 g2 g3 => ?_, fun i h1 h2 => ?_, fun i h1 h2 => ?_, fun i h1 h2 => ?_, fun i h1 h2 => ?_⟩
  · have g2 : x < 0 := g2
    omega
  · have h2 : i < 0 := h2
    omega
  · have h2 : i < 0 := h2
    omega
  · have h2 : i < 0 := h2
    omega
  · have h2 : i < 0 := h2
    omega
theorem mc_at {D : Dx} {a k : Nat} {q : Nat × va_E} {s im fr bY tr ln bl bo g lg : Int → Int} (h : (mcells D (amL a) s im fr bY tr ln bl bo g lg)[k]? = some q) : k < 9 ∧ q.1 = a + 97 + k := by
  have hk : k < 9 := (List.getElem?_eq_some_iff.mp h).1
  refine ⟨hk, ?_⟩
  rcases (show k = 0 ∨ k = 1 ∨ k = 2 ∨ k = 3 ∨ k = 4 ∨ k = 5 ∨ k = 6 ∨ k = 7 ∨ k = 8 by omega) with rfl | rfl | rfl | rfl | rfl | rfl | rfl | rfl | rfl <;> cases h <;> rfl
theorem MW_00 {D : Dx} {a : Nat} {H : Heap} (h : ∀ k x, (cellsM D a)[k]? = some x → va_at D.1 vwCl (a + 97 + k, x) H) : MW D (AM a) (amL a) s00 z0 z0 z0 z0 z0 z0 z0 z0 z0 H := by
  refine ⟨fun k q hq => ?_, fun i j p q hp hq he => ?_, fun k q hq => ?_⟩
  · have hk := (mc_at hq).1
    rcases (show k = 0 ∨ k = 1 ∨ k = 2 ∨ k = 3 ∨ k = 4 ∨ k = 5 ∨ k = 6 ∨ k = 7 ∨ k = 8 by omega) with rfl | rfl | rfl | rfl | rfl | rfl | rfl | rfl | rfl
    · cases hq; exact h 0 _ rfl
    · cases hq; exact h 1 _ rfl
    · cases hq; exact h 2 _ rfl
    · cases hq; exact h 3 _ rfl
    · cases hq; exact h 4 _ rfl
    · cases hq; exact h 5 _ rfl
    · cases hq; exact h 6 _ rfl
    · cases hq; exact h 7 _ rfl
    · cases hq; exact h 8 _ rfl
  · have h1 := mc_at hp
    have h2 := mc_at hq
    omega
  · have h1 := mc_at hq
    show a + 97 ≤ q.1 ∧ q.1 < a + 106
    omega
theorem FZ_LWP {D : Dx} {a : Nat} {H : Heap} (h : FZ D a (cellsC D a ++ cellsM D a) H) : LWP D a (ad0 a) z0 Q00 y0 (tp0 a) s00 z0 s00 s00 z0 z0 z0 z0 z0 z0 z0 z0 z0 z0 z0 z0 H := by
  obtain ⟨h1, h2⟩ := (FZ_split (n := 97) rfl).mp h
  exact ⟨CW_00 h2, MW_00 h1.2, by rw [h1.1]; show a + 106 ≤ a + 97 + 9; omega⟩
theorem s00_at {j : Int} (h : j ≠ 49) : s00 j = 0 := sU_ne h
theorem s00_49 : s00 49 = -1 := sU_eq
theorem SI_00 : SI s00 [] := by
  have e : ∀ j : Int, j ≠ 49 → s00 j = 0 := fun j h => s00_at h
  refine ⟨?_, fun m h1 h2 => ?_, ⟨?_, fun p h1 h2 => ?_⟩, ⟨trivial, Nat.zero_le _, Or.inl ⟨s00_49, rfl⟩⟩, ?_, fun m h1 h2 => ?_, ⟨?_, fun k h1 h2 => ?_⟩, ⟨?_, fun k h1 h2 => ?_⟩, ⟨?_, fun k h1 h2 => ?_⟩, ⟨?_, fun k h1 h2 => ?_⟩, ?_, ?_, ?_, ?_, fun q hq => e q (by omega)⟩
  · unfold NM; rw [e 43 (by decide)]; omega
  · rw [e 43 (by decide)] at h2; omega
  · rw [s00_49]; omega
  · rw [e _ (by omega), e _ (by omega)]; omega
  · unfold TI; rw [e 2 (by decide)]; omega
  · rw [e 43 (by decide)] at h2; omega
  · rw [e 45 (by decide)]; omega
  · rw [e 45 (by decide)] at h2; omega
  · rw [e 46 (by decide)]; omega
  · rw [e 46 (by decide)] at h2; omega
  · rw [e 47 (by decide)]; omega
  · rw [e 47 (by decide)] at h2; omega
  · rw [e 48 (by decide)]; omega
  · rw [e 48 (by decide)] at h2; omega
  · rw [e 44 (by decide)]; omega
  · rw [e 0 (by decide)]; omega
  · rw [e 1 (by decide)]; omega
  · rw [s00_49, e 44 (by decide)]; omega
theorem PLA_00 : PLA Q00 y0 s00 := by
  refine ⟨⟨⟨[], rfl, ⟨rfl, Nat.zero_le _, trivial⟩, trivial⟩, rfl, rfl⟩, fun p hp => ?_⟩
  rw [s00_at (by decide)] at hp
  omega
theorem LI_00 : LI s00 z0 s00 s00 z0 z0 Q00 y0 [] [] := by
  have hz : ZU s00 := fun m h1 h2 => by
    rw [s00_at (by decide)] at h2
    omega
  exact ⟨⟨SI_00, hz⟩, ⟨SI_00, hz⟩, ⟨Int.le_refl _, Int.le_refl _⟩, ⟨PLA_00, PLA_00⟩, SI_TB SI_00, fun _ _ => rfl, Or.inl rfl, fun h => by have h : (0 : Int) = 1 := h; omega, rfl, rfl, by show (0 : Int) ≤ 0; omega, by show (0 : Int) ≤ 1000; omega⟩
