/-! THE CLASS'S WORLD: cells at ad k -/
def kB (ad : Nat → Nat) (b : Nat) : Nat := ad (10 + b)
def kA (ad : Nat → Nat) (b : Nat) : Nat := ad (20 + b)
def kT (ad : Nat → Nat) (b t : Nat) : Nat := ad (30 + 4 * b + t)
def kC (ad : Nat → Nat) (b t : Nat) : Nat := ad (50 + 4 * b + t)
def kM (ad : Nat → Nat) (b : Nat) (x : Int) : Nat := ad (100 + 8 * b + x.toNat)
def kR (ad : Nat → Nat) (b : Nat) (x : Int) : Nat := ad (200 + 8 * b + x.toNat)
def kP (ad : Nat → Nat) (p : Nat) : Nat := ad (300 + p)
def kQ (ad : Nat → Nat) (j p : Nat) : Nat := ad (310 + 6 * j + p)
def hc (s : Int → Int) : Nat := if s 49 = -1 then 5 else (s 49).toNat
def kcl (k : Int) : Nat := if k = 1 then 3 else if k = 2 then 2 else if k = 3 then 5 else if k = 4 then 1 else if k = 5 then 10 else if k = 6 then 8 else 4
def tcol (t : Nat) : Int := if t = 0 then 1 else if t = 3 then 3 else 2
def tlen (t : Nat) : Nat := if t = 0 then 100 else if t = 1 then 12 else if t = 2 then 16 else 24
def tix (t : Nat) : Int := if t = 0 then 48 else if t = 1 then 45 else if t = 2 then 46 else 47
def qlen (j : Nat) : Nat := if j = 3 then 100 else 10
def uS (S : Nat → Int → Int) (b : Nat) (f : Int → Int) : Nat → Int → Int := fun q => if q = b then f else S q
def uN (f : Nat → Nat) (p t : Nat) : Nat → Nat := fun q => if q = p then t else f q
theorem uN_eq {f : Nat → Nat} {p t : Nat} : uN f p t p = t := if_pos rfl
theorem uN_ne {f : Nat → Nat} {p t q : Nat} (h : q ≠ p) : uN f p t q = f q := if_neg h
theorem uS_eq {S : Nat → Int → Int} {b : Nat} {f : Int → Int} : uS S b f b = f := if_pos rfl
theorem uS_ne {S : Nat → Int → Int} {b q : Nat} {f : Int → Int} (h : q ≠ b) : uS S b f q = S q := if_neg h
theorem uS_uS {S : Nat → Int → Int} {b : Nat} {f g : Int → Int} : uS (uS S b f) b g = uS S b g := by
  funext q
  unfold uS
  by_cases h : q = b
  · rw [if_pos h, if_pos h]
  · rw [if_neg h, if_neg h, if_neg h]
theorem uS_sw {S : Nat → Int → Int} {b c : Nat} {f g : Int → Int} (h : b ≠ c) : uS (uS S b f) c g = uS (uS S c g) b f := by
  funext q
  unfold uS
  by_cases h1 : q = b
  · subst h1; rw [if_pos rfl, if_neg h, if_pos rfl]
  · rw [if_neg h1, if_neg h1]
theorem uS_self {S : Nat → Int → Int} {b : Nat} : uS S b (S b) = S := by
  funext q
  unfold uS
  by_cases h : q = b
  · subst h; rw [if_pos rfl]
  · rw [if_neg h]
def dom (K : Int → Int) (k : Nat) : Prop := (k ≤ 6 ∨ (10 ≤ k ∧ k < 13) ∨ (20 ≤ k ∧ k < 23) ∨ (30 ≤ k ∧ k < 42) ∨ (50 ≤ k ∧ k < 62) ∨ (100 ≤ k ∧ k < 124) ∨ (300 ≤ k ∧ k < 306) ∨ (310 ≤ k ∧ k < 334)) ∨ (200 ≤ k ∧ k < 224 ∧ K (50 + (((k - 200) % 8 : Nat) : Int)) = 6)
theorem dom_row {K : Int → Int} {b : Nat} {x : Int} (hb : b < 3) (h0 : 0 ≤ x) (h8 : x < 8) (h : K (50 + x) = 6) : dom K (200 + 8 * b + x.toNat) := by
  refine Or.inr ⟨by omega, by omega, ?_⟩
  rw [show (200 + 8 * b + x.toNat - 200) % 8 = x.toNat by omega, Int.toNat_of_nonneg h0]
  exact h
def XI (A : Nat → Prop) (ad : Nat → Nat) (K : Int → Int) : Prop := (∀ j k, dom K j → dom K k → ad j = ad k → j = k) ∧ (∀ k, dom K k → A (ad k)) ∧ ∀ x : Int, 0 ≤ x → x < 8 → 0 ≤ K (50 + x) ∧ K (50 + x) ≤ 6
def bfs (ad : Nat → Nat) (f : Int → Int) (b : Nat) : List Value := [vI (f 0), vI (f 1), vI (f 2), vI (f 43), vI (f 44), .ref (kP ad (hc f)), .ref (kA ad b), .ref (kT ad b 0), .ref (kT ad b 1), .ref (kT ad b 2), .ref (kT ad b 3)]
def tfs (ad : Nat → Nat) (b t : Nat) (z : Int) : List Value := [.ref (kC ad b t), vI (tcol t), vI z]
def mkf (ad : Nat → Nat) (K f : Int → Int) (b : Nat) (x : Int) : List Value := [vI (K (50 + x)), vI x, vI (K (58 + x)), vI (K (66 + x)), vI (f (3 + x)), vI (f (11 + x)), vI (f (19 + x)), vI (f (27 + x)), vI (f (35 + x))] ++ (if K (50 + x) = 6 then [.ref (kR ad b x)] else [])
def pfs (ad : Nat → Nat) (f : Int → Int) (t : Nat) (p : Nat) : List Value := [.ref (kQ ad 0 p), .ref (kQ ad 1 p), .ref (kQ ad 2 p), .ref (kQ ad 3 p), vI (f 0), vI (f 1), .ref t, vI (f 2), vI (f 3), vI (f 4), vI (f 5)]
def xfs (ad : Nat → Nat) (e : Int → Int) : List Value := [.ref (kB ad 0), .ref (kB ad 1), .ref (kB ad 2), .ref (ad 1), .ref (ad 2), .ref (ad 4), .ref (ad 5), .ref (ad 6), vI (e 1)]
abbrev ra (n : Nat) (f : Int → Int) : vp_A := (n, .inl (ri f))
abbrev rq (n : Nat) (f : Nat → Nat) : vp_A := (n, .inr (.inr (.inr (.inr (fun q => some (f q))))))
def XW (D : Dx) (A : Nat → Prop) (ad : Nat → Nat) (K : Int → Int) (hB mB rB tz : Nat → Int → Int) (tc : Nat → Int → Int) (Q qa : Nat → Int → Int) (tp : Nat → Nat) (bo e uc lr nx : Int → Int) (H : Heap) : Prop := XI A ad K ∧ (va_at D.1 vwCl (ad (0), .inr (11, xfs ad e)) H) ∧ (va_at D.1 vwCl (ad (1), .inl (D.2.2.2.2.1, rq 5 (fun q => kP ad q))) H) ∧ (va_at D.1 vwCl (ad (2), .inr (9, [.ref (ad 3), vI (e 0)])) H) ∧ (va_at D.1 vwCl (ad (3), .inl (D.2.1, ra 20 bo)) H) ∧ (va_at D.1 vwCl (ad (4), .inl (D.2.1, ra 8 uc)) H) ∧ (va_at D.1 vwCl (ad (5), .inl (D.2.1, ra 64 lr)) H) ∧ (va_at D.1 vwCl (ad (6), .inl (D.2.1, ra 64 nx)) H) ∧ (∀ b : Nat, b < 3 → va_at D.1 vwCl (ad (10 + b), .inr (0, bfs ad (hB b) b)) H) ∧ (∀ b : Nat, b < 3 → va_at D.1 vwCl (ad (20 + b), .inl (D.2.2.2.1, rq 8 (fun q => kM ad b (q : Int)))) H) ∧ (∀ b t : Nat, b < 3 → t < 4 → va_at D.1 vwCl (ad (30 + 4 * b + t), .inr (7, tfs ad b t (tz b t))) H) ∧ (∀ b t : Nat, b < 3 → t < 4 → va_at D.1 vwCl (ad (50 + 4 * b + t), .inl (D.2.1, ra (tlen t) (tc (4 * b + t)))) H) ∧ (∀ (b : Nat) (x : Int), b < 3 → 0 ≤ x → x < 8 → va_at D.1 vwCl (ad (100 + 8 * b + x.toNat), .inr (kcl (K (50 + x)), mkf ad K (mB b) b x)) H) ∧ (∀ (b : Nat) (x : Int), b < 3 → 0 ≤ x → x < 8 → K (50 + x) = 6 → va_at D.1 vwCl (ad (200 + 8 * b + x.toNat), .inl (D.2.1, ra 4 (rB (8 * b + x.toNat)))) H) ∧ (∀ p : Nat, p < 6 → va_at D.1 vwCl (ad (300 + p), .inr (6, pfs ad (Q p) (tp p) p)) H) ∧ (∀ j p : Nat, j < 4 → p < 6 → va_at D.1 vwCl (ad (310 + 6 * j + p), .inl (D.2.1, ra (qlen j) (qa (6 * j + p)))) H)
section XWS
variable {D : Dx} {A : Nat → Prop} {ad : Nat → Nat} {K : Int → Int} {hB mB rB tz : Nat → Int → Int} {tc : Nat → Int → Int} {Q qa : Nat → Int → Int} {tp : Nat → Nat} {bo e uc lr nx : Int → Int} {H H1 : Heap}
theorem XW.i (h : XW D A ad K hB mB rB tz tc Q qa tp bo e uc lr nx H) : XI A ad K := h.1
theorem XW.f0 (h : XW D A ad K hB mB rB tz tc Q qa tp bo e uc lr nx H) : va_at D.1 vwCl (ad (0), .inr (11, xfs ad e)) H := h.2.1
theorem XW.f1 (h : XW D A ad K hB mB rB tz tc Q qa tp bo e uc lr nx H) : va_at D.1 vwCl (ad (1), .inl (D.2.2.2.2.1, rq 5 (fun q => kP ad q))) H := h.2.2.1
theorem XW.f2 (h : XW D A ad K hB mB rB tz tc Q qa tp bo e uc lr nx H) : va_at D.1 vwCl (ad (2), .inr (9, [.ref (ad 3), vI (e 0)])) H := h.2.2.2.1
theorem XW.f3 (h : XW D A ad K hB mB rB tz tc Q qa tp bo e uc lr nx H) : va_at D.1 vwCl (ad (3), .inl (D.2.1, ra 20 bo)) H := h.2.2.2.2.1
theorem XW.f4 (h : XW D A ad K hB mB rB tz tc Q qa tp bo e uc lr nx H) : va_at D.1 vwCl (ad (4), .inl (D.2.1, ra 8 uc)) H := h.2.2.2.2.2.1
theorem XW.f5 (h : XW D A ad K hB mB rB tz tc Q qa tp bo e uc lr nx H) : va_at D.1 vwCl (ad (5), .inl (D.2.1, ra 64 lr)) H := h.2.2.2.2.2.2.1
theorem XW.f6 (h : XW D A ad K hB mB rB tz tc Q qa tp bo e uc lr nx H) : va_at D.1 vwCl (ad (6), .inl (D.2.1, ra 64 nx)) H := h.2.2.2.2.2.2.2.1
theorem XW.fb (h : XW D A ad K hB mB rB tz tc Q qa tp bo e uc lr nx H) : ∀ b : Nat, b < 3 → va_at D.1 vwCl (ad (10 + b), .inr (0, bfs ad (hB b) b)) H := h.2.2.2.2.2.2.2.2.1
theorem XW.fa (h : XW D A ad K hB mB rB tz tc Q qa tp bo e uc lr nx H) : ∀ b : Nat, b < 3 → va_at D.1 vwCl (ad (20 + b), .inl (D.2.2.2.1, rq 8 (fun q => kM ad b (q : Int)))) H := h.2.2.2.2.2.2.2.2.2.1
theorem XW.ft (h : XW D A ad K hB mB rB tz tc Q qa tp bo e uc lr nx H) : ∀ b t : Nat, b < 3 → t < 4 → va_at D.1 vwCl (ad (30 + 4 * b + t), .inr (7, tfs ad b t (tz b t))) H := h.2.2.2.2.2.2.2.2.2.2.1
theorem XW.fc (h : XW D A ad K hB mB rB tz tc Q qa tp bo e uc lr nx H) : ∀ b t : Nat, b < 3 → t < 4 → va_at D.1 vwCl (ad (50 + 4 * b + t), .inl (D.2.1, ra (tlen t) (tc (4 * b + t)))) H := h.2.2.2.2.2.2.2.2.2.2.2.1
theorem XW.fm (h : XW D A ad K hB mB rB tz tc Q qa tp bo e uc lr nx H) : ∀ (b : Nat) (x : Int), b < 3 → 0 ≤ x → x < 8 → va_at D.1 vwCl (ad (100 + 8 * b + x.toNat), .inr (kcl (K (50 + x)), mkf ad K (mB b) b x)) H := h.2.2.2.2.2.2.2.2.2.2.2.2.1
theorem XW.fr (h : XW D A ad K hB mB rB tz tc Q qa tp bo e uc lr nx H) : ∀ (b : Nat) (x : Int), b < 3 → 0 ≤ x → x < 8 → K (50 + x) = 6 → va_at D.1 vwCl (ad (200 + 8 * b + x.toNat), .inl (D.2.1, ra 4 (rB (8 * b + x.toNat)))) H := h.2.2.2.2.2.2.2.2.2.2.2.2.2.1
theorem XW.fp (h : XW D A ad K hB mB rB tz tc Q qa tp bo e uc lr nx H) : ∀ p : Nat, p < 6 → va_at D.1 vwCl (ad (300 + p), .inr (6, pfs ad (Q p) (tp p) p)) H := h.2.2.2.2.2.2.2.2.2.2.2.2.2.2.1
theorem XW.fq (h : XW D A ad K hB mB rB tz tc Q qa tp bo e uc lr nx H) : ∀ j p : Nat, j < 4 → p < 6 → va_at D.1 vwCl (ad (310 + 6 * j + p), .inl (D.2.1, ra (qlen j) (qa (6 * j + p)))) H := h.2.2.2.2.2.2.2.2.2.2.2.2.2.2.2
theorem XI.ne (h : XI A ad K) {j k : Nat} (hj : dom K j) (hk : dom K k) (hn : j ≠ k) : ad j ≠ ad k := fun q => hn (h.1 j k hj hk q)
theorem xkeep (hI : XI A ad K) {j k : Nat} {x : va_E} (hj : dom K j) (hk : dom K k) (oq : ∀ q, q ≠ ad j → H1[q]? = H[q]?) (hn : k ≠ j) (h : va_at D.1 vwCl (ad k, x) H) : va_at D.1 vwCl (ad k, x) H1 := h.kept (oq _ (hI.ne hk hj hn))
theorem xs_e1 {v : Int} (h : XW D A ad K hB mB rB tz tc Q qa tp bo e uc lr nx H) (he : va_at D.1 vwCl (ad (0), .inr (11, xfs ad (sU e 1 v))) H1) (oq : ∀ q, q ≠ ad (0) → H1[q]? = H[q]?) : XW D A ad K hB mB rB tz tc Q qa tp bo (sU e 1 v) uc lr nx H1 := by
  have hj : dom K (0) := Or.inl (by omega)
  exact ⟨h.i, he,
    (xkeep h.i hj (Or.inl (by omega)) oq (by omega) h.f1),
    (xkeep h.i hj (Or.inl (by omega)) oq (by omega) h.f2),
    (xkeep h.i hj (Or.inl (by omega)) oq (by omega) h.f3),
    (xkeep h.i hj (Or.inl (by omega)) oq (by omega) h.f4),
    (xkeep h.i hj (Or.inl (by omega)) oq (by omega) h.f5),
    (xkeep h.i hj (Or.inl (by omega)) oq (by omega) h.f6),
    (fun b hb => xkeep h.i hj (Or.inl (by omega)) oq (by omega) (h.fb b hb)),
    (fun b hb => xkeep h.i hj (Or.inl (by omega)) oq (by omega) (h.fa b hb)),
    (fun b t hb ht => xkeep h.i hj (Or.inl (by omega)) oq (by omega) (h.ft b t hb ht)),
    (fun b t hb ht => xkeep h.i hj (Or.inl (by omega)) oq (by omega) (h.fc b t hb ht)),
    (fun b x hb h0 h8 => xkeep h.i hj (Or.inl (by omega)) oq (by omega) (h.fm b x hb h0 h8)),
    (fun b x hb h0 h8 h6 => xkeep h.i hj (dom_row hb h0 h8 h6) oq (by omega) (h.fr b x hb h0 h8 h6)),
    (fun p hp => xkeep h.i hj (Or.inl (by omega)) oq (by omega) (h.fp p hp)),
    (fun j p hj4 hp => xkeep h.i hj (Or.inl (by omega)) oq (by omega) (h.fq j p hj4 hp))⟩
theorem xs_e0 {v : Int} (h : XW D A ad K hB mB rB tz tc Q qa tp bo e uc lr nx H) (he : va_at D.1 vwCl (ad (2), .inr (9, [.ref (ad 3), vI v])) H1) (oq : ∀ q, q ≠ ad (2) → H1[q]? = H[q]?) : XW D A ad K hB mB rB tz tc Q qa tp bo (sU e 0 v) uc lr nx H1 := by
  have hj : dom K (2) := Or.inl (by omega)
  exact ⟨h.i, (xkeep h.i hj (Or.inl (by omega)) oq (by omega) h.f0),
    (xkeep h.i hj (Or.inl (by omega)) oq (by omega) h.f1),
    he,
    (xkeep h.i hj (Or.inl (by omega)) oq (by omega) h.f3),
    (xkeep h.i hj (Or.inl (by omega)) oq (by omega) h.f4),
    (xkeep h.i hj (Or.inl (by omega)) oq (by omega) h.f5),
    (xkeep h.i hj (Or.inl (by omega)) oq (by omega) h.f6),
    (fun b hb => xkeep h.i hj (Or.inl (by omega)) oq (by omega) (h.fb b hb)),
    (fun b hb => xkeep h.i hj (Or.inl (by omega)) oq (by omega) (h.fa b hb)),
    (fun b t hb ht => xkeep h.i hj (Or.inl (by omega)) oq (by omega) (h.ft b t hb ht)),
    (fun b t hb ht => xkeep h.i hj (Or.inl (by omega)) oq (by omega) (h.fc b t hb ht)),
    (fun b x hb h0 h8 => xkeep h.i hj (Or.inl (by omega)) oq (by omega) (h.fm b x hb h0 h8)),
    (fun b x hb h0 h8 h6 => xkeep h.i hj (dom_row hb h0 h8 h6) oq (by omega) (h.fr b x hb h0 h8 h6)),
    (fun p hp => xkeep h.i hj (Or.inl (by omega)) oq (by omega) (h.fp p hp)),
    (fun j p hj4 hp => xkeep h.i hj (Or.inl (by omega)) oq (by omega) (h.fq j p hj4 hp))⟩
theorem xs_bo {f : Int → Int} (h : XW D A ad K hB mB rB tz tc Q qa tp bo e uc lr nx H) (he : va_at D.1 vwCl (ad (3), .inl (D.2.1, ra 20 f)) H1) (oq : ∀ q, q ≠ ad (3) → H1[q]? = H[q]?) : XW D A ad K hB mB rB tz tc Q qa tp f e uc lr nx H1 := by
  have hj : dom K (3) := Or.inl (by omega)
  exact ⟨h.i, (xkeep h.i hj (Or.inl (by omega)) oq (by omega) h.f0),
    (xkeep h.i hj (Or.inl (by omega)) oq (by omega) h.f1),
    (xkeep h.i hj (Or.inl (by omega)) oq (by omega) h.f2),
    he,
    (xkeep h.i hj (Or.inl (by omega)) oq (by omega) h.f4),
    (xkeep h.i hj (Or.inl (by omega)) oq (by omega) h.f5),
    (xkeep h.i hj (Or.inl (by omega)) oq (by omega) h.f6),
    (fun b hb => xkeep h.i hj (Or.inl (by omega)) oq (by omega) (h.fb b hb)),
    (fun b hb => xkeep h.i hj (Or.inl (by omega)) oq (by omega) (h.fa b hb)),
    (fun b t hb ht => xkeep h.i hj (Or.inl (by omega)) oq (by omega) (h.ft b t hb ht)),
    (fun b t hb ht => xkeep h.i hj (Or.inl (by omega)) oq (by omega) (h.fc b t hb ht)),
    (fun b x hb h0 h8 => xkeep h.i hj (Or.inl (by omega)) oq (by omega) (h.fm b x hb h0 h8)),
    (fun b x hb h0 h8 h6 => xkeep h.i hj (dom_row hb h0 h8 h6) oq (by omega) (h.fr b x hb h0 h8 h6)),
    (fun p hp => xkeep h.i hj (Or.inl (by omega)) oq (by omega) (h.fp p hp)),
    (fun j p hj4 hp => xkeep h.i hj (Or.inl (by omega)) oq (by omega) (h.fq j p hj4 hp))⟩
theorem xs_uc {f : Int → Int} (h : XW D A ad K hB mB rB tz tc Q qa tp bo e uc lr nx H) (he : va_at D.1 vwCl (ad (4), .inl (D.2.1, ra 8 f)) H1) (oq : ∀ q, q ≠ ad (4) → H1[q]? = H[q]?) : XW D A ad K hB mB rB tz tc Q qa tp bo e f lr nx H1 := by
  have hj : dom K (4) := Or.inl (by omega)
  exact ⟨h.i, (xkeep h.i hj (Or.inl (by omega)) oq (by omega) h.f0),
    (xkeep h.i hj (Or.inl (by omega)) oq (by omega) h.f1),
    (xkeep h.i hj (Or.inl (by omega)) oq (by omega) h.f2),
    (xkeep h.i hj (Or.inl (by omega)) oq (by omega) h.f3),
    he,
    (xkeep h.i hj (Or.inl (by omega)) oq (by omega) h.f5),
    (xkeep h.i hj (Or.inl (by omega)) oq (by omega) h.f6),
    (fun b hb => xkeep h.i hj (Or.inl (by omega)) oq (by omega) (h.fb b hb)),
    (fun b hb => xkeep h.i hj (Or.inl (by omega)) oq (by omega) (h.fa b hb)),
    (fun b t hb ht => xkeep h.i hj (Or.inl (by omega)) oq (by omega) (h.ft b t hb ht)),
    (fun b t hb ht => xkeep h.i hj (Or.inl (by omega)) oq (by omega) (h.fc b t hb ht)),
    (fun b x hb h0 h8 => xkeep h.i hj (Or.inl (by omega)) oq (by omega) (h.fm b x hb h0 h8)),
    (fun b x hb h0 h8 h6 => xkeep h.i hj (dom_row hb h0 h8 h6) oq (by omega) (h.fr b x hb h0 h8 h6)),
    (fun p hp => xkeep h.i hj (Or.inl (by omega)) oq (by omega) (h.fp p hp)),
    (fun j p hj4 hp => xkeep h.i hj (Or.inl (by omega)) oq (by omega) (h.fq j p hj4 hp))⟩
theorem xs_lr {f : Int → Int} (h : XW D A ad K hB mB rB tz tc Q qa tp bo e uc lr nx H) (he : va_at D.1 vwCl (ad (5), .inl (D.2.1, ra 64 f)) H1) (oq : ∀ q, q ≠ ad (5) → H1[q]? = H[q]?) : XW D A ad K hB mB rB tz tc Q qa tp bo e uc f nx H1 := by
  have hj : dom K (5) := Or.inl (by omega)
  exact ⟨h.i, (xkeep h.i hj (Or.inl (by omega)) oq (by omega) h.f0),
    (xkeep h.i hj (Or.inl (by omega)) oq (by omega) h.f1),
    (xkeep h.i hj (Or.inl (by omega)) oq (by omega) h.f2),
    (xkeep h.i hj (Or.inl (by omega)) oq (by omega) h.f3),
    (xkeep h.i hj (Or.inl (by omega)) oq (by omega) h.f4),
    he,
    (xkeep h.i hj (Or.inl (by omega)) oq (by omega) h.f6),
    (fun b hb => xkeep h.i hj (Or.inl (by omega)) oq (by omega) (h.fb b hb)),
    (fun b hb => xkeep h.i hj (Or.inl (by omega)) oq (by omega) (h.fa b hb)),
    (fun b t hb ht => xkeep h.i hj (Or.inl (by omega)) oq (by omega) (h.ft b t hb ht)),
    (fun b t hb ht => xkeep h.i hj (Or.inl (by omega)) oq (by omega) (h.fc b t hb ht)),
    (fun b x hb h0 h8 => xkeep h.i hj (Or.inl (by omega)) oq (by omega) (h.fm b x hb h0 h8)),
    (fun b x hb h0 h8 h6 => xkeep h.i hj (dom_row hb h0 h8 h6) oq (by omega) (h.fr b x hb h0 h8 h6)),
    (fun p hp => xkeep h.i hj (Or.inl (by omega)) oq (by omega) (h.fp p hp)),
    (fun j p hj4 hp => xkeep h.i hj (Or.inl (by omega)) oq (by omega) (h.fq j p hj4 hp))⟩
theorem xs_nx {f : Int → Int} (h : XW D A ad K hB mB rB tz tc Q qa tp bo e uc lr nx H) (he : va_at D.1 vwCl (ad (6), .inl (D.2.1, ra 64 f)) H1) (oq : ∀ q, q ≠ ad (6) → H1[q]? = H[q]?) : XW D A ad K hB mB rB tz tc Q qa tp bo e uc lr f H1 := by
  have hj : dom K (6) := Or.inl (by omega)
  exact ⟨h.i, (xkeep h.i hj (Or.inl (by omega)) oq (by omega) h.f0),
    (xkeep h.i hj (Or.inl (by omega)) oq (by omega) h.f1),
    (xkeep h.i hj (Or.inl (by omega)) oq (by omega) h.f2),
    (xkeep h.i hj (Or.inl (by omega)) oq (by omega) h.f3),
    (xkeep h.i hj (Or.inl (by omega)) oq (by omega) h.f4),
    (xkeep h.i hj (Or.inl (by omega)) oq (by omega) h.f5),
    he,
    (fun b hb => xkeep h.i hj (Or.inl (by omega)) oq (by omega) (h.fb b hb)),
    (fun b hb => xkeep h.i hj (Or.inl (by omega)) oq (by omega) (h.fa b hb)),
    (fun b t hb ht => xkeep h.i hj (Or.inl (by omega)) oq (by omega) (h.ft b t hb ht)),
    (fun b t hb ht => xkeep h.i hj (Or.inl (by omega)) oq (by omega) (h.fc b t hb ht)),
    (fun b x hb h0 h8 => xkeep h.i hj (Or.inl (by omega)) oq (by omega) (h.fm b x hb h0 h8)),
    (fun b x hb h0 h8 h6 => xkeep h.i hj (dom_row hb h0 h8 h6) oq (by omega) (h.fr b x hb h0 h8 h6)),
    (fun p hp => xkeep h.i hj (Or.inl (by omega)) oq (by omega) (h.fp p hp)),
    (fun j p hj4 hp => xkeep h.i hj (Or.inl (by omega)) oq (by omega) (h.fq j p hj4 hp))⟩
theorem xs_b {b : Nat} (hb : b < 3) {f : Int → Int} (h : XW D A ad K hB mB rB tz tc Q qa tp bo e uc lr nx H) (he : va_at D.1 vwCl (ad (10 + b), .inr (0, bfs ad f b)) H1) (oq : ∀ q, q ≠ ad (10 + b) → H1[q]? = H[q]?) : XW D A ad K (uS hB b f) mB rB tz tc Q qa tp bo e uc lr nx H1 := by
  have hj : dom K (10 + b) := Or.inl (by omega)
  exact ⟨h.i, (xkeep h.i hj (Or.inl (by omega)) oq (by omega) h.f0),
    (xkeep h.i hj (Or.inl (by omega)) oq (by omega) h.f1),
    (xkeep h.i hj (Or.inl (by omega)) oq (by omega) h.f2),
    (xkeep h.i hj (Or.inl (by omega)) oq (by omega) h.f3),
    (xkeep h.i hj (Or.inl (by omega)) oq (by omega) h.f4),
    (xkeep h.i hj (Or.inl (by omega)) oq (by omega) h.f5),
    (xkeep h.i hj (Or.inl (by omega)) oq (by omega) h.f6),
    (fun c hc1 => by
      by_cases q : c = b
      · subst q; rw [uS_eq]; exact he
      · rw [uS_ne q]; exact xkeep h.i hj (Or.inl (by omega)) oq (by omega) (h.fb c hc1)),
    (fun b hb => xkeep h.i hj (Or.inl (by omega)) oq (by omega) (h.fa b hb)),
    (fun b t hb ht => xkeep h.i hj (Or.inl (by omega)) oq (by omega) (h.ft b t hb ht)),
    (fun b t hb ht => xkeep h.i hj (Or.inl (by omega)) oq (by omega) (h.fc b t hb ht)),
    (fun b x hb h0 h8 => xkeep h.i hj (Or.inl (by omega)) oq (by omega) (h.fm b x hb h0 h8)),
    (fun b x hb h0 h8 h6 => xkeep h.i hj (dom_row hb h0 h8 h6) oq (by omega) (h.fr b x hb h0 h8 h6)),
    (fun p hp => xkeep h.i hj (Or.inl (by omega)) oq (by omega) (h.fp p hp)),
    (fun j p hj4 hp => xkeep h.i hj (Or.inl (by omega)) oq (by omega) (h.fq j p hj4 hp))⟩
theorem xs_t {b t : Nat} (hb : b < 3) (ht : t < 4) {v : Int} (h : XW D A ad K hB mB rB tz tc Q qa tp bo e uc lr nx H) (he : va_at D.1 vwCl (ad (30 + 4 * b + t), .inr (7, tfs ad b t v)) H1) (oq : ∀ q, q ≠ ad (30 + 4 * b + t) → H1[q]? = H[q]?) : XW D A ad K hB mB rB (uS tz b (sU (tz b) t v)) tc Q qa tp bo e uc lr nx H1 := by
  have hj : dom K (30 + 4 * b + t) := Or.inl (by omega)
  exact ⟨h.i, (xkeep h.i hj (Or.inl (by omega)) oq (by omega) h.f0),
    (xkeep h.i hj (Or.inl (by omega)) oq (by omega) h.f1),
    (xkeep h.i hj (Or.inl (by omega)) oq (by omega) h.f2),
    (xkeep h.i hj (Or.inl (by omega)) oq (by omega) h.f3),
    (xkeep h.i hj (Or.inl (by omega)) oq (by omega) h.f4),
    (xkeep h.i hj (Or.inl (by omega)) oq (by omega) h.f5),
    (xkeep h.i hj (Or.inl (by omega)) oq (by omega) h.f6),
    (fun b hb => xkeep h.i hj (Or.inl (by omega)) oq (by omega) (h.fb b hb)),
    (fun b hb => xkeep h.i hj (Or.inl (by omega)) oq (by omega) (h.fa b hb)),
    (fun c t2 hc1 ht2 => by
      by_cases q : c = b
      · subst q; rw [uS_eq]
        by_cases q2 : t2 = t
        · subst q2; rw [sU_eq]; exact he
        · rw [sU_ne (by omega)]; exact xkeep h.i hj (Or.inl (by omega)) oq (by omega) (h.ft c t2 hc1 ht2)
      · rw [uS_ne q]; exact xkeep h.i hj (Or.inl (by omega)) oq (by omega) (h.ft c t2 hc1 ht2)),
    (fun b t hb ht => xkeep h.i hj (Or.inl (by omega)) oq (by omega) (h.fc b t hb ht)),
    (fun b x hb h0 h8 => xkeep h.i hj (Or.inl (by omega)) oq (by omega) (h.fm b x hb h0 h8)),
    (fun b x hb h0 h8 h6 => xkeep h.i hj (dom_row hb h0 h8 h6) oq (by omega) (h.fr b x hb h0 h8 h6)),
    (fun p hp => xkeep h.i hj (Or.inl (by omega)) oq (by omega) (h.fp p hp)),
    (fun j p hj4 hp => xkeep h.i hj (Or.inl (by omega)) oq (by omega) (h.fq j p hj4 hp))⟩
theorem xs_c {b t : Nat} (hb : b < 3) (ht : t < 4) {f : Int → Int} (h : XW D A ad K hB mB rB tz tc Q qa tp bo e uc lr nx H) (he : va_at D.1 vwCl (ad (50 + 4 * b + t), .inl (D.2.1, ra (tlen t) f)) H1) (oq : ∀ q, q ≠ ad (50 + 4 * b + t) → H1[q]? = H[q]?) : XW D A ad K hB mB rB tz (uS tc (4 * b + t) f) Q qa tp bo e uc lr nx H1 := by
  have hj : dom K (50 + 4 * b + t) := Or.inl (by omega)
  exact ⟨h.i, (xkeep h.i hj (Or.inl (by omega)) oq (by omega) h.f0),
    (xkeep h.i hj (Or.inl (by omega)) oq (by omega) h.f1),
    (xkeep h.i hj (Or.inl (by omega)) oq (by omega) h.f2),
    (xkeep h.i hj (Or.inl (by omega)) oq (by omega) h.f3),
    (xkeep h.i hj (Or.inl (by omega)) oq (by omega) h.f4),
    (xkeep h.i hj (Or.inl (by omega)) oq (by omega) h.f5),
    (xkeep h.i hj (Or.inl (by omega)) oq (by omega) h.f6),
    (fun b hb => xkeep h.i hj (Or.inl (by omega)) oq (by omega) (h.fb b hb)),
    (fun b hb => xkeep h.i hj (Or.inl (by omega)) oq (by omega) (h.fa b hb)),
    (fun b t hb ht => xkeep h.i hj (Or.inl (by omega)) oq (by omega) (h.ft b t hb ht)),
    (fun c t2 hc1 ht2 => by
      by_cases q : 4 * c + t2 = 4 * b + t
      · have q1 : c = b := by omega
        have q2 : t2 = t := by omega
        subst q1; subst q2; rw [uS_eq]; exact he
      · rw [uS_ne q]; exact xkeep h.i hj (Or.inl (by omega)) oq (by omega) (h.fc c t2 hc1 ht2)),
    (fun b x hb h0 h8 => xkeep h.i hj (Or.inl (by omega)) oq (by omega) (h.fm b x hb h0 h8)),
    (fun b x hb h0 h8 h6 => xkeep h.i hj (dom_row hb h0 h8 h6) oq (by omega) (h.fr b x hb h0 h8 h6)),
    (fun p hp => xkeep h.i hj (Or.inl (by omega)) oq (by omega) (h.fp p hp)),
    (fun j p hj4 hp => xkeep h.i hj (Or.inl (by omega)) oq (by omega) (h.fq j p hj4 hp))⟩
theorem xs_m {b : Nat} {x : Int} (hb : b < 3) (h0 : 0 ≤ x) (h8 : x < 8) {f : Int → Int} (hf : ∀ y : Int, 0 ≤ y → y < 8 → y ≠ x → f (3 + y) = mB b (3 + y) ∧ f (11 + y) = mB b (11 + y) ∧ f (19 + y) = mB b (19 + y) ∧ f (27 + y) = mB b (27 + y) ∧ f (35 + y) = mB b (35 + y)) (h : XW D A ad K hB mB rB tz tc Q qa tp bo e uc lr nx H) (he : va_at D.1 vwCl (ad (100 + 8 * b + x.toNat), .inr (kcl (K (50 + x)), mkf ad K f b x)) H1) (oq : ∀ q, q ≠ ad (100 + 8 * b + x.toNat) → H1[q]? = H[q]?) : XW D A ad K hB (uS mB b f) rB tz tc Q qa tp bo e uc lr nx H1 := by
  have hj : dom K (100 + 8 * b + x.toNat) := Or.inl (by omega)
  exact ⟨h.i, (xkeep h.i hj (Or.inl (by omega)) oq (by omega) h.f0),
    (xkeep h.i hj (Or.inl (by omega)) oq (by omega) h.f1),
    (xkeep h.i hj (Or.inl (by omega)) oq (by omega) h.f2),
    (xkeep h.i hj (Or.inl (by omega)) oq (by omega) h.f3),
    (xkeep h.i hj (Or.inl (by omega)) oq (by omega) h.f4),
    (xkeep h.i hj (Or.inl (by omega)) oq (by omega) h.f5),
    (xkeep h.i hj (Or.inl (by omega)) oq (by omega) h.f6),
    (fun b hb => xkeep h.i hj (Or.inl (by omega)) oq (by omega) (h.fb b hb)),
    (fun b hb => xkeep h.i hj (Or.inl (by omega)) oq (by omega) (h.fa b hb)),
    (fun b t hb ht => xkeep h.i hj (Or.inl (by omega)) oq (by omega) (h.ft b t hb ht)),
    (fun b t hb ht => xkeep h.i hj (Or.inl (by omega)) oq (by omega) (h.fc b t hb ht)),
    (fun c y hc1 g0 g8 => by
      by_cases q : c = b
      · subst q; rw [uS_eq]
        by_cases q2 : y = x
        · subst q2; exact he
        · obtain ⟨e1, e2, e3, e4, e5⟩ := hf y g0 g8 q2
          have := h.fm c y hc1 g0 g8
          unfold mkf at this ⊢
          rw [e1, e2, e3, e4, e5]
          exact xkeep h.i hj (Or.inl (by omega)) oq (by omega) this
      · rw [uS_ne q]; exact xkeep h.i hj (Or.inl (by omega)) oq (by omega) (h.fm c y hc1 g0 g8)),
    (fun b x hb h0 h8 h6 => xkeep h.i hj (dom_row hb h0 h8 h6) oq (by omega) (h.fr b x hb h0 h8 h6)),
    (fun p hp => xkeep h.i hj (Or.inl (by omega)) oq (by omega) (h.fp p hp)),
    (fun j p hj4 hp => xkeep h.i hj (Or.inl (by omega)) oq (by omega) (h.fq j p hj4 hp))⟩
theorem xs_r {b : Nat} {x : Int} (hb : b < 3) (h0 : 0 ≤ x) (h8 : x < 8) (h6 : K (50 + x) = 6) {f : Int → Int} (h : XW D A ad K hB mB rB tz tc Q qa tp bo e uc lr nx H) (he : va_at D.1 vwCl (ad (200 + 8 * b + x.toNat), .inl (D.2.1, ra 4 f)) H1) (oq : ∀ q, q ≠ ad (200 + 8 * b + x.toNat) → H1[q]? = H[q]?) : XW D A ad K hB mB (uS rB (8 * b + x.toNat) f) tz tc Q qa tp bo e uc lr nx H1 := by
  have hj : dom K (200 + 8 * b + x.toNat) := dom_row hb h0 h8 h6
  exact ⟨h.i, (xkeep h.i hj (Or.inl (by omega)) oq (by omega) h.f0),
    (xkeep h.i hj (Or.inl (by omega)) oq (by omega) h.f1),
    (xkeep h.i hj (Or.inl (by omega)) oq (by omega) h.f2),
    (xkeep h.i hj (Or.inl (by omega)) oq (by omega) h.f3),
    (xkeep h.i hj (Or.inl (by omega)) oq (by omega) h.f4),
    (xkeep h.i hj (Or.inl (by omega)) oq (by omega) h.f5),
    (xkeep h.i hj (Or.inl (by omega)) oq (by omega) h.f6),
    (fun b hb => xkeep h.i hj (Or.inl (by omega)) oq (by omega) (h.fb b hb)),
    (fun b hb => xkeep h.i hj (Or.inl (by omega)) oq (by omega) (h.fa b hb)),
    (fun b t hb ht => xkeep h.i hj (Or.inl (by omega)) oq (by omega) (h.ft b t hb ht)),
    (fun b t hb ht => xkeep h.i hj (Or.inl (by omega)) oq (by omega) (h.fc b t hb ht)),
    (fun b x hb h0 h8 => xkeep h.i hj (Or.inl (by omega)) oq (by omega) (h.fm b x hb h0 h8)),
    (fun c y hc1 g0 g8 g6 => by
      by_cases q : 8 * c + y.toNat = 8 * b + x.toNat
      · have q1 : c = b := by omega
        have q2 : y = x := by omega
        subst q1; subst q2; rw [uS_eq]; exact he
      · rw [uS_ne q]; exact xkeep h.i hj (dom_row hc1 g0 g8 g6) oq (by omega) (h.fr c y hc1 g0 g8 g6)),
    (fun p hp => xkeep h.i hj (Or.inl (by omega)) oq (by omega) (h.fp p hp)),
    (fun j p hj4 hp => xkeep h.i hj (Or.inl (by omega)) oq (by omega) (h.fq j p hj4 hp))⟩
theorem xs_p {p : Nat} (hp : p < 6) {f : Int → Int} (h : XW D A ad K hB mB rB tz tc Q qa tp bo e uc lr nx H) (he : va_at D.1 vwCl (ad (300 + p), .inr (6, pfs ad f (tp p) p)) H1) (oq : ∀ q, q ≠ ad (300 + p) → H1[q]? = H[q]?) : XW D A ad K hB mB rB tz tc (uS Q p f) qa tp bo e uc lr nx H1 := by
  have hj : dom K (300 + p) := Or.inl (by omega)
  exact ⟨h.i, (xkeep h.i hj (Or.inl (by omega)) oq (by omega) h.f0),
    (xkeep h.i hj (Or.inl (by omega)) oq (by omega) h.f1),
    (xkeep h.i hj (Or.inl (by omega)) oq (by omega) h.f2),
    (xkeep h.i hj (Or.inl (by omega)) oq (by omega) h.f3),
    (xkeep h.i hj (Or.inl (by omega)) oq (by omega) h.f4),
    (xkeep h.i hj (Or.inl (by omega)) oq (by omega) h.f5),
    (xkeep h.i hj (Or.inl (by omega)) oq (by omega) h.f6),
    (fun b hb => xkeep h.i hj (Or.inl (by omega)) oq (by omega) (h.fb b hb)),
    (fun b hb => xkeep h.i hj (Or.inl (by omega)) oq (by omega) (h.fa b hb)),
    (fun b t hb ht => xkeep h.i hj (Or.inl (by omega)) oq (by omega) (h.ft b t hb ht)),
    (fun b t hb ht => xkeep h.i hj (Or.inl (by omega)) oq (by omega) (h.fc b t hb ht)),
    (fun b x hb h0 h8 => xkeep h.i hj (Or.inl (by omega)) oq (by omega) (h.fm b x hb h0 h8)),
    (fun b x hb h0 h8 h6 => xkeep h.i hj (dom_row hb h0 h8 h6) oq (by omega) (h.fr b x hb h0 h8 h6)),
    (fun c hc1 => by
      by_cases q : c = p
      · subst q; rw [uS_eq]; exact he
      · rw [uS_ne q]; exact xkeep h.i hj (Or.inl (by omega)) oq (by omega) (h.fp c hc1)),
    (fun j p hj4 hp => xkeep h.i hj (Or.inl (by omega)) oq (by omega) (h.fq j p hj4 hp))⟩
theorem xs_tp {p : Nat} (hp : p < 6) {t : Nat} (h : XW D A ad K hB mB rB tz tc Q qa tp bo e uc lr nx H) (he : va_at D.1 vwCl (ad (300 + p), .inr (6, pfs ad (Q p) t p)) H1) (oq : ∀ q, q ≠ ad (300 + p) → H1[q]? = H[q]?) : XW D A ad K hB mB rB tz tc Q qa (uN tp p t) bo e uc lr nx H1 := by
  have hj : dom K (300 + p) := Or.inl (by omega)
  exact ⟨h.i, (xkeep h.i hj (Or.inl (by omega)) oq (by omega) h.f0),
    (xkeep h.i hj (Or.inl (by omega)) oq (by omega) h.f1),
    (xkeep h.i hj (Or.inl (by omega)) oq (by omega) h.f2),
    (xkeep h.i hj (Or.inl (by omega)) oq (by omega) h.f3),
    (xkeep h.i hj (Or.inl (by omega)) oq (by omega) h.f4),
    (xkeep h.i hj (Or.inl (by omega)) oq (by omega) h.f5),
    (xkeep h.i hj (Or.inl (by omega)) oq (by omega) h.f6),
    (fun b hb => xkeep h.i hj (Or.inl (by omega)) oq (by omega) (h.fb b hb)),
    (fun b hb => xkeep h.i hj (Or.inl (by omega)) oq (by omega) (h.fa b hb)),
    (fun b t hb ht => xkeep h.i hj (Or.inl (by omega)) oq (by omega) (h.ft b t hb ht)),
    (fun b t hb ht => xkeep h.i hj (Or.inl (by omega)) oq (by omega) (h.fc b t hb ht)),
    (fun b x hb h0 h8 => xkeep h.i hj (Or.inl (by omega)) oq (by omega) (h.fm b x hb h0 h8)),
    (fun b x hb h0 h8 h6 => xkeep h.i hj (dom_row hb h0 h8 h6) oq (by omega) (h.fr b x hb h0 h8 h6)),
    (fun c hc1 => by
      by_cases q : c = p
      · subst q; rw [uN_eq]; exact he
      · rw [uN_ne q]; exact xkeep h.i hj (Or.inl (by omega)) oq (by omega) (h.fp c hc1)),
    (fun j p hj4 hp => xkeep h.i hj (Or.inl (by omega)) oq (by omega) (h.fq j p hj4 hp))⟩
theorem xs_q {j p : Nat} (hj4 : j < 4) (hp : p < 6) {f : Int → Int} (h : XW D A ad K hB mB rB tz tc Q qa tp bo e uc lr nx H) (he : va_at D.1 vwCl (ad (310 + 6 * j + p), .inl (D.2.1, ra (qlen j) f)) H1) (oq : ∀ q, q ≠ ad (310 + 6 * j + p) → H1[q]? = H[q]?) : XW D A ad K hB mB rB tz tc Q (uS qa (6 * j + p) f) tp bo e uc lr nx H1 := by
  have hj : dom K (310 + 6 * j + p) := Or.inl (by omega)
  exact ⟨h.i, (xkeep h.i hj (Or.inl (by omega)) oq (by omega) h.f0),
    (xkeep h.i hj (Or.inl (by omega)) oq (by omega) h.f1),
    (xkeep h.i hj (Or.inl (by omega)) oq (by omega) h.f2),
    (xkeep h.i hj (Or.inl (by omega)) oq (by omega) h.f3),
    (xkeep h.i hj (Or.inl (by omega)) oq (by omega) h.f4),
    (xkeep h.i hj (Or.inl (by omega)) oq (by omega) h.f5),
    (xkeep h.i hj (Or.inl (by omega)) oq (by omega) h.f6),
    (fun b hb => xkeep h.i hj (Or.inl (by omega)) oq (by omega) (h.fb b hb)),
    (fun b hb => xkeep h.i hj (Or.inl (by omega)) oq (by omega) (h.fa b hb)),
    (fun b t hb ht => xkeep h.i hj (Or.inl (by omega)) oq (by omega) (h.ft b t hb ht)),
    (fun b t hb ht => xkeep h.i hj (Or.inl (by omega)) oq (by omega) (h.fc b t hb ht)),
    (fun b x hb h0 h8 => xkeep h.i hj (Or.inl (by omega)) oq (by omega) (h.fm b x hb h0 h8)),
    (fun b x hb h0 h8 h6 => xkeep h.i hj (dom_row hb h0 h8 h6) oq (by omega) (h.fr b x hb h0 h8 h6)),
    (fun p hp => xkeep h.i hj (Or.inl (by omega)) oq (by omega) (h.fp p hp)),
    (fun i c hi hc1 => by
      by_cases q : 6 * i + c = 6 * j + p
      · have q1 : i = j := by omega
        have q2 : c = p := by omega
        subst q1; subst q2; rw [uS_eq]; exact he
      · rw [uS_ne q]; exact xkeep h.i hj (Or.inl (by omega)) oq (by omega) (h.fq i c hi hc1))⟩
end XWS
