/-! WHAT STAYS SO: what is told by hand -/
theorem SE_eq {s t : Int → Int} (h : ∀ q : Int, q = 43 ∨ q = 45 ∨ (106 ≤ q ∧ q < 118) → t q = s q) (hk : SE s) : SE t := by
  have h45 := hk.1
  unfold SE at *
  rw [h 45 (by omega), h 43 (by omega)]
  refine ⟨hk.1, fun k h1 h2 => ?_⟩
  rw [h (106 + k) (by omega), h (112 + k) (by omega)]
  exact hk.2 k h1 h2
theorem PN_eq {s t : Int → Int} (h : ∀ q : Int, q = 43 ∨ q = 46 ∨ (118 ≤ q ∧ q < 134) → t q = s q) (hk : PN s) : PN t := by
  have h45 := hk.1
  unfold PN at *
  rw [h 46 (by omega), h 43 (by omega)]
  refine ⟨hk.1, fun k h1 h2 => ?_⟩
  rw [h (118 + k) (by omega), h (126 + k) (by omega)]
  exact hk.2 k h1 h2
theorem BK_eq {s t : Int → Int} (h : ∀ q : Int, q = 43 ∨ q = 47 ∨ (134 ≤ q ∧ q < 158) → t q = s q) (hk : BK s) : BK t := by
  have h45 := hk.1
  unfold BK at *
  rw [h 47 (by omega), h 43 (by omega)]
  refine ⟨hk.1, fun k h1 h2 => ?_⟩
  rw [h (134 + k) (by omega), h (142 + k) (by omega), h (150 + k) (by omega)]
  exact hk.2 k h1 h2
theorem TS_eq {s t : Int → Int} (h : ∀ q : Int, q = 48 ∨ (158 ≤ q ∧ q < 258) → t q = s q) (hk : TS s) : TS t := by
  have h45 := hk.1
  unfold TS at *
  rw [h 48 (by omega)]
  refine ⟨hk.1, fun k h1 h2 => ?_⟩
  rw [h (158 + k) (by omega)]
  exact hk.2 k h1 h2
theorem SI_feed {s : Int → Int} {SL : List Int} {x : Int} (hS : SI s SL) : SI (f_feed s x) SL := by
  have hS2 := hS
  obtain ⟨⟨n1, n2⟩, a2, a3, a4, a5, a6, a7, a8, a9, a10, -⟩ := hS2
  have h48 := a10.1
  unfold f_feed
  split
  · rename_i hx
    split
    · exact hS
    · rename_i h100
      have hh : ∀ q : Int, ¬ (q = 48 ∨ (158 ≤ q ∧ q < 258)) → sU (sU s (158 + s 48) x) 48 (s 48 + 1) q = s q := fun q hq => by rw [sU_ne (by omega), sU_ne (by omega)]
      refine SI_hand hS (fun q hq => hh q (by omega)) (SE_eq (fun q hq => hh q (by omega)) a7) (PN_eq (fun q hq => hh q (by omega)) a8) (BK_eq (fun q hq => hh q (by omega)) a9) ?_
      refine ⟨by rw [sU_eq]; omega, fun p h1 h2 => ?_⟩
      rw [sU_eq] at h2
      rw [sU_ne (by omega), sU_at]
      split
      · omega
      · exact a10.2 p h1 (by omega)
  · exact hS
theorem SI_see {s : Int → Int} {SL : List Int} {m d : Int} (hS : SI s SL) : SI (f_see s m d) SL := by
  have hS2 := hS
  obtain ⟨⟨n1, n2⟩, a2, a3, a4, a5, a6, a7, a8, a9, a10, -⟩ := hS2
  have h45 := a7.1
  unfold f_see
  split
  · have hh : ∀ q : Int, q ≠ 45 → sU s 45 0 q = s q := fun q hq => sU_ne hq
    refine SI_hand hS (fun q hq => hh q (by omega)) ?_ (PN_eq (fun q hq => hh q (by omega)) a8) (BK_eq (fun q hq => hh q (by omega)) a9) (TS_eq (fun q hq => hh q (by omega)) a10)
    exact ⟨by rw [sU_eq]; omega, fun k h1 h2 => by rw [sU_eq] at h2; omega⟩
  · split
    · rename_i hm
      split
      · rename_i hd
        split
        · exact hS
        · have hh : ∀ q : Int, ¬ (q = 45 ∨ (106 ≤ q ∧ q < 118)) → sU (sU (sU s (106 + s 45) m) (112 + s 45) d) 45 (s 45 + 1) q = s q := fun q hq => by rw [sU_ne (by omega), sU_ne (by omega), sU_ne (by omega)]
          refine SI_hand hS (fun q hq => hh q (by omega)) ?_ (PN_eq (fun q hq => hh q (by omega)) a8) (BK_eq (fun q hq => hh q (by omega)) a9) (TS_eq (fun q hq => hh q (by omega)) a10)
          refine ⟨by rw [sU_eq]; omega, fun k h1 h2 => ?_⟩
          rw [sU_eq] at h2
          rw [hh 43 (by omega)]
          by_cases e : k = s 45
          · subst e
            rw [sU_ne (by omega), sU_ne (by omega), sU_eq, sU_ne (by omega), sU_eq]
            omega
          · rw [sU_ne (by omega), sU_ne (by omega), sU_ne (by omega), sU_ne (by omega), sU_ne (by omega), sU_ne (by omega)]
            exact a7.2 k h1 (by omega)
      · exact hS
    · exact hS
theorem SI_plan {s : Int → Int} {SL : List Int} {w m : Int} (hS : SI s SL) : SI (f_plan s w m) SL := by
  have hS2 := hS
  obtain ⟨⟨n1, n2⟩, a2, a3, a4, a5, a6, a7, a8, a9, a10, -⟩ := hS2
  have h46 := a8.1
  have key : ∀ (_ : 0 ≤ w ∧ w ≤ 4) (_ : w < 3 → 0 ≤ m ∧ m ≤ s 43 - 1), SI (if s 46 = 8 then s else sU (sU (sU s (118 + s 46) w) (126 + s 46) m) 46 (s 46 + 1)) SL := by
    intro hw hm
    split
    · exact hS
    · have hh : ∀ q : Int, ¬ (q = 46 ∨ (118 ≤ q ∧ q < 134)) → sU (sU (sU s (118 + s 46) w) (126 + s 46) m) 46 (s 46 + 1) q = s q := fun q hq => by rw [sU_ne (by omega), sU_ne (by omega), sU_ne (by omega)]
      refine SI_hand hS (fun q hq => hh q (by omega)) (SE_eq (fun q hq => hh q (by omega)) a7) ?_ (BK_eq (fun q hq => hh q (by omega)) a9) (TS_eq (fun q hq => hh q (by omega)) a10)
      refine ⟨by rw [sU_eq]; omega, fun k h1 h2 => ?_⟩
      rw [sU_eq] at h2
      rw [hh 43 (by omega)]
      by_cases e : k = s 46
      · subst e
        rw [sU_ne (by omega), sU_ne (by omega), sU_eq, sU_ne (by omega), sU_eq]
        exact ⟨hw, fun q => by have := hm q; omega⟩
      · rw [sU_ne (by omega), sU_ne (by omega), sU_ne (by omega), sU_ne (by omega), sU_ne (by omega), sU_ne (by omega)]
        exact a8.2 k h1 (by omega)
  unfold f_plan
  split
  · have hh : ∀ q : Int, q ≠ 46 → sU s 46 0 q = s q := fun q hq => sU_ne hq
    refine SI_hand hS (fun q hq => hh q (by omega)) (SE_eq (fun q hq => hh q (by omega)) a7) ?_ (BK_eq (fun q hq => hh q (by omega)) a9) (TS_eq (fun q hq => hh q (by omega)) a10)
    exact ⟨by rw [sU_eq]; omega, fun k h1 h2 => by rw [sU_eq] at h2; omega⟩
  · split
    · rename_i hw
      split
      · exact key hw (fun q => by omega)
      · split
        · rename_i hm; exact key hw (fun _ => hm)
        · exact hS
    · exact hS
theorem SI_book {s : Int → Int} {SL : List Int} {m n d : Int} (hS : SI s SL) : SI (f_book s m n d) SL := by
  have hS2 := hS
  obtain ⟨⟨n1, n2⟩, a2, a3, a4, a5, a6, a7, a8, a9, a10, -⟩ := hS2
  have h47 := a9.1
  unfold f_book
  split
  · have hh : ∀ q : Int, q ≠ 47 → sU s 47 0 q = s q := fun q hq => sU_ne hq
    refine SI_hand hS (fun q hq => hh q (by omega)) (SE_eq (fun q hq => hh q (by omega)) a7) (PN_eq (fun q hq => hh q (by omega)) a8) ?_ (TS_eq (fun q hq => hh q (by omega)) a10)
    exact ⟨by rw [sU_eq]; omega, fun k h1 h2 => by rw [sU_eq] at h2; omega⟩
  · split
    · rename_i hm
      split
      · rename_i hn
        split
        · rename_i hd
          split
          · exact hS
          · have hh : ∀ q : Int, ¬ (q = 47 ∨ (134 ≤ q ∧ q < 158)) → sU (sU (sU (sU s (134 + s 47) m) (142 + s 47) n) (150 + s 47) d) 47 (s 47 + 1) q = s q := fun q hq => by rw [sU_ne (by omega), sU_ne (by omega), sU_ne (by omega), sU_ne (by omega)]
            refine SI_hand hS (fun q hq => hh q (by omega)) (SE_eq (fun q hq => hh q (by omega)) a7) (PN_eq (fun q hq => hh q (by omega)) a8) ?_ (TS_eq (fun q hq => hh q (by omega)) a10)
            refine ⟨by rw [sU_eq]; omega, fun k h1 h2 => ?_⟩
            rw [sU_eq] at h2
            rw [hh 43 (by omega)]
            by_cases e : k = s 47
            · subst e
              rw [sU_ne (by omega), sU_ne (by omega), sU_ne (by omega), sU_eq, sU_ne (by omega), sU_ne (by omega), sU_eq, sU_ne (by omega), sU_eq]
              omega
            · rw [sU_ne (by omega), sU_ne (by omega), sU_ne (by omega), sU_ne (by omega), sU_ne (by omega), sU_ne (by omega), sU_ne (by omega), sU_ne (by omega), sU_ne (by omega), sU_ne (by omega), sU_ne (by omega), sU_ne (by omega)]
              exact a9.2 k h1 (by omega)
        · exact hS
      · exact hS
    · exact hS
