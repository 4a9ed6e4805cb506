/-! ROWS OF THE CLASS'S WORLD, exact -/
theorem zcl0 : zCl 0 RX0 TX0 11 tyX0 := ⟨rfl, by decide +kernel, tyX0_ok, nmX0⟩
theorem zcl1 : zCl 1 RX1 TX1 9 tyX1 := ⟨rfl, by decide +kernel, tyX1_ok, nmX1⟩
theorem zcl2 : zCl 2 RX2 TX2 9 tyX2 := ⟨rfl, by decide +kernel, tyX2_ok, nmX2⟩
theorem zcl3 : zCl 3 RX3 TX3 9 tyX3 := ⟨rfl, by decide +kernel, tyX3_ok, nmX3⟩
theorem zcl4 : zCl 4 RX4 TX4 9 tyX4 := ⟨rfl, by decide +kernel, tyX4_ok, nmX4⟩
theorem zcl5 : zCl 5 RX5 TX5 9 tyX5 := ⟨rfl, by decide +kernel, tyX5_ok, nmX5⟩
theorem zcl6 : zCl 6 RX6 TX6 11 tyX6 := ⟨rfl, by decide +kernel, tyX6_ok, nmX6⟩
theorem zcl7 : zCl 7 RX7 TX7 3 tyX7 := ⟨rfl, by decide +kernel, tyX7_ok, nmX7⟩
theorem zcl8 : zCl 8 RX8 TX8 10 tyX8 := ⟨rfl, by decide +kernel, tyX8_ok, nmX8⟩
theorem zcl9 : zCl 9 RX9 TX9 2 tyX9 := ⟨rfl, by decide +kernel, tyX9_ok, nmX9⟩
theorem zcl10 : zCl 10 RX10 TX10 9 tyX10 := ⟨rfl, by decide +kernel, tyX10_ok, nmX10⟩
theorem zcl11 : zCl 11 RX11 TX11 9 tyX11 := ⟨rfl, by decide +kernel, tyX11_ok, nmX11⟩
theorem zf_X11_17 : zFl RX11 17 "MirrorPlate" (TX11 0) := ⟨ztb 228 (by decide +kernel) (by decide +kernel), Or.inl rfl⟩
theorem zf_X11_23 : zFl RX11 23 "MirrorPlate" (TX11 1) := ⟨ztb 229 (by decide +kernel) (by decide +kernel), Or.inl rfl⟩
theorem zf_X11_26 : zFl RX11 26 "MirrorPlate" (TX11 2) := ⟨ztb 230 (by decide +kernel) (by decide +kernel), Or.inl rfl⟩
theorem zf_X11_29 : zFl RX11 29 "MirrorPlate" (TX11 3) := ⟨ztb 231 (by decide +kernel) (by decide +kernel), Or.inl rfl⟩
theorem zf_X11_36 : zFl RX11 36 "MirrorPlate" (TX11 4) := ⟨ztb 232 (by decide +kernel) (by decide +kernel), Or.inl rfl⟩
theorem zf_X11_40 : zFl RX11 40 "MirrorPlate" (TX11 5) := ⟨ztb 233 (by decide +kernel) (by decide +kernel), Or.inl rfl⟩
theorem zf_X11_44 : zFl RX11 44 "MirrorPlate" (TX11 6) := ⟨ztb 234 (by decide +kernel) (by decide +kernel), Or.inl rfl⟩
theorem zf_X11_47 : zFl RX11 47 "MirrorPlate" (TX11 7) := ⟨ztb 235 (by decide +kernel) (by decide +kernel), Or.inl rfl⟩
theorem zf_X11_54 : zFl RX11 54 "MirrorPlate$Bench" (TX0 7) := ⟨ztb 182 (by decide +kernel) (by decide +kernel), Or.inl rfl⟩
theorem zf_X11_68 : zFl RX11 68 "MirrorPlate$Bench" (TX0 4) := ⟨ztb 175 (by decide +kernel) (by decide +kernel), Or.inl rfl⟩
theorem zf_X11_72 : zFl RX11 72 "MirrorPlate$Table" (TX7 0) := ⟨ztb 155 (by decide +kernel) (by decide +kernel), Or.inl rfl⟩
theorem zf_X11_75 : zFl RX11 75 "MirrorPlate$Table" (TX7 2) := ⟨ztb 158 (by decide +kernel) (by decide +kernel), Or.inl rfl⟩
theorem zf_X11_86 : zFl RX11 86 "MirrorPlate$Bench" (TX0 5) := ⟨ztb 178 (by decide +kernel) (by decide +kernel), Or.inl rfl⟩
theorem zf_X11_90 : zFl RX11 90 "MirrorPlate$Bench" (TX0 3) := ⟨ztb 174 (by decide +kernel) (by decide +kernel), Or.inl rfl⟩
theorem zf_X11_91 : zFl RX11 91 "MirrorPlate$Bench" (TX0 6) := ⟨ztb 180 (by decide +kernel) (by decide +kernel), Or.inl rfl⟩
theorem zf_X11_103 : zFl RX11 103 "MirrorPlate$Mark" (TX4 0) := ⟨ztb 88 (by decide +kernel) (by decide +kernel), Or.inl rfl⟩
theorem zf_X11_108 : zFl RX11 108 "MirrorPlate$Mark" (TX4 2) := ⟨ztb 101 (by decide +kernel) (by decide +kernel), Or.inl rfl⟩
theorem zf_X11_111 : zFl RX11 111 "MirrorPlate$Mark" (TX4 3) := ⟨ztb 104 (by decide +kernel) (by decide +kernel), Or.inl rfl⟩
theorem zf_X11_114 : zFl RX11 114 "MirrorPlate$Mark" (TX4 4) := ⟨ztb 112 (by decide +kernel) (by decide +kernel), Or.inl rfl⟩
theorem zf_X11_117 : zFl RX11 117 "MirrorPlate$Mark" (TX4 5) := ⟨ztb 117 (by decide +kernel) (by decide +kernel), Or.inl rfl⟩
theorem zf_X11_121 : zFl RX11 121 "MirrorPlate$Mark" (TX4 6) := ⟨ztb 122 (by decide +kernel) (by decide +kernel), Or.inl rfl⟩
theorem zf_X11_124 : zFl RX11 124 "MirrorPlate$Mark" (TX4 7) := ⟨ztb 124 (by decide +kernel) (by decide +kernel), Or.inl rfl⟩
theorem zf_X11_127 : zFl RX11 127 "MirrorPlate$Mark" (TX4 8) := ⟨ztb 127 (by decide +kernel) (by decide +kernel), Or.inl rfl⟩
theorem zf_X11_130 : zFl RX11 130 "MirrorPlate$Bench" (TX0 2) := ⟨ztb 172 (by decide +kernel) (by decide +kernel), Or.inl rfl⟩
theorem zf_X11_149 : zFl RX11 149 "MirrorPlate$Bench" (TX0 0) := ⟨ztb 168 (by decide +kernel) (by decide +kernel), Or.inl rfl⟩
theorem zf_X11_152 : zFl RX11 152 "MirrorPlate$Bench" (TX0 1) := ⟨ztb 170 (by decide +kernel) (by decide +kernel), Or.inl rfl⟩
theorem zf_X11_155 : zFl RX11 155 "MirrorPlate$Plate" (TX6 9) := ⟨ztb 45 (by decide +kernel) (by decide +kernel), Or.inl rfl⟩
theorem zf_X11_158 : zFl RX11 158 "MirrorPlate$Plate" (TX6 10) := ⟨ztb 49 (by decide +kernel) (by decide +kernel), Or.inl rfl⟩
theorem zf_X11_242 : zFl RX11 242 "MirrorPlate$Bench" (TX0 8) := ⟨ztb 184 (by decide +kernel) (by decide +kernel), Or.inl rfl⟩
theorem zf_X11_254 : zFl RX11 254 "MirrorPlate$Bench" (TX0 9) := ⟨ztb 186 (by decide +kernel) (by decide +kernel), Or.inl rfl⟩
theorem zf_X11_263 : zFl RX11 263 "MirrorPlate$Bench" (TX0 10) := ⟨ztb 188 (by decide +kernel) (by decide +kernel), Or.inl rfl⟩
theorem zf_X11_266 : zFl RX11 266 "MirrorPlate$Trace" (TX9 1) := ⟨ztb 222 (by decide +kernel) (by decide +kernel), Or.inl rfl⟩
theorem zf_X11_279 : zFl RX11 279 "MirrorPlate$Trace" (TX9 0) := ⟨ztb 220 (by decide +kernel) (by decide +kernel), Or.inl rfl⟩
theorem zf_X11_289 : zFl RX11 289 "MirrorPlate" (TX11 8) := ⟨ztb 236 (by decide +kernel) (by decide +kernel), Or.inl rfl⟩
theorem zf_X0_9 : zFl RX0 9 "MirrorPlate$Bench" (TX0 5) := ⟨ztb 177 (by decide +kernel) (by decide +kernel), Or.inl rfl⟩
theorem zf_X0_17 : zFl RX0 17 "MirrorPlate$Bench" (TX0 6) := ⟨ztb 179 (by decide +kernel) (by decide +kernel), Or.inl rfl⟩
theorem zf_X0_29 : zFl RX0 29 "MirrorPlate$Bench" (TX0 7) := ⟨ztb 181 (by decide +kernel) (by decide +kernel), Or.inl rfl⟩
theorem zf_X0_33 : zFl RX0 33 "MirrorPlate$Bench" (TX0 8) := ⟨ztb 183 (by decide +kernel) (by decide +kernel), Or.inl rfl⟩
theorem zf_X0_36 : zFl RX0 36 "MirrorPlate$Bench" (TX0 9) := ⟨ztb 185 (by decide +kernel) (by decide +kernel), Or.inl rfl⟩
theorem zf_X0_39 : zFl RX0 39 "MirrorPlate$Bench" (TX0 10) := ⟨ztb 187 (by decide +kernel) (by decide +kernel), Or.inl rfl⟩
theorem zf_X0_42 : zFl RX0 42 "MirrorPlate$Bench" (TX0 3) := ⟨ztb 173 (by decide +kernel) (by decide +kernel), Or.inl rfl⟩
theorem zf_X0_50 : zFl RX0 50 "MirrorPlate$Bench" (TX0 0) := ⟨ztb 167 (by decide +kernel) (by decide +kernel), Or.inl rfl⟩
theorem zf_X0_53 : zFl RX0 53 "MirrorPlate$Bench" (TX0 1) := ⟨ztb 169 (by decide +kernel) (by decide +kernel), Or.inl rfl⟩
theorem zf_X0_56 : zFl RX0 56 "MirrorPlate$Bench" (TX0 2) := ⟨ztb 171 (by decide +kernel) (by decide +kernel), Or.inl rfl⟩
theorem zf_X0_59 : zFl RX0 59 "MirrorPlate$Bench" (TX0 4) := ⟨ztb 176 (by decide +kernel) (by decide +kernel), Or.inl rfl⟩
theorem zf_X0_83 : zFl RX0 83 "MirrorPlate$Mark" (TX4 6) := ⟨ztb 121 (by decide +kernel) (by decide +kernel), Or.inl rfl⟩
theorem zf_X0_86 : zFl RX0 86 "MirrorPlate$Mark" (TX4 5) := ⟨ztb 116 (by decide +kernel) (by decide +kernel), Or.inl rfl⟩
theorem zf_X0_101 : zFl RX0 101 "MirrorPlate$Plate" (TX6 10) := ⟨ztb 48 (by decide +kernel) (by decide +kernel), Or.inl rfl⟩
theorem zf_X0_104 : zFl RX0 104 "MirrorPlate$Mark" (TX4 8) := ⟨ztb 128 (by decide +kernel) (by decide +kernel), Or.inl rfl⟩
theorem zf_X0_112 : zFl RX0 112 "MirrorPlate$Mark" (TX4 7) := ⟨ztb 125 (by decide +kernel) (by decide +kernel), Or.inl rfl⟩
theorem zf_X0_118 : zFl RX0 118 "MirrorPlate$Mark" (TX4 4) := ⟨ztb 113 (by decide +kernel) (by decide +kernel), Or.inl rfl⟩
theorem zf_X0_121 : zFl RX0 121 "MirrorPlate$Plate" (TX6 9) := ⟨ztb 46 (by decide +kernel) (by decide +kernel), Or.inl rfl⟩
theorem zf_X0_137 : zFl RX0 137 "MirrorPlate$Mark" (TX4 3) := ⟨ztb 105 (by decide +kernel) (by decide +kernel), Or.inl rfl⟩
theorem zf_X0_143 : zFl RX0 143 "MirrorPlate$Table" (TX7 2) := ⟨ztb 159 (by decide +kernel) (by decide +kernel), Or.inl rfl⟩
theorem zf_X1_11 : zFl RX1 11 "MirrorPlate$Hatch" (TX4 2) := ⟨ztb 95 (by decide +kernel) (by decide +kernel), Or.inr (ztb 96 (by decide +kernel) (by decide +kernel))⟩
theorem zf_X2_11 : zFl RX2 11 "MirrorPlate$Letter" (TX4 2) := ⟨ztb 97 (by decide +kernel) (by decide +kernel), Or.inr (ztb 98 (by decide +kernel) (by decide +kernel))⟩
theorem zf_X2_17 : zFl RX2 17 "MirrorPlate$Letter" (TX4 4) := ⟨ztb 110 (by decide +kernel) (by decide +kernel), Or.inr (ztb 111 (by decide +kernel) (by decide +kernel))⟩
theorem zf_X3_7 : zFl RX3 7 "MirrorPlate$Line" (TX4 4) := ⟨ztb 108 (by decide +kernel) (by decide +kernel), Or.inr (ztb 109 (by decide +kernel) (by decide +kernel))⟩
theorem zf_X4_7 : zFl RX4 7 "MirrorPlate$Mark" (TX4 0) := ⟨ztb 87 (by decide +kernel) (by decide +kernel), Or.inl rfl⟩
theorem zf_X4_13 : zFl RX4 13 "MirrorPlate$Mark" (TX4 1) := ⟨ztb 90 (by decide +kernel) (by decide +kernel), Or.inl rfl⟩
theorem zf_X4_16 : zFl RX4 16 "MirrorPlate$Mark" (TX4 2) := ⟨ztb 94 (by decide +kernel) (by decide +kernel), Or.inl rfl⟩
theorem zf_X4_19 : zFl RX4 19 "MirrorPlate$Mark" (TX4 3) := ⟨ztb 103 (by decide +kernel) (by decide +kernel), Or.inl rfl⟩
theorem zf_X4_22 : zFl RX4 22 "MirrorPlate$Mark" (TX4 4) := ⟨ztb 107 (by decide +kernel) (by decide +kernel), Or.inl rfl⟩
theorem zf_X4_25 : zFl RX4 25 "MirrorPlate$Mark" (TX4 5) := ⟨ztb 115 (by decide +kernel) (by decide +kernel), Or.inl rfl⟩
theorem zf_X4_29 : zFl RX4 29 "MirrorPlate$Mark" (TX4 6) := ⟨ztb 118 (by decide +kernel) (by decide +kernel), Or.inl rfl⟩
theorem zf_X4_32 : zFl RX4 32 "MirrorPlate$Mark" (TX4 7) := ⟨ztb 123 (by decide +kernel) (by decide +kernel), Or.inl rfl⟩
theorem zf_X4_35 : zFl RX4 35 "MirrorPlate$Mark" (TX4 8) := ⟨ztb 126 (by decide +kernel) (by decide +kernel), Or.inl rfl⟩
theorem zf_X6_11 : zFl RX6 11 "MirrorPlate$Plate" (TX6 0) := ⟨ztb 35 (by decide +kernel) (by decide +kernel), Or.inl rfl⟩
theorem zf_X6_15 : zFl RX6 15 "MirrorPlate$Plate" (TX6 1) := ⟨ztb 36 (by decide +kernel) (by decide +kernel), Or.inl rfl⟩
theorem zf_X6_18 : zFl RX6 18 "MirrorPlate$Plate" (TX6 2) := ⟨ztb 37 (by decide +kernel) (by decide +kernel), Or.inl rfl⟩
theorem zf_X6_21 : zFl RX6 21 "MirrorPlate$Plate" (TX6 3) := ⟨ztb 38 (by decide +kernel) (by decide +kernel), Or.inl rfl⟩
theorem zf_X6_24 : zFl RX6 24 "MirrorPlate$Plate" (TX6 6) := ⟨ztb 41 (by decide +kernel) (by decide +kernel), Or.inl rfl⟩
theorem zf_X6_27 : zFl RX6 27 "MirrorPlate$Plate" (TX6 9) := ⟨ztb 44 (by decide +kernel) (by decide +kernel), Or.inl rfl⟩
theorem zf_X6_31 : zFl RX6 31 "MirrorPlate$Plate" (TX6 10) := ⟨ztb 47 (by decide +kernel) (by decide +kernel), Or.inl rfl⟩
theorem zf_X6_40 : zFl RX6 40 "MirrorPlate$Plate" (TX6 7) := ⟨ztb 42 (by decide +kernel) (by decide +kernel), Or.inl rfl⟩
theorem zf_X6_43 : zFl RX6 43 "MirrorPlate$Plate" (TX6 8) := ⟨ztb 43 (by decide +kernel) (by decide +kernel), Or.inl rfl⟩
theorem zf_X6_46 : zFl RX6 46 "MirrorPlate$Plate" (TX6 4) := ⟨ztb 39 (by decide +kernel) (by decide +kernel), Or.inl rfl⟩
theorem zf_X6_49 : zFl RX6 49 "MirrorPlate$Plate" (TX6 5) := ⟨ztb 40 (by decide +kernel) (by decide +kernel), Or.inl rfl⟩
theorem zf_X6_119 : zFl RX6 119 "MirrorPlate$Mark" (TX4 1) := ⟨ztb 93 (by decide +kernel) (by decide +kernel), Or.inl rfl⟩
theorem zf_X6_124 : zFl RX6 124 "MirrorPlate$Mark" (TX4 0) := ⟨ztb 89 (by decide +kernel) (by decide +kernel), Or.inl rfl⟩
theorem zf_X6_127 : zFl RX6 127 "MirrorPlate$Mark" (TX4 4) := ⟨ztb 114 (by decide +kernel) (by decide +kernel), Or.inl rfl⟩
theorem zf_X6_130 : zFl RX6 130 "MirrorPlate$Mark" (TX4 3) := ⟨ztb 106 (by decide +kernel) (by decide +kernel), Or.inl rfl⟩
theorem zf_X6_133 : zFl RX6 133 "MirrorPlate$Mark" (TX4 2) := ⟨ztb 102 (by decide +kernel) (by decide +kernel), Or.inl rfl⟩
theorem zf_X7_9 : zFl RX7 9 "MirrorPlate$Table" (TX7 0) := ⟨ztb 154 (by decide +kernel) (by decide +kernel), Or.inl rfl⟩
theorem zf_X7_15 : zFl RX7 15 "MirrorPlate$Table" (TX7 1) := ⟨ztb 156 (by decide +kernel) (by decide +kernel), Or.inl rfl⟩
theorem zf_X7_19 : zFl RX7 19 "MirrorPlate$Table" (TX7 2) := ⟨ztb 157 (by decide +kernel) (by decide +kernel), Or.inl rfl⟩
theorem zf_X8_9 : zFl RX8 9 "MirrorPlate$Told" (TX8 9) := ⟨ztb 526 (by decide +kernel) (by decide +kernel), Or.inl rfl⟩
theorem zf_X8_42 : zFl RX8 42 "MirrorPlate$Told" (TX4 2) := ⟨ztb 99 (by decide +kernel) (by decide +kernel), Or.inr (ztb 100 (by decide +kernel) (by decide +kernel))⟩
theorem zf_X9_7 : zFl RX9 7 "MirrorPlate$Trace" (TX9 0) := ⟨ztb 219 (by decide +kernel) (by decide +kernel), Or.inl rfl⟩
theorem zf_X9_13 : zFl RX9 13 "MirrorPlate$Trace" (TX9 1) := ⟨ztb 221 (by decide +kernel) (by decide +kernel), Or.inl rfl⟩
theorem zf_X10_15 : zFl RX10 15 "MirrorPlate$Turned" (TX4 6) := ⟨ztb 119 (by decide +kernel) (by decide +kernel), Or.inr (ztb 120 (by decide +kernel) (by decide +kernel))⟩
theorem zf_X10_31 : zFl RX10 31 "MirrorPlate$Turned" (TX4 1) := ⟨ztb 91 (by decide +kernel) (by decide +kernel), Or.inr (ztb 92 (by decide +kernel) (by decide +kernel))⟩
theorem zclM {k : Int} (hk : 0 ≤ k ∧ k ≤ 6) : ∃ (C : String) (T : u_T) (N : Nat) (ty : Nat → FieldType), zCl (kcl k) C T N ty ∧ 9 ≤ N ∧ ∀ i, i < 9 → T i = TX4 i ∧ ty i = tyX4 i := by
  have key : ∀ (T : u_T) (ty : Nat → FieldType), (T 0 = TX4 0 ∧ T 1 = TX4 1 ∧ T 2 = TX4 2 ∧ T 3 = TX4 3 ∧ T 4 = TX4 4 ∧ T 5 = TX4 5 ∧ T 6 = TX4 6 ∧ T 7 = TX4 7 ∧ T 8 = TX4 8) → (ty 0 = tyX4 0 ∧ ty 1 = tyX4 1 ∧ ty 2 = tyX4 2 ∧ ty 3 = tyX4 3 ∧ ty 4 = tyX4 4 ∧ ty 5 = tyX4 5 ∧ ty 6 = tyX4 6 ∧ ty 7 = tyX4 7 ∧ ty 8 = tyX4 8) → ∀ i, i < 9 → T i = TX4 i ∧ ty i = tyX4 i := by
    intro T ty h g i hi
    obtain ⟨h0, h1, h2, h3, h4, h5, h6, h7, h8⟩ := h
    obtain ⟨g0, g1, g2, g3, g4, g5, g6, g7, g8⟩ := g
    rcases (show i = 0 ∨ i = 1 ∨ i = 2 ∨ i = 3 ∨ i = 4 ∨ i = 5 ∨ i = 6 ∨ i = 7 ∨ i = 8 by omega) with rfl | rfl | rfl | rfl | rfl | rfl | rfl | rfl | rfl
    · exact ⟨h0, g0⟩
    · exact ⟨h1, g1⟩
    · exact ⟨h2, g2⟩
    · exact ⟨h3, g3⟩
    · exact ⟨h4, g4⟩
    · exact ⟨h5, g5⟩
    · exact ⟨h6, g6⟩
    · exact ⟨h7, g7⟩
    · exact ⟨h8, g8⟩
  rcases (show k = 0 ∨ k = 1 ∨ k = 2 ∨ k = 3 ∨ k = 4 ∨ k = 5 ∨ k = 6 by omega) with rfl | rfl | rfl | rfl | rfl | rfl | rfl
  · exact ⟨_, _, _, _, zcl4, by decide, key _ _ ⟨rfl, rfl, rfl, rfl, rfl, rfl, rfl, rfl, rfl⟩ ⟨rfl, rfl, rfl, rfl, rfl, rfl, rfl, rfl, rfl⟩⟩
  · exact ⟨_, _, _, _, zcl3, by decide, key _ _ ⟨rfl, rfl, rfl, rfl, rfl, rfl, rfl, rfl, rfl⟩ ⟨rfl, rfl, rfl, rfl, rfl, rfl, rfl, rfl, rfl⟩⟩
  · exact ⟨_, _, _, _, zcl2, by decide, key _ _ ⟨rfl, rfl, rfl, rfl, rfl, rfl, rfl, rfl, rfl⟩ ⟨rfl, rfl, rfl, rfl, rfl, rfl, rfl, rfl, rfl⟩⟩
  · exact ⟨_, _, _, _, zcl5, by decide, key _ _ ⟨rfl, rfl, rfl, rfl, rfl, rfl, rfl, rfl, rfl⟩ ⟨rfl, rfl, rfl, rfl, rfl, rfl, rfl, rfl, rfl⟩⟩
  · exact ⟨_, _, _, _, zcl1, by decide, key _ _ ⟨rfl, rfl, rfl, rfl, rfl, rfl, rfl, rfl, rfl⟩ ⟨rfl, rfl, rfl, rfl, rfl, rfl, rfl, rfl, rfl⟩⟩
  · exact ⟨_, _, _, _, zcl10, by decide, key _ _ ⟨rfl, rfl, rfl, rfl, rfl, rfl, rfl, rfl, rfl⟩ ⟨rfl, rfl, rfl, rfl, rfl, rfl, rfl, rfl, rfl⟩⟩
  · exact ⟨_, _, _, _, zcl8, by decide, key _ _ ⟨rfl, rfl, rfl, rfl, rfl, rfl, rfl, rfl, rfl⟩ ⟨rfl, rfl, rfl, rfl, rfl, rfl, rfl, rfl, rfl⟩⟩
section CX
variable {G : Gx} {cc : ByteArray} {nL : Nat} {own ref : String} {rm : Room} {k1 k2 pc k idx : Nat} {lo : List (Nat × Value)} {st : List Value} {v : Value}
variable {D : Dx} {A : Nat → Prop} {ad : Nat → Nat} {K : Int → Int} {hB mB rB tz : Nat → Int → Int} {tc : Nat → Int → Int} {Q qa : Nat → Int → Int} {tp : Nat → Nat} {bo e uc lr nx : Int → Int}
theorem xg0 {b : Nat} (hb : b < 3) (hG : Ok D A G cc nL own rm) (hd : decode cc pc = .ok (.getfield idx, 3)) (hF : zFl own idx ref (TX0 k)) (hk : k < 11) (hv : (bfs ad (hB b) b)[k]? = some v) (kk : V G k1 k2 (XW D A ad K hB mB rB tz tc Q qa tp bo e uc lr nx) (pc + 3) lo (v :: st)) : V G k1 k2 (XW D A ad K hB mB rB tz tc Q qa tp bo e uc lr nx) pc lo (.ref (kB ad b) :: st) := v_get hG hd zcl0 k hF hk (fun H h => h.fb b hb) hv kk
theorem xg7 {b t : Nat} (hb : b < 3) (ht : t < 4) (hG : Ok D A G cc nL own rm) (hd : decode cc pc = .ok (.getfield idx, 3)) (hF : zFl own idx ref (TX7 k)) (hk : k < 3) (hv : (tfs ad b t (tz b t))[k]? = some v) (kk : V G k1 k2 (XW D A ad K hB mB rB tz tc Q qa tp bo e uc lr nx) (pc + 3) lo (v :: st)) : V G k1 k2 (XW D A ad K hB mB rB tz tc Q qa tp bo e uc lr nx) pc lo (.ref (kT ad b t) :: st) := v_get hG hd zcl7 k hF hk (fun H h => h.ft b t hb ht) hv kk
theorem xg6 {p : Nat} (hp : p < 6) (hG : Ok D A G cc nL own rm) (hd : decode cc pc = .ok (.getfield idx, 3)) (hF : zFl own idx ref (TX6 k)) (hk : k < 11) (hv : (pfs ad (Q p) (tp p) p)[k]? = some v) (kk : V G k1 k2 (XW D A ad K hB mB rB tz tc Q qa tp bo e uc lr nx) (pc + 3) lo (v :: st)) : V G k1 k2 (XW D A ad K hB mB rB tz tc Q qa tp bo e uc lr nx) pc lo (.ref (kP ad p) :: st) := v_get hG hd zcl6 k hF hk (fun H h => h.fp p hp) hv kk
theorem xg9  (hG : Ok D A G cc nL own rm) (hd : decode cc pc = .ok (.getfield idx, 3)) (hF : zFl own idx ref (TX9 k)) (hk : k < 2) (hv : ([.ref (ad 3), vI (e 0)])[k]? = some v) (kk : V G k1 k2 (XW D A ad K hB mB rB tz tc Q qa tp bo e uc lr nx) (pc + 3) lo (v :: st)) : V G k1 k2 (XW D A ad K hB mB rB tz tc Q qa tp bo e uc lr nx) pc lo (.ref (ad 2) :: st) := v_get hG hd zcl9 k hF hk (fun H h => h.f2) hv kk
theorem xg11  (hG : Ok D A G cc nL own rm) (hd : decode cc pc = .ok (.getfield idx, 3)) (hF : zFl own idx ref (TX11 k)) (hk : k < 9) (hv : (xfs ad e)[k]? = some v) (kk : V G k1 k2 (XW D A ad K hB mB rB tz tc Q qa tp bo e uc lr nx) (pc + 3) lo (v :: st)) : V G k1 k2 (XW D A ad K hB mB rB tz tc Q qa tp bo e uc lr nx) pc lo (.ref (ad 0) :: st) := v_get hG hd zcl11 k hF hk (fun H h => h.f0) hv kk
theorem xgM {b : Nat} {x : Int} (hb : b < 3) (hx : 0 ≤ x ∧ x < 8) (hG : Ok D A G cc nL own rm) (hd : decode cc pc = .ok (.getfield idx, 3)) (hI : XI A ad K) (hF : zFl own idx ref (TX4 k)) (hk : k < 9) (hv : (mkf ad K (mB b) b x)[k]? = some v) (kk : V G k1 k2 (XW D A ad K hB mB rB tz tc Q qa tp bo e uc lr nx) (pc + 3) lo (v :: st)) : V G k1 k2 (XW D A ad K hB mB rB tz tc Q qa tp bo e uc lr nx) pc lo (.ref (kM ad b x) :: st) := by
  obtain ⟨C, T, N, ty, hz, h9, hT⟩ := zclM (hI.2.2 x hx.1 hx.2)
  exact v_get hG hd hz k (by rw [(hT k hk).1]; exact hF) (by omega) (fun H h => h.fm b x hb hx.1 hx.2) hv kk
theorem xgR {b : Nat} {x : Int} (hb : b < 3) (hx : 0 ≤ x ∧ x < 8) (h6 : K (50 + x) = 6) (hG : Ok D A G cc nL own rm) (hd : decode cc pc = .ok (.getfield idx, 3)) (hF : zFl own idx ref (TX8 9)) (kk : V G k1 k2 (XW D A ad K hB mB rB tz tc Q qa tp bo e uc lr nx) (pc + 3) lo (.ref (kR ad b x) :: st)) : V G k1 k2 (XW D A ad K hB mB rB tz tc Q qa tp bo e uc lr nx) pc lo (.ref (kM ad b x) :: st) := by
  refine v_get hG hd zcl8 9 hF (by decide) (fun H h => by have := h.fm b x hb hx.1 hx.2; rw [h6] at this; exact this) ?_ kk
  unfold mkf
  rw [if_pos h6]
  rfl
theorem x_open (kk : ∀ _ : XI A ad K, V G k1 k2 (XW D A ad K hB mB rB tz tc Q qa tp bo e uc lr nx) pc lo st) : V G k1 k2 (XW D A ad K hB mB rB tz tc Q qa tp bo e uc lr nx) pc lo st := by
  obtain ⟨p, l, e, R, s, m, args, below, meth, c, A', Q⟩ := G
  intro H locs ls hP hS hl
  exact kk hP.i H locs ls hP hS hl
theorem xp0_minute {b : Nat} (hb : b < 3) {z : Int} (hG : Ok D A G cc nL own rm) (hd : decode cc pc = .ok (.putfield idx, 3)) (hF : zFl own idx ref (TX0 0)) (kk : V G k1 k2 (XW D A ad K (uS hB b (sU (hB b) 0 z)) mB rB tz tc Q qa tp bo e uc lr nx) (pc + 3) lo st) : V G k1 k2 (XW D A ad K hB mB rB tz tc Q qa tp bo e uc lr nx) pc lo (vI z :: .ref (kB ad b) :: st) := by
  refine v_put hG hd zcl0 0 hF (by decide) rfl (by rfl) (by rfl) (by show 0 < List.length _; simp [bfs]) (fun H h => ⟨h.fb b hb, h.i.2.1 _ (Or.inl (by omega))⟩) (fun H H' h he _ oq => ?_) kk
  refine xs_b hb h ?_ oq
  have e9 : (bfs ad (hB b) b).set 0 (vI z) = bfs ad (sU (hB b) 0 z) b := by simp [bfs, hc, sU]
  rw [← e9]; exact he
theorem xp0_taken {b : Nat} (hb : b < 3) {z : Int} (hG : Ok D A G cc nL own rm) (hd : decode cc pc = .ok (.putfield idx, 3)) (hF : zFl own idx ref (TX0 1)) (kk : V G k1 k2 (XW D A ad K (uS hB b (sU (hB b) 1 z)) mB rB tz tc Q qa tp bo e uc lr nx) (pc + 3) lo st) : V G k1 k2 (XW D A ad K hB mB rB tz tc Q qa tp bo e uc lr nx) pc lo (vI z :: .ref (kB ad b) :: st) := by
  refine v_put hG hd zcl0 1 hF (by decide) rfl (by rfl) (by rfl) (by show 1 < List.length _; simp [bfs]) (fun H h => ⟨h.fb b hb, h.i.2.1 _ (Or.inl (by omega))⟩) (fun H H' h he _ oq => ?_) kk
  refine xs_b hb h ?_ oq
  have e9 : (bfs ad (hB b) b).set 1 (vI z) = bfs ad (sU (hB b) 1 z) b := by simp [bfs, hc, sU]
  rw [← e9]; exact he
theorem xp0_tired {b : Nat} (hb : b < 3) {z : Int} (hG : Ok D A G cc nL own rm) (hd : decode cc pc = .ok (.putfield idx, 3)) (hF : zFl own idx ref (TX0 2)) (kk : V G k1 k2 (XW D A ad K (uS hB b (sU (hB b) 2 z)) mB rB tz tc Q qa tp bo e uc lr nx) (pc + 3) lo st) : V G k1 k2 (XW D A ad K hB mB rB tz tc Q qa tp bo e uc lr nx) pc lo (vI z :: .ref (kB ad b) :: st) := by
  refine v_put hG hd zcl0 2 hF (by decide) rfl (by rfl) (by rfl) (by show 2 < List.length _; simp [bfs]) (fun H h => ⟨h.fb b hb, h.i.2.1 _ (Or.inl (by omega))⟩) (fun H H' h he _ oq => ?_) kk
  refine xs_b hb h ?_ oq
  have e9 : (bfs ad (hB b) b).set 2 (vI z) = bfs ad (sU (hB b) 2 z) b := by simp [bfs, hc, sU]
  rw [← e9]; exact he
theorem xp0_size {b : Nat} (hb : b < 3) {z : Int} (hG : Ok D A G cc nL own rm) (hd : decode cc pc = .ok (.putfield idx, 3)) (hF : zFl own idx ref (TX0 3)) (kk : V G k1 k2 (XW D A ad K (uS hB b (sU (hB b) 43 z)) mB rB tz tc Q qa tp bo e uc lr nx) (pc + 3) lo st) : V G k1 k2 (XW D A ad K hB mB rB tz tc Q qa tp bo e uc lr nx) pc lo (vI z :: .ref (kB ad b) :: st) := by
  refine v_put hG hd zcl0 3 hF (by decide) rfl (by rfl) (by rfl) (by show 3 < List.length _; simp [bfs]) (fun H h => ⟨h.fb b hb, h.i.2.1 _ (Or.inl (by omega))⟩) (fun H H' h he _ oq => ?_) kk
  refine xs_b hb h ?_ oq
  have e9 : (bfs ad (hB b) b).set 3 (vI z) = bfs ad (sU (hB b) 43 z) b := by simp [bfs, hc, sU]
  rw [← e9]; exact he
theorem xp0_pcount {b : Nat} (hb : b < 3) {z : Int} (hG : Ok D A G cc nL own rm) (hd : decode cc pc = .ok (.putfield idx, 3)) (hF : zFl own idx ref (TX0 4)) (kk : V G k1 k2 (XW D A ad K (uS hB b (sU (hB b) 44 z)) mB rB tz tc Q qa tp bo e uc lr nx) (pc + 3) lo st) : V G k1 k2 (XW D A ad K hB mB rB tz tc Q qa tp bo e uc lr nx) pc lo (vI z :: .ref (kB ad b) :: st) := by
  refine v_put hG hd zcl0 4 hF (by decide) rfl (by rfl) (by rfl) (by show 4 < List.length _; simp [bfs]) (fun H h => ⟨h.fb b hb, h.i.2.1 _ (Or.inl (by omega))⟩) (fun H H' h he _ oq => ?_) kk
  refine xs_b hb h ?_ oq
  have e9 : (bfs ad (hB b) b).set 4 (vI z) = bfs ad (sU (hB b) 44 z) b := by simp [bfs, hc, sU]
  rw [← e9]; exact he
theorem xp6_cc {p : Nat} (hp : p < 6) {z : Int} (hG : Ok D A G cc nL own rm) (hd : decode cc pc = .ok (.putfield idx, 3)) (hF : zFl own idx ref (TX6 4)) (kk : V G k1 k2 (XW D A ad K hB mB rB tz tc (uS Q p (sU (Q p) 0 z)) qa tp bo e uc lr nx) (pc + 3) lo st) : V G k1 k2 (XW D A ad K hB mB rB tz tc Q qa tp bo e uc lr nx) pc lo (vI z :: .ref (kP ad p) :: st) := by
  refine v_put hG hd zcl6 4 hF (by decide) rfl (by rfl) (by rfl) (by show 4 < List.length _; simp [pfs]) (fun H h => ⟨h.fp p hp, h.i.2.1 _ (Or.inl (by omega))⟩) (fun H H' h he _ oq => ?_) kk
  refine xs_p hp h ?_ oq
  have e9 : (pfs ad (Q p) (tp p) p).set 4 (vI z) = pfs ad (sU (Q p) 0 z) (tp p) p := by simp [pfs, hc, sU]
  rw [← e9]; exact he
theorem xp6_kc {p : Nat} (hp : p < 6) {z : Int} (hG : Ok D A G cc nL own rm) (hd : decode cc pc = .ok (.putfield idx, 3)) (hF : zFl own idx ref (TX6 5)) (kk : V G k1 k2 (XW D A ad K hB mB rB tz tc (uS Q p (sU (Q p) 1 z)) qa tp bo e uc lr nx) (pc + 3) lo st) : V G k1 k2 (XW D A ad K hB mB rB tz tc Q qa tp bo e uc lr nx) pc lo (vI z :: .ref (kP ad p) :: st) := by
  refine v_put hG hd zcl6 5 hF (by decide) rfl (by rfl) (by rfl) (by show 5 < List.length _; simp [pfs]) (fun H h => ⟨h.fp p hp, h.i.2.1 _ (Or.inl (by omega))⟩) (fun H H' h he _ oq => ?_) kk
  refine xs_p hp h ?_ oq
  have e9 : (pfs ad (Q p) (tp p) p).set 5 (vI z) = pfs ad (sU (Q p) 1 z) (tp p) p := by simp [pfs, hc, sU]
  rw [← e9]; exact he
theorem xp6_tsize {p : Nat} (hp : p < 6) {z : Int} (hG : Ok D A G cc nL own rm) (hd : decode cc pc = .ok (.putfield idx, 3)) (hF : zFl own idx ref (TX6 7)) (kk : V G k1 k2 (XW D A ad K hB mB rB tz tc (uS Q p (sU (Q p) 2 z)) qa tp bo e uc lr nx) (pc + 3) lo st) : V G k1 k2 (XW D A ad K hB mB rB tz tc Q qa tp bo e uc lr nx) pc lo (vI z :: .ref (kP ad p) :: st) := by
  refine v_put hG hd zcl6 7 hF (by decide) rfl (by rfl) (by rfl) (by show 7 < List.length _; simp [pfs]) (fun H h => ⟨h.fp p hp, h.i.2.1 _ (Or.inl (by omega))⟩) (fun H H' h he _ oq => ?_) kk
  refine xs_p hp h ?_ oq
  have e9 : (pfs ad (Q p) (tp p) p).set 7 (vI z) = pfs ad (sU (Q p) 2 z) (tp p) p := by simp [pfs, hc, sU]
  rw [← e9]; exact he
theorem xp6_at {p : Nat} (hp : p < 6) {z : Int} (hG : Ok D A G cc nL own rm) (hd : decode cc pc = .ok (.putfield idx, 3)) (hF : zFl own idx ref (TX6 8)) (kk : V G k1 k2 (XW D A ad K hB mB rB tz tc (uS Q p (sU (Q p) 3 z)) qa tp bo e uc lr nx) (pc + 3) lo st) : V G k1 k2 (XW D A ad K hB mB rB tz tc Q qa tp bo e uc lr nx) pc lo (vI z :: .ref (kP ad p) :: st) := by
  refine v_put hG hd zcl6 8 hF (by decide) rfl (by rfl) (by rfl) (by show 8 < List.length _; simp [pfs]) (fun H h => ⟨h.fp p hp, h.i.2.1 _ (Or.inl (by omega))⟩) (fun H H' h he _ oq => ?_) kk
  refine xs_p hp h ?_ oq
  have e9 : (pfs ad (Q p) (tp p) p).set 8 (vI z) = pfs ad (sU (Q p) 3 z) (tp p) p := by simp [pfs, hc, sU]
  rw [← e9]; exact he
theorem xp6_wear {p : Nat} (hp : p < 6) {z : Int} (hG : Ok D A G cc nL own rm) (hd : decode cc pc = .ok (.putfield idx, 3)) (hF : zFl own idx ref (TX6 9)) (kk : V G k1 k2 (XW D A ad K hB mB rB tz tc (uS Q p (sU (Q p) 4 z)) qa tp bo e uc lr nx) (pc + 3) lo st) : V G k1 k2 (XW D A ad K hB mB rB tz tc Q qa tp bo e uc lr nx) pc lo (vI z :: .ref (kP ad p) :: st) := by
  refine v_put hG hd zcl6 9 hF (by decide) rfl (by rfl) (by rfl) (by show 9 < List.length _; simp [pfs]) (fun H h => ⟨h.fp p hp, h.i.2.1 _ (Or.inl (by omega))⟩) (fun H H' h he _ oq => ?_) kk
  refine xs_p hp h ?_ oq
  have e9 : (pfs ad (Q p) (tp p) p).set 9 (vI z) = pfs ad (sU (Q p) 4 z) (tp p) p := by simp [pfs, hc, sU]
  rw [← e9]; exact he
theorem xp6_mend {p : Nat} (hp : p < 6) {z : Int} (hG : Ok D A G cc nL own rm) (hd : decode cc pc = .ok (.putfield idx, 3)) (hF : zFl own idx ref (TX6 10)) (kk : V G k1 k2 (XW D A ad K hB mB rB tz tc (uS Q p (sU (Q p) 5 z)) qa tp bo e uc lr nx) (pc + 3) lo st) : V G k1 k2 (XW D A ad K hB mB rB tz tc Q qa tp bo e uc lr nx) pc lo (vI z :: .ref (kP ad p) :: st) := by
  refine v_put hG hd zcl6 10 hF (by decide) rfl (by rfl) (by rfl) (by show 10 < List.length _; simp [pfs]) (fun H h => ⟨h.fp p hp, h.i.2.1 _ (Or.inl (by omega))⟩) (fun H H' h he _ oq => ?_) kk
  refine xs_p hp h ?_ oq
  have e9 : (pfs ad (Q p) (tp p) p).set 10 (vI z) = pfs ad (sU (Q p) 5 z) (tp p) p := by simp [pfs, hc, sU]
  rw [← e9]; exact he
theorem xp7_size {b t : Nat} (hb : b < 3) (ht : t < 4) {z : Int} (hG : Ok D A G cc nL own rm) (hd : decode cc pc = .ok (.putfield idx, 3)) (hF : zFl own idx ref (TX7 2)) (kk : V G k1 k2 (XW D A ad K hB mB rB (uS tz b (sU (tz b) t z)) tc Q qa tp bo e uc lr nx) (pc + 3) lo st) : V G k1 k2 (XW D A ad K hB mB rB tz tc Q qa tp bo e uc lr nx) pc lo (vI z :: .ref (kT ad b t) :: st) := by
  refine v_put hG hd zcl7 2 hF (by decide) rfl (by rfl) (by rfl) (by show 2 < List.length _; simp [tfs]) (fun H h => ⟨h.ft b t hb ht, h.i.2.1 _ (Or.inl (by omega))⟩) (fun H H' h he _ oq => ?_) kk
  refine xs_t hb ht h ?_ oq
  have e9 : (tfs ad b t (tz b t)).set 2 (vI z) = tfs ad b t z := by simp [tfs, hc, sU]
  rw [← e9]; exact he
theorem xp9_ran  {z : Int} (hG : Ok D A G cc nL own rm) (hd : decode cc pc = .ok (.putfield idx, 3)) (hF : zFl own idx ref (TX9 1)) (kk : V G k1 k2 (XW D A ad K hB mB rB tz tc Q qa tp bo (sU e 0 z) uc lr nx) (pc + 3) lo st) : V G k1 k2 (XW D A ad K hB mB rB tz tc Q qa tp bo e uc lr nx) pc lo (vI z :: .ref (ad 2) :: st) := by
  refine v_put hG hd zcl9 1 hF (by decide) rfl (by rfl) (by rfl) (by show 1 < List.length _; simp [bfs]) (fun H h => ⟨h.f2, h.i.2.1 _ (Or.inl (by omega))⟩) (fun H H' h he _ oq => ?_) kk
  refine xs_e0  h ?_ oq
  have e9 : ([.ref (ad 3), vI (e 0)] : List Value).set 1 (vI z) = [.ref (ad 3), vI z] := by simp [bfs, hc, sU]
  rw [← e9]; exact he
theorem xp11_it  {z : Int} (hG : Ok D A G cc nL own rm) (hd : decode cc pc = .ok (.putfield idx, 3)) (hF : zFl own idx ref (TX11 8)) (hz : z = 0 ∨ z = 1) (kk : V G k1 k2 (XW D A ad K hB mB rB tz tc Q qa tp bo (sU e 1 z) uc lr nx) (pc + 3) lo st) : V G k1 k2 (XW D A ad K hB mB rB tz tc Q qa tp bo e uc lr nx) pc lo (vI z :: .ref (ad 0) :: st) := by
  refine v_put hG hd zcl11 8 hF (by decide) rfl (by rcases hz with rfl | rfl <;> rfl) (by rcases hz with rfl | rfl <;> rfl) (by show 8 < List.length _; simp [xfs]) (fun H h => ⟨h.f0, h.i.2.1 _ (Or.inl (by omega))⟩) (fun H H' h he _ oq => ?_) kk
  refine xs_e1  h ?_ oq
  have e9 : (xfs ad e).set 8 (vI z) = xfs ad (sU e 1 z) := by simp [xfs, hc, sU]
  rw [← e9]; exact he
theorem xp0_held {b p : Nat} (hb : b < 3) (hp : p < 6) {f : Int → Int} (hf : hc f = p) (hf2 : f 0 = hB b 0 ∧ f 1 = hB b 1 ∧ f 2 = hB b 2 ∧ f 43 = hB b 43 ∧ f 44 = hB b 44) (hG : Ok D A G cc nL own rm) (hd : decode cc pc = .ok (.putfield idx, 3)) (hF : zFl own idx ref (TX0 5)) (kk : V G k1 k2 (XW D A ad K (uS hB b f) mB rB tz tc Q qa tp bo e uc lr nx) (pc + 3) lo st) : V G k1 k2 (XW D A ad K hB mB rB tz tc Q qa tp bo e uc lr nx) pc lo (.ref (kP ad p) :: .ref (kB ad b) :: st) := by
  refine v_put hG hd zcl0 5 hF (by decide) rfl (by rfl) (by rfl) (by show 5 < List.length _; simp [bfs]) (fun H h => ⟨h.fb b hb, h.i.2.1 _ (Or.inl (by omega))⟩) (fun H H' h he _ oq => ?_) kk
  refine xs_b hb h ?_ oq
  have e9 : (bfs ad (hB b) b).set 5 (.ref (kP ad p)) = bfs ad f b := by
    obtain ⟨f0, f1, f2, f3, f4⟩ := hf2
    simp [bfs, hf, f0, f1, f2, f3, f4]
  rw [← e9]; exact he
theorem xp6_tape {p t : Nat} (hp : p < 6) (hG : Ok D A G cc nL own rm) (hd : decode cc pc = .ok (.putfield idx, 3)) (hF : zFl own idx ref (TX6 6)) (kk : V G k1 k2 (XW D A ad K hB mB rB tz tc Q qa (uN tp p t) bo e uc lr nx) (pc + 3) lo st) : V G k1 k2 (XW D A ad K hB mB rB tz tc Q qa tp bo e uc lr nx) pc lo (.ref t :: .ref (kP ad p) :: st) := by
  refine v_put hG hd zcl6 6 hF (by decide) rfl (by rfl) (by rfl) (by show 6 < List.length _; simp [pfs]) (fun H h => ⟨h.fp p hp, h.i.2.1 _ (Or.inl (by omega))⟩) (fun H H' h he _ oq => ?_) kk
  refine xs_tp hp h ?_ oq
  have e9 : (pfs ad (Q p) (tp p) p).set 6 (.ref t) = pfs ad (Q p) t p := by simp [pfs]
  rw [← e9]; exact he
theorem xpM_depth {b : Nat} {x z : Int} (hb : b < 3) (hx : 0 ≤ x ∧ x < 8) (hG : Ok D A G cc nL own rm) (hd : decode cc pc = .ok (.putfield idx, 3)) (hI : XI A ad K) (hF : zFl own idx ref (TX4 4)) (kk : V G k1 k2 (XW D A ad K hB (uS mB b (sU (mB b) (3 + x) z)) rB tz tc Q qa tp bo e uc lr nx) (pc + 3) lo st) : V G k1 k2 (XW D A ad K hB mB rB tz tc Q qa tp bo e uc lr nx) pc lo (vI z :: .ref (kM ad b x) :: st) := by
  obtain ⟨C, T, N, ty, hz1, h9, hT⟩ := zclM (hI.2.2 x hx.1 hx.2)
  have ht := hT 4 (by decide)
  refine v_put hG hd hz1 4 (by rw [ht.1]; exact hF) (by omega) (by rw [ht.1]; rfl) (by rw [ht.2]; rfl) (by rw [ht.2]; rfl) (by show 4 < List.length _; simp [mkf]) (fun H h => ⟨h.fm b x hb hx.1 hx.2, h.i.2.1 _ (Or.inl (by omega))⟩) (fun H H' h he _ oq => ?_) kk
  refine xs_m hb hx.1 hx.2 (fun y g0 g8 gn => ⟨sU_ne (by omega), sU_ne (by omega), sU_ne (by omega), sU_ne (by omega), sU_ne (by omega)⟩) h ?_ oq
  have e9 : (mkf ad K (mB b) b x).set 4 (vI z) = mkf ad K (sU (mB b) (3 + x) z) b x := by
    unfold mkf
    rw [sU_eq, sU_ne (show (11 : Int) + x ≠ 3 + x by omega), sU_ne (show (19 : Int) + x ≠ 3 + x by omega), sU_ne (show (27 : Int) + x ≠ 3 + x by omega), sU_ne (show (35 : Int) + x ≠ 3 + x by omega)]
    rfl
  rw [← e9]; exact he
theorem xpM_isCut {b : Nat} {x z : Int} (hb : b < 3) (hx : 0 ≤ x ∧ x < 8) (hG : Ok D A G cc nL own rm) (hd : decode cc pc = .ok (.putfield idx, 3)) (hI : XI A ad K) (hF : zFl own idx ref (TX4 5)) (hz : z = 0 ∨ z = 1) (kk : V G k1 k2 (XW D A ad K hB (uS mB b (sU (mB b) (11 + x) z)) rB tz tc Q qa tp bo e uc lr nx) (pc + 3) lo st) : V G k1 k2 (XW D A ad K hB mB rB tz tc Q qa tp bo e uc lr nx) pc lo (vI z :: .ref (kM ad b x) :: st) := by
  obtain ⟨C, T, N, ty, hz1, h9, hT⟩ := zclM (hI.2.2 x hx.1 hx.2)
  have ht := hT 5 (by decide)
  refine v_put hG hd hz1 5 (by rw [ht.1]; exact hF) (by omega) (by rw [ht.1]; rfl) (by rw [ht.2]; rcases hz with rfl | rfl <;> rfl) (by rw [ht.2]; rcases hz with rfl | rfl <;> rfl) (by show 5 < List.length _; simp [mkf]) (fun H h => ⟨h.fm b x hb hx.1 hx.2, h.i.2.1 _ (Or.inl (by omega))⟩) (fun H H' h he _ oq => ?_) kk
  refine xs_m hb hx.1 hx.2 (fun y g0 g8 gn => ⟨sU_ne (by omega), sU_ne (by omega), sU_ne (by omega), sU_ne (by omega), sU_ne (by omega)⟩) h ?_ oq
  have e9 : (mkf ad K (mB b) b x).set 5 (vI z) = mkf ad K (sU (mB b) (11 + x) z) b x := by
    unfold mkf
    rw [sU_ne (show (3 : Int) + x ≠ 11 + x by omega), sU_eq, sU_ne (show (19 : Int) + x ≠ 11 + x by omega), sU_ne (show (27 : Int) + x ≠ 11 + x by omega), sU_ne (show (35 : Int) + x ≠ 11 + x by omega)]
    rfl
  rw [← e9]; exact he
theorem xpM_flaw {b : Nat} {x z : Int} (hb : b < 3) (hx : 0 ≤ x ∧ x < 8) (hG : Ok D A G cc nL own rm) (hd : decode cc pc = .ok (.putfield idx, 3)) (hI : XI A ad K) (hF : zFl own idx ref (TX4 6)) (kk : V G k1 k2 (XW D A ad K hB (uS mB b (sU (mB b) (19 + x) z)) rB tz tc Q qa tp bo e uc lr nx) (pc + 3) lo st) : V G k1 k2 (XW D A ad K hB mB rB tz tc Q qa tp bo e uc lr nx) pc lo (vI z :: .ref (kM ad b x) :: st) := by
  obtain ⟨C, T, N, ty, hz1, h9, hT⟩ := zclM (hI.2.2 x hx.1 hx.2)
  have ht := hT 6 (by decide)
  refine v_put hG hd hz1 6 (by rw [ht.1]; exact hF) (by omega) (by rw [ht.1]; rfl) (by rw [ht.2]; rfl) (by rw [ht.2]; rfl) (by show 6 < List.length _; simp [mkf]) (fun H h => ⟨h.fm b x hb hx.1 hx.2, h.i.2.1 _ (Or.inl (by omega))⟩) (fun H H' h he _ oq => ?_) kk
  refine xs_m hb hx.1 hx.2 (fun y g0 g8 gn => ⟨sU_ne (by omega), sU_ne (by omega), sU_ne (by omega), sU_ne (by omega), sU_ne (by omega)⟩) h ?_ oq
  have e9 : (mkf ad K (mB b) b x).set 6 (vI z) = mkf ad K (sU (mB b) (19 + x) z) b x := by
    unfold mkf
    rw [sU_ne (show (3 : Int) + x ≠ 19 + x by omega), sU_ne (show (11 : Int) + x ≠ 19 + x by omega), sU_eq, sU_ne (show (27 : Int) + x ≠ 19 + x by omega), sU_ne (show (35 : Int) + x ≠ 19 + x by omega)]
    rfl
  rw [← e9]; exact he
theorem xpM_worn {b : Nat} {x z : Int} (hb : b < 3) (hx : 0 ≤ x ∧ x < 8) (hG : Ok D A G cc nL own rm) (hd : decode cc pc = .ok (.putfield idx, 3)) (hI : XI A ad K) (hF : zFl own idx ref (TX4 7)) (kk : V G k1 k2 (XW D A ad K hB (uS mB b (sU (mB b) (27 + x) z)) rB tz tc Q qa tp bo e uc lr nx) (pc + 3) lo st) : V G k1 k2 (XW D A ad K hB mB rB tz tc Q qa tp bo e uc lr nx) pc lo (vI z :: .ref (kM ad b x) :: st) := by
  obtain ⟨C, T, N, ty, hz1, h9, hT⟩ := zclM (hI.2.2 x hx.1 hx.2)
  have ht := hT 7 (by decide)
  refine v_put hG hd hz1 7 (by rw [ht.1]; exact hF) (by omega) (by rw [ht.1]; rfl) (by rw [ht.2]; rfl) (by rw [ht.2]; rfl) (by show 7 < List.length _; simp [mkf]) (fun H h => ⟨h.fm b x hb hx.1 hx.2, h.i.2.1 _ (Or.inl (by omega))⟩) (fun H H' h he _ oq => ?_) kk
  refine xs_m hb hx.1 hx.2 (fun y g0 g8 gn => ⟨sU_ne (by omega), sU_ne (by omega), sU_ne (by omega), sU_ne (by omega), sU_ne (by omega)⟩) h ?_ oq
  have e9 : (mkf ad K (mB b) b x).set 7 (vI z) = mkf ad K (sU (mB b) (27 + x) z) b x := by
    unfold mkf
    rw [sU_ne (show (3 : Int) + x ≠ 27 + x by omega), sU_ne (show (11 : Int) + x ≠ 27 + x by omega), sU_ne (show (19 : Int) + x ≠ 27 + x by omega), sU_eq, sU_ne (show (35 : Int) + x ≠ 27 + x by omega)]
    rfl
  rw [← e9]; exact he
theorem xpM_mended {b : Nat} {x z : Int} (hb : b < 3) (hx : 0 ≤ x ∧ x < 8) (hG : Ok D A G cc nL own rm) (hd : decode cc pc = .ok (.putfield idx, 3)) (hI : XI A ad K) (hF : zFl own idx ref (TX4 8)) (kk : V G k1 k2 (XW D A ad K hB (uS mB b (sU (mB b) (35 + x) z)) rB tz tc Q qa tp bo e uc lr nx) (pc + 3) lo st) : V G k1 k2 (XW D A ad K hB mB rB tz tc Q qa tp bo e uc lr nx) pc lo (vI z :: .ref (kM ad b x) :: st) := by
  obtain ⟨C, T, N, ty, hz1, h9, hT⟩ := zclM (hI.2.2 x hx.1 hx.2)
  have ht := hT 8 (by decide)
  refine v_put hG hd hz1 8 (by rw [ht.1]; exact hF) (by omega) (by rw [ht.1]; rfl) (by rw [ht.2]; rfl) (by rw [ht.2]; rfl) (by show 8 < List.length _; simp [mkf]) (fun H h => ⟨h.fm b x hb hx.1 hx.2, h.i.2.1 _ (Or.inl (by omega))⟩) (fun H H' h he _ oq => ?_) kk
  refine xs_m hb hx.1 hx.2 (fun y g0 g8 gn => ⟨sU_ne (by omega), sU_ne (by omega), sU_ne (by omega), sU_ne (by omega), sU_ne (by omega)⟩) h ?_ oq
  have e9 : (mkf ad K (mB b) b x).set 8 (vI z) = mkf ad K (sU (mB b) (35 + x) z) b x := by
    unfold mkf
    rw [sU_ne (show (3 : Int) + x ≠ 35 + x by omega), sU_ne (show (11 : Int) + x ≠ 35 + x by omega), sU_ne (show (19 : Int) + x ≠ 35 + x by omega), sU_ne (show (27 : Int) + x ≠ 35 + x by omega), sU_eq]
    rfl
  rw [← e9]; exact he
theorem xa_bo  {x z : Int} (hG : Ok D A G cc nL own rm) (hd : decode cc pc = .ok (.iaload, 1)) (hx : 0 ≤ x ∧ x < 20) (hz : bo x = z) (kk : V G k1 k2 (XW D A ad K hB mB rB tz tc Q qa tp bo e uc lr nx) (pc + 1) lo (vI z :: st)) : V G k1 k2 (XW D A ad K hB mB rB tz tc Q qa tp bo e uc lr nx) pc lo (vI x :: .ref (ad 3) :: st) := by
  subst hz
  refine v_iald (n := 20) (f := fun q => bo (q : Int)) hG hd (by decide) hx (fun H h => h.f3) ?_
  rw [Int.toNat_of_nonneg hx.1]
  exact kk
theorem xt_bo  {x v : Int} (hG : Ok D A G cc nL own rm) (hd : decode cc pc = .ok (.iastore, 1)) (hx : 0 ≤ x ∧ x < 20) (kk : V G k1 k2 (XW D A ad K hB mB rB tz tc Q qa tp (sU bo x v) e uc lr nx) (pc + 1) lo st) : V G k1 k2 (XW D A ad K hB mB rB tz tc Q qa tp bo e uc lr nx) pc lo (vI v :: vI x :: .ref (ad 3) :: st) := by
  refine v_iast (n := 20) (f := fun q => bo (q : Int)) hG hd (by decide) hx (fun H h => ⟨h.f3, h.i.2.1 _ (Or.inl (by omega))⟩) (fun H H' h he _ oq => ?_) kk
  refine xs_bo  h ?_ oq
  have e9 : (fun q : Nat => ii (if q = x.toNat then v else bo (q : Int))) = ri (sU (bo) x v) := by
    funext q
    show ii _ = ii (if (q : Int) = x then v else bo q)
    by_cases h : q = x.toNat
    · rw [if_pos h, if_pos (by omega)]
    · rw [if_neg h, if_neg (by omega)]
  rw [e9] at he
  exact he
theorem xl_bo  (hG : Ok D A G cc nL own rm) (hd : decode cc pc = .ok (.arraylength, 1)) (kk : V G k1 k2 (XW D A ad K hB mB rB tz tc Q qa tp bo e uc lr nx) (pc + 1) lo (vI (20) :: st)) : V G k1 k2 (XW D A ad K hB mB rB tz tc Q qa tp bo e uc lr nx) pc lo (.ref (ad 3) :: st) := v_alen 0 hG hd rfl rfl (fun H h => h.f3) kk
theorem xa_uc  {x z : Int} (hG : Ok D A G cc nL own rm) (hd : decode cc pc = .ok (.iaload, 1)) (hx : 0 ≤ x ∧ x < 8) (hz : uc x = z) (kk : V G k1 k2 (XW D A ad K hB mB rB tz tc Q qa tp bo e uc lr nx) (pc + 1) lo (vI z :: st)) : V G k1 k2 (XW D A ad K hB mB rB tz tc Q qa tp bo e uc lr nx) pc lo (vI x :: .ref (ad 4) :: st) := by
  subst hz
  refine v_iald (n := 8) (f := fun q => uc (q : Int)) hG hd (by decide) hx (fun H h => h.f4) ?_
  rw [Int.toNat_of_nonneg hx.1]
  exact kk
theorem xt_uc  {x v : Int} (hG : Ok D A G cc nL own rm) (hd : decode cc pc = .ok (.iastore, 1)) (hx : 0 ≤ x ∧ x < 8) (kk : V G k1 k2 (XW D A ad K hB mB rB tz tc Q qa tp bo e (sU uc x v) lr nx) (pc + 1) lo st) : V G k1 k2 (XW D A ad K hB mB rB tz tc Q qa tp bo e uc lr nx) pc lo (vI v :: vI x :: .ref (ad 4) :: st) := by
  refine v_iast (n := 8) (f := fun q => uc (q : Int)) hG hd (by decide) hx (fun H h => ⟨h.f4, h.i.2.1 _ (Or.inl (by omega))⟩) (fun H H' h he _ oq => ?_) kk
  refine xs_uc  h ?_ oq
  have e9 : (fun q : Nat => ii (if q = x.toNat then v else uc (q : Int))) = ri (sU (uc) x v) := by
    funext q
    show ii _ = ii (if (q : Int) = x then v else uc q)
    by_cases h : q = x.toNat
    · rw [if_pos h, if_pos (by omega)]
    · rw [if_neg h, if_neg (by omega)]
  rw [e9] at he
  exact he
theorem xl_uc  (hG : Ok D A G cc nL own rm) (hd : decode cc pc = .ok (.arraylength, 1)) (kk : V G k1 k2 (XW D A ad K hB mB rB tz tc Q qa tp bo e uc lr nx) (pc + 1) lo (vI (8) :: st)) : V G k1 k2 (XW D A ad K hB mB rB tz tc Q qa tp bo e uc lr nx) pc lo (.ref (ad 4) :: st) := v_alen 0 hG hd rfl rfl (fun H h => h.f4) kk
theorem xa_lr  {x z : Int} (hG : Ok D A G cc nL own rm) (hd : decode cc pc = .ok (.iaload, 1)) (hx : 0 ≤ x ∧ x < 64) (hz : lr x = z) (kk : V G k1 k2 (XW D A ad K hB mB rB tz tc Q qa tp bo e uc lr nx) (pc + 1) lo (vI z :: st)) : V G k1 k2 (XW D A ad K hB mB rB tz tc Q qa tp bo e uc lr nx) pc lo (vI x :: .ref (ad 5) :: st) := by
  subst hz
  refine v_iald (n := 64) (f := fun q => lr (q : Int)) hG hd (by decide) hx (fun H h => h.f5) ?_
  rw [Int.toNat_of_nonneg hx.1]
  exact kk
theorem xt_lr  {x v : Int} (hG : Ok D A G cc nL own rm) (hd : decode cc pc = .ok (.iastore, 1)) (hx : 0 ≤ x ∧ x < 64) (kk : V G k1 k2 (XW D A ad K hB mB rB tz tc Q qa tp bo e uc (sU lr x v) nx) (pc + 1) lo st) : V G k1 k2 (XW D A ad K hB mB rB tz tc Q qa tp bo e uc lr nx) pc lo (vI v :: vI x :: .ref (ad 5) :: st) := by
  refine v_iast (n := 64) (f := fun q => lr (q : Int)) hG hd (by decide) hx (fun H h => ⟨h.f5, h.i.2.1 _ (Or.inl (by omega))⟩) (fun H H' h he _ oq => ?_) kk
  refine xs_lr  h ?_ oq
  have e9 : (fun q : Nat => ii (if q = x.toNat then v else lr (q : Int))) = ri (sU (lr) x v) := by
    funext q
    show ii _ = ii (if (q : Int) = x then v else lr q)
    by_cases h : q = x.toNat
    · rw [if_pos h, if_pos (by omega)]
    · rw [if_neg h, if_neg (by omega)]
  rw [e9] at he
  exact he
theorem xl_lr  (hG : Ok D A G cc nL own rm) (hd : decode cc pc = .ok (.arraylength, 1)) (kk : V G k1 k2 (XW D A ad K hB mB rB tz tc Q qa tp bo e uc lr nx) (pc + 1) lo (vI (64) :: st)) : V G k1 k2 (XW D A ad K hB mB rB tz tc Q qa tp bo e uc lr nx) pc lo (.ref (ad 5) :: st) := v_alen 0 hG hd rfl rfl (fun H h => h.f5) kk
theorem xa_nx  {x z : Int} (hG : Ok D A G cc nL own rm) (hd : decode cc pc = .ok (.iaload, 1)) (hx : 0 ≤ x ∧ x < 64) (hz : nx x = z) (kk : V G k1 k2 (XW D A ad K hB mB rB tz tc Q qa tp bo e uc lr nx) (pc + 1) lo (vI z :: st)) : V G k1 k2 (XW D A ad K hB mB rB tz tc Q qa tp bo e uc lr nx) pc lo (vI x :: .ref (ad 6) :: st) := by
  subst hz
  refine v_iald (n := 64) (f := fun q => nx (q : Int)) hG hd (by decide) hx (fun H h => h.f6) ?_
  rw [Int.toNat_of_nonneg hx.1]
  exact kk
theorem xt_nx  {x v : Int} (hG : Ok D A G cc nL own rm) (hd : decode cc pc = .ok (.iastore, 1)) (hx : 0 ≤ x ∧ x < 64) (kk : V G k1 k2 (XW D A ad K hB mB rB tz tc Q qa tp bo e uc lr (sU nx x v)) (pc + 1) lo st) : V G k1 k2 (XW D A ad K hB mB rB tz tc Q qa tp bo e uc lr nx) pc lo (vI v :: vI x :: .ref (ad 6) :: st) := by
  refine v_iast (n := 64) (f := fun q => nx (q : Int)) hG hd (by decide) hx (fun H h => ⟨h.f6, h.i.2.1 _ (Or.inl (by omega))⟩) (fun H H' h he _ oq => ?_) kk
  refine xs_nx  h ?_ oq
  have e9 : (fun q : Nat => ii (if q = x.toNat then v else nx (q : Int))) = ri (sU (nx) x v) := by
    funext q
    show ii _ = ii (if (q : Int) = x then v else nx q)
    by_cases h : q = x.toNat
    · rw [if_pos h, if_pos (by omega)]
    · rw [if_neg h, if_neg (by omega)]
  rw [e9] at he
  exact he
theorem xl_nx  (hG : Ok D A G cc nL own rm) (hd : decode cc pc = .ok (.arraylength, 1)) (kk : V G k1 k2 (XW D A ad K hB mB rB tz tc Q qa tp bo e uc lr nx) (pc + 1) lo (vI (64) :: st)) : V G k1 k2 (XW D A ad K hB mB rB tz tc Q qa tp bo e uc lr nx) pc lo (.ref (ad 6) :: st) := v_alen 0 hG hd rfl rfl (fun H h => h.f6) kk
theorem xa_c {b t : Nat} (hb : b < 3) (ht : t < 4) {x z : Int} (hG : Ok D A G cc nL own rm) (hd : decode cc pc = .ok (.iaload, 1)) (hx : 0 ≤ x ∧ x < (tlen t : Nat)) (hz : tc (4 * b + t) x = z) (kk : V G k1 k2 (XW D A ad K hB mB rB tz tc Q qa tp bo e uc lr nx) (pc + 1) lo (vI z :: st)) : V G k1 k2 (XW D A ad K hB mB rB tz tc Q qa tp bo e uc lr nx) pc lo (vI x :: .ref (kC ad b t) :: st) := by
  subst hz
  refine v_iald (n := (tlen t)) (f := fun q => tc (4 * b + t) (q : Int)) hG hd (by unfold tlen; (repeat' split) <;> decide) hx (fun H h => h.fc b t hb ht) ?_
  rw [Int.toNat_of_nonneg hx.1]
  exact kk
theorem xt_c {b t : Nat} (hb : b < 3) (ht : t < 4) {x v : Int} (hG : Ok D A G cc nL own rm) (hd : decode cc pc = .ok (.iastore, 1)) (hx : 0 ≤ x ∧ x < (tlen t : Nat)) (kk : V G k1 k2 (XW D A ad K hB mB rB tz (uS tc (4 * b + t) (sU (tc (4 * b + t)) x v)) Q qa tp bo e uc lr nx) (pc + 1) lo st) : V G k1 k2 (XW D A ad K hB mB rB tz tc Q qa tp bo e uc lr nx) pc lo (vI v :: vI x :: .ref (kC ad b t) :: st) := by
  refine v_iast (n := (tlen t)) (f := fun q => tc (4 * b + t) (q : Int)) hG hd (by unfold tlen; (repeat' split) <;> decide) hx (fun H h => ⟨h.fc b t hb ht, h.i.2.1 _ (Or.inl (by omega))⟩) (fun H H' h he _ oq => ?_) kk
  refine xs_c hb ht h ?_ oq
  have e9 : (fun q : Nat => ii (if q = x.toNat then v else tc (4 * b + t) (q : Int))) = ri (sU (tc (4 * b + t)) x v) := by
    funext q
    show ii _ = ii (if (q : Int) = x then v else tc (4 * b + t) q)
    by_cases h : q = x.toNat
    · rw [if_pos h, if_pos (by omega)]
    · rw [if_neg h, if_neg (by omega)]
  rw [e9] at he
  exact he
theorem xl_c {b t : Nat} (hb : b < 3) (ht : t < 4) (hG : Ok D A G cc nL own rm) (hd : decode cc pc = .ok (.arraylength, 1)) (kk : V G k1 k2 (XW D A ad K hB mB rB tz tc Q qa tp bo e uc lr nx) (pc + 1) lo (vI ((tlen t : Nat)) :: st)) : V G k1 k2 (XW D A ad K hB mB rB tz tc Q qa tp bo e uc lr nx) pc lo (.ref (kC ad b t) :: st) := v_alen 0 hG hd rfl rfl (fun H h => h.fc b t hb ht) kk
theorem xa_q {j p : Nat} (hj : j < 4) (hp : p < 6) {x z : Int} (hG : Ok D A G cc nL own rm) (hd : decode cc pc = .ok (.iaload, 1)) (hx : 0 ≤ x ∧ x < (qlen j : Nat)) (hz : qa (6 * j + p) x = z) (kk : V G k1 k2 (XW D A ad K hB mB rB tz tc Q qa tp bo e uc lr nx) (pc + 1) lo (vI z :: st)) : V G k1 k2 (XW D A ad K hB mB rB tz tc Q qa tp bo e uc lr nx) pc lo (vI x :: .ref (kQ ad j p) :: st) := by
  subst hz
  refine v_iald (n := (qlen j)) (f := fun q => qa (6 * j + p) (q : Int)) hG hd (by unfold qlen; (repeat' split) <;> decide) hx (fun H h => h.fq j p hj hp) ?_
  rw [Int.toNat_of_nonneg hx.1]
  exact kk
theorem xt_q {j p : Nat} (hj : j < 4) (hp : p < 6) {x v : Int} (hG : Ok D A G cc nL own rm) (hd : decode cc pc = .ok (.iastore, 1)) (hx : 0 ≤ x ∧ x < (qlen j : Nat)) (kk : V G k1 k2 (XW D A ad K hB mB rB tz tc Q (uS qa (6 * j + p) (sU (qa (6 * j + p)) x v)) tp bo e uc lr nx) (pc + 1) lo st) : V G k1 k2 (XW D A ad K hB mB rB tz tc Q qa tp bo e uc lr nx) pc lo (vI v :: vI x :: .ref (kQ ad j p) :: st) := by
  refine v_iast (n := (qlen j)) (f := fun q => qa (6 * j + p) (q : Int)) hG hd (by unfold qlen; (repeat' split) <;> decide) hx (fun H h => ⟨h.fq j p hj hp, h.i.2.1 _ (Or.inl (by omega))⟩) (fun H H' h he _ oq => ?_) kk
  refine xs_q hj hp h ?_ oq
  have e9 : (fun q : Nat => ii (if q = x.toNat then v else qa (6 * j + p) (q : Int))) = ri (sU (qa (6 * j + p)) x v) := by
    funext q
    show ii _ = ii (if (q : Int) = x then v else qa (6 * j + p) q)
    by_cases h : q = x.toNat
    · rw [if_pos h, if_pos (by omega)]
    · rw [if_neg h, if_neg (by omega)]
  rw [e9] at he
  exact he
theorem xl_q {j p : Nat} (hj : j < 4) (hp : p < 6) (hG : Ok D A G cc nL own rm) (hd : decode cc pc = .ok (.arraylength, 1)) (kk : V G k1 k2 (XW D A ad K hB mB rB tz tc Q qa tp bo e uc lr nx) (pc + 1) lo (vI ((qlen j : Nat)) :: st)) : V G k1 k2 (XW D A ad K hB mB rB tz tc Q qa tp bo e uc lr nx) pc lo (.ref (kQ ad j p) :: st) := v_alen 0 hG hd rfl rfl (fun H h => h.fq j p hj hp) kk
theorem xa_r {b : Nat} {x0 : Int} (hb : b < 3) (hx0 : 0 ≤ x0 ∧ x0 < 8) (h6 : K (50 + x0) = 6) {x z : Int} (hG : Ok D A G cc nL own rm) (hd : decode cc pc = .ok (.iaload, 1)) (hx : 0 ≤ x ∧ x < 4) (hz : rB (8 * b + x0.toNat) x = z) (kk : V G k1 k2 (XW D A ad K hB mB rB tz tc Q qa tp bo e uc lr nx) (pc + 1) lo (vI z :: st)) : V G k1 k2 (XW D A ad K hB mB rB tz tc Q qa tp bo e uc lr nx) pc lo (vI x :: .ref (kR ad b x0) :: st) := by
  subst hz
  refine v_iald (n := 4) (f := fun q => rB (8 * b + x0.toNat) (q : Int)) hG hd (by decide) hx (fun H h => h.fr b x0 hb hx0.1 hx0.2 h6) ?_
  rw [Int.toNat_of_nonneg hx.1]
  exact kk
theorem xt_r {b : Nat} {x0 : Int} (hb : b < 3) (hx0 : 0 ≤ x0 ∧ x0 < 8) (h6 : K (50 + x0) = 6) {x v : Int} (hG : Ok D A G cc nL own rm) (hd : decode cc pc = .ok (.iastore, 1)) (hx : 0 ≤ x ∧ x < 4) (kk : V G k1 k2 (XW D A ad K hB mB (uS rB (8 * b + x0.toNat) (sU (rB (8 * b + x0.toNat)) x v)) tz tc Q qa tp bo e uc lr nx) (pc + 1) lo st) : V G k1 k2 (XW D A ad K hB mB rB tz tc Q qa tp bo e uc lr nx) pc lo (vI v :: vI x :: .ref (kR ad b x0) :: st) := by
  refine v_iast (n := 4) (f := fun q => rB (8 * b + x0.toNat) (q : Int)) hG hd (by decide) hx (fun H h => ⟨h.fr b x0 hb hx0.1 hx0.2 h6, h.i.2.1 _ (dom_row hb hx0.1 hx0.2 h6)⟩) (fun H H' h he _ oq => ?_) kk
  refine xs_r hb hx0.1 hx0.2 h6 h ?_ oq
  have e9 : (fun q : Nat => ii (if q = x.toNat then v else rB (8 * b + x0.toNat) (q : Int))) = ri (sU (rB (8 * b + x0.toNat)) x v) := by
    funext q
    show ii _ = ii (if (q : Int) = x then v else rB (8 * b + x0.toNat) q)
    by_cases h : q = x.toNat
    · rw [if_pos h, if_pos (by omega)]
    · rw [if_neg h, if_neg (by omega)]
  rw [e9] at he
  exact he
theorem xl_r {b : Nat} {x0 : Int} (hb : b < 3) (hx0 : 0 ≤ x0 ∧ x0 < 8) (h6 : K (50 + x0) = 6) (hG : Ok D A G cc nL own rm) (hd : decode cc pc = .ok (.arraylength, 1)) (kk : V G k1 k2 (XW D A ad K hB mB rB tz tc Q qa tp bo e uc lr nx) (pc + 1) lo (vI (4) :: st)) : V G k1 k2 (XW D A ad K hB mB rB tz tc Q qa tp bo e uc lr nx) pc lo (.ref (kR ad b x0) :: st) := v_alen 0 hG hd rfl rfl (fun H h => h.fr b x0 hb hx0.1 hx0.2 h6) kk
theorem xa_M {b : Nat} {x : Int} (hb : b < 3) (hx : 0 ≤ x ∧ x < 8) (hG : Ok D A G cc nL own rm) (hd : decode cc pc = .ok (.aaload, 1)) (kk : V G k1 k2 (XW D A ad K hB mB rB tz tc Q qa tp bo e uc lr nx) (pc + 1) lo (.ref (kM ad b x) :: st)) : V G k1 k2 (XW D A ad K hB mB rB tz tc Q qa tp bo e uc lr nx) pc lo (vI x :: .ref (kA ad b) :: st) := by
  refine v_aald (n := 8) (f := fun q => some (kM ad b (q : Int))) 2 hG hd rfl (by decide) hx (fun H h => h.fa b hb) ?_ kk
  show Value.ref (kM ad b (x.toNat : Int)) = _
  rw [Int.toNat_of_nonneg hx.1]
theorem xa_P {x : Int} (hx : 0 ≤ x ∧ x < 5) (hG : Ok D A G cc nL own rm) (hd : decode cc pc = .ok (.aaload, 1)) (kk : V G k1 k2 (XW D A ad K hB mB rB tz tc Q qa tp bo e uc lr nx) (pc + 1) lo (.ref (kP ad x.toNat) :: st)) : V G k1 k2 (XW D A ad K hB mB rB tz tc Q qa tp bo e uc lr nx) pc lo (vI x :: .ref (ad 1) :: st) :=
  v_aald (n := 5) (f := fun q => some (kP ad q)) 3 hG hd rfl (by decide) hx (fun H h => h.f1) rfl kk
theorem xR0 {b : Nat} (hb : b < 3) : zRv D (XW D A ad K hB mB rB tz tc Q qa tp bo e uc lr nx) (kB ad b) RX0 := fun H h => ⟨0, _, _, h.fb b hb, rfl, rfl⟩
theorem xR7 {b t : Nat} (hb : b < 3) (ht : t < 4) : zRv D (XW D A ad K hB mB rB tz tc Q qa tp bo e uc lr nx) (kT ad b t) RX7 := fun H h => ⟨7, _, _, h.ft b t hb ht, rfl, rfl⟩
theorem xR6 {p : Nat} (hp : p < 6) : zRv D (XW D A ad K hB mB rB tz tc Q qa tp bo e uc lr nx) (kP ad p) RX6 := fun H h => ⟨6, _, _, h.fp p hp, rfl, rfl⟩
theorem xR9  : zRv D (XW D A ad K hB mB rB tz tc Q qa tp bo e uc lr nx) (ad 2) RX9 := fun H h => ⟨9, _, _, h.f2, rfl, rfl⟩
theorem xR11  : zRv D (XW D A ad K hB mB rB tz tc Q qa tp bo e uc lr nx) (ad 0) RX11 := fun H h => ⟨11, _, _, h.f0, rfl, rfl⟩
theorem xRM0 {b : Nat} {x : Int} (hb : b < 3) (hx : 0 ≤ x ∧ x < 8) (hk : K (50 + x) = 0) : zRv D (XW D A ad K hB mB rB tz tc Q qa tp bo e uc lr nx) (kM ad b x) RX4 := fun H h => ⟨4, _, _, by have := h.fm b x hb hx.1 hx.2; rw [hk] at this; exact this, rfl, rfl⟩
theorem xRM1 {b : Nat} {x : Int} (hb : b < 3) (hx : 0 ≤ x ∧ x < 8) (hk : K (50 + x) = 1) : zRv D (XW D A ad K hB mB rB tz tc Q qa tp bo e uc lr nx) (kM ad b x) RX3 := fun H h => ⟨3, _, _, by have := h.fm b x hb hx.1 hx.2; rw [hk] at this; exact this, rfl, rfl⟩
theorem xRM2 {b : Nat} {x : Int} (hb : b < 3) (hx : 0 ≤ x ∧ x < 8) (hk : K (50 + x) = 2) : zRv D (XW D A ad K hB mB rB tz tc Q qa tp bo e uc lr nx) (kM ad b x) RX2 := fun H h => ⟨2, _, _, by have := h.fm b x hb hx.1 hx.2; rw [hk] at this; exact this, rfl, rfl⟩
theorem xRM3 {b : Nat} {x : Int} (hb : b < 3) (hx : 0 ≤ x ∧ x < 8) (hk : K (50 + x) = 3) : zRv D (XW D A ad K hB mB rB tz tc Q qa tp bo e uc lr nx) (kM ad b x) RX5 := fun H h => ⟨5, _, _, by have := h.fm b x hb hx.1 hx.2; rw [hk] at this; exact this, rfl, rfl⟩
theorem xRM4 {b : Nat} {x : Int} (hb : b < 3) (hx : 0 ≤ x ∧ x < 8) (hk : K (50 + x) = 4) : zRv D (XW D A ad K hB mB rB tz tc Q qa tp bo e uc lr nx) (kM ad b x) RX1 := fun H h => ⟨1, _, _, by have := h.fm b x hb hx.1 hx.2; rw [hk] at this; exact this, rfl, rfl⟩
theorem xRM5 {b : Nat} {x : Int} (hb : b < 3) (hx : 0 ≤ x ∧ x < 8) (hk : K (50 + x) = 5) : zRv D (XW D A ad K hB mB rB tz tc Q qa tp bo e uc lr nx) (kM ad b x) RX10 := fun H h => ⟨10, _, _, by have := h.fm b x hb hx.1 hx.2; rw [hk] at this; exact this, rfl, rfl⟩
theorem xRM6 {b : Nat} {x : Int} (hb : b < 3) (hx : 0 ≤ x ∧ x < 8) (hk : K (50 + x) = 6) : zRv D (XW D A ad K hB mB rB tz tc Q qa tp bo e uc lr nx) (kM ad b x) RX8 := fun H h => ⟨8, _, _, by have := h.fm b x hb hx.1 hx.2; rw [hk] at this; exact this, rfl, rfl⟩
end CX
