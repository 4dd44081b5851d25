/-! what the links rest on -/
def pvCl (ci : Nat) (C : String) (T : u_T) (ty0 : Nat → FieldType) : Prop := vwCl[ci]? = some (C, T, pvnf ci) ∧ (∀ w ∈ u_ws C T (pvnf ci), w ∈ zT) ∧ (∀ k, k < pvnf ci → parseFieldDescriptor (T k).2.2.1 = some (ty0 k)) ∧ (∀ a, a < pvnf ci → ∀ b, b < pvnf ci → a ≠ b → (T a).2.1 ≠ (T b).2.1)
theorem pvcl_0 : pvCl 0 RX0 TX0 tyX0 := ⟨rfl, inlX0, tyX0_ok, nmX0⟩
theorem pvcl_1 : pvCl 1 RX1 TX1 tyX1 := ⟨rfl, inlX1, tyX1_ok, nmX1⟩
theorem pvcl_2 : pvCl 2 RX2 TX2 tyX2 := ⟨rfl, inlX2, tyX2_ok, nmX2⟩
theorem pvcl_3 : pvCl 3 RX4 TX4 tyX4 := ⟨rfl, inlX4, tyX4_ok, nmX4⟩
theorem pvcl_4 : pvCl 4 RX5 TX5 tyX5 := ⟨rfl, inlX5, tyX5_ok, nmX5⟩
theorem pvcl_5 : pvCl 5 RX6 TX6 tyX6 := ⟨rfl, inlX6, tyX6_ok, nmX6⟩
theorem pvcl_6 : pvCl 6 RX7 TX7 tyX7 := ⟨rfl, inlX7, tyX7_ok, nmX7⟩
theorem pvcl_7 : pvCl 7 RX8 TX8 tyX8 := ⟨rfl, inlX8, tyX8_ok, nmX8⟩
theorem pvcl_8 : pvCl 8 RX9 TX9 tyX9 := ⟨rfl, inlX9, tyX9_ok, nmX9⟩
theorem pvcl_9 : pvCl 9 RX10 TX10 tyX10 := ⟨rfl, inlX10, tyX10_ok, nmX10⟩
def pvF : List (Nat × Nat × Nat × Nat × Nat) := [(1, 13, 0, 1, 0), (1, 9, 0, 0, 2), (1, 26, 3, 0, 0), (1, 17, 0, 2, 0), (1, 29, 3, 1, 0), (1, 20, 0, 3, 0), (1, 23, 0, 4, 0), (3, 223, 9, 70, 0), (3, 123, 9, 37, 0), (3, 126, 9, 38, 2), (3, 19, 9, 3, 0), (3, 57, 9, 15, 0), (3, 72, 9, 20, 2), (3, 117, 9, 35, 0), (3, 7, 9, 0, 0), (3, 129, 9, 39, 2), (3, 120, 9, 36, 2), (3, 226, 9, 71, 2), (3, 141, 9, 43, 0), (3, 144, 9, 44, 2), (3, 147, 9, 45, 2), (3, 13, 9, 1, 0), (3, 54, 9, 14, 0), (3, 132, 9, 40, 0), (3, 60, 9, 16, 0), (3, 87, 9, 25, 2), (3, 93, 9, 27, 0), (3, 31, 9, 7, 2), (3, 38, 9, 9, 2), (3, 41, 9, 10, 2), (3, 22, 9, 4, 0), (3, 108, 9, 32, 0), (3, 69, 9, 19, 2), (3, 135, 9, 41, 2), (3, 138, 9, 42, 2), (3, 16, 9, 2, 0), (3, 25, 9, 5, 0), (3, 28, 9, 6, 0), (3, 50, 9, 13, 2), (3, 114, 9, 34, 2), (3, 63, 9, 17, 0), (3, 111, 9, 33, 2), (3, 35, 9, 8, 2), (3, 47, 9, 12, 2), (3, 81, 9, 23, 2), (3, 84, 9, 24, 2), (3, 105, 9, 31, 2), (3, 150, 9, 46, 1), (3, 154, 9, 47, 0), (3, 157, 9, 48, 0), (3, 160, 9, 49, 0), (3, 163, 9, 50, 0), (3, 166, 9, 51, 0), (3, 169, 9, 52, 0), (3, 172, 9, 53, 0), (3, 175, 9, 54, 0), (3, 178, 9, 55, 0), (3, 181, 9, 56, 0), (3, 184, 9, 57, 0), (3, 187, 9, 58, 2), (3, 190, 9, 59, 2), (3, 193, 9, 60, 2), (3, 196, 9, 61, 2), (3, 199, 9, 62, 2), (3, 44, 9, 11, 2), (3, 220, 9, 69, 2), (3, 205, 9, 64, 2), (3, 202, 9, 63, 2), (3, 208, 9, 65, 2), (3, 211, 9, 66, 2), (3, 214, 9, 67, 2), (3, 217, 9, 68, 2), (3, 229, 9, 72, 2), (3, 232, 9, 73, 2), (3, 235, 9, 74, 2), (3, 75, 9, 21, 2), (3, 78, 9, 22, 2), (3, 96, 9, 28, 0), (3, 90, 9, 26, 2), (3, 239, 9, 75, 2), (3, 66, 9, 18, 0), (3, 99, 9, 29, 0), (3, 102, 9, 30, 2), (2, 44, 1, 0, 2), (2, 48, 6, 2, 0), (2, 15, 1, 2, 0), (2, 51, 6, 3, 0), (2, 126, 6, 4, 0), (2, 27, 1, 4, 2), (2, 138, 5, 0, 0), (2, 152, 6, 9, 2), (2, 141, 5, 1, 2), (2, 40, 1, 8, 2), (2, 132, 6, 6, 0), (2, 135, 6, 7, 0), (2, 64, 6, 0, 2), (2, 98, 3, 5, 1), (2, 72, 6, 8, 3), (2, 144, 2, 0, 0), (2, 18, 1, 3, 2), (2, 150, 3, 2, 0), (2, 151, 3, 3, 0), (2, 37, 1, 7, 2), (2, 107, 3, 0, 0), (2, 115, 3, 1, 0), (2, 58, 6, 1, 0), (2, 182, 6, 10, 2), (2, 185, 5, 2, 2), (2, 34, 1, 6, 0), (2, 31, 1, 5, 2), (2, 76, 2, 1, 0), (2, 9, 1, 1, 0), (4, 26, 2, 5, 0), (4, 31, 2, 6, 2), (4, 7, 2, 0, 0), (4, 13, 2, 1, 0), (4, 16, 2, 2, 0), (4, 19, 2, 3, 2), (4, 23, 2, 4, 2), (4, 34, 2, 7, 2), (4, 55, 3, 0, 0), (4, 60, 3, 2, 0), (4, 63, 3, 3, 0), (6, 7, 3, 0, 0), (6, 13, 3, 1, 0), (6, 16, 3, 2, 0), (6, 19, 3, 3, 0), (6, 22, 3, 4, 0), (6, 25, 3, 5, 1), (6, 29, 3, 6, 2), (7, 17, 4, 2, 0), (7, 13, 4, 1, 0), (7, 9, 4, 0, 2), (7, 20, 4, 3, 0), (7, 26, 4, 4, 3), (7, 61, 2, 0, 0), (7, 64, 2, 1, 0), (8, 7, 5, 0, 0), (8, 19, 5, 1, 2), (8, 23, 5, 2, 2), (9, 17, 6, 1, 0), (9, 11, 6, 0, 2), (9, 21, 6, 2, 0), (9, 24, 6, 3, 0), (9, 27, 6, 4, 0), (9, 30, 6, 5, 0), (9, 33, 6, 6, 0), (9, 36, 6, 7, 0), (9, 42, 6, 8, 3), (9, 51, 6, 9, 2), (9, 55, 6, 10, 2), (9, 58, 6, 11, 2), (9, 62, 3, 5, 1), (10, 9, 7, 0, 0), (10, 13, 7, 1, 0), (10, 16, 7, 2, 2), (11, 54, 8, 7, 2), (11, 288, 0, 1, 0), (11, 31, 8, 3, 2), (11, 79, 6, 0, 2), (11, 179, 6, 9, 2), (11, 47, 8, 6, 2), (11, 248, 1, 2, 0), (11, 216, 1, 6, 0), (11, 219, 1, 5, 2), (11, 222, 5, 1, 2), (11, 265, 6, 11, 2), (11, 76, 6, 1, 0), (11, 17, 8, 1, 0), (11, 232, 5, 0, 0), (11, 249, 6, 10, 2), (11, 24, 8, 2, 2), (11, 146, 4, 1, 0), (11, 149, 4, 0, 2), (11, 159, 6, 5, 0), (11, 130, 6, 4, 0), (11, 13, 8, 0, 2), (11, 156, 4, 2, 0), (11, 116, 6, 8, 3), (11, 35, 8, 4, 2), (11, 38, 8, 5, 1), (11, 60, 8, 8, 2), (11, 281, 7, 2, 2), (11, 277, 7, 0, 0), (11, 280, 7, 1, 0), (11, 111, 3, 5, 1), (11, 241, 1, 3, 2), (11, 268, 5, 2, 2), (11, 140, 6, 2, 0), (11, 96, 3, 0, 0), (11, 99, 3, 1, 0), (11, 102, 3, 2, 0), (11, 105, 3, 3, 0), (11, 108, 3, 4, 0), (11, 114, 6, 6, 0), (11, 115, 6, 7, 0), (11, 120, 2, 0, 0), (11, 136, 3, 6, 2), (11, 143, 6, 3, 0), (11, 162, 2, 1, 0), (11, 295, 0, 0, 2)]
theorem pvF_0 : pvFL1 (pvcn 1) 13 0 1 0 := ⟨RX0, TX0, tyX0, pvcl_0.1, pvcl_0.2.1, pvcl_0.2.2.1, pvcl_0.2.2.2, by decide, by decide, zm_125, Or.inr (Or.inl ⟨rfl, rfl, rfl⟩)⟩
theorem pvF_1 : pvFL1 (pvcn 1) 9 0 0 2 := ⟨RX0, TX0, tyX0, pvcl_0.1, pvcl_0.2.1, pvcl_0.2.2.1, pvcl_0.2.2.2, by decide, by decide, zm_124, Or.inl rfl⟩
theorem pvF_2 : pvFL1 (pvcn 1) 26 3 0 0 := ⟨RX4, TX4, tyX4, pvcl_3.1, pvcl_3.2.1, pvcl_3.2.2.1, pvcl_3.2.2.2, by decide, by decide, zm_1140, Or.inr (Or.inl ⟨rfl, rfl, rfl⟩)⟩
theorem pvF_3 : pvFL1 (pvcn 1) 17 0 2 0 := ⟨RX0, TX0, tyX0, pvcl_0.1, pvcl_0.2.1, pvcl_0.2.2.1, pvcl_0.2.2.2, by decide, by decide, zm_126, Or.inr (Or.inl ⟨rfl, rfl, rfl⟩)⟩
theorem pvF_4 : pvFL1 (pvcn 1) 29 3 1 0 := ⟨RX4, TX4, tyX4, pvcl_3.1, pvcl_3.2.1, pvcl_3.2.2.1, pvcl_3.2.2.2, by decide, by decide, zm_1141, Or.inr (Or.inl ⟨rfl, rfl, rfl⟩)⟩
theorem pvF_5 : pvFL1 (pvcn 1) 20 0 3 0 := ⟨RX0, TX0, tyX0, pvcl_0.1, pvcl_0.2.1, pvcl_0.2.2.1, pvcl_0.2.2.2, by decide, by decide, zm_127, Or.inr (Or.inl ⟨rfl, rfl, rfl⟩)⟩
theorem pvF_6 : pvFL1 (pvcn 1) 23 0 4 0 := ⟨RX0, TX0, tyX0, pvcl_0.1, pvcl_0.2.1, pvcl_0.2.2.1, pvcl_0.2.2.2, by decide, by decide, zm_128, Or.inr (Or.inl ⟨rfl, rfl, rfl⟩)⟩
theorem pvF_7 : pvFL1 (pvcn 3) 223 9 70 0 := ⟨RX10, TX10, tyX10, pvcl_9.1, pvcl_9.2.1, pvcl_9.2.2.1, pvcl_9.2.2.2, by decide, by decide, zm_210, Or.inr (Or.inl ⟨rfl, rfl, rfl⟩)⟩
theorem pvF_8 : pvFL1 (pvcn 3) 123 9 37 0 := ⟨RX10, TX10, tyX10, pvcl_9.1, pvcl_9.2.1, pvcl_9.2.2.1, pvcl_9.2.2.2, by decide, by decide, zm_177, Or.inr (Or.inl ⟨rfl, rfl, rfl⟩)⟩
theorem pvF_9 : pvFL1 (pvcn 3) 126 9 38 2 := ⟨RX10, TX10, tyX10, pvcl_9.1, pvcl_9.2.1, pvcl_9.2.2.1, pvcl_9.2.2.2, by decide, by decide, zm_178, Or.inl rfl⟩
theorem pvF_10 : pvFL1 (pvcn 3) 19 9 3 0 := ⟨RX10, TX10, tyX10, pvcl_9.1, pvcl_9.2.1, pvcl_9.2.2.1, pvcl_9.2.2.2, by decide, by decide, zm_143, Or.inr (Or.inl ⟨rfl, rfl, rfl⟩)⟩
theorem pvF_11 : pvFL1 (pvcn 3) 57 9 15 0 := ⟨RX10, TX10, tyX10, pvcl_9.1, pvcl_9.2.1, pvcl_9.2.2.1, pvcl_9.2.2.2, by decide, by decide, zm_155, Or.inr (Or.inl ⟨rfl, rfl, rfl⟩)⟩
theorem pvF_12 : pvFL1 (pvcn 3) 72 9 20 2 := ⟨RX10, TX10, tyX10, pvcl_9.1, pvcl_9.2.1, pvcl_9.2.2.1, pvcl_9.2.2.2, by decide, by decide, zm_160, Or.inl rfl⟩
theorem pvF_13 : pvFL1 (pvcn 3) 117 9 35 0 := ⟨RX10, TX10, tyX10, pvcl_9.1, pvcl_9.2.1, pvcl_9.2.2.1, pvcl_9.2.2.2, by decide, by decide, zm_175, Or.inr (Or.inl ⟨rfl, rfl, rfl⟩)⟩
theorem pvF_14 : pvFL1 (pvcn 3) 7 9 0 0 := ⟨RX10, TX10, tyX10, pvcl_9.1, pvcl_9.2.1, pvcl_9.2.2.1, pvcl_9.2.2.2, by decide, by decide, zm_140, Or.inr (Or.inl ⟨rfl, rfl, rfl⟩)⟩
theorem pvF_15 : pvFL1 (pvcn 3) 129 9 39 2 := ⟨RX10, TX10, tyX10, pvcl_9.1, pvcl_9.2.1, pvcl_9.2.2.1, pvcl_9.2.2.2, by decide, by decide, zm_179, Or.inl rfl⟩
theorem pvF_16 : pvFL1 (pvcn 3) 120 9 36 2 := ⟨RX10, TX10, tyX10, pvcl_9.1, pvcl_9.2.1, pvcl_9.2.2.1, pvcl_9.2.2.2, by decide, by decide, zm_176, Or.inl rfl⟩
theorem pvF_17 : pvFL1 (pvcn 3) 226 9 71 2 := ⟨RX10, TX10, tyX10, pvcl_9.1, pvcl_9.2.1, pvcl_9.2.2.1, pvcl_9.2.2.2, by decide, by decide, zm_211, Or.inl rfl⟩
theorem pvF_18 : pvFL1 (pvcn 3) 141 9 43 0 := ⟨RX10, TX10, tyX10, pvcl_9.1, pvcl_9.2.1, pvcl_9.2.2.1, pvcl_9.2.2.2, by decide, by decide, zm_183, Or.inr (Or.inl ⟨rfl, rfl, rfl⟩)⟩
theorem pvF_19 : pvFL1 (pvcn 3) 144 9 44 2 := ⟨RX10, TX10, tyX10, pvcl_9.1, pvcl_9.2.1, pvcl_9.2.2.1, pvcl_9.2.2.2, by decide, by decide, zm_184, Or.inl rfl⟩
theorem pvF_20 : pvFL1 (pvcn 3) 147 9 45 2 := ⟨RX10, TX10, tyX10, pvcl_9.1, pvcl_9.2.1, pvcl_9.2.2.1, pvcl_9.2.2.2, by decide, by decide, zm_185, Or.inl rfl⟩
theorem pvF_21 : pvFL1 (pvcn 3) 13 9 1 0 := ⟨RX10, TX10, tyX10, pvcl_9.1, pvcl_9.2.1, pvcl_9.2.2.1, pvcl_9.2.2.2, by decide, by decide, zm_141, Or.inr (Or.inl ⟨rfl, rfl, rfl⟩)⟩
theorem pvF_22 : pvFL1 (pvcn 3) 54 9 14 0 := ⟨RX10, TX10, tyX10, pvcl_9.1, pvcl_9.2.1, pvcl_9.2.2.1, pvcl_9.2.2.2, by decide, by decide, zm_154, Or.inr (Or.inl ⟨rfl, rfl, rfl⟩)⟩
theorem pvF_23 : pvFL1 (pvcn 3) 132 9 40 0 := ⟨RX10, TX10, tyX10, pvcl_9.1, pvcl_9.2.1, pvcl_9.2.2.1, pvcl_9.2.2.2, by decide, by decide, zm_180, Or.inr (Or.inl ⟨rfl, rfl, rfl⟩)⟩
theorem pvF_24 : pvFL1 (pvcn 3) 60 9 16 0 := ⟨RX10, TX10, tyX10, pvcl_9.1, pvcl_9.2.1, pvcl_9.2.2.1, pvcl_9.2.2.2, by decide, by decide, zm_156, Or.inr (Or.inl ⟨rfl, rfl, rfl⟩)⟩
theorem pvF_25 : pvFL1 (pvcn 3) 87 9 25 2 := ⟨RX10, TX10, tyX10, pvcl_9.1, pvcl_9.2.1, pvcl_9.2.2.1, pvcl_9.2.2.2, by decide, by decide, zm_165, Or.inl rfl⟩
theorem pvF_26 : pvFL1 (pvcn 3) 93 9 27 0 := ⟨RX10, TX10, tyX10, pvcl_9.1, pvcl_9.2.1, pvcl_9.2.2.1, pvcl_9.2.2.2, by decide, by decide, zm_167, Or.inr (Or.inl ⟨rfl, rfl, rfl⟩)⟩
theorem pvF_27 : pvFL1 (pvcn 3) 31 9 7 2 := ⟨RX10, TX10, tyX10, pvcl_9.1, pvcl_9.2.1, pvcl_9.2.2.1, pvcl_9.2.2.2, by decide, by decide, zm_147, Or.inl rfl⟩
theorem pvF_28 : pvFL1 (pvcn 3) 38 9 9 2 := ⟨RX10, TX10, tyX10, pvcl_9.1, pvcl_9.2.1, pvcl_9.2.2.1, pvcl_9.2.2.2, by decide, by decide, zm_149, Or.inl rfl⟩
theorem pvF_29 : pvFL1 (pvcn 3) 41 9 10 2 := ⟨RX10, TX10, tyX10, pvcl_9.1, pvcl_9.2.1, pvcl_9.2.2.1, pvcl_9.2.2.2, by decide, by decide, zm_150, Or.inl rfl⟩
theorem pvF_30 : pvFL1 (pvcn 3) 22 9 4 0 := ⟨RX10, TX10, tyX10, pvcl_9.1, pvcl_9.2.1, pvcl_9.2.2.1, pvcl_9.2.2.2, by decide, by decide, zm_144, Or.inr (Or.inl ⟨rfl, rfl, rfl⟩)⟩
theorem pvF_31 : pvFL1 (pvcn 3) 108 9 32 0 := ⟨RX10, TX10, tyX10, pvcl_9.1, pvcl_9.2.1, pvcl_9.2.2.1, pvcl_9.2.2.2, by decide, by decide, zm_172, Or.inr (Or.inl ⟨rfl, rfl, rfl⟩)⟩
theorem pvF_32 : pvFL1 (pvcn 3) 69 9 19 2 := ⟨RX10, TX10, tyX10, pvcl_9.1, pvcl_9.2.1, pvcl_9.2.2.1, pvcl_9.2.2.2, by decide, by decide, zm_159, Or.inl rfl⟩
theorem pvF_33 : pvFL1 (pvcn 3) 135 9 41 2 := ⟨RX10, TX10, tyX10, pvcl_9.1, pvcl_9.2.1, pvcl_9.2.2.1, pvcl_9.2.2.2, by decide, by decide, zm_181, Or.inl rfl⟩
theorem pvF_34 : pvFL1 (pvcn 3) 138 9 42 2 := ⟨RX10, TX10, tyX10, pvcl_9.1, pvcl_9.2.1, pvcl_9.2.2.1, pvcl_9.2.2.2, by decide, by decide, zm_182, Or.inl rfl⟩
theorem pvF_35 : pvFL1 (pvcn 3) 16 9 2 0 := ⟨RX10, TX10, tyX10, pvcl_9.1, pvcl_9.2.1, pvcl_9.2.2.1, pvcl_9.2.2.2, by decide, by decide, zm_142, Or.inr (Or.inl ⟨rfl, rfl, rfl⟩)⟩
theorem pvF_36 : pvFL1 (pvcn 3) 25 9 5 0 := ⟨RX10, TX10, tyX10, pvcl_9.1, pvcl_9.2.1, pvcl_9.2.2.1, pvcl_9.2.2.2, by decide, by decide, zm_145, Or.inr (Or.inl ⟨rfl, rfl, rfl⟩)⟩
theorem pvF_37 : pvFL1 (pvcn 3) 28 9 6 0 := ⟨RX10, TX10, tyX10, pvcl_9.1, pvcl_9.2.1, pvcl_9.2.2.1, pvcl_9.2.2.2, by decide, by decide, zm_146, Or.inr (Or.inl ⟨rfl, rfl, rfl⟩)⟩
theorem pvF_38 : pvFL1 (pvcn 3) 50 9 13 2 := ⟨RX10, TX10, tyX10, pvcl_9.1, pvcl_9.2.1, pvcl_9.2.2.1, pvcl_9.2.2.2, by decide, by decide, zm_153, Or.inl rfl⟩
theorem pvF_39 : pvFL1 (pvcn 3) 114 9 34 2 := ⟨RX10, TX10, tyX10, pvcl_9.1, pvcl_9.2.1, pvcl_9.2.2.1, pvcl_9.2.2.2, by decide, by decide, zm_174, Or.inl rfl⟩
theorem pvF_40 : pvFL1 (pvcn 3) 63 9 17 0 := ⟨RX10, TX10, tyX10, pvcl_9.1, pvcl_9.2.1, pvcl_9.2.2.1, pvcl_9.2.2.2, by decide, by decide, zm_157, Or.inr (Or.inl ⟨rfl, rfl, rfl⟩)⟩
theorem pvF_41 : pvFL1 (pvcn 3) 111 9 33 2 := ⟨RX10, TX10, tyX10, pvcl_9.1, pvcl_9.2.1, pvcl_9.2.2.1, pvcl_9.2.2.2, by decide, by decide, zm_173, Or.inl rfl⟩
theorem pvF_42 : pvFL1 (pvcn 3) 35 9 8 2 := ⟨RX10, TX10, tyX10, pvcl_9.1, pvcl_9.2.1, pvcl_9.2.2.1, pvcl_9.2.2.2, by decide, by decide, zm_148, Or.inl rfl⟩
theorem pvF_43 : pvFL1 (pvcn 3) 47 9 12 2 := ⟨RX10, TX10, tyX10, pvcl_9.1, pvcl_9.2.1, pvcl_9.2.2.1, pvcl_9.2.2.2, by decide, by decide, zm_152, Or.inl rfl⟩
theorem pvF_44 : pvFL1 (pvcn 3) 81 9 23 2 := ⟨RX10, TX10, tyX10, pvcl_9.1, pvcl_9.2.1, pvcl_9.2.2.1, pvcl_9.2.2.2, by decide, by decide, zm_163, Or.inl rfl⟩
theorem pvF_45 : pvFL1 (pvcn 3) 84 9 24 2 := ⟨RX10, TX10, tyX10, pvcl_9.1, pvcl_9.2.1, pvcl_9.2.2.1, pvcl_9.2.2.2, by decide, by decide, zm_164, Or.inl rfl⟩
theorem pvF_46 : pvFL1 (pvcn 3) 105 9 31 2 := ⟨RX10, TX10, tyX10, pvcl_9.1, pvcl_9.2.1, pvcl_9.2.2.1, pvcl_9.2.2.2, by decide, by decide, zm_171, Or.inl rfl⟩
theorem pvF_47 : pvFL1 (pvcn 3) 150 9 46 1 := ⟨RX10, TX10, tyX10, pvcl_9.1, pvcl_9.2.1, pvcl_9.2.2.1, pvcl_9.2.2.2, by decide, by decide, zm_186, Or.inr (Or.inr (Or.inl ⟨rfl, rfl, rfl⟩))⟩
theorem pvF_48 : pvFL1 (pvcn 3) 154 9 47 0 := ⟨RX10, TX10, tyX10, pvcl_9.1, pvcl_9.2.1, pvcl_9.2.2.1, pvcl_9.2.2.2, by decide, by decide, zm_187, Or.inr (Or.inl ⟨rfl, rfl, rfl⟩)⟩
theorem pvF_49 : pvFL1 (pvcn 3) 157 9 48 0 := ⟨RX10, TX10, tyX10, pvcl_9.1, pvcl_9.2.1, pvcl_9.2.2.1, pvcl_9.2.2.2, by decide, by decide, zm_188, Or.inr (Or.inl ⟨rfl, rfl, rfl⟩)⟩
theorem pvF_50 : pvFL1 (pvcn 3) 160 9 49 0 := ⟨RX10, TX10, tyX10, pvcl_9.1, pvcl_9.2.1, pvcl_9.2.2.1, pvcl_9.2.2.2, by decide, by decide, zm_189, Or.inr (Or.inl ⟨rfl, rfl, rfl⟩)⟩
theorem pvF_51 : pvFL1 (pvcn 3) 163 9 50 0 := ⟨RX10, TX10, tyX10, pvcl_9.1, pvcl_9.2.1, pvcl_9.2.2.1, pvcl_9.2.2.2, by decide, by decide, zm_190, Or.inr (Or.inl ⟨rfl, rfl, rfl⟩)⟩
theorem pvF_52 : pvFL1 (pvcn 3) 166 9 51 0 := ⟨RX10, TX10, tyX10, pvcl_9.1, pvcl_9.2.1, pvcl_9.2.2.1, pvcl_9.2.2.2, by decide, by decide, zm_191, Or.inr (Or.inl ⟨rfl, rfl, rfl⟩)⟩
theorem pvF_53 : pvFL1 (pvcn 3) 169 9 52 0 := ⟨RX10, TX10, tyX10, pvcl_9.1, pvcl_9.2.1, pvcl_9.2.2.1, pvcl_9.2.2.2, by decide, by decide, zm_192, Or.inr (Or.inl ⟨rfl, rfl, rfl⟩)⟩
theorem pvF_54 : pvFL1 (pvcn 3) 172 9 53 0 := ⟨RX10, TX10, tyX10, pvcl_9.1, pvcl_9.2.1, pvcl_9.2.2.1, pvcl_9.2.2.2, by decide, by decide, zm_193, Or.inr (Or.inl ⟨rfl, rfl, rfl⟩)⟩
theorem pvF_55 : pvFL1 (pvcn 3) 175 9 54 0 := ⟨RX10, TX10, tyX10, pvcl_9.1, pvcl_9.2.1, pvcl_9.2.2.1, pvcl_9.2.2.2, by decide, by decide, zm_194, Or.inr (Or.inl ⟨rfl, rfl, rfl⟩)⟩
theorem pvF_56 : pvFL1 (pvcn 3) 178 9 55 0 := ⟨RX10, TX10, tyX10, pvcl_9.1, pvcl_9.2.1, pvcl_9.2.2.1, pvcl_9.2.2.2, by decide, by decide, zm_195, Or.inr (Or.inl ⟨rfl, rfl, rfl⟩)⟩
theorem pvF_57 : pvFL1 (pvcn 3) 181 9 56 0 := ⟨RX10, TX10, tyX10, pvcl_9.1, pvcl_9.2.1, pvcl_9.2.2.1, pvcl_9.2.2.2, by decide, by decide, zm_196, Or.inr (Or.inl ⟨rfl, rfl, rfl⟩)⟩
theorem pvF_58 : pvFL1 (pvcn 3) 184 9 57 0 := ⟨RX10, TX10, tyX10, pvcl_9.1, pvcl_9.2.1, pvcl_9.2.2.1, pvcl_9.2.2.2, by decide, by decide, zm_197, Or.inr (Or.inl ⟨rfl, rfl, rfl⟩)⟩
theorem pvF_59 : pvFL1 (pvcn 3) 187 9 58 2 := ⟨RX10, TX10, tyX10, pvcl_9.1, pvcl_9.2.1, pvcl_9.2.2.1, pvcl_9.2.2.2, by decide, by decide, zm_198, Or.inl rfl⟩
theorem pvF_60 : pvFL1 (pvcn 3) 190 9 59 2 := ⟨RX10, TX10, tyX10, pvcl_9.1, pvcl_9.2.1, pvcl_9.2.2.1, pvcl_9.2.2.2, by decide, by decide, zm_199, Or.inl rfl⟩
theorem pvF_61 : pvFL1 (pvcn 3) 193 9 60 2 := ⟨RX10, TX10, tyX10, pvcl_9.1, pvcl_9.2.1, pvcl_9.2.2.1, pvcl_9.2.2.2, by decide, by decide, zm_200, Or.inl rfl⟩
theorem pvF_62 : pvFL1 (pvcn 3) 196 9 61 2 := ⟨RX10, TX10, tyX10, pvcl_9.1, pvcl_9.2.1, pvcl_9.2.2.1, pvcl_9.2.2.2, by decide, by decide, zm_201, Or.inl rfl⟩
theorem pvF_63 : pvFL1 (pvcn 3) 199 9 62 2 := ⟨RX10, TX10, tyX10, pvcl_9.1, pvcl_9.2.1, pvcl_9.2.2.1, pvcl_9.2.2.2, by decide, by decide, zm_202, Or.inl rfl⟩
theorem pvF_64 : pvFL1 (pvcn 3) 44 9 11 2 := ⟨RX10, TX10, tyX10, pvcl_9.1, pvcl_9.2.1, pvcl_9.2.2.1, pvcl_9.2.2.2, by decide, by decide, zm_151, Or.inl rfl⟩
theorem pvF_65 : pvFL1 (pvcn 3) 220 9 69 2 := ⟨RX10, TX10, tyX10, pvcl_9.1, pvcl_9.2.1, pvcl_9.2.2.1, pvcl_9.2.2.2, by decide, by decide, zm_209, Or.inl rfl⟩
theorem pvF_66 : pvFL1 (pvcn 3) 205 9 64 2 := ⟨RX10, TX10, tyX10, pvcl_9.1, pvcl_9.2.1, pvcl_9.2.2.1, pvcl_9.2.2.2, by decide, by decide, zm_204, Or.inl rfl⟩
theorem pvF_67 : pvFL1 (pvcn 3) 202 9 63 2 := ⟨RX10, TX10, tyX10, pvcl_9.1, pvcl_9.2.1, pvcl_9.2.2.1, pvcl_9.2.2.2, by decide, by decide, zm_203, Or.inl rfl⟩
theorem pvF_68 : pvFL1 (pvcn 3) 208 9 65 2 := ⟨RX10, TX10, tyX10, pvcl_9.1, pvcl_9.2.1, pvcl_9.2.2.1, pvcl_9.2.2.2, by decide, by decide, zm_205, Or.inl rfl⟩
theorem pvF_69 : pvFL1 (pvcn 3) 211 9 66 2 := ⟨RX10, TX10, tyX10, pvcl_9.1, pvcl_9.2.1, pvcl_9.2.2.1, pvcl_9.2.2.2, by decide, by decide, zm_206, Or.inl rfl⟩
theorem pvF_70 : pvFL1 (pvcn 3) 214 9 67 2 := ⟨RX10, TX10, tyX10, pvcl_9.1, pvcl_9.2.1, pvcl_9.2.2.1, pvcl_9.2.2.2, by decide, by decide, zm_207, Or.inl rfl⟩
theorem pvF_71 : pvFL1 (pvcn 3) 217 9 68 2 := ⟨RX10, TX10, tyX10, pvcl_9.1, pvcl_9.2.1, pvcl_9.2.2.1, pvcl_9.2.2.2, by decide, by decide, zm_208, Or.inl rfl⟩
theorem pvF_72 : pvFL1 (pvcn 3) 229 9 72 2 := ⟨RX10, TX10, tyX10, pvcl_9.1, pvcl_9.2.1, pvcl_9.2.2.1, pvcl_9.2.2.2, by decide, by decide, zm_212, Or.inl rfl⟩
theorem pvF_73 : pvFL1 (pvcn 3) 232 9 73 2 := ⟨RX10, TX10, tyX10, pvcl_9.1, pvcl_9.2.1, pvcl_9.2.2.1, pvcl_9.2.2.2, by decide, by decide, zm_213, Or.inl rfl⟩
theorem pvF_74 : pvFL1 (pvcn 3) 235 9 74 2 := ⟨RX10, TX10, tyX10, pvcl_9.1, pvcl_9.2.1, pvcl_9.2.2.1, pvcl_9.2.2.2, by decide, by decide, zm_214, Or.inl rfl⟩
theorem pvF_75 : pvFL1 (pvcn 3) 75 9 21 2 := ⟨RX10, TX10, tyX10, pvcl_9.1, pvcl_9.2.1, pvcl_9.2.2.1, pvcl_9.2.2.2, by decide, by decide, zm_161, Or.inl rfl⟩
theorem pvF_76 : pvFL1 (pvcn 3) 78 9 22 2 := ⟨RX10, TX10, tyX10, pvcl_9.1, pvcl_9.2.1, pvcl_9.2.2.1, pvcl_9.2.2.2, by decide, by decide, zm_162, Or.inl rfl⟩
theorem pvF_77 : pvFL1 (pvcn 3) 96 9 28 0 := ⟨RX10, TX10, tyX10, pvcl_9.1, pvcl_9.2.1, pvcl_9.2.2.1, pvcl_9.2.2.2, by decide, by decide, zm_168, Or.inr (Or.inl ⟨rfl, rfl, rfl⟩)⟩
theorem pvF_78 : pvFL1 (pvcn 3) 90 9 26 2 := ⟨RX10, TX10, tyX10, pvcl_9.1, pvcl_9.2.1, pvcl_9.2.2.1, pvcl_9.2.2.2, by decide, by decide, zm_166, Or.inl rfl⟩
theorem pvF_79 : pvFL1 (pvcn 3) 239 9 75 2 := ⟨RX10, TX10, tyX10, pvcl_9.1, pvcl_9.2.1, pvcl_9.2.2.1, pvcl_9.2.2.2, by decide, by decide, zm_215, Or.inl rfl⟩
theorem pvF_80 : pvFL1 (pvcn 3) 66 9 18 0 := ⟨RX10, TX10, tyX10, pvcl_9.1, pvcl_9.2.1, pvcl_9.2.2.1, pvcl_9.2.2.2, by decide, by decide, zm_158, Or.inr (Or.inl ⟨rfl, rfl, rfl⟩)⟩
theorem pvF_81 : pvFL1 (pvcn 3) 99 9 29 0 := ⟨RX10, TX10, tyX10, pvcl_9.1, pvcl_9.2.1, pvcl_9.2.2.1, pvcl_9.2.2.2, by decide, by decide, zm_169, Or.inr (Or.inl ⟨rfl, rfl, rfl⟩)⟩
theorem pvF_82 : pvFL1 (pvcn 3) 102 9 30 2 := ⟨RX10, TX10, tyX10, pvcl_9.1, pvcl_9.2.1, pvcl_9.2.2.1, pvcl_9.2.2.2, by decide, by decide, zm_170, Or.inl rfl⟩
theorem pvF_83 : pvFL1 (pvcn 2) 44 1 0 2 := ⟨RX1, TX1, tyX1, pvcl_1.1, pvcl_1.2.1, pvcl_1.2.2.1, pvcl_1.2.2.2, by decide, by decide, zm_119, Or.inl rfl⟩
theorem pvF_84 : pvFL1 (pvcn 2) 48 6 2 0 := ⟨RX7, TX7, tyX7, pvcl_6.1, pvcl_6.2.1, pvcl_6.2.2.1, pvcl_6.2.2.2, by decide, by decide, zm_278, Or.inr (Or.inl ⟨rfl, rfl, rfl⟩)⟩
theorem pvF_85 : pvFL1 (pvcn 2) 15 1 2 0 := ⟨RX1, TX1, tyX1, pvcl_1.1, pvcl_1.2.1, pvcl_1.2.2.1, pvcl_1.2.2.2, by decide, by decide, zm_110, Or.inr (Or.inl ⟨rfl, rfl, rfl⟩)⟩
theorem pvF_86 : pvFL1 (pvcn 2) 51 6 3 0 := ⟨RX7, TX7, tyX7, pvcl_6.1, pvcl_6.2.1, pvcl_6.2.2.1, pvcl_6.2.2.2, by decide, by decide, zm_279, Or.inr (Or.inl ⟨rfl, rfl, rfl⟩)⟩
theorem pvF_87 : pvFL1 (pvcn 2) 126 6 4 0 := ⟨RX7, TX7, tyX7, pvcl_6.1, pvcl_6.2.1, pvcl_6.2.2.1, pvcl_6.2.2.2, by decide, by decide, zm_815, Or.inr (Or.inl ⟨rfl, rfl, rfl⟩)⟩
theorem pvF_88 : pvFL1 (pvcn 2) 27 1 4 2 := ⟨RX1, TX1, tyX1, pvcl_1.1, pvcl_1.2.1, pvcl_1.2.2.1, pvcl_1.2.2.2, by decide, by decide, zm_113, Or.inl rfl⟩
theorem pvF_89 : pvFL1 (pvcn 2) 138 5 0 0 := ⟨RX6, TX6, tyX6, pvcl_5.1, pvcl_5.2.1, pvcl_5.2.2.1, pvcl_5.2.2.2, by decide, by decide, zm_814, Or.inr (Or.inl ⟨rfl, rfl, rfl⟩)⟩
theorem pvF_90 : pvFL1 (pvcn 2) 152 6 9 2 := ⟨RX7, TX7, tyX7, pvcl_6.1, pvcl_6.2.1, pvcl_6.2.2.1, pvcl_6.2.2.2, by decide, by decide, zm_813, Or.inl rfl⟩
theorem pvF_91 : pvFL1 (pvcn 2) 141 5 1 2 := ⟨RX6, TX6, tyX6, pvcl_5.1, pvcl_5.2.1, pvcl_5.2.2.1, pvcl_5.2.2.2, by decide, by decide, zm_822, Or.inl rfl⟩
theorem pvF_92 : pvFL1 (pvcn 2) 40 1 8 2 := ⟨RX1, TX1, tyX1, pvcl_1.1, pvcl_1.2.1, pvcl_1.2.2.1, pvcl_1.2.2.2, by decide, by decide, zm_118, Or.inl rfl⟩
theorem pvF_93 : pvFL1 (pvcn 2) 132 6 6 0 := ⟨RX7, TX7, tyX7, pvcl_6.1, pvcl_6.2.1, pvcl_6.2.2.1, pvcl_6.2.2.2, by decide, by decide, zm_820, Or.inr (Or.inl ⟨rfl, rfl, rfl⟩)⟩
theorem pvF_94 : pvFL1 (pvcn 2) 135 6 7 0 := ⟨RX7, TX7, tyX7, pvcl_6.1, pvcl_6.2.1, pvcl_6.2.2.1, pvcl_6.2.2.2, by decide, by decide, zm_821, Or.inr (Or.inl ⟨rfl, rfl, rfl⟩)⟩
theorem pvF_95 : pvFL1 (pvcn 2) 64 6 0 2 := ⟨RX7, TX7, tyX7, pvcl_6.1, pvcl_6.2.1, pvcl_6.2.2.1, pvcl_6.2.2.2, by decide, by decide, zm_289, Or.inl rfl⟩
theorem pvF_96 : pvFL1 (pvcn 2) 98 3 5 1 := ⟨RX4, TX4, tyX4, pvcl_3.1, pvcl_3.2.1, pvcl_3.2.2.1, pvcl_3.2.2.2, by decide, by decide, zm_329, Or.inr (Or.inr (Or.inl ⟨rfl, rfl, rfl⟩))⟩
theorem pvF_97 : pvFL1 (pvcn 2) 72 6 8 3 := ⟨RX7, TX7, tyX7, pvcl_6.1, pvcl_6.2.1, pvcl_6.2.2.1, pvcl_6.2.2.2, by decide, by decide, zm_290, Or.inr (Or.inr (Or.inr ⟨rfl, rfl, _, rfl⟩))⟩
theorem pvF_98 : pvFL1 (pvcn 2) 144 2 0 0 := ⟨RX2, TX2, tyX2, pvcl_2.1, pvcl_2.2.1, pvcl_2.2.2.1, pvcl_2.2.2.2, by decide, by decide, zm_823, Or.inr (Or.inl ⟨rfl, rfl, rfl⟩)⟩
theorem pvF_99 : pvFL1 (pvcn 2) 18 1 3 2 := ⟨RX1, TX1, tyX1, pvcl_1.1, pvcl_1.2.1, pvcl_1.2.2.1, pvcl_1.2.2.2, by decide, by decide, zm_111, Or.inl rfl⟩
theorem pvF_100 : pvFL1 (pvcn 2) 150 3 2 0 := ⟨RX4, TX4, tyX4, pvcl_3.1, pvcl_3.2.1, pvcl_3.2.2.1, pvcl_3.2.2.2, by decide, by decide, zm_824, Or.inr (Or.inl ⟨rfl, rfl, rfl⟩)⟩
theorem pvF_101 : pvFL1 (pvcn 2) 151 3 3 0 := ⟨RX4, TX4, tyX4, pvcl_3.1, pvcl_3.2.1, pvcl_3.2.2.1, pvcl_3.2.2.2, by decide, by decide, zm_825, Or.inr (Or.inl ⟨rfl, rfl, rfl⟩)⟩
theorem pvF_102 : pvFL1 (pvcn 2) 37 1 7 2 := ⟨RX1, TX1, tyX1, pvcl_1.1, pvcl_1.2.1, pvcl_1.2.2.1, pvcl_1.2.2.2, by decide, by decide, zm_116, Or.inl rfl⟩
theorem pvF_103 : pvFL1 (pvcn 2) 107 3 0 0 := ⟨RX4, TX4, tyX4, pvcl_3.1, pvcl_3.2.1, pvcl_3.2.2.1, pvcl_3.2.2.2, by decide, by decide, zm_335, Or.inr (Or.inl ⟨rfl, rfl, rfl⟩)⟩
theorem pvF_104 : pvFL1 (pvcn 2) 115 3 1 0 := ⟨RX4, TX4, tyX4, pvcl_3.1, pvcl_3.2.1, pvcl_3.2.2.1, pvcl_3.2.2.2, by decide, by decide, zm_336, Or.inr (Or.inl ⟨rfl, rfl, rfl⟩)⟩
theorem pvF_105 : pvFL1 (pvcn 2) 58 6 1 0 := ⟨RX7, TX7, tyX7, pvcl_6.1, pvcl_6.2.1, pvcl_6.2.2.1, pvcl_6.2.2.2, by decide, by decide, zm_284, Or.inr (Or.inl ⟨rfl, rfl, rfl⟩)⟩
theorem pvF_106 : pvFL1 (pvcn 2) 182 6 10 2 := ⟨RX7, TX7, tyX7, pvcl_6.1, pvcl_6.2.1, pvcl_6.2.2.1, pvcl_6.2.2.2, by decide, by decide, zm_1018, Or.inl rfl⟩
theorem pvF_107 : pvFL1 (pvcn 2) 185 5 2 2 := ⟨RX6, TX6, tyX6, pvcl_5.1, pvcl_5.2.1, pvcl_5.2.2.1, pvcl_5.2.2.2, by decide, by decide, zm_1019, Or.inl rfl⟩
theorem pvF_108 : pvFL1 (pvcn 2) 34 1 6 0 := ⟨RX1, TX1, tyX1, pvcl_1.1, pvcl_1.2.1, pvcl_1.2.2.1, pvcl_1.2.2.2, by decide, by decide, zm_115, Or.inr (Or.inl ⟨rfl, rfl, rfl⟩)⟩
theorem pvF_109 : pvFL1 (pvcn 2) 31 1 5 2 := ⟨RX1, TX1, tyX1, pvcl_1.1, pvcl_1.2.1, pvcl_1.2.2.1, pvcl_1.2.2.2, by decide, by decide, zm_114, Or.inl rfl⟩
theorem pvF_110 : pvFL1 (pvcn 2) 76 2 1 0 := ⟨RX2, TX2, tyX2, pvcl_2.1, pvcl_2.2.1, pvcl_2.2.2.1, pvcl_2.2.2.2, by decide, by decide, zm_291, Or.inr (Or.inl ⟨rfl, rfl, rfl⟩)⟩
theorem pvF_111 : pvFL1 (pvcn 2) 9 1 1 0 := ⟨RX1, TX1, tyX1, pvcl_1.1, pvcl_1.2.1, pvcl_1.2.2.1, pvcl_1.2.2.2, by decide, by decide, zm_109, Or.inr (Or.inl ⟨rfl, rfl, rfl⟩)⟩
theorem pvF_112 : pvFL1 (pvcn 4) 26 2 5 0 := ⟨RX2, TX2, tyX2, pvcl_2.1, pvcl_2.2.1, pvcl_2.2.2.1, pvcl_2.2.2.2, by decide, by decide, zm_58, Or.inr (Or.inl ⟨rfl, rfl, rfl⟩)⟩
theorem pvF_113 : pvFL1 (pvcn 4) 31 2 6 2 := ⟨RX2, TX2, tyX2, pvcl_2.1, pvcl_2.2.1, pvcl_2.2.2.1, pvcl_2.2.2.2, by decide, by decide, zm_59, Or.inl rfl⟩
theorem pvF_114 : pvFL1 (pvcn 4) 7 2 0 0 := ⟨RX2, TX2, tyX2, pvcl_2.1, pvcl_2.2.1, pvcl_2.2.2.1, pvcl_2.2.2.2, by decide, by decide, zm_53, Or.inr (Or.inl ⟨rfl, rfl, rfl⟩)⟩
theorem pvF_115 : pvFL1 (pvcn 4) 13 2 1 0 := ⟨RX2, TX2, tyX2, pvcl_2.1, pvcl_2.2.1, pvcl_2.2.2.1, pvcl_2.2.2.2, by decide, by decide, zm_54, Or.inr (Or.inl ⟨rfl, rfl, rfl⟩)⟩
theorem pvF_116 : pvFL1 (pvcn 4) 16 2 2 0 := ⟨RX2, TX2, tyX2, pvcl_2.1, pvcl_2.2.1, pvcl_2.2.2.1, pvcl_2.2.2.2, by decide, by decide, zm_55, Or.inr (Or.inl ⟨rfl, rfl, rfl⟩)⟩
theorem pvF_117 : pvFL1 (pvcn 4) 19 2 3 2 := ⟨RX2, TX2, tyX2, pvcl_2.1, pvcl_2.2.1, pvcl_2.2.2.1, pvcl_2.2.2.2, by decide, by decide, zm_56, Or.inl rfl⟩
theorem pvF_118 : pvFL1 (pvcn 4) 23 2 4 2 := ⟨RX2, TX2, tyX2, pvcl_2.1, pvcl_2.2.1, pvcl_2.2.2.1, pvcl_2.2.2.2, by decide, by decide, zm_57, Or.inl rfl⟩
theorem pvF_119 : pvFL1 (pvcn 4) 34 2 7 2 := ⟨RX2, TX2, tyX2, pvcl_2.1, pvcl_2.2.1, pvcl_2.2.2.1, pvcl_2.2.2.2, by decide, by decide, zm_60, Or.inl rfl⟩
theorem pvF_120 : pvFL1 (pvcn 4) 55 3 0 0 := ⟨RX4, TX4, tyX4, pvcl_3.1, pvcl_3.2.1, pvcl_3.2.2.1, pvcl_3.2.2.2, by decide, by decide, zm_309, Or.inr (Or.inl ⟨rfl, rfl, rfl⟩)⟩
theorem pvF_121 : pvFL1 (pvcn 4) 60 3 2 0 := ⟨RX4, TX4, tyX4, pvcl_3.1, pvcl_3.2.1, pvcl_3.2.2.1, pvcl_3.2.2.2, by decide, by decide, zm_310, Or.inr (Or.inl ⟨rfl, rfl, rfl⟩)⟩
theorem pvF_122 : pvFL1 (pvcn 4) 63 3 3 0 := ⟨RX4, TX4, tyX4, pvcl_3.1, pvcl_3.2.1, pvcl_3.2.2.1, pvcl_3.2.2.2, by decide, by decide, zm_311, Or.inr (Or.inl ⟨rfl, rfl, rfl⟩)⟩
theorem pvF_123 : pvFL1 (pvcn 6) 7 3 0 0 := ⟨RX4, TX4, tyX4, pvcl_3.1, pvcl_3.2.1, pvcl_3.2.2.1, pvcl_3.2.2.2, by decide, by decide, zm_98, Or.inr (Or.inl ⟨rfl, rfl, rfl⟩)⟩
theorem pvF_124 : pvFL1 (pvcn 6) 13 3 1 0 := ⟨RX4, TX4, tyX4, pvcl_3.1, pvcl_3.2.1, pvcl_3.2.2.1, pvcl_3.2.2.2, by decide, by decide, zm_99, Or.inr (Or.inl ⟨rfl, rfl, rfl⟩)⟩
theorem pvF_125 : pvFL1 (pvcn 6) 16 3 2 0 := ⟨RX4, TX4, tyX4, pvcl_3.1, pvcl_3.2.1, pvcl_3.2.2.1, pvcl_3.2.2.2, by decide, by decide, zm_100, Or.inr (Or.inl ⟨rfl, rfl, rfl⟩)⟩
theorem pvF_126 : pvFL1 (pvcn 6) 19 3 3 0 := ⟨RX4, TX4, tyX4, pvcl_3.1, pvcl_3.2.1, pvcl_3.2.2.1, pvcl_3.2.2.2, by decide, by decide, zm_101, Or.inr (Or.inl ⟨rfl, rfl, rfl⟩)⟩
theorem pvF_127 : pvFL1 (pvcn 6) 22 3 4 0 := ⟨RX4, TX4, tyX4, pvcl_3.1, pvcl_3.2.1, pvcl_3.2.2.1, pvcl_3.2.2.2, by decide, by decide, zm_102, Or.inr (Or.inl ⟨rfl, rfl, rfl⟩)⟩
theorem pvF_128 : pvFL1 (pvcn 6) 25 3 5 1 := ⟨RX4, TX4, tyX4, pvcl_3.1, pvcl_3.2.1, pvcl_3.2.2.1, pvcl_3.2.2.2, by decide, by decide, zm_103, Or.inr (Or.inr (Or.inl ⟨rfl, rfl, rfl⟩))⟩
theorem pvF_129 : pvFL1 (pvcn 6) 29 3 6 2 := ⟨RX4, TX4, tyX4, pvcl_3.1, pvcl_3.2.1, pvcl_3.2.2.1, pvcl_3.2.2.2, by decide, by decide, zm_104, Or.inl rfl⟩
theorem pvF_130 : pvFL1 (pvcn 7) 17 4 2 0 := ⟨RX5, TX5, tyX5, pvcl_4.1, pvcl_4.2.1, pvcl_4.2.2.1, pvcl_4.2.2.2, by decide, by decide, zm_46, Or.inr (Or.inl ⟨rfl, rfl, rfl⟩)⟩
theorem pvF_131 : pvFL1 (pvcn 7) 13 4 1 0 := ⟨RX5, TX5, tyX5, pvcl_4.1, pvcl_4.2.1, pvcl_4.2.2.1, pvcl_4.2.2.2, by decide, by decide, zm_45, Or.inr (Or.inl ⟨rfl, rfl, rfl⟩)⟩
theorem pvF_132 : pvFL1 (pvcn 7) 9 4 0 2 := ⟨RX5, TX5, tyX5, pvcl_4.1, pvcl_4.2.1, pvcl_4.2.2.1, pvcl_4.2.2.2, by decide, by decide, zm_44, Or.inl rfl⟩
theorem pvF_133 : pvFL1 (pvcn 7) 20 4 3 0 := ⟨RX5, TX5, tyX5, pvcl_4.1, pvcl_4.2.1, pvcl_4.2.2.1, pvcl_4.2.2.2, by decide, by decide, zm_47, Or.inr (Or.inl ⟨rfl, rfl, rfl⟩)⟩
theorem pvF_134 : pvFL1 (pvcn 7) 26 4 4 3 := ⟨RX5, TX5, tyX5, pvcl_4.1, pvcl_4.2.1, pvcl_4.2.2.1, pvcl_4.2.2.2, by decide, by decide, zm_49, Or.inr (Or.inr (Or.inr ⟨rfl, rfl, _, rfl⟩))⟩
theorem pvF_135 : pvFL1 (pvcn 7) 61 2 0 0 := ⟨RX2, TX2, tyX2, pvcl_2.1, pvcl_2.2.1, pvcl_2.2.2.1, pvcl_2.2.2.2, by decide, by decide, zm_480, Or.inr (Or.inl ⟨rfl, rfl, rfl⟩)⟩
theorem pvF_136 : pvFL1 (pvcn 7) 64 2 1 0 := ⟨RX2, TX2, tyX2, pvcl_2.1, pvcl_2.2.1, pvcl_2.2.2.1, pvcl_2.2.2.2, by decide, by decide, zm_481, Or.inr (Or.inl ⟨rfl, rfl, rfl⟩)⟩
theorem pvF_137 : pvFL1 (pvcn 8) 7 5 0 0 := ⟨RX6, TX6, tyX6, pvcl_5.1, pvcl_5.2.1, pvcl_5.2.2.1, pvcl_5.2.2.2, by decide, by decide, zm_88, Or.inr (Or.inl ⟨rfl, rfl, rfl⟩)⟩
theorem pvF_138 : pvFL1 (pvcn 8) 19 5 1 2 := ⟨RX6, TX6, tyX6, pvcl_5.1, pvcl_5.2.1, pvcl_5.2.2.1, pvcl_5.2.2.2, by decide, by decide, zm_93, Or.inl rfl⟩
theorem pvF_139 : pvFL1 (pvcn 8) 23 5 2 2 := ⟨RX6, TX6, tyX6, pvcl_5.1, pvcl_5.2.1, pvcl_5.2.2.1, pvcl_5.2.2.2, by decide, by decide, zm_94, Or.inl rfl⟩
theorem pvF_140 : pvFL1 (pvcn 9) 17 6 1 0 := ⟨RX7, TX7, tyX7, pvcl_6.1, pvcl_6.2.1, pvcl_6.2.2.1, pvcl_6.2.2.2, by decide, by decide, zm_67, Or.inr (Or.inl ⟨rfl, rfl, rfl⟩)⟩
theorem pvF_141 : pvFL1 (pvcn 9) 11 6 0 2 := ⟨RX7, TX7, tyX7, pvcl_6.1, pvcl_6.2.1, pvcl_6.2.2.1, pvcl_6.2.2.2, by decide, by decide, zm_66, Or.inl rfl⟩
theorem pvF_142 : pvFL1 (pvcn 9) 21 6 2 0 := ⟨RX7, TX7, tyX7, pvcl_6.1, pvcl_6.2.1, pvcl_6.2.2.1, pvcl_6.2.2.2, by decide, by decide, zm_68, Or.inr (Or.inl ⟨rfl, rfl, rfl⟩)⟩
theorem pvF_143 : pvFL1 (pvcn 9) 24 6 3 0 := ⟨RX7, TX7, tyX7, pvcl_6.1, pvcl_6.2.1, pvcl_6.2.2.1, pvcl_6.2.2.2, by decide, by decide, zm_69, Or.inr (Or.inl ⟨rfl, rfl, rfl⟩)⟩
theorem pvF_144 : pvFL1 (pvcn 9) 27 6 4 0 := ⟨RX7, TX7, tyX7, pvcl_6.1, pvcl_6.2.1, pvcl_6.2.2.1, pvcl_6.2.2.2, by decide, by decide, zm_70, Or.inr (Or.inl ⟨rfl, rfl, rfl⟩)⟩
theorem pvF_145 : pvFL1 (pvcn 9) 30 6 5 0 := ⟨RX7, TX7, tyX7, pvcl_6.1, pvcl_6.2.1, pvcl_6.2.2.1, pvcl_6.2.2.2, by decide, by decide, zm_71, Or.inr (Or.inl ⟨rfl, rfl, rfl⟩)⟩
theorem pvF_146 : pvFL1 (pvcn 9) 33 6 6 0 := ⟨RX7, TX7, tyX7, pvcl_6.1, pvcl_6.2.1, pvcl_6.2.2.1, pvcl_6.2.2.2, by decide, by decide, zm_72, Or.inr (Or.inl ⟨rfl, rfl, rfl⟩)⟩
theorem pvF_147 : pvFL1 (pvcn 9) 36 6 7 0 := ⟨RX7, TX7, tyX7, pvcl_6.1, pvcl_6.2.1, pvcl_6.2.2.1, pvcl_6.2.2.2, by decide, by decide, zm_73, Or.inr (Or.inl ⟨rfl, rfl, rfl⟩)⟩
theorem pvF_148 : pvFL1 (pvcn 9) 42 6 8 3 := ⟨RX7, TX7, tyX7, pvcl_6.1, pvcl_6.2.1, pvcl_6.2.2.1, pvcl_6.2.2.2, by decide, by decide, zm_75, Or.inr (Or.inr (Or.inr ⟨rfl, rfl, _, rfl⟩))⟩
theorem pvF_149 : pvFL1 (pvcn 9) 51 6 9 2 := ⟨RX7, TX7, tyX7, pvcl_6.1, pvcl_6.2.1, pvcl_6.2.2.1, pvcl_6.2.2.2, by decide, by decide, zm_79, Or.inl rfl⟩
theorem pvF_150 : pvFL1 (pvcn 9) 55 6 10 2 := ⟨RX7, TX7, tyX7, pvcl_6.1, pvcl_6.2.1, pvcl_6.2.2.1, pvcl_6.2.2.2, by decide, by decide, zm_80, Or.inl rfl⟩
theorem pvF_151 : pvFL1 (pvcn 9) 58 6 11 2 := ⟨RX7, TX7, tyX7, pvcl_6.1, pvcl_6.2.1, pvcl_6.2.2.1, pvcl_6.2.2.2, by decide, by decide, zm_81, Or.inl rfl⟩
theorem pvF_152 : pvFL1 (pvcn 9) 62 3 5 1 := ⟨RX4, TX4, tyX4, pvcl_3.1, pvcl_3.2.1, pvcl_3.2.2.1, pvcl_3.2.2.2, by decide, by decide, zm_709, Or.inr (Or.inr (Or.inl ⟨rfl, rfl, rfl⟩))⟩
theorem pvF_153 : pvFL1 (pvcn 10) 9 7 0 0 := ⟨RX8, TX8, tyX8, pvcl_7.1, pvcl_7.2.1, pvcl_7.2.2.1, pvcl_7.2.2.2, by decide, by decide, zm_132, Or.inr (Or.inl ⟨rfl, rfl, rfl⟩)⟩
theorem pvF_154 : pvFL1 (pvcn 10) 13 7 1 0 := ⟨RX8, TX8, tyX8, pvcl_7.1, pvcl_7.2.1, pvcl_7.2.2.1, pvcl_7.2.2.2, by decide, by decide, zm_133, Or.inr (Or.inl ⟨rfl, rfl, rfl⟩)⟩
theorem pvF_155 : pvFL1 (pvcn 10) 16 7 2 2 := ⟨RX8, TX8, tyX8, pvcl_7.1, pvcl_7.2.1, pvcl_7.2.2.1, pvcl_7.2.2.2, by decide, by decide, zm_135, Or.inl rfl⟩
theorem pvF_156 : pvFL1 (pvcn 11) 54 8 7 2 := ⟨RX9, TX9, tyX9, pvcl_8.1, pvcl_8.2.1, pvcl_8.2.2.1, pvcl_8.2.2.2, by decide, by decide, zm_33, Or.inl rfl⟩
theorem pvF_157 : pvFL1 (pvcn 11) 288 0 1 0 := ⟨RX0, TX0, tyX0, pvcl_0.1, pvcl_0.2.1, pvcl_0.2.2.1, pvcl_0.2.2.2, by decide, by decide, zm_1135, Or.inr (Or.inl ⟨rfl, rfl, rfl⟩)⟩
theorem pvF_158 : pvFL1 (pvcn 11) 31 8 3 2 := ⟨RX9, TX9, tyX9, pvcl_8.1, pvcl_8.2.1, pvcl_8.2.2.1, pvcl_8.2.2.2, by decide, by decide, zm_23, Or.inl rfl⟩
theorem pvF_159 : pvFL1 (pvcn 11) 79 6 0 2 := ⟨RX7, TX7, tyX7, pvcl_6.1, pvcl_6.2.1, pvcl_6.2.2.1, pvcl_6.2.2.2, by decide, by decide, zm_221, Or.inl rfl⟩
theorem pvF_160 : pvFL1 (pvcn 11) 179 6 9 2 := ⟨RX7, TX7, tyX7, pvcl_6.1, pvcl_6.2.1, pvcl_6.2.2.1, pvcl_6.2.2.2, by decide, by decide, zm_783, Or.inl rfl⟩
theorem pvF_161 : pvFL1 (pvcn 11) 47 8 6 2 := ⟨RX9, TX9, tyX9, pvcl_8.1, pvcl_8.2.1, pvcl_8.2.2.1, pvcl_8.2.2.2, by decide, by decide, zm_29, Or.inl rfl⟩
theorem pvF_162 : pvFL1 (pvcn 11) 248 1 2 0 := ⟨RX1, TX1, tyX1, pvcl_1.1, pvcl_1.2.1, pvcl_1.2.2.1, pvcl_1.2.2.2, by decide, by decide, zm_992, Or.inr (Or.inl ⟨rfl, rfl, rfl⟩)⟩
theorem pvF_163 : pvFL1 (pvcn 11) 216 1 6 0 := ⟨RX1, TX1, tyX1, pvcl_1.1, pvcl_1.2.1, pvcl_1.2.2.1, pvcl_1.2.2.2, by decide, by decide, zm_864, Or.inr (Or.inl ⟨rfl, rfl, rfl⟩)⟩
theorem pvF_164 : pvFL1 (pvcn 11) 219 1 5 2 := ⟨RX1, TX1, tyX1, pvcl_1.1, pvcl_1.2.1, pvcl_1.2.2.1, pvcl_1.2.2.2, by decide, by decide, zm_865, Or.inl rfl⟩
theorem pvF_165 : pvFL1 (pvcn 11) 222 5 1 2 := ⟨RX6, TX6, tyX6, pvcl_5.1, pvcl_5.2.1, pvcl_5.2.2.1, pvcl_5.2.2.2, by decide, by decide, zm_866, Or.inl rfl⟩
theorem pvF_166 : pvFL1 (pvcn 11) 265 6 11 2 := ⟨RX7, TX7, tyX7, pvcl_6.1, pvcl_6.2.1, pvcl_6.2.2.1, pvcl_6.2.2.2, by decide, by decide, zm_1065, Or.inl rfl⟩
theorem pvF_167 : pvFL1 (pvcn 11) 76 6 1 0 := ⟨RX7, TX7, tyX7, pvcl_6.1, pvcl_6.2.1, pvcl_6.2.2.1, pvcl_6.2.2.2, by decide, by decide, zm_220, Or.inr (Or.inl ⟨rfl, rfl, rfl⟩)⟩
theorem pvF_168 : pvFL1 (pvcn 11) 17 8 1 0 := ⟨RX9, TX9, tyX9, pvcl_8.1, pvcl_8.2.1, pvcl_8.2.2.1, pvcl_8.2.2.2, by decide, by decide, zm_15, Or.inr (Or.inl ⟨rfl, rfl, rfl⟩)⟩
theorem pvF_169 : pvFL1 (pvcn 11) 232 5 0 0 := ⟨RX6, TX6, tyX6, pvcl_5.1, pvcl_5.2.1, pvcl_5.2.2.1, pvcl_5.2.2.2, by decide, by decide, zm_945, Or.inr (Or.inl ⟨rfl, rfl, rfl⟩)⟩
theorem pvF_170 : pvFL1 (pvcn 11) 249 6 10 2 := ⟨RX7, TX7, tyX7, pvcl_6.1, pvcl_6.2.1, pvcl_6.2.2.1, pvcl_6.2.2.2, by decide, by decide, zm_1001, Or.inl rfl⟩
theorem pvF_171 : pvFL1 (pvcn 11) 24 8 2 2 := ⟨RX9, TX9, tyX9, pvcl_8.1, pvcl_8.2.1, pvcl_8.2.2.1, pvcl_8.2.2.2, by decide, by decide, zm_19, Or.inl rfl⟩
theorem pvF_172 : pvFL1 (pvcn 11) 146 4 1 0 := ⟨RX5, TX5, tyX5, pvcl_4.1, pvcl_4.2.1, pvcl_4.2.2.1, pvcl_4.2.2.2, by decide, by decide, zm_453, Or.inr (Or.inl ⟨rfl, rfl, rfl⟩)⟩
theorem pvF_173 : pvFL1 (pvcn 11) 149 4 0 2 := ⟨RX5, TX5, tyX5, pvcl_4.1, pvcl_4.2.1, pvcl_4.2.2.1, pvcl_4.2.2.2, by decide, by decide, zm_454, Or.inl rfl⟩
theorem pvF_174 : pvFL1 (pvcn 11) 159 6 5 0 := ⟨RX7, TX7, tyX7, pvcl_6.1, pvcl_6.2.1, pvcl_6.2.2.1, pvcl_6.2.2.2, by decide, by decide, zm_703, Or.inr (Or.inl ⟨rfl, rfl, rfl⟩)⟩
theorem pvF_175 : pvFL1 (pvcn 11) 130 6 4 0 := ⟨RX7, TX7, tyX7, pvcl_6.1, pvcl_6.2.1, pvcl_6.2.2.1, pvcl_6.2.2.2, by decide, by decide, zm_262, Or.inr (Or.inl ⟨rfl, rfl, rfl⟩)⟩
theorem pvF_176 : pvFL1 (pvcn 11) 13 8 0 2 := ⟨RX9, TX9, tyX9, pvcl_8.1, pvcl_8.2.1, pvcl_8.2.2.1, pvcl_8.2.2.2, by decide, by decide, zm_14, Or.inl rfl⟩
theorem pvF_177 : pvFL1 (pvcn 11) 156 4 2 0 := ⟨RX5, TX5, tyX5, pvcl_4.1, pvcl_4.2.1, pvcl_4.2.2.1, pvcl_4.2.2.2, by decide, by decide, zm_463, Or.inr (Or.inl ⟨rfl, rfl, rfl⟩)⟩
theorem pvF_178 : pvFL1 (pvcn 11) 116 6 8 3 := ⟨RX7, TX7, tyX7, pvcl_6.1, pvcl_6.2.1, pvcl_6.2.2.1, pvcl_6.2.2.2, by decide, by decide, zm_260, Or.inr (Or.inr (Or.inr ⟨rfl, rfl, _, rfl⟩))⟩
theorem pvF_179 : pvFL1 (pvcn 11) 35 8 4 2 := ⟨RX9, TX9, tyX9, pvcl_8.1, pvcl_8.2.1, pvcl_8.2.2.1, pvcl_8.2.2.2, by decide, by decide, zm_24, Or.inl rfl⟩
theorem pvF_180 : pvFL1 (pvcn 11) 38 8 5 1 := ⟨RX9, TX9, tyX9, pvcl_8.1, pvcl_8.2.1, pvcl_8.2.2.1, pvcl_8.2.2.2, by decide, by decide, zm_25, Or.inr (Or.inr (Or.inl ⟨rfl, rfl, rfl⟩))⟩
theorem pvF_181 : pvFL1 (pvcn 11) 60 8 8 2 := ⟨RX9, TX9, tyX9, pvcl_8.1, pvcl_8.2.1, pvcl_8.2.2.1, pvcl_8.2.2.2, by decide, by decide, zm_35, Or.inl rfl⟩
theorem pvF_182 : pvFL1 (pvcn 11) 281 7 2 2 := ⟨RX8, TX8, tyX8, pvcl_7.1, pvcl_7.2.1, pvcl_7.2.2.1, pvcl_7.2.2.2, by decide, by decide, zm_1085, Or.inl rfl⟩
theorem pvF_183 : pvFL1 (pvcn 11) 277 7 0 0 := ⟨RX8, TX8, tyX8, pvcl_7.1, pvcl_7.2.1, pvcl_7.2.2.1, pvcl_7.2.2.2, by decide, by decide, zm_1083, Or.inr (Or.inl ⟨rfl, rfl, rfl⟩)⟩
theorem pvF_184 : pvFL1 (pvcn 11) 280 7 1 0 := ⟨RX8, TX8, tyX8, pvcl_7.1, pvcl_7.2.1, pvcl_7.2.2.1, pvcl_7.2.2.2, by decide, by decide, zm_1084, Or.inr (Or.inl ⟨rfl, rfl, rfl⟩)⟩
theorem pvF_185 : pvFL1 (pvcn 11) 111 3 5 1 := ⟨RX4, TX4, tyX4, pvcl_3.1, pvcl_3.2.1, pvcl_3.2.2.1, pvcl_3.2.2.2, by decide, by decide, zm_257, Or.inr (Or.inr (Or.inl ⟨rfl, rfl, rfl⟩))⟩
theorem pvF_186 : pvFL1 (pvcn 11) 241 1 3 2 := ⟨RX1, TX1, tyX1, pvcl_1.1, pvcl_1.2.1, pvcl_1.2.2.1, pvcl_1.2.2.2, by decide, by decide, zm_970, Or.inl rfl⟩
theorem pvF_187 : pvFL1 (pvcn 11) 268 5 2 2 := ⟨RX6, TX6, tyX6, pvcl_5.1, pvcl_5.2.1, pvcl_5.2.2.1, pvcl_5.2.2.2, by decide, by decide, zm_1074, Or.inl rfl⟩
theorem pvF_188 : pvFL1 (pvcn 11) 140 6 2 0 := ⟨RX7, TX7, tyX7, pvcl_6.1, pvcl_6.2.1, pvcl_6.2.2.1, pvcl_6.2.2.2, by decide, by decide, zm_435, Or.inr (Or.inl ⟨rfl, rfl, rfl⟩)⟩
theorem pvF_189 : pvFL1 (pvcn 11) 96 3 0 0 := ⟨RX4, TX4, tyX4, pvcl_3.1, pvcl_3.2.1, pvcl_3.2.2.1, pvcl_3.2.2.2, by decide, by decide, zm_252, Or.inr (Or.inl ⟨rfl, rfl, rfl⟩)⟩
theorem pvF_190 : pvFL1 (pvcn 11) 99 3 1 0 := ⟨RX4, TX4, tyX4, pvcl_3.1, pvcl_3.2.1, pvcl_3.2.2.1, pvcl_3.2.2.2, by decide, by decide, zm_253, Or.inr (Or.inl ⟨rfl, rfl, rfl⟩)⟩
theorem pvF_191 : pvFL1 (pvcn 11) 102 3 2 0 := ⟨RX4, TX4, tyX4, pvcl_3.1, pvcl_3.2.1, pvcl_3.2.2.1, pvcl_3.2.2.2, by decide, by decide, zm_254, Or.inr (Or.inl ⟨rfl, rfl, rfl⟩)⟩
theorem pvF_192 : pvFL1 (pvcn 11) 105 3 3 0 := ⟨RX4, TX4, tyX4, pvcl_3.1, pvcl_3.2.1, pvcl_3.2.2.1, pvcl_3.2.2.2, by decide, by decide, zm_255, Or.inr (Or.inl ⟨rfl, rfl, rfl⟩)⟩
theorem pvF_193 : pvFL1 (pvcn 11) 108 3 4 0 := ⟨RX4, TX4, tyX4, pvcl_3.1, pvcl_3.2.1, pvcl_3.2.2.1, pvcl_3.2.2.2, by decide, by decide, zm_256, Or.inr (Or.inl ⟨rfl, rfl, rfl⟩)⟩
theorem pvF_194 : pvFL1 (pvcn 11) 114 6 6 0 := ⟨RX7, TX7, tyX7, pvcl_6.1, pvcl_6.2.1, pvcl_6.2.2.1, pvcl_6.2.2.2, by decide, by decide, zm_258, Or.inr (Or.inl ⟨rfl, rfl, rfl⟩)⟩
theorem pvF_195 : pvFL1 (pvcn 11) 115 6 7 0 := ⟨RX7, TX7, tyX7, pvcl_6.1, pvcl_6.2.1, pvcl_6.2.2.1, pvcl_6.2.2.2, by decide, by decide, zm_259, Or.inr (Or.inl ⟨rfl, rfl, rfl⟩)⟩
theorem pvF_196 : pvFL1 (pvcn 11) 120 2 0 0 := ⟨RX2, TX2, tyX2, pvcl_2.1, pvcl_2.2.1, pvcl_2.2.2.1, pvcl_2.2.2.2, by decide, by decide, zm_261, Or.inr (Or.inl ⟨rfl, rfl, rfl⟩)⟩
theorem pvF_197 : pvFL1 (pvcn 11) 136 3 6 2 := ⟨RX4, TX4, tyX4, pvcl_3.1, pvcl_3.2.1, pvcl_3.2.2.1, pvcl_3.2.2.2, by decide, by decide, zm_426, Or.inl rfl⟩
theorem pvF_198 : pvFL1 (pvcn 11) 143 6 3 0 := ⟨RX7, TX7, tyX7, pvcl_6.1, pvcl_6.2.1, pvcl_6.2.2.1, pvcl_6.2.2.2, by decide, by decide, zm_436, Or.inr (Or.inl ⟨rfl, rfl, rfl⟩)⟩
theorem pvF_199 : pvFL1 (pvcn 11) 162 2 1 0 := ⟨RX2, TX2, tyX2, pvcl_2.1, pvcl_2.2.1, pvcl_2.2.2.1, pvcl_2.2.2.2, by decide, by decide, zm_704, Or.inr (Or.inl ⟨rfl, rfl, rfl⟩)⟩
theorem pvF_200 : pvFL1 (pvcn 11) 295 0 0 2 := ⟨RX0, TX0, tyX0, pvcl_0.1, pvcl_0.2.1, pvcl_0.2.2.1, pvcl_0.2.2.2, by decide, by decide, zm_1198, Or.inl rfl⟩
set_option maxRecDepth 20000 in
theorem pvF_ok : ∀ q ∈ pvF, pvFL1 (pvcn q.1) q.2.1 q.2.2.1 q.2.2.2.1 q.2.2.2.2 := List.forall_mem_cons.mpr ⟨pvF_0, List.forall_mem_cons.mpr ⟨pvF_1, List.forall_mem_cons.mpr ⟨pvF_2, List.forall_mem_cons.mpr ⟨pvF_3, List.forall_mem_cons.mpr ⟨pvF_4, List.forall_mem_cons.mpr ⟨pvF_5, List.forall_mem_cons.mpr ⟨pvF_6, List.forall_mem_cons.mpr ⟨pvF_7, List.forall_mem_cons.mpr ⟨pvF_8, List.forall_mem_cons.mpr ⟨pvF_9, List.forall_mem_cons.mpr ⟨pvF_10, List.forall_mem_cons.mpr ⟨pvF_11, List.forall_mem_cons.mpr ⟨pvF_12, List.forall_mem_cons.mpr ⟨pvF_13, List.forall_mem_cons.mpr ⟨pvF_14, List.forall_mem_cons.mpr ⟨pvF_15, List.forall_mem_cons.mpr ⟨pvF_16, List.forall_mem_cons.mpr ⟨pvF_17, List.forall_mem_cons.mpr ⟨pvF_18, List.forall_mem_cons.mpr ⟨pvF_19, List.forall_mem_cons.mpr ⟨pvF_20, List.forall_mem_cons.mpr ⟨pvF_21, List.forall_mem_cons.mpr ⟨pvF_22, List.forall_mem_cons.mpr ⟨pvF_23, List.forall_mem_cons.mpr ⟨pvF_24, List.forall_mem_cons.mpr ⟨pvF_25, List.forall_mem_cons.mpr ⟨pvF_26, List.forall_mem_cons.mpr ⟨pvF_27, List.forall_mem_cons.mpr ⟨pvF_28, List.forall_mem_cons.mpr ⟨pvF_29, List.forall_mem_cons.mpr ⟨pvF_30, List.forall_mem_cons.mpr ⟨pvF_31, List.forall_mem_cons.mpr ⟨pvF_32, List.forall_mem_cons.mpr ⟨pvF_33, List.forall_mem_cons.mpr ⟨pvF_34, List.forall_mem_cons.mpr ⟨pvF_35, List.forall_mem_cons.mpr ⟨pvF_36, List.forall_mem_cons.mpr ⟨pvF_37, List.forall_mem_cons.mpr ⟨pvF_38, List.forall_mem_cons.mpr ⟨pvF_39, List.forall_mem_cons.mpr ⟨pvF_40, List.forall_mem_cons.mpr ⟨pvF_41, List.forall_mem_cons.mpr ⟨pvF_42, List.forall_mem_cons.mpr ⟨pvF_43, List.forall_mem_cons.mpr ⟨pvF_44, List.forall_mem_cons.mpr ⟨pvF_45, List.forall_mem_cons.mpr ⟨pvF_46, List.forall_mem_cons.mpr ⟨pvF_47, List.forall_mem_cons.mpr ⟨pvF_48, List.forall_mem_cons.mpr ⟨pvF_49, List.forall_mem_cons.mpr ⟨pvF_50, List.forall_mem_cons.mpr ⟨pvF_51, List.forall_mem_cons.mpr ⟨pvF_52, List.forall_mem_cons.mpr ⟨pvF_53, List.forall_mem_cons.mpr ⟨pvF_54, List.forall_mem_cons.mpr ⟨pvF_55, List.forall_mem_cons.mpr ⟨pvF_56, List.forall_mem_cons.mpr ⟨pvF_57, List.forall_mem_cons.mpr ⟨pvF_58, List.forall_mem_cons.mpr ⟨pvF_59, List.forall_mem_cons.mpr ⟨pvF_60, List.forall_mem_cons.mpr ⟨pvF_61, List.forall_mem_cons.mpr ⟨pvF_62, List.forall_mem_cons.mpr ⟨pvF_63, List.forall_mem_cons.mpr ⟨pvF_64, List.forall_mem_cons.mpr ⟨pvF_65, List.forall_mem_cons.mpr ⟨pvF_66, List.forall_mem_cons.mpr ⟨pvF_67, List.forall_mem_cons.mpr ⟨pvF_68, List.forall_mem_cons.mpr ⟨pvF_69, List.forall_mem_cons.mpr ⟨pvF_70, List.forall_mem_cons.mpr ⟨pvF_71, List.forall_mem_cons.mpr ⟨pvF_72, List.forall_mem_cons.mpr ⟨pvF_73, List.forall_mem_cons.mpr ⟨pvF_74, List.forall_mem_cons.mpr ⟨pvF_75, List.forall_mem_cons.mpr ⟨pvF_76, List.forall_mem_cons.mpr ⟨pvF_77, List.forall_mem_cons.mpr ⟨pvF_78, List.forall_mem_cons.mpr ⟨pvF_79, List.forall_mem_cons.mpr ⟨pvF_80, List.forall_mem_cons.mpr ⟨pvF_81, List.forall_mem_cons.mpr ⟨pvF_82, List.forall_mem_cons.mpr ⟨pvF_83, List.forall_mem_cons.mpr ⟨pvF_84, List.forall_mem_cons.mpr ⟨pvF_85, List.forall_mem_cons.mpr ⟨pvF_86, List.forall_mem_cons.mpr ⟨pvF_87, List.forall_mem_cons.mpr ⟨pvF_88, List.forall_mem_cons.mpr ⟨pvF_89, List.forall_mem_cons.mpr ⟨pvF_90, List.forall_mem_cons.mpr ⟨pvF_91, List.forall_mem_cons.mpr ⟨pvF_92, List.forall_mem_cons.mpr ⟨pvF_93, List.forall_mem_cons.mpr ⟨pvF_94, List.forall_mem_cons.mpr ⟨pvF_95, List.forall_mem_cons.mpr ⟨pvF_96, List.forall_mem_cons.mpr ⟨pvF_97, List.forall_mem_cons.mpr ⟨pvF_98, List.forall_mem_cons.mpr ⟨pvF_99, List.forall_mem_cons.mpr ⟨pvF_100, List.forall_mem_cons.mpr ⟨pvF_101, List.forall_mem_cons.mpr ⟨pvF_102, List.forall_mem_cons.mpr ⟨pvF_103, List.forall_mem_cons.mpr ⟨pvF_104, List.forall_mem_cons.mpr ⟨pvF_105, List.forall_mem_cons.mpr ⟨pvF_106, List.forall_mem_cons.mpr ⟨pvF_107, List.forall_mem_cons.mpr ⟨pvF_108, List.forall_mem_cons.mpr ⟨pvF_109, List.forall_mem_cons.mpr ⟨pvF_110, List.forall_mem_cons.mpr ⟨pvF_111, List.forall_mem_cons.mpr ⟨pvF_112, List.forall_mem_cons.mpr ⟨pvF_113, List.forall_mem_cons.mpr ⟨pvF_114, List.forall_mem_cons.mpr ⟨pvF_115, List.forall_mem_cons.mpr ⟨pvF_116, List.forall_mem_cons.mpr ⟨pvF_117, List.forall_mem_cons.mpr ⟨pvF_118, List.forall_mem_cons.mpr ⟨pvF_119, List.forall_mem_cons.mpr ⟨pvF_120, List.forall_mem_cons.mpr ⟨pvF_121, List.forall_mem_cons.mpr ⟨pvF_122, List.forall_mem_cons.mpr ⟨pvF_123, List.forall_mem_cons.mpr ⟨pvF_124, List.forall_mem_cons.mpr ⟨pvF_125, List.forall_mem_cons.mpr ⟨pvF_126, List.forall_mem_cons.mpr ⟨pvF_127, List.forall_mem_cons.mpr ⟨pvF_128, List.forall_mem_cons.mpr ⟨pvF_129, List.forall_mem_cons.mpr ⟨pvF_130, List.forall_mem_cons.mpr ⟨pvF_131, List.forall_mem_cons.mpr ⟨pvF_132, List.forall_mem_cons.mpr ⟨pvF_133, List.forall_mem_cons.mpr ⟨pvF_134, List.forall_mem_cons.mpr ⟨pvF_135, List.forall_mem_cons.mpr ⟨pvF_136, List.forall_mem_cons.mpr ⟨pvF_137, List.forall_mem_cons.mpr ⟨pvF_138, List.forall_mem_cons.mpr ⟨pvF_139, List.forall_mem_cons.mpr ⟨pvF_140, List.forall_mem_cons.mpr ⟨pvF_141, List.forall_mem_cons.mpr ⟨pvF_142, List.forall_mem_cons.mpr ⟨pvF_143, List.forall_mem_cons.mpr ⟨pvF_144, List.forall_mem_cons.mpr ⟨pvF_145, List.forall_mem_cons.mpr ⟨pvF_146, List.forall_mem_cons.mpr ⟨pvF_147, List.forall_mem_cons.mpr ⟨pvF_148, List.forall_mem_cons.mpr ⟨pvF_149, List.forall_mem_cons.mpr ⟨pvF_150, List.forall_mem_cons.mpr ⟨pvF_151, List.forall_mem_cons.mpr ⟨pvF_152, List.forall_mem_cons.mpr ⟨pvF_153, List.forall_mem_cons.mpr ⟨pvF_154, List.forall_mem_cons.mpr ⟨pvF_155, List.forall_mem_cons.mpr ⟨pvF_156, List.forall_mem_cons.mpr ⟨pvF_157, List.forall_mem_cons.mpr ⟨pvF_158, List.forall_mem_cons.mpr ⟨pvF_159, List.forall_mem_cons.mpr ⟨pvF_160, List.forall_mem_cons.mpr ⟨pvF_161, List.forall_mem_cons.mpr ⟨pvF_162, List.forall_mem_cons.mpr ⟨pvF_163, List.forall_mem_cons.mpr ⟨pvF_164, List.forall_mem_cons.mpr ⟨pvF_165, List.forall_mem_cons.mpr ⟨pvF_166, List.forall_mem_cons.mpr ⟨pvF_167, List.forall_mem_cons.mpr ⟨pvF_168, List.forall_mem_cons.mpr ⟨pvF_169, List.forall_mem_cons.mpr ⟨pvF_170, List.forall_mem_cons.mpr ⟨pvF_171, List.forall_mem_cons.mpr ⟨pvF_172, List.forall_mem_cons.mpr ⟨pvF_173, List.forall_mem_cons.mpr ⟨pvF_174, List.forall_mem_cons.mpr ⟨pvF_175, List.forall_mem_cons.mpr ⟨pvF_176, List.forall_mem_cons.mpr ⟨pvF_177, List.forall_mem_cons.mpr ⟨pvF_178, List.forall_mem_cons.mpr ⟨pvF_179, List.forall_mem_cons.mpr ⟨pvF_180, List.forall_mem_cons.mpr ⟨pvF_181, List.forall_mem_cons.mpr ⟨pvF_182, List.forall_mem_cons.mpr ⟨pvF_183, List.forall_mem_cons.mpr ⟨pvF_184, List.forall_mem_cons.mpr ⟨pvF_185, List.forall_mem_cons.mpr ⟨pvF_186, List.forall_mem_cons.mpr ⟨pvF_187, List.forall_mem_cons.mpr ⟨pvF_188, List.forall_mem_cons.mpr ⟨pvF_189, List.forall_mem_cons.mpr ⟨pvF_190, List.forall_mem_cons.mpr ⟨pvF_191, List.forall_mem_cons.mpr ⟨pvF_192, List.forall_mem_cons.mpr ⟨pvF_193, List.forall_mem_cons.mpr ⟨pvF_194, List.forall_mem_cons.mpr ⟨pvF_195, List.forall_mem_cons.mpr ⟨pvF_196, List.forall_mem_cons.mpr ⟨pvF_197, List.forall_mem_cons.mpr ⟨pvF_198, List.forall_mem_cons.mpr ⟨pvF_199, List.forall_mem_cons.mpr ⟨pvF_200,  List.forall_mem_nil _⟩⟩⟩⟩⟩⟩⟩⟩⟩⟩⟩⟩⟩⟩⟩⟩⟩⟩⟩⟩⟩⟩⟩⟩⟩⟩⟩⟩⟩⟩⟩⟩⟩⟩⟩⟩⟩⟩⟩⟩⟩⟩⟩⟩⟩⟩⟩⟩⟩⟩⟩⟩⟩⟩⟩⟩⟩⟩⟩⟩⟩⟩⟩⟩⟩⟩⟩⟩⟩⟩⟩⟩⟩⟩⟩⟩⟩⟩⟩⟩⟩⟩⟩⟩⟩⟩⟩⟩⟩⟩⟩⟩⟩⟩⟩⟩⟩⟩⟩⟩⟩⟩⟩⟩⟩⟩⟩⟩⟩⟩⟩⟩⟩⟩⟩⟩⟩⟩⟩⟩⟩⟩⟩⟩⟩⟩⟩⟩⟩⟩⟩⟩⟩⟩⟩⟩⟩⟩⟩⟩⟩⟩⟩⟩⟩⟩⟩⟩⟩⟩⟩⟩⟩⟩⟩⟩⟩⟩⟩⟩⟩⟩⟩⟩⟩⟩⟩⟩⟩⟩⟩⟩⟩⟩⟩⟩⟩⟩⟩⟩⟩⟩⟩⟩⟩⟩⟩⟩⟩⟩⟩⟩⟩⟩⟩⟩⟩⟩⟩⟩⟩
def pvK : List (Nat × Nat × Int32) := [(0, 265, 1431655765), (0, 266, 858993459), (0, 267, 252645135), (3, 353, 999999), (3, 330, 99999), (2, 102, 1000000), (11, 228, 99999), (11, 324, 999999)]
theorem pvK_0 : Cond.constant (pvcn 0) 265 1431655765 ∈ zT := zm_871
theorem pvK_1 : Cond.constant (pvcn 0) 266 858993459 ∈ zT := zm_872
theorem pvK_2 : Cond.constant (pvcn 0) 267 252645135 ∈ zT := zm_873
theorem pvK_3 : Cond.constant (pvcn 3) 353 999999 ∈ zT := zm_745
theorem pvK_4 : Cond.constant (pvcn 3) 330 99999 ∈ zT := zm_401
theorem pvK_5 : Cond.constant (pvcn 2) 102 1000000 ∈ zT := zm_330
theorem pvK_6 : Cond.constant (pvcn 11) 228 99999 ∈ zT := zm_927
theorem pvK_7 : Cond.constant (pvcn 11) 324 999999 ∈ zT := zm_730
set_option maxRecDepth 20000 in
theorem pvK_ok : ∀ q ∈ pvK, Cond.constant (pvcn q.1) q.2.1 q.2.2 ∈ zT := List.forall_mem_cons.mpr ⟨pvK_0, List.forall_mem_cons.mpr ⟨pvK_1, List.forall_mem_cons.mpr ⟨pvK_2, List.forall_mem_cons.mpr ⟨pvK_3, List.forall_mem_cons.mpr ⟨pvK_4, List.forall_mem_cons.mpr ⟨pvK_5, List.forall_mem_cons.mpr ⟨pvK_6, List.forall_mem_cons.mpr ⟨pvK_7,  List.forall_mem_nil _⟩⟩⟩⟩⟩⟩⟩⟩
def pvKJ : List (Nat × Nat) := [(3, 393), (11, 259)]
theorem pvKJ_0 : Cond.constantLong (pvcn 3) 393 (-9223372036854775808) ∈ zT := zm_1044
theorem pvKJ_1 : Cond.constantLong (pvcn 11) 259 (-9223372036854775808) ∈ zT := zm_1032
set_option maxRecDepth 20000 in
theorem pvKJ_ok : ∀ q ∈ pvKJ, Cond.constantLong (pvcn q.1) q.2 (-9223372036854775808) ∈ zT := List.forall_mem_cons.mpr ⟨pvKJ_0, List.forall_mem_cons.mpr ⟨pvKJ_1,  List.forall_mem_nil _⟩⟩
def pvMa : List (Nat × Nat × Nat) := [(2, 95, 0), (2, 90, 1), (4, 66, 1), (4, 49, 0), (6, 43, 2), (10, 20, 1), (10, 26, 0), (11, 333, 0), (11, 325, 1)]
theorem pvMa_0 : pvMa1 (pvcn 2) 95 0 := ⟨zm_299, zm_90, zm_91, zm_92⟩
theorem pvMa_1 : pvMa1 (pvcn 2) 90 1 := ⟨zm_296, zm_297, zm_91, zm_298⟩
theorem pvMa_2 : pvMa1 (pvcn 4) 66 1 := ⟨zm_312, zm_297, zm_91, zm_298⟩
theorem pvMa_3 : pvMa1 (pvcn 4) 49 0 := ⟨zm_304, zm_90, zm_91, zm_92⟩
theorem pvMa_4 : pvMa1 (pvcn 6) 43 2 := ⟨zm_271, zm_272, zm_91, zm_273⟩
theorem pvMa_5 : pvMa1 (pvcn 10) 20 1 := ⟨zm_1231, zm_297, zm_91, zm_298⟩
theorem pvMa_6 : pvMa1 (pvcn 10) 26 0 := ⟨zm_1232, zm_90, zm_91, zm_92⟩
theorem pvMa_7 : pvMa1 (pvcn 11) 333 0 := ⟨zm_1039, zm_90, zm_91, zm_92⟩
theorem pvMa_8 : pvMa1 (pvcn 11) 325 1 := ⟨zm_731, zm_297, zm_91, zm_298⟩
set_option maxRecDepth 20000 in
theorem pvMa_ok : ∀ q ∈ pvMa, pvMa1 (pvcn q.1) q.2.1 q.2.2 := List.forall_mem_cons.mpr ⟨pvMa_0, List.forall_mem_cons.mpr ⟨pvMa_1, List.forall_mem_cons.mpr ⟨pvMa_2, List.forall_mem_cons.mpr ⟨pvMa_3, List.forall_mem_cons.mpr ⟨pvMa_4, List.forall_mem_cons.mpr ⟨pvMa_5, List.forall_mem_cons.mpr ⟨pvMa_6, List.forall_mem_cons.mpr ⟨pvMa_7, List.forall_mem_cons.mpr ⟨pvMa_8,  List.forall_mem_nil _⟩⟩⟩⟩⟩⟩⟩⟩⟩
def pvAc : List (Nat × Nat) := [(6, 37), (11, 315)]
theorem pvAc_0 : pvAc1 (pvcn 6) 37 := ⟨zm_2000, zm_2002, zm_2001, zm_1116⟩
theorem pvAc_1 : pvAc1 (pvcn 11) 315 := ⟨zm_2003, zm_2002, zm_2001, zm_1116⟩
set_option maxRecDepth 20000 in
theorem pvAc_ok : ∀ q ∈ pvAc, pvAc1 (pvcn q.1) q.2 := List.forall_mem_cons.mpr ⟨pvAc_0, List.forall_mem_cons.mpr ⟨pvAc_1,  List.forall_mem_nil _⟩⟩
def pvGs : List (Nat × Nat × Nat) := [(1, 34, 1), (5, 7, 0)]
theorem pvGs_0 : pvGs1 (pvcn 1) 34 1 := zm_1148
theorem pvGs_1 : pvGs1 (pvcn 5) 7 0 := zm_1153
set_option maxRecDepth 20000 in
theorem pvGs_ok : ∀ q ∈ pvGs, pvGs1 (pvcn q.1) q.2.1 q.2.2 := List.forall_mem_cons.mpr ⟨pvGs_0, List.forall_mem_cons.mpr ⟨pvGs_1,  List.forall_mem_nil _⟩⟩
def pvSx : List (Nat × Nat) := [(48, 1), (114, 3), (108, 0), (110, 2)]
def pvCa1 (own : String) (idx j n vi : Nat) : Prop := Cond.methodLink own idx (pvyn j) ∈ zT ∧ Cond.code (pvyn j) (pvcc j) (pvml j) (pvrt j) ∈ zT ∧ Cond.initialized (pvyn j).cls ∈ zT ∧ ((pvyn j).cls ≠ "java/lang/invoke/MethodHandle" ∧ (pvyn j).cls ≠ "java/lang/invoke/VarHandle" ∧ (parseMethodDescriptor (pvyn j).desc).map (fun d => d.parameters.length) = some n) ∧ (if vi = 1 then Cond.instanceMethod (pvyn j) ∈ zT ∧ Cond.selects (pvyn j).cls (pvyn j) (pvyn j) ∈ zT else Cond.static (pvyn j) ∈ zT)
theorem pvds_0 : (pvyn 0).cls ≠ "java/lang/invoke/MethodHandle" ∧ (pvyn 0).cls ≠ "java/lang/invoke/VarHandle" ∧ (parseMethodDescriptor (pvyn 0).desc).map (fun d => d.parameters.length) = some 1 := by decide +kernel
theorem pvds_1 : (pvyn 1).cls ≠ "java/lang/invoke/MethodHandle" ∧ (pvyn 1).cls ≠ "java/lang/invoke/VarHandle" ∧ (parseMethodDescriptor (pvyn 1).desc).map (fun d => d.parameters.length) = some 2 := by decide +kernel
theorem pvds_2 : (pvyn 2).cls ≠ "java/lang/invoke/MethodHandle" ∧ (pvyn 2).cls ≠ "java/lang/invoke/VarHandle" ∧ (parseMethodDescriptor (pvyn 2).desc).map (fun d => d.parameters.length) = some 1 := by decide +kernel
theorem pvds_3 : (pvyn 3).cls ≠ "java/lang/invoke/MethodHandle" ∧ (pvyn 3).cls ≠ "java/lang/invoke/VarHandle" ∧ (parseMethodDescriptor (pvyn 3).desc).map (fun d => d.parameters.length) = some 4 := by decide +kernel
theorem pvds_4 : (pvyn 4).cls ≠ "java/lang/invoke/MethodHandle" ∧ (pvyn 4).cls ≠ "java/lang/invoke/VarHandle" ∧ (parseMethodDescriptor (pvyn 4).desc).map (fun d => d.parameters.length) = some 5 := by decide +kernel
theorem pvds_5 : (pvyn 5).cls ≠ "java/lang/invoke/MethodHandle" ∧ (pvyn 5).cls ≠ "java/lang/invoke/VarHandle" ∧ (parseMethodDescriptor (pvyn 5).desc).map (fun d => d.parameters.length) = some 3 := by decide +kernel
theorem pvds_6 : (pvyn 6).cls ≠ "java/lang/invoke/MethodHandle" ∧ (pvyn 6).cls ≠ "java/lang/invoke/VarHandle" ∧ (parseMethodDescriptor (pvyn 6).desc).map (fun d => d.parameters.length) = some 1 := by decide +kernel
theorem pvds_7 : (pvyn 7).cls ≠ "java/lang/invoke/MethodHandle" ∧ (pvyn 7).cls ≠ "java/lang/invoke/VarHandle" ∧ (parseMethodDescriptor (pvyn 7).desc).map (fun d => d.parameters.length) = some 2 := by decide +kernel
theorem pvds_8 : (pvyn 8).cls ≠ "java/lang/invoke/MethodHandle" ∧ (pvyn 8).cls ≠ "java/lang/invoke/VarHandle" ∧ (parseMethodDescriptor (pvyn 8).desc).map (fun d => d.parameters.length) = some 1 := by decide +kernel
theorem pvds_9 : (pvyn 9).cls ≠ "java/lang/invoke/MethodHandle" ∧ (pvyn 9).cls ≠ "java/lang/invoke/VarHandle" ∧ (parseMethodDescriptor (pvyn 9).desc).map (fun d => d.parameters.length) = some 0 := by decide +kernel
theorem pvds_10 : (pvyn 10).cls ≠ "java/lang/invoke/MethodHandle" ∧ (pvyn 10).cls ≠ "java/lang/invoke/VarHandle" ∧ (parseMethodDescriptor (pvyn 10).desc).map (fun d => d.parameters.length) = some 1 := by decide +kernel
theorem pvds_11 : (pvyn 11).cls ≠ "java/lang/invoke/MethodHandle" ∧ (pvyn 11).cls ≠ "java/lang/invoke/VarHandle" ∧ (parseMethodDescriptor (pvyn 11).desc).map (fun d => d.parameters.length) = some 1 := by decide +kernel
theorem pvds_12 : (pvyn 12).cls ≠ "java/lang/invoke/MethodHandle" ∧ (pvyn 12).cls ≠ "java/lang/invoke/VarHandle" ∧ (parseMethodDescriptor (pvyn 12).desc).map (fun d => d.parameters.length) = some 2 := by decide +kernel
theorem pvds_13 : (pvyn 13).cls ≠ "java/lang/invoke/MethodHandle" ∧ (pvyn 13).cls ≠ "java/lang/invoke/VarHandle" ∧ (parseMethodDescriptor (pvyn 13).desc).map (fun d => d.parameters.length) = some 0 := by decide +kernel
theorem pvds_14 : (pvyn 14).cls ≠ "java/lang/invoke/MethodHandle" ∧ (pvyn 14).cls ≠ "java/lang/invoke/VarHandle" ∧ (parseMethodDescriptor (pvyn 14).desc).map (fun d => d.parameters.length) = some 1 := by decide +kernel
theorem pvds_15 : (pvyn 15).cls ≠ "java/lang/invoke/MethodHandle" ∧ (pvyn 15).cls ≠ "java/lang/invoke/VarHandle" ∧ (parseMethodDescriptor (pvyn 15).desc).map (fun d => d.parameters.length) = some 1 := by decide +kernel
theorem pvds_16 : (pvyn 16).cls ≠ "java/lang/invoke/MethodHandle" ∧ (pvyn 16).cls ≠ "java/lang/invoke/VarHandle" ∧ (parseMethodDescriptor (pvyn 16).desc).map (fun d => d.parameters.length) = some 1 := by decide +kernel
theorem pvds_17 : (pvyn 17).cls ≠ "java/lang/invoke/MethodHandle" ∧ (pvyn 17).cls ≠ "java/lang/invoke/VarHandle" ∧ (parseMethodDescriptor (pvyn 17).desc).map (fun d => d.parameters.length) = some 2 := by decide +kernel
theorem pvds_18 : (pvyn 18).cls ≠ "java/lang/invoke/MethodHandle" ∧ (pvyn 18).cls ≠ "java/lang/invoke/VarHandle" ∧ (parseMethodDescriptor (pvyn 18).desc).map (fun d => d.parameters.length) = some 1 := by decide +kernel
theorem pvds_19 : (pvyn 19).cls ≠ "java/lang/invoke/MethodHandle" ∧ (pvyn 19).cls ≠ "java/lang/invoke/VarHandle" ∧ (parseMethodDescriptor (pvyn 19).desc).map (fun d => d.parameters.length) = some 2 := by decide +kernel
theorem pvds_20 : (pvyn 20).cls ≠ "java/lang/invoke/MethodHandle" ∧ (pvyn 20).cls ≠ "java/lang/invoke/VarHandle" ∧ (parseMethodDescriptor (pvyn 20).desc).map (fun d => d.parameters.length) = some 1 := by decide +kernel
theorem pvds_21 : (pvyn 21).cls ≠ "java/lang/invoke/MethodHandle" ∧ (pvyn 21).cls ≠ "java/lang/invoke/VarHandle" ∧ (parseMethodDescriptor (pvyn 21).desc).map (fun d => d.parameters.length) = some 0 := by decide +kernel
theorem pvds_22 : (pvyn 22).cls ≠ "java/lang/invoke/MethodHandle" ∧ (pvyn 22).cls ≠ "java/lang/invoke/VarHandle" ∧ (parseMethodDescriptor (pvyn 22).desc).map (fun d => d.parameters.length) = some 0 := by decide +kernel
theorem pvds_23 : (pvyn 23).cls ≠ "java/lang/invoke/MethodHandle" ∧ (pvyn 23).cls ≠ "java/lang/invoke/VarHandle" ∧ (parseMethodDescriptor (pvyn 23).desc).map (fun d => d.parameters.length) = some 1 := by decide +kernel
theorem pvds_24 : (pvyn 24).cls ≠ "java/lang/invoke/MethodHandle" ∧ (pvyn 24).cls ≠ "java/lang/invoke/VarHandle" ∧ (parseMethodDescriptor (pvyn 24).desc).map (fun d => d.parameters.length) = some 3 := by decide +kernel
theorem pvds_25 : (pvyn 25).cls ≠ "java/lang/invoke/MethodHandle" ∧ (pvyn 25).cls ≠ "java/lang/invoke/VarHandle" ∧ (parseMethodDescriptor (pvyn 25).desc).map (fun d => d.parameters.length) = some 1 := by decide +kernel
theorem pvds_26 : (pvyn 26).cls ≠ "java/lang/invoke/MethodHandle" ∧ (pvyn 26).cls ≠ "java/lang/invoke/VarHandle" ∧ (parseMethodDescriptor (pvyn 26).desc).map (fun d => d.parameters.length) = some 2 := by decide +kernel
theorem pvds_27 : (pvyn 27).cls ≠ "java/lang/invoke/MethodHandle" ∧ (pvyn 27).cls ≠ "java/lang/invoke/VarHandle" ∧ (parseMethodDescriptor (pvyn 27).desc).map (fun d => d.parameters.length) = some 1 := by decide +kernel
theorem pvds_28 : (pvyn 28).cls ≠ "java/lang/invoke/MethodHandle" ∧ (pvyn 28).cls ≠ "java/lang/invoke/VarHandle" ∧ (parseMethodDescriptor (pvyn 28).desc).map (fun d => d.parameters.length) = some 2 := by decide +kernel
theorem pvds_29 : (pvyn 29).cls ≠ "java/lang/invoke/MethodHandle" ∧ (pvyn 29).cls ≠ "java/lang/invoke/VarHandle" ∧ (parseMethodDescriptor (pvyn 29).desc).map (fun d => d.parameters.length) = some 1 := by decide +kernel
theorem pvds_30 : (pvyn 30).cls ≠ "java/lang/invoke/MethodHandle" ∧ (pvyn 30).cls ≠ "java/lang/invoke/VarHandle" ∧ (parseMethodDescriptor (pvyn 30).desc).map (fun d => d.parameters.length) = some 0 := by decide +kernel
theorem pvds_31 : (pvyn 31).cls ≠ "java/lang/invoke/MethodHandle" ∧ (pvyn 31).cls ≠ "java/lang/invoke/VarHandle" ∧ (parseMethodDescriptor (pvyn 31).desc).map (fun d => d.parameters.length) = some 2 := by decide +kernel
theorem pvds_32 : (pvyn 32).cls ≠ "java/lang/invoke/MethodHandle" ∧ (pvyn 32).cls ≠ "java/lang/invoke/VarHandle" ∧ (parseMethodDescriptor (pvyn 32).desc).map (fun d => d.parameters.length) = some 2 := by decide +kernel
theorem pvds_33 : (pvyn 33).cls ≠ "java/lang/invoke/MethodHandle" ∧ (pvyn 33).cls ≠ "java/lang/invoke/VarHandle" ∧ (parseMethodDescriptor (pvyn 33).desc).map (fun d => d.parameters.length) = some 2 := by decide +kernel
theorem pvds_34 : (pvyn 34).cls ≠ "java/lang/invoke/MethodHandle" ∧ (pvyn 34).cls ≠ "java/lang/invoke/VarHandle" ∧ (parseMethodDescriptor (pvyn 34).desc).map (fun d => d.parameters.length) = some 0 := by decide +kernel
theorem pvds_35 : (pvyn 35).cls ≠ "java/lang/invoke/MethodHandle" ∧ (pvyn 35).cls ≠ "java/lang/invoke/VarHandle" ∧ (parseMethodDescriptor (pvyn 35).desc).map (fun d => d.parameters.length) = some 0 := by decide +kernel
theorem pvds_36 : (pvyn 36).cls ≠ "java/lang/invoke/MethodHandle" ∧ (pvyn 36).cls ≠ "java/lang/invoke/VarHandle" ∧ (parseMethodDescriptor (pvyn 36).desc).map (fun d => d.parameters.length) = some 3 := by decide +kernel
theorem pvds_37 : (pvyn 37).cls ≠ "java/lang/invoke/MethodHandle" ∧ (pvyn 37).cls ≠ "java/lang/invoke/VarHandle" ∧ (parseMethodDescriptor (pvyn 37).desc).map (fun d => d.parameters.length) = some 0 := by decide +kernel
theorem pvds_38 : (pvyn 38).cls ≠ "java/lang/invoke/MethodHandle" ∧ (pvyn 38).cls ≠ "java/lang/invoke/VarHandle" ∧ (parseMethodDescriptor (pvyn 38).desc).map (fun d => d.parameters.length) = some 1 := by decide +kernel
theorem pvds_39 : (pvyn 39).cls ≠ "java/lang/invoke/MethodHandle" ∧ (pvyn 39).cls ≠ "java/lang/invoke/VarHandle" ∧ (parseMethodDescriptor (pvyn 39).desc).map (fun d => d.parameters.length) = some 2 := by decide +kernel
theorem pvds_40 : (pvyn 40).cls ≠ "java/lang/invoke/MethodHandle" ∧ (pvyn 40).cls ≠ "java/lang/invoke/VarHandle" ∧ (parseMethodDescriptor (pvyn 40).desc).map (fun d => d.parameters.length) = some 2 := by decide +kernel
theorem pvds_41 : (pvyn 41).cls ≠ "java/lang/invoke/MethodHandle" ∧ (pvyn 41).cls ≠ "java/lang/invoke/VarHandle" ∧ (parseMethodDescriptor (pvyn 41).desc).map (fun d => d.parameters.length) = some 1 := by decide +kernel
theorem pvds_42 : (pvyn 42).cls ≠ "java/lang/invoke/MethodHandle" ∧ (pvyn 42).cls ≠ "java/lang/invoke/VarHandle" ∧ (parseMethodDescriptor (pvyn 42).desc).map (fun d => d.parameters.length) = some 1 := by decide +kernel
theorem pvds_43 : (pvyn 43).cls ≠ "java/lang/invoke/MethodHandle" ∧ (pvyn 43).cls ≠ "java/lang/invoke/VarHandle" ∧ (parseMethodDescriptor (pvyn 43).desc).map (fun d => d.parameters.length) = some 3 := by decide +kernel
theorem pvds_44 : (pvyn 44).cls ≠ "java/lang/invoke/MethodHandle" ∧ (pvyn 44).cls ≠ "java/lang/invoke/VarHandle" ∧ (parseMethodDescriptor (pvyn 44).desc).map (fun d => d.parameters.length) = some 2 := by decide +kernel
theorem pvds_45 : (pvyn 45).cls ≠ "java/lang/invoke/MethodHandle" ∧ (pvyn 45).cls ≠ "java/lang/invoke/VarHandle" ∧ (parseMethodDescriptor (pvyn 45).desc).map (fun d => d.parameters.length) = some 0 := by decide +kernel
theorem pvds_46 : (pvyn 46).cls ≠ "java/lang/invoke/MethodHandle" ∧ (pvyn 46).cls ≠ "java/lang/invoke/VarHandle" ∧ (parseMethodDescriptor (pvyn 46).desc).map (fun d => d.parameters.length) = some 2 := by decide +kernel
theorem pvds_47 : (pvyn 47).cls ≠ "java/lang/invoke/MethodHandle" ∧ (pvyn 47).cls ≠ "java/lang/invoke/VarHandle" ∧ (parseMethodDescriptor (pvyn 47).desc).map (fun d => d.parameters.length) = some 1 := by decide +kernel
theorem pvds_48 : (pvyn 48).cls ≠ "java/lang/invoke/MethodHandle" ∧ (pvyn 48).cls ≠ "java/lang/invoke/VarHandle" ∧ (parseMethodDescriptor (pvyn 48).desc).map (fun d => d.parameters.length) = some 0 := by decide +kernel
theorem pvds_49 : (pvyn 49).cls ≠ "java/lang/invoke/MethodHandle" ∧ (pvyn 49).cls ≠ "java/lang/invoke/VarHandle" ∧ (parseMethodDescriptor (pvyn 49).desc).map (fun d => d.parameters.length) = some 2 := by decide +kernel
theorem pvds_50 : (pvyn 50).cls ≠ "java/lang/invoke/MethodHandle" ∧ (pvyn 50).cls ≠ "java/lang/invoke/VarHandle" ∧ (parseMethodDescriptor (pvyn 50).desc).map (fun d => d.parameters.length) = some 0 := by decide +kernel
theorem pvds_51 : (pvyn 51).cls ≠ "java/lang/invoke/MethodHandle" ∧ (pvyn 51).cls ≠ "java/lang/invoke/VarHandle" ∧ (parseMethodDescriptor (pvyn 51).desc).map (fun d => d.parameters.length) = some 0 := by decide +kernel
theorem pvds_52 : (pvyn 52).cls ≠ "java/lang/invoke/MethodHandle" ∧ (pvyn 52).cls ≠ "java/lang/invoke/VarHandle" ∧ (parseMethodDescriptor (pvyn 52).desc).map (fun d => d.parameters.length) = some 0 := by decide +kernel
theorem pvds_53 : (pvyn 53).cls ≠ "java/lang/invoke/MethodHandle" ∧ (pvyn 53).cls ≠ "java/lang/invoke/VarHandle" ∧ (parseMethodDescriptor (pvyn 53).desc).map (fun d => d.parameters.length) = some 0 := by decide +kernel
theorem pvds_54 : (pvyn 54).cls ≠ "java/lang/invoke/MethodHandle" ∧ (pvyn 54).cls ≠ "java/lang/invoke/VarHandle" ∧ (parseMethodDescriptor (pvyn 54).desc).map (fun d => d.parameters.length) = some 3 := by decide +kernel
theorem pvds_55 : (pvyn 55).cls ≠ "java/lang/invoke/MethodHandle" ∧ (pvyn 55).cls ≠ "java/lang/invoke/VarHandle" ∧ (parseMethodDescriptor (pvyn 55).desc).map (fun d => d.parameters.length) = some 1 := by decide +kernel
theorem pvds_56 : (pvyn 56).cls ≠ "java/lang/invoke/MethodHandle" ∧ (pvyn 56).cls ≠ "java/lang/invoke/VarHandle" ∧ (parseMethodDescriptor (pvyn 56).desc).map (fun d => d.parameters.length) = some 2 := by decide +kernel
theorem pvds_57 : (pvyn 57).cls ≠ "java/lang/invoke/MethodHandle" ∧ (pvyn 57).cls ≠ "java/lang/invoke/VarHandle" ∧ (parseMethodDescriptor (pvyn 57).desc).map (fun d => d.parameters.length) = some 0 := by decide +kernel
theorem pvds_58 : (pvyn 58).cls ≠ "java/lang/invoke/MethodHandle" ∧ (pvyn 58).cls ≠ "java/lang/invoke/VarHandle" ∧ (parseMethodDescriptor (pvyn 58).desc).map (fun d => d.parameters.length) = some 2 := by decide +kernel
theorem pvds_59 : (pvyn 59).cls ≠ "java/lang/invoke/MethodHandle" ∧ (pvyn 59).cls ≠ "java/lang/invoke/VarHandle" ∧ (parseMethodDescriptor (pvyn 59).desc).map (fun d => d.parameters.length) = some 2 := by decide +kernel
theorem pvds_60 : (pvyn 60).cls ≠ "java/lang/invoke/MethodHandle" ∧ (pvyn 60).cls ≠ "java/lang/invoke/VarHandle" ∧ (parseMethodDescriptor (pvyn 60).desc).map (fun d => d.parameters.length) = some 1 := by decide +kernel
theorem pvds_61 : (pvyn 61).cls ≠ "java/lang/invoke/MethodHandle" ∧ (pvyn 61).cls ≠ "java/lang/invoke/VarHandle" ∧ (parseMethodDescriptor (pvyn 61).desc).map (fun d => d.parameters.length) = some 0 := by decide +kernel
theorem pvds_62 : (pvyn 62).cls ≠ "java/lang/invoke/MethodHandle" ∧ (pvyn 62).cls ≠ "java/lang/invoke/VarHandle" ∧ (parseMethodDescriptor (pvyn 62).desc).map (fun d => d.parameters.length) = some 2 := by decide +kernel
theorem pvds_63 : (pvyn 63).cls ≠ "java/lang/invoke/MethodHandle" ∧ (pvyn 63).cls ≠ "java/lang/invoke/VarHandle" ∧ (parseMethodDescriptor (pvyn 63).desc).map (fun d => d.parameters.length) = some 1 := by decide +kernel
theorem pvds_64 : (pvyn 64).cls ≠ "java/lang/invoke/MethodHandle" ∧ (pvyn 64).cls ≠ "java/lang/invoke/VarHandle" ∧ (parseMethodDescriptor (pvyn 64).desc).map (fun d => d.parameters.length) = some 0 := by decide +kernel
theorem pvds_65 : (pvyn 65).cls ≠ "java/lang/invoke/MethodHandle" ∧ (pvyn 65).cls ≠ "java/lang/invoke/VarHandle" ∧ (parseMethodDescriptor (pvyn 65).desc).map (fun d => d.parameters.length) = some 1 := by decide +kernel
theorem pvds_66 : (pvyn 66).cls ≠ "java/lang/invoke/MethodHandle" ∧ (pvyn 66).cls ≠ "java/lang/invoke/VarHandle" ∧ (parseMethodDescriptor (pvyn 66).desc).map (fun d => d.parameters.length) = some 2 := by decide +kernel
theorem pvds_67 : (pvyn 67).cls ≠ "java/lang/invoke/MethodHandle" ∧ (pvyn 67).cls ≠ "java/lang/invoke/VarHandle" ∧ (parseMethodDescriptor (pvyn 67).desc).map (fun d => d.parameters.length) = some 1 := by decide +kernel
theorem pvds_68 : (pvyn 68).cls ≠ "java/lang/invoke/MethodHandle" ∧ (pvyn 68).cls ≠ "java/lang/invoke/VarHandle" ∧ (parseMethodDescriptor (pvyn 68).desc).map (fun d => d.parameters.length) = some 2 := by decide +kernel
theorem pvds_69 : (pvyn 69).cls ≠ "java/lang/invoke/MethodHandle" ∧ (pvyn 69).cls ≠ "java/lang/invoke/VarHandle" ∧ (parseMethodDescriptor (pvyn 69).desc).map (fun d => d.parameters.length) = some 1 := by decide +kernel
theorem pvds_70 : (pvyn 70).cls ≠ "java/lang/invoke/MethodHandle" ∧ (pvyn 70).cls ≠ "java/lang/invoke/VarHandle" ∧ (parseMethodDescriptor (pvyn 70).desc).map (fun d => d.parameters.length) = some 3 := by decide +kernel
theorem pvds_71 : (pvyn 71).cls ≠ "java/lang/invoke/MethodHandle" ∧ (pvyn 71).cls ≠ "java/lang/invoke/VarHandle" ∧ (parseMethodDescriptor (pvyn 71).desc).map (fun d => d.parameters.length) = some 2 := by decide +kernel
theorem pvds_72 : (pvyn 72).cls ≠ "java/lang/invoke/MethodHandle" ∧ (pvyn 72).cls ≠ "java/lang/invoke/VarHandle" ∧ (parseMethodDescriptor (pvyn 72).desc).map (fun d => d.parameters.length) = some 1 := by decide +kernel
theorem pvds_73 : (pvyn 73).cls ≠ "java/lang/invoke/MethodHandle" ∧ (pvyn 73).cls ≠ "java/lang/invoke/VarHandle" ∧ (parseMethodDescriptor (pvyn 73).desc).map (fun d => d.parameters.length) = some 5 := by decide +kernel
theorem pvds_74 : (pvyn 74).cls ≠ "java/lang/invoke/MethodHandle" ∧ (pvyn 74).cls ≠ "java/lang/invoke/VarHandle" ∧ (parseMethodDescriptor (pvyn 74).desc).map (fun d => d.parameters.length) = some 1 := by decide +kernel
theorem pvds_75 : (pvyn 75).cls ≠ "java/lang/invoke/MethodHandle" ∧ (pvyn 75).cls ≠ "java/lang/invoke/VarHandle" ∧ (parseMethodDescriptor (pvyn 75).desc).map (fun d => d.parameters.length) = some 2 := by decide +kernel
theorem pvds_76 : (pvyn 76).cls ≠ "java/lang/invoke/MethodHandle" ∧ (pvyn 76).cls ≠ "java/lang/invoke/VarHandle" ∧ (parseMethodDescriptor (pvyn 76).desc).map (fun d => d.parameters.length) = some 1 := by decide +kernel
theorem pvds_77 : (pvyn 77).cls ≠ "java/lang/invoke/MethodHandle" ∧ (pvyn 77).cls ≠ "java/lang/invoke/VarHandle" ∧ (parseMethodDescriptor (pvyn 77).desc).map (fun d => d.parameters.length) = some 1 := by decide +kernel
theorem pvds_78 : (pvyn 78).cls ≠ "java/lang/invoke/MethodHandle" ∧ (pvyn 78).cls ≠ "java/lang/invoke/VarHandle" ∧ (parseMethodDescriptor (pvyn 78).desc).map (fun d => d.parameters.length) = some 2 := by decide +kernel
theorem pvds_79 : (pvyn 79).cls ≠ "java/lang/invoke/MethodHandle" ∧ (pvyn 79).cls ≠ "java/lang/invoke/VarHandle" ∧ (parseMethodDescriptor (pvyn 79).desc).map (fun d => d.parameters.length) = some 2 := by decide +kernel
theorem pvds_80 : (pvyn 80).cls ≠ "java/lang/invoke/MethodHandle" ∧ (pvyn 80).cls ≠ "java/lang/invoke/VarHandle" ∧ (parseMethodDescriptor (pvyn 80).desc).map (fun d => d.parameters.length) = some 2 := by decide +kernel
theorem pvds_81 : (pvyn 81).cls ≠ "java/lang/invoke/MethodHandle" ∧ (pvyn 81).cls ≠ "java/lang/invoke/VarHandle" ∧ (parseMethodDescriptor (pvyn 81).desc).map (fun d => d.parameters.length) = some 2 := by decide +kernel
theorem pvds_82 : (pvyn 82).cls ≠ "java/lang/invoke/MethodHandle" ∧ (pvyn 82).cls ≠ "java/lang/invoke/VarHandle" ∧ (parseMethodDescriptor (pvyn 82).desc).map (fun d => d.parameters.length) = some 1 := by decide +kernel
theorem pvds_83 : (pvyn 83).cls ≠ "java/lang/invoke/MethodHandle" ∧ (pvyn 83).cls ≠ "java/lang/invoke/VarHandle" ∧ (parseMethodDescriptor (pvyn 83).desc).map (fun d => d.parameters.length) = some 1 := by decide +kernel
theorem pvds_84 : (pvyn 84).cls ≠ "java/lang/invoke/MethodHandle" ∧ (pvyn 84).cls ≠ "java/lang/invoke/VarHandle" ∧ (parseMethodDescriptor (pvyn 84).desc).map (fun d => d.parameters.length) = some 1 := by decide +kernel
theorem pvds_85 : (pvyn 85).cls ≠ "java/lang/invoke/MethodHandle" ∧ (pvyn 85).cls ≠ "java/lang/invoke/VarHandle" ∧ (parseMethodDescriptor (pvyn 85).desc).map (fun d => d.parameters.length) = some 1 := by decide +kernel
theorem pvds_86 : (pvyn 86).cls ≠ "java/lang/invoke/MethodHandle" ∧ (pvyn 86).cls ≠ "java/lang/invoke/VarHandle" ∧ (parseMethodDescriptor (pvyn 86).desc).map (fun d => d.parameters.length) = some 0 := by decide +kernel
theorem pvds_87 : (pvyn 87).cls ≠ "java/lang/invoke/MethodHandle" ∧ (pvyn 87).cls ≠ "java/lang/invoke/VarHandle" ∧ (parseMethodDescriptor (pvyn 87).desc).map (fun d => d.parameters.length) = some 0 := by decide +kernel
theorem pvds_88 : (pvyn 88).cls ≠ "java/lang/invoke/MethodHandle" ∧ (pvyn 88).cls ≠ "java/lang/invoke/VarHandle" ∧ (parseMethodDescriptor (pvyn 88).desc).map (fun d => d.parameters.length) = some 2 := by decide +kernel
theorem pvds_89 : (pvyn 89).cls ≠ "java/lang/invoke/MethodHandle" ∧ (pvyn 89).cls ≠ "java/lang/invoke/VarHandle" ∧ (parseMethodDescriptor (pvyn 89).desc).map (fun d => d.parameters.length) = some 3 := by decide +kernel
theorem pvds_90 : (pvyn 90).cls ≠ "java/lang/invoke/MethodHandle" ∧ (pvyn 90).cls ≠ "java/lang/invoke/VarHandle" ∧ (parseMethodDescriptor (pvyn 90).desc).map (fun d => d.parameters.length) = some 2 := by decide +kernel
theorem pvds_91 : (pvyn 91).cls ≠ "java/lang/invoke/MethodHandle" ∧ (pvyn 91).cls ≠ "java/lang/invoke/VarHandle" ∧ (parseMethodDescriptor (pvyn 91).desc).map (fun d => d.parameters.length) = some 1 := by decide +kernel
theorem pvds_92 : (pvyn 92).cls ≠ "java/lang/invoke/MethodHandle" ∧ (pvyn 92).cls ≠ "java/lang/invoke/VarHandle" ∧ (parseMethodDescriptor (pvyn 92).desc).map (fun d => d.parameters.length) = some 1 := by decide +kernel
theorem pvds_93 : (pvyn 93).cls ≠ "java/lang/invoke/MethodHandle" ∧ (pvyn 93).cls ≠ "java/lang/invoke/VarHandle" ∧ (parseMethodDescriptor (pvyn 93).desc).map (fun d => d.parameters.length) = some 1 := by decide +kernel
theorem pvds_94 : (pvyn 94).cls ≠ "java/lang/invoke/MethodHandle" ∧ (pvyn 94).cls ≠ "java/lang/invoke/VarHandle" ∧ (parseMethodDescriptor (pvyn 94).desc).map (fun d => d.parameters.length) = some 0 := by decide +kernel
theorem pvds_95 : (pvyn 95).cls ≠ "java/lang/invoke/MethodHandle" ∧ (pvyn 95).cls ≠ "java/lang/invoke/VarHandle" ∧ (parseMethodDescriptor (pvyn 95).desc).map (fun d => d.parameters.length) = some 3 := by decide +kernel
theorem pvds_96 : (pvyn 96).cls ≠ "java/lang/invoke/MethodHandle" ∧ (pvyn 96).cls ≠ "java/lang/invoke/VarHandle" ∧ (parseMethodDescriptor (pvyn 96).desc).map (fun d => d.parameters.length) = some 0 := by decide +kernel
theorem pvds_97 : (pvyn 97).cls ≠ "java/lang/invoke/MethodHandle" ∧ (pvyn 97).cls ≠ "java/lang/invoke/VarHandle" ∧ (parseMethodDescriptor (pvyn 97).desc).map (fun d => d.parameters.length) = some 5 := by decide +kernel
theorem pvds_98 : (pvyn 98).cls ≠ "java/lang/invoke/MethodHandle" ∧ (pvyn 98).cls ≠ "java/lang/invoke/VarHandle" ∧ (parseMethodDescriptor (pvyn 98).desc).map (fun d => d.parameters.length) = some 2 := by decide +kernel
theorem pvds_99 : (pvyn 99).cls ≠ "java/lang/invoke/MethodHandle" ∧ (pvyn 99).cls ≠ "java/lang/invoke/VarHandle" ∧ (parseMethodDescriptor (pvyn 99).desc).map (fun d => d.parameters.length) = some 2 := by decide +kernel
theorem pvds_100 : (pvyn 100).cls ≠ "java/lang/invoke/MethodHandle" ∧ (pvyn 100).cls ≠ "java/lang/invoke/VarHandle" ∧ (parseMethodDescriptor (pvyn 100).desc).map (fun d => d.parameters.length) = some 2 := by decide +kernel
theorem pvds_101 : (pvyn 101).cls ≠ "java/lang/invoke/MethodHandle" ∧ (pvyn 101).cls ≠ "java/lang/invoke/VarHandle" ∧ (parseMethodDescriptor (pvyn 101).desc).map (fun d => d.parameters.length) = some 1 := by decide +kernel
theorem pvds_102 : (pvyn 102).cls ≠ "java/lang/invoke/MethodHandle" ∧ (pvyn 102).cls ≠ "java/lang/invoke/VarHandle" ∧ (parseMethodDescriptor (pvyn 102).desc).map (fun d => d.parameters.length) = some 0 := by decide +kernel
theorem pvds_103 : (pvyn 103).cls ≠ "java/lang/invoke/MethodHandle" ∧ (pvyn 103).cls ≠ "java/lang/invoke/VarHandle" ∧ (parseMethodDescriptor (pvyn 103).desc).map (fun d => d.parameters.length) = some 0 := by decide +kernel
theorem pvds_104 : (pvyn 104).cls ≠ "java/lang/invoke/MethodHandle" ∧ (pvyn 104).cls ≠ "java/lang/invoke/VarHandle" ∧ (parseMethodDescriptor (pvyn 104).desc).map (fun d => d.parameters.length) = some 1 := by decide +kernel
theorem pvds_105 : (pvyn 105).cls ≠ "java/lang/invoke/MethodHandle" ∧ (pvyn 105).cls ≠ "java/lang/invoke/VarHandle" ∧ (parseMethodDescriptor (pvyn 105).desc).map (fun d => d.parameters.length) = some 1 := by decide +kernel
theorem pvds_106 : (pvyn 106).cls ≠ "java/lang/invoke/MethodHandle" ∧ (pvyn 106).cls ≠ "java/lang/invoke/VarHandle" ∧ (parseMethodDescriptor (pvyn 106).desc).map (fun d => d.parameters.length) = some 0 := by decide +kernel
theorem pvds_107 : (pvyn 107).cls ≠ "java/lang/invoke/MethodHandle" ∧ (pvyn 107).cls ≠ "java/lang/invoke/VarHandle" ∧ (parseMethodDescriptor (pvyn 107).desc).map (fun d => d.parameters.length) = some 1 := by decide +kernel
theorem pvds_108 : (pvyn 108).cls ≠ "java/lang/invoke/MethodHandle" ∧ (pvyn 108).cls ≠ "java/lang/invoke/VarHandle" ∧ (parseMethodDescriptor (pvyn 108).desc).map (fun d => d.parameters.length) = some 0 := by decide +kernel
theorem pvds_109 : (pvyn 109).cls ≠ "java/lang/invoke/MethodHandle" ∧ (pvyn 109).cls ≠ "java/lang/invoke/VarHandle" ∧ (parseMethodDescriptor (pvyn 109).desc).map (fun d => d.parameters.length) = some 4 := by decide +kernel
theorem pvds_110 : (pvyn 110).cls ≠ "java/lang/invoke/MethodHandle" ∧ (pvyn 110).cls ≠ "java/lang/invoke/VarHandle" ∧ (parseMethodDescriptor (pvyn 110).desc).map (fun d => d.parameters.length) = some 0 := by decide +kernel
theorem pvds_111 : (pvyn 111).cls ≠ "java/lang/invoke/MethodHandle" ∧ (pvyn 111).cls ≠ "java/lang/invoke/VarHandle" ∧ (parseMethodDescriptor (pvyn 111).desc).map (fun d => d.parameters.length) = some 1 := by decide +kernel
theorem pvds_112 : (pvyn 112).cls ≠ "java/lang/invoke/MethodHandle" ∧ (pvyn 112).cls ≠ "java/lang/invoke/VarHandle" ∧ (parseMethodDescriptor (pvyn 112).desc).map (fun d => d.parameters.length) = some 3 := by decide +kernel
theorem pvds_113 : (pvyn 113).cls ≠ "java/lang/invoke/MethodHandle" ∧ (pvyn 113).cls ≠ "java/lang/invoke/VarHandle" ∧ (parseMethodDescriptor (pvyn 113).desc).map (fun d => d.parameters.length) = some 2 := by decide +kernel
theorem pvds_114 : (pvyn 114).cls ≠ "java/lang/invoke/MethodHandle" ∧ (pvyn 114).cls ≠ "java/lang/invoke/VarHandle" ∧ (parseMethodDescriptor (pvyn 114).desc).map (fun d => d.parameters.length) = some 0 := by decide +kernel
theorem pvds_115 : (pvyn 115).cls ≠ "java/lang/invoke/MethodHandle" ∧ (pvyn 115).cls ≠ "java/lang/invoke/VarHandle" ∧ (parseMethodDescriptor (pvyn 115).desc).map (fun d => d.parameters.length) = some 0 := by decide +kernel
theorem pvds_116 : (pvyn 116).cls ≠ "java/lang/invoke/MethodHandle" ∧ (pvyn 116).cls ≠ "java/lang/invoke/VarHandle" ∧ (parseMethodDescriptor (pvyn 116).desc).map (fun d => d.parameters.length) = some 1 := by decide +kernel
theorem pvds_117 : (pvyn 117).cls ≠ "java/lang/invoke/MethodHandle" ∧ (pvyn 117).cls ≠ "java/lang/invoke/VarHandle" ∧ (parseMethodDescriptor (pvyn 117).desc).map (fun d => d.parameters.length) = some 0 := by decide +kernel
theorem pvds_118 : (pvyn 118).cls ≠ "java/lang/invoke/MethodHandle" ∧ (pvyn 118).cls ≠ "java/lang/invoke/VarHandle" ∧ (parseMethodDescriptor (pvyn 118).desc).map (fun d => d.parameters.length) = some 0 := by decide +kernel
theorem pvds_119 : (pvyn 119).cls ≠ "java/lang/invoke/MethodHandle" ∧ (pvyn 119).cls ≠ "java/lang/invoke/VarHandle" ∧ (parseMethodDescriptor (pvyn 119).desc).map (fun d => d.parameters.length) = some 0 := by decide +kernel
theorem pvds_120 : (pvyn 120).cls ≠ "java/lang/invoke/MethodHandle" ∧ (pvyn 120).cls ≠ "java/lang/invoke/VarHandle" ∧ (parseMethodDescriptor (pvyn 120).desc).map (fun d => d.parameters.length) = some 2 := by decide +kernel
theorem pvds_121 : (pvyn 121).cls ≠ "java/lang/invoke/MethodHandle" ∧ (pvyn 121).cls ≠ "java/lang/invoke/VarHandle" ∧ (parseMethodDescriptor (pvyn 121).desc).map (fun d => d.parameters.length) = some 1 := by decide +kernel
theorem pvds_122 : (pvyn 122).cls ≠ "java/lang/invoke/MethodHandle" ∧ (pvyn 122).cls ≠ "java/lang/invoke/VarHandle" ∧ (parseMethodDescriptor (pvyn 122).desc).map (fun d => d.parameters.length) = some 1 := by decide +kernel
theorem pvds_123 : (pvyn 123).cls ≠ "java/lang/invoke/MethodHandle" ∧ (pvyn 123).cls ≠ "java/lang/invoke/VarHandle" ∧ (parseMethodDescriptor (pvyn 123).desc).map (fun d => d.parameters.length) = some 1 := by decide +kernel
theorem pvds_124 : (pvyn 124).cls ≠ "java/lang/invoke/MethodHandle" ∧ (pvyn 124).cls ≠ "java/lang/invoke/VarHandle" ∧ (parseMethodDescriptor (pvyn 124).desc).map (fun d => d.parameters.length) = some 3 := by decide +kernel
theorem pvds_125 : (pvyn 125).cls ≠ "java/lang/invoke/MethodHandle" ∧ (pvyn 125).cls ≠ "java/lang/invoke/VarHandle" ∧ (parseMethodDescriptor (pvyn 125).desc).map (fun d => d.parameters.length) = some 0 := by decide +kernel
theorem pvds_126 : (pvyn 126).cls ≠ "java/lang/invoke/MethodHandle" ∧ (pvyn 126).cls ≠ "java/lang/invoke/VarHandle" ∧ (parseMethodDescriptor (pvyn 126).desc).map (fun d => d.parameters.length) = some 1 := by decide +kernel
theorem pvds_127 : (pvyn 127).cls ≠ "java/lang/invoke/MethodHandle" ∧ (pvyn 127).cls ≠ "java/lang/invoke/VarHandle" ∧ (parseMethodDescriptor (pvyn 127).desc).map (fun d => d.parameters.length) = some 2 := by decide +kernel
theorem pvds_128 : (pvyn 128).cls ≠ "java/lang/invoke/MethodHandle" ∧ (pvyn 128).cls ≠ "java/lang/invoke/VarHandle" ∧ (parseMethodDescriptor (pvyn 128).desc).map (fun d => d.parameters.length) = some 4 := by decide +kernel
theorem pvds_129 : (pvyn 129).cls ≠ "java/lang/invoke/MethodHandle" ∧ (pvyn 129).cls ≠ "java/lang/invoke/VarHandle" ∧ (parseMethodDescriptor (pvyn 129).desc).map (fun d => d.parameters.length) = some 1 := by decide +kernel
theorem pvds_130 : (pvyn 130).cls ≠ "java/lang/invoke/MethodHandle" ∧ (pvyn 130).cls ≠ "java/lang/invoke/VarHandle" ∧ (parseMethodDescriptor (pvyn 130).desc).map (fun d => d.parameters.length) = some 4 := by decide +kernel
theorem pvds_131 : (pvyn 131).cls ≠ "java/lang/invoke/MethodHandle" ∧ (pvyn 131).cls ≠ "java/lang/invoke/VarHandle" ∧ (parseMethodDescriptor (pvyn 131).desc).map (fun d => d.parameters.length) = some 1 := by decide +kernel
theorem pvds_132 : (pvyn 132).cls ≠ "java/lang/invoke/MethodHandle" ∧ (pvyn 132).cls ≠ "java/lang/invoke/VarHandle" ∧ (parseMethodDescriptor (pvyn 132).desc).map (fun d => d.parameters.length) = some 2 := by decide +kernel
theorem pvds_133 : (pvyn 133).cls ≠ "java/lang/invoke/MethodHandle" ∧ (pvyn 133).cls ≠ "java/lang/invoke/VarHandle" ∧ (parseMethodDescriptor (pvyn 133).desc).map (fun d => d.parameters.length) = some 1 := by decide +kernel
theorem pvds_134 : (pvyn 134).cls ≠ "java/lang/invoke/MethodHandle" ∧ (pvyn 134).cls ≠ "java/lang/invoke/VarHandle" ∧ (parseMethodDescriptor (pvyn 134).desc).map (fun d => d.parameters.length) = some 5 := by decide +kernel
theorem pvds_135 : (pvyn 135).cls ≠ "java/lang/invoke/MethodHandle" ∧ (pvyn 135).cls ≠ "java/lang/invoke/VarHandle" ∧ (parseMethodDescriptor (pvyn 135).desc).map (fun d => d.parameters.length) = some 2 := by decide +kernel
theorem pvds_136 : (pvyn 136).cls ≠ "java/lang/invoke/MethodHandle" ∧ (pvyn 136).cls ≠ "java/lang/invoke/VarHandle" ∧ (parseMethodDescriptor (pvyn 136).desc).map (fun d => d.parameters.length) = some 3 := by decide +kernel
theorem pvds_137 : (pvyn 137).cls ≠ "java/lang/invoke/MethodHandle" ∧ (pvyn 137).cls ≠ "java/lang/invoke/VarHandle" ∧ (parseMethodDescriptor (pvyn 137).desc).map (fun d => d.parameters.length) = some 2 := by decide +kernel
theorem pvds_138 : (pvyn 138).cls ≠ "java/lang/invoke/MethodHandle" ∧ (pvyn 138).cls ≠ "java/lang/invoke/VarHandle" ∧ (parseMethodDescriptor (pvyn 138).desc).map (fun d => d.parameters.length) = some 3 := by decide +kernel
theorem pvds_139 : (pvyn 139).cls ≠ "java/lang/invoke/MethodHandle" ∧ (pvyn 139).cls ≠ "java/lang/invoke/VarHandle" ∧ (parseMethodDescriptor (pvyn 139).desc).map (fun d => d.parameters.length) = some 0 := by decide +kernel
theorem pvds_140 : (pvyn 140).cls ≠ "java/lang/invoke/MethodHandle" ∧ (pvyn 140).cls ≠ "java/lang/invoke/VarHandle" ∧ (parseMethodDescriptor (pvyn 140).desc).map (fun d => d.parameters.length) = some 1 := by decide +kernel
theorem pvds_141 : (pvyn 141).cls ≠ "java/lang/invoke/MethodHandle" ∧ (pvyn 141).cls ≠ "java/lang/invoke/VarHandle" ∧ (parseMethodDescriptor (pvyn 141).desc).map (fun d => d.parameters.length) = some 1 := by decide +kernel
theorem pvds_142 : (pvyn 142).cls ≠ "java/lang/invoke/MethodHandle" ∧ (pvyn 142).cls ≠ "java/lang/invoke/VarHandle" ∧ (parseMethodDescriptor (pvyn 142).desc).map (fun d => d.parameters.length) = some 0 := by decide +kernel
theorem pvds_143 : (pvyn 143).cls ≠ "java/lang/invoke/MethodHandle" ∧ (pvyn 143).cls ≠ "java/lang/invoke/VarHandle" ∧ (parseMethodDescriptor (pvyn 143).desc).map (fun d => d.parameters.length) = some 1 := by decide +kernel
theorem pvds_144 : (pvyn 144).cls ≠ "java/lang/invoke/MethodHandle" ∧ (pvyn 144).cls ≠ "java/lang/invoke/VarHandle" ∧ (parseMethodDescriptor (pvyn 144).desc).map (fun d => d.parameters.length) = some 0 := by decide +kernel
theorem pvds_145 : (pvyn 145).cls ≠ "java/lang/invoke/MethodHandle" ∧ (pvyn 145).cls ≠ "java/lang/invoke/VarHandle" ∧ (parseMethodDescriptor (pvyn 145).desc).map (fun d => d.parameters.length) = some 1 := by decide +kernel
theorem pvds_146 : (pvyn 146).cls ≠ "java/lang/invoke/MethodHandle" ∧ (pvyn 146).cls ≠ "java/lang/invoke/VarHandle" ∧ (parseMethodDescriptor (pvyn 146).desc).map (fun d => d.parameters.length) = some 1 := by decide +kernel
theorem pvds_147 : (pvyn 147).cls ≠ "java/lang/invoke/MethodHandle" ∧ (pvyn 147).cls ≠ "java/lang/invoke/VarHandle" ∧ (parseMethodDescriptor (pvyn 147).desc).map (fun d => d.parameters.length) = some 1 := by decide +kernel
theorem pvds_148 : (pvyn 148).cls ≠ "java/lang/invoke/MethodHandle" ∧ (pvyn 148).cls ≠ "java/lang/invoke/VarHandle" ∧ (parseMethodDescriptor (pvyn 148).desc).map (fun d => d.parameters.length) = some 0 := by decide +kernel
theorem pvds_149 : (pvyn 149).cls ≠ "java/lang/invoke/MethodHandle" ∧ (pvyn 149).cls ≠ "java/lang/invoke/VarHandle" ∧ (parseMethodDescriptor (pvyn 149).desc).map (fun d => d.parameters.length) = some 1 := by decide +kernel
theorem pvds_150 : (pvyn 150).cls ≠ "java/lang/invoke/MethodHandle" ∧ (pvyn 150).cls ≠ "java/lang/invoke/VarHandle" ∧ (parseMethodDescriptor (pvyn 150).desc).map (fun d => d.parameters.length) = some 1 := by decide +kernel
theorem pvds_151 : (pvyn 151).cls ≠ "java/lang/invoke/MethodHandle" ∧ (pvyn 151).cls ≠ "java/lang/invoke/VarHandle" ∧ (parseMethodDescriptor (pvyn 151).desc).map (fun d => d.parameters.length) = some 2 := by decide +kernel
theorem pvds_152 : (pvyn 152).cls ≠ "java/lang/invoke/MethodHandle" ∧ (pvyn 152).cls ≠ "java/lang/invoke/VarHandle" ∧ (parseMethodDescriptor (pvyn 152).desc).map (fun d => d.parameters.length) = some 1 := by decide +kernel
theorem pvds_153 : (pvyn 153).cls ≠ "java/lang/invoke/MethodHandle" ∧ (pvyn 153).cls ≠ "java/lang/invoke/VarHandle" ∧ (parseMethodDescriptor (pvyn 153).desc).map (fun d => d.parameters.length) = some 0 := by decide +kernel
theorem pvds_154 : (pvyn 154).cls ≠ "java/lang/invoke/MethodHandle" ∧ (pvyn 154).cls ≠ "java/lang/invoke/VarHandle" ∧ (parseMethodDescriptor (pvyn 154).desc).map (fun d => d.parameters.length) = some 0 := by decide +kernel
theorem pvds_155 : (pvyn 155).cls ≠ "java/lang/invoke/MethodHandle" ∧ (pvyn 155).cls ≠ "java/lang/invoke/VarHandle" ∧ (parseMethodDescriptor (pvyn 155).desc).map (fun d => d.parameters.length) = some 1 := by decide +kernel
theorem pvds_156 : (pvyn 156).cls ≠ "java/lang/invoke/MethodHandle" ∧ (pvyn 156).cls ≠ "java/lang/invoke/VarHandle" ∧ (parseMethodDescriptor (pvyn 156).desc).map (fun d => d.parameters.length) = some 0 := by decide +kernel
theorem pvds_157 : (pvyn 157).cls ≠ "java/lang/invoke/MethodHandle" ∧ (pvyn 157).cls ≠ "java/lang/invoke/VarHandle" ∧ (parseMethodDescriptor (pvyn 157).desc).map (fun d => d.parameters.length) = some 2 := by decide +kernel
theorem pvds_158 : (pvyn 158).cls ≠ "java/lang/invoke/MethodHandle" ∧ (pvyn 158).cls ≠ "java/lang/invoke/VarHandle" ∧ (parseMethodDescriptor (pvyn 158).desc).map (fun d => d.parameters.length) = some 1 := by decide +kernel
theorem pvds_159 : (pvyn 159).cls ≠ "java/lang/invoke/MethodHandle" ∧ (pvyn 159).cls ≠ "java/lang/invoke/VarHandle" ∧ (parseMethodDescriptor (pvyn 159).desc).map (fun d => d.parameters.length) = some 1 := by decide +kernel
theorem pvds_160 : (pvyn 160).cls ≠ "java/lang/invoke/MethodHandle" ∧ (pvyn 160).cls ≠ "java/lang/invoke/VarHandle" ∧ (parseMethodDescriptor (pvyn 160).desc).map (fun d => d.parameters.length) = some 0 := by decide +kernel
theorem pvds_161 : (pvyn 161).cls ≠ "java/lang/invoke/MethodHandle" ∧ (pvyn 161).cls ≠ "java/lang/invoke/VarHandle" ∧ (parseMethodDescriptor (pvyn 161).desc).map (fun d => d.parameters.length) = some 1 := by decide +kernel
theorem pvds_162 : (pvyn 162).cls ≠ "java/lang/invoke/MethodHandle" ∧ (pvyn 162).cls ≠ "java/lang/invoke/VarHandle" ∧ (parseMethodDescriptor (pvyn 162).desc).map (fun d => d.parameters.length) = some 2 := by decide +kernel
theorem pvds_163 : (pvyn 163).cls ≠ "java/lang/invoke/MethodHandle" ∧ (pvyn 163).cls ≠ "java/lang/invoke/VarHandle" ∧ (parseMethodDescriptor (pvyn 163).desc).map (fun d => d.parameters.length) = some 1 := by decide +kernel
theorem pvds_164 : (pvyn 164).cls ≠ "java/lang/invoke/MethodHandle" ∧ (pvyn 164).cls ≠ "java/lang/invoke/VarHandle" ∧ (parseMethodDescriptor (pvyn 164).desc).map (fun d => d.parameters.length) = some 2 := by decide +kernel
theorem pvds_165 : (pvyn 165).cls ≠ "java/lang/invoke/MethodHandle" ∧ (pvyn 165).cls ≠ "java/lang/invoke/VarHandle" ∧ (parseMethodDescriptor (pvyn 165).desc).map (fun d => d.parameters.length) = some 0 := by decide +kernel
theorem pvds_166 : (pvyn 166).cls ≠ "java/lang/invoke/MethodHandle" ∧ (pvyn 166).cls ≠ "java/lang/invoke/VarHandle" ∧ (parseMethodDescriptor (pvyn 166).desc).map (fun d => d.parameters.length) = some 3 := by decide +kernel
theorem pvds_167 : (pvyn 167).cls ≠ "java/lang/invoke/MethodHandle" ∧ (pvyn 167).cls ≠ "java/lang/invoke/VarHandle" ∧ (parseMethodDescriptor (pvyn 167).desc).map (fun d => d.parameters.length) = some 1 := by decide +kernel
theorem pvds_168 : (pvyn 168).cls ≠ "java/lang/invoke/MethodHandle" ∧ (pvyn 168).cls ≠ "java/lang/invoke/VarHandle" ∧ (parseMethodDescriptor (pvyn 168).desc).map (fun d => d.parameters.length) = some 3 := by decide +kernel
theorem pvds_169 : (pvyn 169).cls ≠ "java/lang/invoke/MethodHandle" ∧ (pvyn 169).cls ≠ "java/lang/invoke/VarHandle" ∧ (parseMethodDescriptor (pvyn 169).desc).map (fun d => d.parameters.length) = some 1 := by decide +kernel
theorem pvds_170 : (pvyn 170).cls ≠ "java/lang/invoke/MethodHandle" ∧ (pvyn 170).cls ≠ "java/lang/invoke/VarHandle" ∧ (parseMethodDescriptor (pvyn 170).desc).map (fun d => d.parameters.length) = some 1 := by decide +kernel
theorem pvds_171 : (pvyn 171).cls ≠ "java/lang/invoke/MethodHandle" ∧ (pvyn 171).cls ≠ "java/lang/invoke/VarHandle" ∧ (parseMethodDescriptor (pvyn 171).desc).map (fun d => d.parameters.length) = some 2 := by decide +kernel
theorem pvds_172 : (pvyn 172).cls ≠ "java/lang/invoke/MethodHandle" ∧ (pvyn 172).cls ≠ "java/lang/invoke/VarHandle" ∧ (parseMethodDescriptor (pvyn 172).desc).map (fun d => d.parameters.length) = some 1 := by decide +kernel
theorem pvds_173 : (pvyn 173).cls ≠ "java/lang/invoke/MethodHandle" ∧ (pvyn 173).cls ≠ "java/lang/invoke/VarHandle" ∧ (parseMethodDescriptor (pvyn 173).desc).map (fun d => d.parameters.length) = some 1 := by decide +kernel
theorem pvds_174 : (pvyn 174).cls ≠ "java/lang/invoke/MethodHandle" ∧ (pvyn 174).cls ≠ "java/lang/invoke/VarHandle" ∧ (parseMethodDescriptor (pvyn 174).desc).map (fun d => d.parameters.length) = some 0 := by decide +kernel
theorem pvds_175 : (pvyn 175).cls ≠ "java/lang/invoke/MethodHandle" ∧ (pvyn 175).cls ≠ "java/lang/invoke/VarHandle" ∧ (parseMethodDescriptor (pvyn 175).desc).map (fun d => d.parameters.length) = some 1 := by decide +kernel
theorem pvds_176 : (pvyn 176).cls ≠ "java/lang/invoke/MethodHandle" ∧ (pvyn 176).cls ≠ "java/lang/invoke/VarHandle" ∧ (parseMethodDescriptor (pvyn 176).desc).map (fun d => d.parameters.length) = some 2 := by decide +kernel
theorem pvds_177 : (pvyn 177).cls ≠ "java/lang/invoke/MethodHandle" ∧ (pvyn 177).cls ≠ "java/lang/invoke/VarHandle" ∧ (parseMethodDescriptor (pvyn 177).desc).map (fun d => d.parameters.length) = some 0 := by decide +kernel
theorem pvds_178 : (pvyn 178).cls ≠ "java/lang/invoke/MethodHandle" ∧ (pvyn 178).cls ≠ "java/lang/invoke/VarHandle" ∧ (parseMethodDescriptor (pvyn 178).desc).map (fun d => d.parameters.length) = some 0 := by decide +kernel
theorem pvds_179 : (pvyn 179).cls ≠ "java/lang/invoke/MethodHandle" ∧ (pvyn 179).cls ≠ "java/lang/invoke/VarHandle" ∧ (parseMethodDescriptor (pvyn 179).desc).map (fun d => d.parameters.length) = some 2 := by decide +kernel
theorem pvds_180 : (pvyn 180).cls ≠ "java/lang/invoke/MethodHandle" ∧ (pvyn 180).cls ≠ "java/lang/invoke/VarHandle" ∧ (parseMethodDescriptor (pvyn 180).desc).map (fun d => d.parameters.length) = some 1 := by decide +kernel
theorem pvds_181 : (pvyn 181).cls ≠ "java/lang/invoke/MethodHandle" ∧ (pvyn 181).cls ≠ "java/lang/invoke/VarHandle" ∧ (parseMethodDescriptor (pvyn 181).desc).map (fun d => d.parameters.length) = some 3 := by decide +kernel
theorem pvds_182 : (pvyn 182).cls ≠ "java/lang/invoke/MethodHandle" ∧ (pvyn 182).cls ≠ "java/lang/invoke/VarHandle" ∧ (parseMethodDescriptor (pvyn 182).desc).map (fun d => d.parameters.length) = some 2 := by decide +kernel
theorem pvds_183 : (pvyn 183).cls ≠ "java/lang/invoke/MethodHandle" ∧ (pvyn 183).cls ≠ "java/lang/invoke/VarHandle" ∧ (parseMethodDescriptor (pvyn 183).desc).map (fun d => d.parameters.length) = some 1 := by decide +kernel
theorem pvds_184 : (pvyn 184).cls ≠ "java/lang/invoke/MethodHandle" ∧ (pvyn 184).cls ≠ "java/lang/invoke/VarHandle" ∧ (parseMethodDescriptor (pvyn 184).desc).map (fun d => d.parameters.length) = some 0 := by decide +kernel
theorem pvds_185 : (pvyn 185).cls ≠ "java/lang/invoke/MethodHandle" ∧ (pvyn 185).cls ≠ "java/lang/invoke/VarHandle" ∧ (parseMethodDescriptor (pvyn 185).desc).map (fun d => d.parameters.length) = some 0 := by decide +kernel
theorem pvds_186 : (pvyn 186).cls ≠ "java/lang/invoke/MethodHandle" ∧ (pvyn 186).cls ≠ "java/lang/invoke/VarHandle" ∧ (parseMethodDescriptor (pvyn 186).desc).map (fun d => d.parameters.length) = some 1 := by decide +kernel
theorem pvds_187 : (pvyn 187).cls ≠ "java/lang/invoke/MethodHandle" ∧ (pvyn 187).cls ≠ "java/lang/invoke/VarHandle" ∧ (parseMethodDescriptor (pvyn 187).desc).map (fun d => d.parameters.length) = some 0 := by decide +kernel
theorem pvds_188 : (pvyn 188).cls ≠ "java/lang/invoke/MethodHandle" ∧ (pvyn 188).cls ≠ "java/lang/invoke/VarHandle" ∧ (parseMethodDescriptor (pvyn 188).desc).map (fun d => d.parameters.length) = some 2 := by decide +kernel
theorem pvds_189 : (pvyn 189).cls ≠ "java/lang/invoke/MethodHandle" ∧ (pvyn 189).cls ≠ "java/lang/invoke/VarHandle" ∧ (parseMethodDescriptor (pvyn 189).desc).map (fun d => d.parameters.length) = some 2 := by decide +kernel
theorem pvds_190 : (pvyn 190).cls ≠ "java/lang/invoke/MethodHandle" ∧ (pvyn 190).cls ≠ "java/lang/invoke/VarHandle" ∧ (parseMethodDescriptor (pvyn 190).desc).map (fun d => d.parameters.length) = some 1 := by decide +kernel
theorem pvds_191 : (pvyn 191).cls ≠ "java/lang/invoke/MethodHandle" ∧ (pvyn 191).cls ≠ "java/lang/invoke/VarHandle" ∧ (parseMethodDescriptor (pvyn 191).desc).map (fun d => d.parameters.length) = some 3 := by decide +kernel
theorem pvds_192 : (pvyn 192).cls ≠ "java/lang/invoke/MethodHandle" ∧ (pvyn 192).cls ≠ "java/lang/invoke/VarHandle" ∧ (parseMethodDescriptor (pvyn 192).desc).map (fun d => d.parameters.length) = some 1 := by decide +kernel
theorem pvds_193 : (pvyn 193).cls ≠ "java/lang/invoke/MethodHandle" ∧ (pvyn 193).cls ≠ "java/lang/invoke/VarHandle" ∧ (parseMethodDescriptor (pvyn 193).desc).map (fun d => d.parameters.length) = some 2 := by decide +kernel
theorem pvds_194 : (pvyn 194).cls ≠ "java/lang/invoke/MethodHandle" ∧ (pvyn 194).cls ≠ "java/lang/invoke/VarHandle" ∧ (parseMethodDescriptor (pvyn 194).desc).map (fun d => d.parameters.length) = some 2 := by decide +kernel
theorem pvds_195 : (pvyn 195).cls ≠ "java/lang/invoke/MethodHandle" ∧ (pvyn 195).cls ≠ "java/lang/invoke/VarHandle" ∧ (parseMethodDescriptor (pvyn 195).desc).map (fun d => d.parameters.length) = some 1 := by decide +kernel
theorem pvds_196 : (pvyn 196).cls ≠ "java/lang/invoke/MethodHandle" ∧ (pvyn 196).cls ≠ "java/lang/invoke/VarHandle" ∧ (parseMethodDescriptor (pvyn 196).desc).map (fun d => d.parameters.length) = some 3 := by decide +kernel
theorem pvds_197 : (pvyn 197).cls ≠ "java/lang/invoke/MethodHandle" ∧ (pvyn 197).cls ≠ "java/lang/invoke/VarHandle" ∧ (parseMethodDescriptor (pvyn 197).desc).map (fun d => d.parameters.length) = some 2 := by decide +kernel
theorem pvds_198 : (pvyn 198).cls ≠ "java/lang/invoke/MethodHandle" ∧ (pvyn 198).cls ≠ "java/lang/invoke/VarHandle" ∧ (parseMethodDescriptor (pvyn 198).desc).map (fun d => d.parameters.length) = some 5 := by decide +kernel
theorem pvds_199 : (pvyn 199).cls ≠ "java/lang/invoke/MethodHandle" ∧ (pvyn 199).cls ≠ "java/lang/invoke/VarHandle" ∧ (parseMethodDescriptor (pvyn 199).desc).map (fun d => d.parameters.length) = some 1 := by decide +kernel
theorem pvds_200 : (pvyn 200).cls ≠ "java/lang/invoke/MethodHandle" ∧ (pvyn 200).cls ≠ "java/lang/invoke/VarHandle" ∧ (parseMethodDescriptor (pvyn 200).desc).map (fun d => d.parameters.length) = some 1 := by decide +kernel
theorem pvds_201 : (pvyn 201).cls ≠ "java/lang/invoke/MethodHandle" ∧ (pvyn 201).cls ≠ "java/lang/invoke/VarHandle" ∧ (parseMethodDescriptor (pvyn 201).desc).map (fun d => d.parameters.length) = some 2 := by decide +kernel
theorem pvds_202 : (pvyn 202).cls ≠ "java/lang/invoke/MethodHandle" ∧ (pvyn 202).cls ≠ "java/lang/invoke/VarHandle" ∧ (parseMethodDescriptor (pvyn 202).desc).map (fun d => d.parameters.length) = some 2 := by decide +kernel
theorem pvds_203 : (pvyn 203).cls ≠ "java/lang/invoke/MethodHandle" ∧ (pvyn 203).cls ≠ "java/lang/invoke/VarHandle" ∧ (parseMethodDescriptor (pvyn 203).desc).map (fun d => d.parameters.length) = some 2 := by decide +kernel
theorem pvds_204 : (pvyn 204).cls ≠ "java/lang/invoke/MethodHandle" ∧ (pvyn 204).cls ≠ "java/lang/invoke/VarHandle" ∧ (parseMethodDescriptor (pvyn 204).desc).map (fun d => d.parameters.length) = some 3 := by decide +kernel
theorem pvds_205 : (pvyn 205).cls ≠ "java/lang/invoke/MethodHandle" ∧ (pvyn 205).cls ≠ "java/lang/invoke/VarHandle" ∧ (parseMethodDescriptor (pvyn 205).desc).map (fun d => d.parameters.length) = some 1 := by decide +kernel
theorem pvds_206 : (pvyn 206).cls ≠ "java/lang/invoke/MethodHandle" ∧ (pvyn 206).cls ≠ "java/lang/invoke/VarHandle" ∧ (parseMethodDescriptor (pvyn 206).desc).map (fun d => d.parameters.length) = some 1 := by decide +kernel
theorem pvds_207 : (pvyn 207).cls ≠ "java/lang/invoke/MethodHandle" ∧ (pvyn 207).cls ≠ "java/lang/invoke/VarHandle" ∧ (parseMethodDescriptor (pvyn 207).desc).map (fun d => d.parameters.length) = some 1 := by decide +kernel
theorem pvds_208 : (pvyn 208).cls ≠ "java/lang/invoke/MethodHandle" ∧ (pvyn 208).cls ≠ "java/lang/invoke/VarHandle" ∧ (parseMethodDescriptor (pvyn 208).desc).map (fun d => d.parameters.length) = some 0 := by decide +kernel
theorem pvds_209 : (pvyn 209).cls ≠ "java/lang/invoke/MethodHandle" ∧ (pvyn 209).cls ≠ "java/lang/invoke/VarHandle" ∧ (parseMethodDescriptor (pvyn 209).desc).map (fun d => d.parameters.length) = some 1 := by decide +kernel
theorem pvds_210 : (pvyn 210).cls ≠ "java/lang/invoke/MethodHandle" ∧ (pvyn 210).cls ≠ "java/lang/invoke/VarHandle" ∧ (parseMethodDescriptor (pvyn 210).desc).map (fun d => d.parameters.length) = some 5 := by decide +kernel
theorem pvds_211 : (pvyn 211).cls ≠ "java/lang/invoke/MethodHandle" ∧ (pvyn 211).cls ≠ "java/lang/invoke/VarHandle" ∧ (parseMethodDescriptor (pvyn 211).desc).map (fun d => d.parameters.length) = some 3 := by decide +kernel
theorem pvds_212 : (pvyn 212).cls ≠ "java/lang/invoke/MethodHandle" ∧ (pvyn 212).cls ≠ "java/lang/invoke/VarHandle" ∧ (parseMethodDescriptor (pvyn 212).desc).map (fun d => d.parameters.length) = some 1 := by decide +kernel
def pvCa : List (Nat × Nat × Nat × Nat × Nat) := [(1, 37, 131, 1, 0), (1, 30, 4, 5, 0), (1, 43, 1, 2, 0), (1, 47, 2, 1, 1), (3, 250, 42, 1, 1), (3, 242, 36, 3, 1), (3, 408, 62, 2, 1), (3, 417, 75, 2, 1), (3, 423, 90, 2, 1), (3, 341, 50, 0, 1), (3, 366, 51, 0, 1), (3, 369, 14, 1, 1), (3, 347, 61, 0, 1), (3, 375, 31, 2, 1), (3, 378, 49, 2, 1), (3, 344, 48, 0, 1), (3, 363, 30, 0, 1), (3, 360, 24, 3, 1), (3, 387, 29, 1, 1), (3, 350, 28, 2, 1), (3, 337, 95, 3, 1), (3, 357, 76, 1, 1), (3, 293, 83, 1, 1), (3, 258, 82, 1, 1), (3, 315, 45, 0, 1), (3, 321, 39, 2, 1), (3, 324, 32, 2, 1), (3, 327, 26, 2, 1), (3, 331, 27, 1, 1), (3, 305, 19, 2, 1), (3, 296, 25, 1, 1), (3, 254, 64, 0, 1), (3, 399, 41, 1, 1), (3, 426, 56, 2, 1), (3, 312, 46, 2, 1), (3, 299, 21, 0, 1), (3, 302, 9, 0, 1), (3, 381, 38, 1, 1), (3, 318, 67, 1, 1), (3, 372, 15, 1, 1), (3, 390, 17, 2, 1), (3, 395, 54, 3, 1), (3, 402, 11, 1, 1), (3, 405, 98, 2, 1), (3, 354, 23, 1, 1), (3, 309, 33, 2, 1), (3, 264, 18, 1, 1), (3, 414, 79, 2, 1), (3, 411, 99, 2, 1), (3, 384, 13, 0, 1), (3, 246, 40, 2, 1), (3, 287, 85, 1, 1), (3, 272, 86, 0, 1), (3, 290, 84, 1, 1), (3, 278, 87, 0, 1), (3, 281, 72, 1, 1), (3, 275, 96, 0, 1), (3, 284, 88, 2, 1), (3, 260, 37, 0, 1), (3, 268, 65, 1, 1), (3, 420, 100, 2, 1), (3, 334, 7, 2, 1), (2, 52, 122, 1, 1), (2, 55, 115, 0, 1), (2, 103, 119, 0, 1), (2, 129, 113, 2, 1), (2, 165, 153, 0, 1), (2, 168, 151, 2, 1), (2, 171, 106, 0, 1), (2, 159, 111, 1, 1), (2, 162, 103, 0, 1), (2, 155, 109, 4, 1), (2, 147, 136, 3, 1), (2, 68, 120, 2, 1), (2, 112, 137, 2, 1), (2, 118, 116, 1, 1), (2, 122, 112, 3, 1), (2, 174, 152, 1, 1), (2, 178, 156, 0, 1), (2, 81, 130, 4, 1), (2, 85, 135, 2, 1), (2, 61, 121, 1, 1), (4, 37, 123, 1, 1), (4, 69, 129, 1, 1), (4, 41, 128, 4, 1), (4, 45, 127, 2, 1), (5, 13, 131, 1, 0), (6, 33, 134, 5, 1), (6, 51, 138, 3, 1), (7, 90, 145, 1, 1), (7, 87, 123, 1, 1), (7, 40, 147, 1, 1), (7, 84, 140, 1, 1), (7, 44, 150, 1, 0), (7, 53, 149, 1, 1), (7, 57, 144, 0, 1), (7, 67, 141, 1, 1), (7, 70, 126, 1, 1), (7, 30, 125, 0, 1), (7, 33, 139, 0, 1), (7, 36, 142, 0, 1), (7, 93, 148, 0, 1), (7, 98, 146, 1, 1), (7, 104, 124, 3, 1), (8, 26, 154, 0, 1), (8, 30, 153, 0, 1), (8, 34, 151, 2, 1), (8, 37, 157, 2, 1), (9, 66, 133, 1, 1), (9, 70, 152, 1, 1), (11, 92, 159, 1, 1), (11, 68, 211, 3, 0), (11, 291, 3, 4, 1), (11, 183, 153, 0, 1), (11, 188, 155, 1, 1), (11, 191, 154, 0, 1), (11, 195, 151, 2, 1), (11, 127, 102, 0, 1), (11, 199, 111, 1, 1), (11, 202, 103, 0, 1), (11, 165, 160, 0, 1), (11, 208, 0, 1, 0), (11, 213, 117, 0, 1), (11, 252, 168, 3, 1), (11, 244, 122, 1, 1), (11, 256, 114, 0, 1), (11, 176, 209, 1, 1), (11, 152, 143, 1, 1), (11, 89, 108, 0, 1), (11, 285, 158, 1, 1), (11, 271, 180, 1, 0), (11, 274, 165, 0, 1), (11, 305, 163, 1, 1), (11, 308, 161, 1, 1), (11, 229, 105, 1, 1), (11, 235, 107, 1, 1), (11, 261, 191, 3, 0), (11, 225, 104, 1, 1), (11, 123, 138, 3, 1), (11, 133, 112, 3, 1), (11, 330, 176, 2, 0), (11, 169, 175, 1, 1), (11, 205, 118, 0, 1), (11, 312, 164, 2, 1), (11, 173, 136, 3, 1), (11, 72, 179, 2, 0), (11, 298, 132, 2, 0), (11, 301, 162, 2, 1), (11, 238, 110, 0, 1), (11, 321, 113, 2, 1), (11, 83, 134, 5, 1)]
theorem pvCa_0 : pvCa1 (pvcn 1) 37 131 1 0 := ⟨zm_1149, zm_1152, zm_1151, pvds_131, zm_1150⟩
theorem pvCa_1 : pvCa1 (pvcn 1) 30 4 5 0 := ⟨zm_1142, zm_1144, zm_32, pvds_4, zm_1143⟩
theorem pvCa_2 : pvCa1 (pvcn 1) 43 1 2 0 := ⟨zm_1145, zm_1147, zm_32, pvds_1, zm_1146⟩
theorem pvCa_3 : pvCa1 (pvcn 1) 47 2 1 1 := ⟨zm_1154, zm_1157, zm_32, pvds_2, ⟨zm_1155, zm_1156⟩⟩
theorem pvCa_4 : pvCa1 (pvcn 3) 250 42 1 1 := ⟨zm_353, zm_356, zm_5, pvds_42, ⟨zm_354, zm_355⟩⟩
theorem pvCa_5 : pvCa1 (pvcn 3) 242 36 3 1 := ⟨zm_240, zm_243, zm_5, pvds_36, ⟨zm_241, zm_242⟩⟩
theorem pvCa_6 : pvCa1 (pvcn 3) 408 62 2 1 := ⟨zm_1162, zm_1165, zm_5, pvds_62, ⟨zm_1163, zm_1164⟩⟩
theorem pvCa_7 : pvCa1 (pvcn 3) 417 75 2 1 := ⟨zm_1174, zm_1177, zm_5, pvds_75, ⟨zm_1175, zm_1176⟩⟩
theorem pvCa_8 : pvCa1 (pvcn 3) 423 90 2 1 := ⟨zm_1186, zm_1189, zm_5, pvds_90, ⟨zm_1187, zm_1188⟩⟩
theorem pvCa_9 : pvCa1 (pvcn 3) 341 50 0 1 := ⟨zm_377, zm_380, zm_5, pvds_50, ⟨zm_378, zm_379⟩⟩
theorem pvCa_10 : pvCa1 (pvcn 3) 366 51 0 1 := ⟨zm_844, zm_847, zm_5, pvds_51, ⟨zm_845, zm_846⟩⟩
theorem pvCa_11 : pvCa1 (pvcn 3) 369 14 1 1 := ⟨zm_848, zm_851, zm_5, pvds_14, ⟨zm_849, zm_850⟩⟩
theorem pvCa_12 : pvCa1 (pvcn 3) 347 61 0 1 := ⟨zm_714, zm_717, zm_5, pvds_61, ⟨zm_715, zm_716⟩⟩
theorem pvCa_13 : pvCa1 (pvcn 3) 375 31 2 1 := ⟨zm_903, zm_906, zm_5, pvds_31, ⟨zm_904, zm_905⟩⟩
theorem pvCa_14 : pvCa1 (pvcn 3) 378 49 2 1 := ⟨zm_907, zm_910, zm_5, pvds_49, ⟨zm_908, zm_909⟩⟩
theorem pvCa_15 : pvCa1 (pvcn 3) 344 48 0 1 := ⟨zm_397, zm_400, zm_5, pvds_48, ⟨zm_398, zm_399⟩⟩
theorem pvCa_16 : pvCa1 (pvcn 3) 363 30 0 1 := ⟨zm_856, zm_859, zm_5, pvds_30, ⟨zm_857, zm_858⟩⟩
theorem pvCa_17 : pvCa1 (pvcn 3) 360 24 3 1 := ⟨zm_852, zm_855, zm_5, pvds_24, ⟨zm_853, zm_854⟩⟩
theorem pvCa_18 : pvCa1 (pvcn 3) 387 29 1 1 := ⟨zm_1024, zm_1027, zm_5, pvds_29, ⟨zm_1025, zm_1026⟩⟩
theorem pvCa_19 : pvCa1 (pvcn 3) 350 28 2 1 := ⟨zm_746, zm_749, zm_5, pvds_28, ⟨zm_747, zm_748⟩⟩
theorem pvCa_20 : pvCa1 (pvcn 3) 337 95 3 1 := ⟨zm_357, zm_360, zm_5, pvds_95, ⟨zm_358, zm_359⟩⟩
theorem pvCa_21 : pvCa1 (pvcn 3) 357 76 1 1 := ⟨zm_767, zm_770, zm_5, pvds_76, ⟨zm_768, zm_769⟩⟩
theorem pvCa_22 : pvCa1 (pvcn 3) 293 83 1 1 := ⟨zm_647, zm_650, zm_5, pvds_83, ⟨zm_648, zm_649⟩⟩
theorem pvCa_23 : pvCa1 (pvcn 3) 258 82 1 1 := ⟨zm_663, zm_666, zm_5, pvds_82, ⟨zm_664, zm_665⟩⟩
theorem pvCa_24 : pvCa1 (pvcn 3) 315 45 0 1 := ⟨zm_381, zm_384, zm_5, pvds_45, ⟨zm_382, zm_383⟩⟩
theorem pvCa_25 : pvCa1 (pvcn 3) 321 39 2 1 := ⟨zm_406, zm_409, zm_5, pvds_39, ⟨zm_407, zm_408⟩⟩
theorem pvCa_26 : pvCa1 (pvcn 3) 324 32 2 1 := ⟨zm_410, zm_413, zm_5, pvds_32, ⟨zm_411, zm_412⟩⟩
theorem pvCa_27 : pvCa1 (pvcn 3) 327 26 2 1 := ⟨zm_402, zm_405, zm_5, pvds_26, ⟨zm_403, zm_404⟩⟩
theorem pvCa_28 : pvCa1 (pvcn 3) 331 27 1 1 := ⟨zm_750, zm_753, zm_5, pvds_27, ⟨zm_751, zm_752⟩⟩
theorem pvCa_29 : pvCa1 (pvcn 3) 305 19 2 1 := ⟨zm_393, zm_396, zm_5, pvds_19, ⟨zm_394, zm_395⟩⟩
theorem pvCa_30 : pvCa1 (pvcn 3) 296 25 1 1 := ⟨zm_643, zm_646, zm_5, pvds_25, ⟨zm_644, zm_645⟩⟩
theorem pvCa_31 : pvCa1 (pvcn 3) 254 64 0 1 := ⟨zm_655, zm_658, zm_5, pvds_64, ⟨zm_656, zm_657⟩⟩
theorem pvCa_32 : pvCa1 (pvcn 3) 399 41 1 1 := ⟨zm_1097, zm_1100, zm_5, pvds_41, ⟨zm_1098, zm_1099⟩⟩
theorem pvCa_33 : pvCa1 (pvcn 3) 426 56 2 1 := ⟨zm_1253, zm_1256, zm_5, pvds_56, ⟨zm_1254, zm_1255⟩⟩
theorem pvCa_34 : pvCa1 (pvcn 3) 312 46 2 1 := ⟨zm_361, zm_364, zm_5, pvds_46, ⟨zm_362, zm_363⟩⟩
theorem pvCa_35 : pvCa1 (pvcn 3) 299 21 0 1 := ⟨zm_365, zm_368, zm_5, pvds_21, ⟨zm_366, zm_367⟩⟩
theorem pvCa_36 : pvCa1 (pvcn 3) 302 9 0 1 := ⟨zm_369, zm_372, zm_5, pvds_9, ⟨zm_370, zm_371⟩⟩
theorem pvCa_37 : pvCa1 (pvcn 3) 381 38 1 1 := ⟨zm_937, zm_940, zm_5, pvds_38, ⟨zm_938, zm_939⟩⟩
theorem pvCa_38 : pvCa1 (pvcn 3) 318 67 1 1 := ⟨zm_385, zm_388, zm_5, pvds_67, ⟨zm_386, zm_387⟩⟩
theorem pvCa_39 : pvCa1 (pvcn 3) 372 15 1 1 := ⟨zm_840, zm_843, zm_5, pvds_15, ⟨zm_841, zm_842⟩⟩
theorem pvCa_40 : pvCa1 (pvcn 3) 390 17 2 1 := ⟨zm_1049, zm_1052, zm_5, pvds_17, ⟨zm_1050, zm_1051⟩⟩
theorem pvCa_41 : pvCa1 (pvcn 3) 395 54 3 1 := ⟨zm_1045, zm_1048, zm_5, pvds_54, ⟨zm_1046, zm_1047⟩⟩
theorem pvCa_42 : pvCa1 (pvcn 3) 402 11 1 1 := ⟨zm_1166, zm_1169, zm_5, pvds_11, ⟨zm_1167, zm_1168⟩⟩
theorem pvCa_43 : pvCa1 (pvcn 3) 405 98 2 1 := ⟨zm_1170, zm_1173, zm_5, pvds_98, ⟨zm_1171, zm_1172⟩⟩
theorem pvCa_44 : pvCa1 (pvcn 3) 354 23 1 1 := ⟨zm_741, zm_744, zm_5, pvds_23, ⟨zm_742, zm_743⟩⟩
theorem pvCa_45 : pvCa1 (pvcn 3) 309 33 2 1 := ⟨zm_389, zm_392, zm_5, pvds_33, ⟨zm_390, zm_391⟩⟩
theorem pvCa_46 : pvCa1 (pvcn 3) 264 18 1 1 := ⟨zm_687, zm_690, zm_5, pvds_18, ⟨zm_688, zm_689⟩⟩
theorem pvCa_47 : pvCa1 (pvcn 3) 414 79 2 1 := ⟨zm_1178, zm_1181, zm_5, pvds_79, ⟨zm_1179, zm_1180⟩⟩
theorem pvCa_48 : pvCa1 (pvcn 3) 411 99 2 1 := ⟨zm_1182, zm_1185, zm_5, pvds_99, ⟨zm_1183, zm_1184⟩⟩
theorem pvCa_49 : pvCa1 (pvcn 3) 384 13 0 1 := ⟨zm_975, zm_978, zm_5, pvds_13, ⟨zm_976, zm_977⟩⟩
theorem pvCa_50 : pvCa1 (pvcn 3) 246 40 2 1 := ⟨zm_244, zm_247, zm_5, pvds_40, ⟨zm_245, zm_246⟩⟩
theorem pvCa_51 : pvCa1 (pvcn 3) 287 85 1 1 := ⟨zm_651, zm_654, zm_5, pvds_85, ⟨zm_652, zm_653⟩⟩
theorem pvCa_52 : pvCa1 (pvcn 3) 272 86 0 1 := ⟨zm_667, zm_670, zm_5, pvds_86, ⟨zm_668, zm_669⟩⟩
theorem pvCa_53 : pvCa1 (pvcn 3) 290 84 1 1 := ⟨zm_675, zm_678, zm_5, pvds_84, ⟨zm_676, zm_677⟩⟩
theorem pvCa_54 : pvCa1 (pvcn 3) 278 87 0 1 := ⟨zm_679, zm_682, zm_5, pvds_87, ⟨zm_680, zm_681⟩⟩
theorem pvCa_55 : pvCa1 (pvcn 3) 281 72 1 1 := ⟨zm_695, zm_698, zm_5, pvds_72, ⟨zm_696, zm_697⟩⟩
theorem pvCa_56 : pvCa1 (pvcn 3) 275 96 0 1 := ⟨zm_691, zm_694, zm_5, pvds_96, ⟨zm_692, zm_693⟩⟩
theorem pvCa_57 : pvCa1 (pvcn 3) 284 88 2 1 := ⟨zm_659, zm_662, zm_5, pvds_88, ⟨zm_660, zm_661⟩⟩
theorem pvCa_58 : pvCa1 (pvcn 3) 260 37 0 1 := ⟨zm_671, zm_674, zm_5, pvds_37, ⟨zm_672, zm_673⟩⟩
theorem pvCa_59 : pvCa1 (pvcn 3) 268 65 1 1 := ⟨zm_683, zm_686, zm_5, pvds_65, ⟨zm_684, zm_685⟩⟩
theorem pvCa_60 : pvCa1 (pvcn 3) 420 100 2 1 := ⟨zm_1190, zm_1193, zm_5, pvds_100, ⟨zm_1191, zm_1192⟩⟩
theorem pvCa_61 : pvCa1 (pvcn 3) 334 7 2 1 := ⟨zm_373, zm_376, zm_5, pvds_7, ⟨zm_374, zm_375⟩⟩
theorem pvCa_62 : pvCa1 (pvcn 2) 52 122 1 1 := ⟨zm_280, zm_283, zm_28, pvds_122, ⟨zm_281, zm_282⟩⟩
theorem pvCa_63 : pvCa1 (pvcn 2) 55 115 0 1 := ⟨zm_325, zm_328, zm_28, pvds_115, ⟨zm_326, zm_327⟩⟩
theorem pvCa_64 : pvCa1 (pvcn 2) 103 119 0 1 := ⟨zm_337, zm_340, zm_28, pvds_119, ⟨zm_338, zm_339⟩⟩
theorem pvCa_65 : pvCa1 (pvcn 2) 129 113 2 1 := ⟨zm_831, zm_735, zm_28, pvds_113, ⟨zm_733, zm_734⟩⟩
theorem pvCa_66 : pvCa1 (pvcn 2) 165 153 0 1 := ⟨zm_878, zm_787, zm_78, pvds_153, ⟨zm_785, zm_786⟩⟩
theorem pvCa_67 : pvCa1 (pvcn 2) 168 151 2 1 := ⟨zm_879, zm_799, zm_78, pvds_151, ⟨zm_797, zm_798⟩⟩
theorem pvCa_68 : pvCa1 (pvcn 2) 171 106 0 1 := ⟨zm_880, zm_883, zm_28, pvds_106, ⟨zm_881, zm_882⟩⟩
theorem pvCa_69 : pvCa1 (pvcn 2) 159 111 1 1 := ⟨zm_932, zm_812, zm_28, pvds_111, ⟨zm_810, zm_811⟩⟩
theorem pvCa_70 : pvCa1 (pvcn 2) 162 103 0 1 := ⟨zm_884, zm_830, zm_28, pvds_103, ⟨zm_828, zm_829⟩⟩
theorem pvCa_71 : pvCa1 (pvcn 2) 155 109 4 1 := ⟨zm_816, zm_819, zm_28, pvds_109, ⟨zm_817, zm_818⟩⟩
theorem pvCa_72 : pvCa1 (pvcn 2) 147 136 3 1 := ⟨zm_826, zm_761, zm_83, pvds_136, ⟨zm_759, zm_760⟩⟩
theorem pvCa_73 : pvCa1 (pvcn 2) 68 120 2 1 := ⟨zm_292, zm_295, zm_28, pvds_120, ⟨zm_293, zm_294⟩⟩
theorem pvCa_74 : pvCa1 (pvcn 2) 112 137 2 1 := ⟨zm_341, zm_344, zm_83, pvds_137, ⟨zm_342, zm_343⟩⟩
theorem pvCa_75 : pvCa1 (pvcn 2) 118 116 1 1 := ⟨zm_345, zm_348, zm_28, pvds_116, ⟨zm_346, zm_347⟩⟩
theorem pvCa_76 : pvCa1 (pvcn 2) 122 112 3 1 := ⟨zm_736, zm_334, zm_28, pvds_112, ⟨zm_332, zm_333⟩⟩
theorem pvCa_77 : pvCa1 (pvcn 2) 174 152 1 1 := ⟨zm_885, zm_888, zm_78, pvds_152, ⟨zm_886, zm_887⟩⟩
theorem pvCa_78 : pvCa1 (pvcn 2) 178 156 0 1 := ⟨zm_891, zm_894, zm_78, pvds_156, ⟨zm_892, zm_893⟩⟩
theorem pvCa_79 : pvCa1 (pvcn 2) 81 130 4 1 := ⟨zm_300, zm_303, zm_37, pvds_130, ⟨zm_301, zm_302⟩⟩
theorem pvCa_80 : pvCa1 (pvcn 2) 85 135 2 1 := ⟨zm_321, zm_324, zm_83, pvds_135, ⟨zm_322, zm_323⟩⟩
theorem pvCa_81 : pvCa1 (pvcn 2) 61 121 1 1 := ⟨zm_285, zm_288, zm_28, pvds_121, ⟨zm_286, zm_287⟩⟩
theorem pvCa_82 : pvCa1 (pvcn 4) 37 123 1 1 := ⟨zm_634, zm_560, zm_37, pvds_123, ⟨zm_558, zm_559⟩⟩
theorem pvCa_83 : pvCa1 (pvcn 4) 69 129 1 1 := ⟨zm_317, zm_320, zm_37, pvds_129, ⟨zm_318, zm_319⟩⟩
theorem pvCa_84 : pvCa1 (pvcn 4) 41 128 4 1 := ⟨zm_305, zm_308, zm_37, pvds_128, ⟨zm_306, zm_307⟩⟩
theorem pvCa_85 : pvCa1 (pvcn 4) 45 127 2 1 := ⟨zm_313, zm_316, zm_37, pvds_127, ⟨zm_314, zm_315⟩⟩
theorem pvCa_86 : pvCa1 (pvcn 5) 13 131 1 0 := ⟨zm_1210, zm_1152, zm_1151, pvds_131, zm_1150⟩
theorem pvCa_87 : pvCa1 (pvcn 6) 33 134 5 1 := ⟨zm_1117, zm_231, zm_83, pvds_134, ⟨zm_229, zm_230⟩⟩
theorem pvCa_88 : pvCa1 (pvcn 6) 51 138 3 1 := ⟨zm_762, zm_270, zm_83, pvds_138, ⟨zm_268, zm_269⟩⟩
theorem pvCa_89 : pvCa1 (pvcn 7) 90 145 1 1 := ⟨zm_562, zm_565, zm_18, pvds_145, ⟨zm_563, zm_564⟩⟩
theorem pvCa_90 : pvCa1 (pvcn 7) 87 123 1 1 := ⟨zm_557, zm_560, zm_37, pvds_123, ⟨zm_558, zm_559⟩⟩
theorem pvCa_91 : pvCa1 (pvcn 7) 40 147 1 1 := ⟨zm_542, zm_545, zm_18, pvds_147, ⟨zm_543, zm_544⟩⟩
theorem pvCa_92 : pvCa1 (pvcn 7) 84 140 1 1 := ⟨zm_554, zm_561, zm_18, pvds_140, ⟨zm_555, zm_556⟩⟩
theorem pvCa_93 : pvCa1 (pvcn 7) 44 150 1 0 := ⟨zm_482, zm_484, zm_18, pvds_150, zm_483⟩
theorem pvCa_94 : pvCa1 (pvcn 7) 53 149 1 1 := ⟨zm_491, zm_494, zm_18, pvds_149, ⟨zm_492, zm_493⟩⟩
theorem pvCa_95 : pvCa1 (pvcn 7) 57 144 0 1 := ⟨zm_546, zm_549, zm_18, pvds_144, ⟨zm_547, zm_548⟩⟩
theorem pvCa_96 : pvCa1 (pvcn 7) 67 141 1 1 := ⟨zm_550, zm_553, zm_18, pvds_141, ⟨zm_551, zm_552⟩⟩
theorem pvCa_97 : pvCa1 (pvcn 7) 70 126 1 1 := ⟨zm_635, zm_638, zm_37, pvds_126, ⟨zm_636, zm_637⟩⟩
theorem pvCa_98 : pvCa1 (pvcn 7) 30 125 0 1 := ⟨zm_468, zm_471, zm_37, pvds_125, ⟨zm_469, zm_470⟩⟩
theorem pvCa_99 : pvCa1 (pvcn 7) 33 139 0 1 := ⟨zm_472, zm_475, zm_18, pvds_139, ⟨zm_473, zm_474⟩⟩
theorem pvCa_100 : pvCa1 (pvcn 7) 36 142 0 1 := ⟨zm_476, zm_479, zm_18, pvds_142, ⟨zm_477, zm_478⟩⟩
theorem pvCa_101 : pvCa1 (pvcn 7) 93 148 0 1 := ⟨zm_566, zm_569, zm_18, pvds_148, ⟨zm_567, zm_568⟩⟩
theorem pvCa_102 : pvCa1 (pvcn 7) 98 146 1 1 := ⟨zm_570, zm_573, zm_18, pvds_146, ⟨zm_571, zm_572⟩⟩
theorem pvCa_103 : pvCa1 (pvcn 7) 104 124 3 1 := ⟨zm_630, zm_633, zm_37, pvds_124, ⟨zm_631, zm_632⟩⟩
theorem pvCa_104 : pvCa1 (pvcn 8) 26 154 0 1 := ⟨zm_800, zm_795, zm_78, pvds_154, ⟨zm_793, zm_794⟩⟩
theorem pvCa_105 : pvCa1 (pvcn 8) 30 153 0 1 := ⟨zm_889, zm_787, zm_78, pvds_153, ⟨zm_785, zm_786⟩⟩
theorem pvCa_106 : pvCa1 (pvcn 8) 34 151 2 1 := ⟨zm_890, zm_799, zm_78, pvds_151, ⟨zm_797, zm_798⟩⟩
theorem pvCa_107 : pvCa1 (pvcn 8) 37 157 2 1 := ⟨zm_895, zm_898, zm_78, pvds_157, ⟨zm_896, zm_897⟩⟩
theorem pvCa_108 : pvCa1 (pvcn 9) 66 133 1 1 := ⟨zm_1109, zm_1112, zm_83, pvds_133, ⟨zm_1110, zm_1111⟩⟩
theorem pvCa_109 : pvCa1 (pvcn 9) 70 152 1 1 := ⟨zm_1118, zm_888, zm_78, pvds_152, ⟨zm_886, zm_887⟩⟩
theorem pvCa_110 : pvCa1 (pvcn 11) 92 159 1 1 := ⟨zm_263, zm_266, zm_22, pvds_159, ⟨zm_264, zm_265⟩⟩
theorem pvCa_111 : pvCa1 (pvcn 11) 68 211 3 0 := ⟨zm_222, zm_224, zm_2, pvds_211, zm_223⟩
theorem pvCa_112 : pvCa1 (pvcn 11) 291 3 4 1 := ⟨zm_1136, zm_1139, zm_32, pvds_3, ⟨zm_1137, zm_1138⟩⟩
theorem pvCa_113 : pvCa1 (pvcn 11) 183 153 0 1 := ⟨zm_784, zm_787, zm_78, pvds_153, ⟨zm_785, zm_786⟩⟩
theorem pvCa_114 : pvCa1 (pvcn 11) 188 155 1 1 := ⟨zm_788, zm_791, zm_78, pvds_155, ⟨zm_789, zm_790⟩⟩
theorem pvCa_115 : pvCa1 (pvcn 11) 191 154 0 1 := ⟨zm_792, zm_795, zm_78, pvds_154, ⟨zm_793, zm_794⟩⟩
theorem pvCa_116 : pvCa1 (pvcn 11) 195 151 2 1 := ⟨zm_796, zm_799, zm_78, pvds_151, ⟨zm_797, zm_798⟩⟩
theorem pvCa_117 : pvCa1 (pvcn 11) 127 102 0 1 := ⟨zm_274, zm_277, zm_28, pvds_102, ⟨zm_275, zm_276⟩⟩
theorem pvCa_118 : pvCa1 (pvcn 11) 199 111 1 1 := ⟨zm_809, zm_812, zm_28, pvds_111, ⟨zm_810, zm_811⟩⟩
theorem pvCa_119 : pvCa1 (pvcn 11) 202 103 0 1 := ⟨zm_827, zm_830, zm_28, pvds_103, ⟨zm_828, zm_829⟩⟩
theorem pvCa_120 : pvCa1 (pvcn 11) 165 160 0 1 := ⟨zm_705, zm_708, zm_22, pvds_160, ⟨zm_706, zm_707⟩⟩
theorem pvCa_121 : pvCa1 (pvcn 11) 208 0 1 0 := ⟨zm_867, zm_870, zm_869, pvds_0, zm_868⟩
theorem pvCa_122 : pvCa1 (pvcn 11) 213 117 0 1 := ⟨zm_874, zm_877, zm_28, pvds_117, ⟨zm_875, zm_876⟩⟩
theorem pvCa_123 : pvCa1 (pvcn 11) 252 168 3 1 := ⟨zm_1002, zm_1005, zm_2, pvds_168, ⟨zm_1003, zm_1004⟩⟩
theorem pvCa_124 : pvCa1 (pvcn 11) 244 122 1 1 := ⟨zm_983, zm_283, zm_28, pvds_122, ⟨zm_281, zm_282⟩⟩
theorem pvCa_125 : pvCa1 (pvcn 11) 256 114 0 1 := ⟨zm_1014, zm_1017, zm_28, pvds_114, ⟨zm_1015, zm_1016⟩⟩
theorem pvCa_126 : pvCa1 (pvcn 11) 176 209 1 1 := ⟨zm_726, zm_729, zm_2, pvds_209, ⟨zm_727, zm_728⟩⟩
theorem pvCa_127 : pvCa1 (pvcn 11) 152 143 1 1 := ⟨zm_464, zm_467, zm_18, pvds_143, ⟨zm_465, zm_466⟩⟩
theorem pvCa_128 : pvCa1 (pvcn 11) 89 108 0 1 := ⟨zm_232, zm_235, zm_28, pvds_108, ⟨zm_233, zm_234⟩⟩
theorem pvCa_129 : pvCa1 (pvcn 11) 285 158 1 1 := ⟨zm_1105, zm_1108, zm_22, pvds_158, ⟨zm_1106, zm_1107⟩⟩
theorem pvCa_130 : pvCa1 (pvcn 11) 271 180 1 0 := ⟨zm_1086, zm_1088, zm_2, pvds_180, zm_1087⟩
theorem pvCa_131 : pvCa1 (pvcn 11) 274 165 0 1 := ⟨zm_1089, zm_1092, zm_39, pvds_165, ⟨zm_1090, zm_1091⟩⟩
theorem pvCa_132 : pvCa1 (pvcn 11) 305 163 1 1 := ⟨zm_1241, zm_1244, zm_39, pvds_163, ⟨zm_1242, zm_1243⟩⟩
theorem pvCa_133 : pvCa1 (pvcn 11) 308 161 1 1 := ⟨zm_1245, zm_1248, zm_39, pvds_161, ⟨zm_1246, zm_1247⟩⟩
theorem pvCa_134 : pvCa1 (pvcn 11) 229 105 1 1 := ⟨zm_928, zm_931, zm_28, pvds_105, ⟨zm_929, zm_930⟩⟩
theorem pvCa_135 : pvCa1 (pvcn 11) 235 107 1 1 := ⟨zm_946, zm_949, zm_28, pvds_107, ⟨zm_947, zm_948⟩⟩
theorem pvCa_136 : pvCa1 (pvcn 11) 261 191 3 0 := ⟨zm_1033, zm_1035, zm_2, pvds_191, zm_1034⟩
theorem pvCa_137 : pvCa1 (pvcn 11) 225 104 1 1 := ⟨zm_915, zm_918, zm_28, pvds_104, ⟨zm_916, zm_917⟩⟩
theorem pvCa_138 : pvCa1 (pvcn 11) 123 138 3 1 := ⟨zm_267, zm_270, zm_83, pvds_138, ⟨zm_268, zm_269⟩⟩
theorem pvCa_139 : pvCa1 (pvcn 11) 133 112 3 1 := ⟨zm_331, zm_334, zm_28, pvds_112, ⟨zm_332, zm_333⟩⟩
theorem pvCa_140 : pvCa1 (pvcn 11) 330 176 2 0 := ⟨zm_1036, zm_1038, zm_2, pvds_176, zm_1037⟩
theorem pvCa_141 : pvCa1 (pvcn 11) 169 175 1 1 := ⟨zm_722, zm_725, zm_2, pvds_175, ⟨zm_723, zm_724⟩⟩
theorem pvCa_142 : pvCa1 (pvcn 11) 205 118 0 1 := ⟨zm_832, zm_835, zm_28, pvds_118, ⟨zm_833, zm_834⟩⟩
theorem pvCa_143 : pvCa1 (pvcn 11) 312 164 2 1 := ⟨zm_1270, zm_1273, zm_39, pvds_164, ⟨zm_1271, zm_1272⟩⟩
theorem pvCa_144 : pvCa1 (pvcn 11) 173 136 3 1 := ⟨zm_758, zm_761, zm_83, pvds_136, ⟨zm_759, zm_760⟩⟩
theorem pvCa_145 : pvCa1 (pvcn 11) 72 179 2 0 := ⟨zm_225, zm_227, zm_2, pvds_179, zm_226⟩
theorem pvCa_146 : pvCa1 (pvcn 11) 298 132 2 0 := ⟨zm_1207, zm_1209, zm_1151, pvds_132, zm_1208⟩
theorem pvCa_147 : pvCa1 (pvcn 11) 301 162 2 1 := ⟨zm_1227, zm_1230, zm_39, pvds_162, ⟨zm_1228, zm_1229⟩⟩
theorem pvCa_148 : pvCa1 (pvcn 11) 238 110 0 1 := ⟨zm_958, zm_961, zm_28, pvds_110, ⟨zm_959, zm_960⟩⟩
theorem pvCa_149 : pvCa1 (pvcn 11) 321 113 2 1 := ⟨zm_732, zm_735, zm_28, pvds_113, ⟨zm_733, zm_734⟩⟩
theorem pvCa_150 : pvCa1 (pvcn 11) 83 134 5 1 := ⟨zm_228, zm_231, zm_83, pvds_134, ⟨zm_229, zm_230⟩⟩
set_option maxRecDepth 20000 in
theorem pvCa_ok : ∀ q ∈ pvCa, pvCa1 (pvcn q.1) q.2.1 q.2.2.1 q.2.2.2.1 q.2.2.2.2 := List.forall_mem_cons.mpr ⟨pvCa_0, List.forall_mem_cons.mpr ⟨pvCa_1, List.forall_mem_cons.mpr ⟨pvCa_2, List.forall_mem_cons.mpr ⟨pvCa_3, List.forall_mem_cons.mpr ⟨pvCa_4, List.forall_mem_cons.mpr ⟨pvCa_5, List.forall_mem_cons.mpr ⟨pvCa_6, List.forall_mem_cons.mpr ⟨pvCa_7, List.forall_mem_cons.mpr ⟨pvCa_8, List.forall_mem_cons.mpr ⟨pvCa_9, List.forall_mem_cons.mpr ⟨pvCa_10, List.forall_mem_cons.mpr ⟨pvCa_11, List.forall_mem_cons.mpr ⟨pvCa_12, List.forall_mem_cons.mpr ⟨pvCa_13, List.forall_mem_cons.mpr ⟨pvCa_14, List.forall_mem_cons.mpr ⟨pvCa_15, List.forall_mem_cons.mpr ⟨pvCa_16, List.forall_mem_cons.mpr ⟨pvCa_17, List.forall_mem_cons.mpr ⟨pvCa_18, List.forall_mem_cons.mpr ⟨pvCa_19, List.forall_mem_cons.mpr ⟨pvCa_20, List.forall_mem_cons.mpr ⟨pvCa_21, List.forall_mem_cons.mpr ⟨pvCa_22, List.forall_mem_cons.mpr ⟨pvCa_23, List.forall_mem_cons.mpr ⟨pvCa_24, List.forall_mem_cons.mpr ⟨pvCa_25, List.forall_mem_cons.mpr ⟨pvCa_26, List.forall_mem_cons.mpr ⟨pvCa_27, List.forall_mem_cons.mpr ⟨pvCa_28, List.forall_mem_cons.mpr ⟨pvCa_29, List.forall_mem_cons.mpr ⟨pvCa_30, List.forall_mem_cons.mpr ⟨pvCa_31, List.forall_mem_cons.mpr ⟨pvCa_32, List.forall_mem_cons.mpr ⟨pvCa_33, List.forall_mem_cons.mpr ⟨pvCa_34, List.forall_mem_cons.mpr ⟨pvCa_35, List.forall_mem_cons.mpr ⟨pvCa_36, List.forall_mem_cons.mpr ⟨pvCa_37, List.forall_mem_cons.mpr ⟨pvCa_38, List.forall_mem_cons.mpr ⟨pvCa_39, List.forall_mem_cons.mpr ⟨pvCa_40, List.forall_mem_cons.mpr ⟨pvCa_41, List.forall_mem_cons.mpr ⟨pvCa_42, List.forall_mem_cons.mpr ⟨pvCa_43, List.forall_mem_cons.mpr ⟨pvCa_44, List.forall_mem_cons.mpr ⟨pvCa_45, List.forall_mem_cons.mpr ⟨pvCa_46, List.forall_mem_cons.mpr ⟨pvCa_47, List.forall_mem_cons.mpr ⟨pvCa_48, List.forall_mem_cons.mpr ⟨pvCa_49, List.forall_mem_cons.mpr ⟨pvCa_50, List.forall_mem_cons.mpr ⟨pvCa_51, List.forall_mem_cons.mpr ⟨pvCa_52, List.forall_mem_cons.mpr ⟨pvCa_53, List.forall_mem_cons.mpr ⟨pvCa_54, List.forall_mem_cons.mpr ⟨pvCa_55, List.forall_mem_cons.mpr ⟨pvCa_56, List.forall_mem_cons.mpr ⟨pvCa_57, List.forall_mem_cons.mpr ⟨pvCa_58, List.forall_mem_cons.mpr ⟨pvCa_59, List.forall_mem_cons.mpr ⟨pvCa_60, List.forall_mem_cons.mpr ⟨pvCa_61, List.forall_mem_cons.mpr ⟨pvCa_62, List.forall_mem_cons.mpr ⟨pvCa_63, List.forall_mem_cons.mpr ⟨pvCa_64, List.forall_mem_cons.mpr ⟨pvCa_65, List.forall_mem_cons.mpr ⟨pvCa_66, List.forall_mem_cons.mpr ⟨pvCa_67, List.forall_mem_cons.mpr ⟨pvCa_68, List.forall_mem_cons.mpr ⟨pvCa_69, List.forall_mem_cons.mpr ⟨pvCa_70, List.forall_mem_cons.mpr ⟨pvCa_71, List.forall_mem_cons.mpr ⟨pvCa_72, List.forall_mem_cons.mpr ⟨pvCa_73, List.forall_mem_cons.mpr ⟨pvCa_74, List.forall_mem_cons.mpr ⟨pvCa_75, List.forall_mem_cons.mpr ⟨pvCa_76, List.forall_mem_cons.mpr ⟨pvCa_77, List.forall_mem_cons.mpr ⟨pvCa_78, List.forall_mem_cons.mpr ⟨pvCa_79, List.forall_mem_cons.mpr ⟨pvCa_80, List.forall_mem_cons.mpr ⟨pvCa_81, List.forall_mem_cons.mpr ⟨pvCa_82, List.forall_mem_cons.mpr ⟨pvCa_83, List.forall_mem_cons.mpr ⟨pvCa_84, List.forall_mem_cons.mpr ⟨pvCa_85, List.forall_mem_cons.mpr ⟨pvCa_86, List.forall_mem_cons.mpr ⟨pvCa_87, List.forall_mem_cons.mpr ⟨pvCa_88, List.forall_mem_cons.mpr ⟨pvCa_89, List.forall_mem_cons.mpr ⟨pvCa_90, List.forall_mem_cons.mpr ⟨pvCa_91, List.forall_mem_cons.mpr ⟨pvCa_92, List.forall_mem_cons.mpr ⟨pvCa_93, List.forall_mem_cons.mpr ⟨pvCa_94, List.forall_mem_cons.mpr ⟨pvCa_95, List.forall_mem_cons.mpr ⟨pvCa_96, List.forall_mem_cons.mpr ⟨pvCa_97, List.forall_mem_cons.mpr ⟨pvCa_98, List.forall_mem_cons.mpr ⟨pvCa_99, List.forall_mem_cons.mpr ⟨pvCa_100, List.forall_mem_cons.mpr ⟨pvCa_101, List.forall_mem_cons.mpr ⟨pvCa_102, List.forall_mem_cons.mpr ⟨pvCa_103, List.forall_mem_cons.mpr ⟨pvCa_104, List.forall_mem_cons.mpr ⟨pvCa_105, List.forall_mem_cons.mpr ⟨pvCa_106, List.forall_mem_cons.mpr ⟨pvCa_107, List.forall_mem_cons.mpr ⟨pvCa_108, List.forall_mem_cons.mpr ⟨pvCa_109, List.forall_mem_cons.mpr ⟨pvCa_110, List.forall_mem_cons.mpr ⟨pvCa_111, List.forall_mem_cons.mpr ⟨pvCa_112, List.forall_mem_cons.mpr ⟨pvCa_113, List.forall_mem_cons.mpr ⟨pvCa_114, List.forall_mem_cons.mpr ⟨pvCa_115, List.forall_mem_cons.mpr ⟨pvCa_116, List.forall_mem_cons.mpr ⟨pvCa_117, List.forall_mem_cons.mpr ⟨pvCa_118, List.forall_mem_cons.mpr ⟨pvCa_119, List.forall_mem_cons.mpr ⟨pvCa_120, List.forall_mem_cons.mpr ⟨pvCa_121, List.forall_mem_cons.mpr ⟨pvCa_122, List.forall_mem_cons.mpr ⟨pvCa_123, List.forall_mem_cons.mpr ⟨pvCa_124, List.forall_mem_cons.mpr ⟨pvCa_125, List.forall_mem_cons.mpr ⟨pvCa_126, List.forall_mem_cons.mpr ⟨pvCa_127, List.forall_mem_cons.mpr ⟨pvCa_128, List.forall_mem_cons.mpr ⟨pvCa_129, List.forall_mem_cons.mpr ⟨pvCa_130, List.forall_mem_cons.mpr ⟨pvCa_131, List.forall_mem_cons.mpr ⟨pvCa_132, List.forall_mem_cons.mpr ⟨pvCa_133, List.forall_mem_cons.mpr ⟨pvCa_134, List.forall_mem_cons.mpr ⟨pvCa_135, List.forall_mem_cons.mpr ⟨pvCa_136, List.forall_mem_cons.mpr ⟨pvCa_137, List.forall_mem_cons.mpr ⟨pvCa_138, List.forall_mem_cons.mpr ⟨pvCa_139, List.forall_mem_cons.mpr ⟨pvCa_140, List.forall_mem_cons.mpr ⟨pvCa_141, List.forall_mem_cons.mpr ⟨pvCa_142, List.forall_mem_cons.mpr ⟨pvCa_143, List.forall_mem_cons.mpr ⟨pvCa_144, List.forall_mem_cons.mpr ⟨pvCa_145, List.forall_mem_cons.mpr ⟨pvCa_146, List.forall_mem_cons.mpr ⟨pvCa_147, List.forall_mem_cons.mpr ⟨pvCa_148, List.forall_mem_cons.mpr ⟨pvCa_149, List.forall_mem_cons.mpr ⟨pvCa_150,  List.forall_mem_nil _⟩⟩⟩⟩⟩⟩⟩⟩⟩⟩⟩⟩⟩⟩⟩⟩⟩⟩⟩⟩⟩⟩⟩⟩⟩⟩⟩⟩⟩⟩⟩⟩⟩⟩⟩⟩⟩⟩⟩⟩⟩⟩⟩⟩⟩⟩⟩⟩⟩⟩⟩⟩⟩⟩⟩⟩⟩⟩⟩⟩⟩⟩⟩⟩⟩⟩⟩⟩⟩⟩⟩⟩⟩⟩⟩⟩⟩⟩⟩⟩⟩⟩⟩⟩⟩⟩⟩⟩⟩⟩⟩⟩⟩⟩⟩⟩⟩⟩⟩⟩⟩⟩⟩⟩⟩⟩⟩⟩⟩⟩⟩⟩⟩⟩⟩⟩⟩⟩⟩⟩⟩⟩⟩⟩⟩⟩⟩⟩⟩⟩⟩⟩⟩⟩⟩⟩⟩⟩⟩⟩⟩⟩⟩⟩⟩⟩⟩⟩⟩⟩⟩
