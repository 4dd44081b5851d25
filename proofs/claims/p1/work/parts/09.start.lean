theorem dL_law_0 : decode cL_law 0 = .ok (.new 7, 3) := by decide +kernel
theorem dL_law_11 : decode cL_law 11 = .ok (.dup, 1) := by decide +kernel
theorem dL_law_12 : decode cL_law 12 = .ok (.invokespecial 12, 3) := by decide +kernel
theorem dL_law_15 : decode cL_law 15 = .ok (.astore_n 2, 1) := by decide +kernel
theorem dL_law_16 : decode cL_law 16 = .ok (.iconst 0, 1) := by decide +kernel
theorem dL_law_17 : decode cL_law 17 = .ok (.istore_n 3, 1) := by decide +kernel
theorem dL_law_3 : decode cL_law 3 = .ok (.dup, 1) := by decide +kernel
theorem dL_law_4 : decode cL_law 4 = .ok (.invokespecial 9, 3) := by decide +kernel
theorem dL_law_7 : decode cL_law 7 = .ok (.astore_n 1, 1) := by decide +kernel
theorem dL_law_8 : decode cL_law 8 = .ok (.new 10, 3) := by decide +kernel
def zF : List Cond := flatC (Jvm.Cond.and given_1 narrow_1)
def ztm (i : Nat) : Term := Term.string "NineWindows$Reader" (zsi.getD i 0)
set_option maxRecDepth 20000 in
theorem zf_x0 : Cond.exactly (ztm 0) "java/lang/String" ∈ zF := List.mem_of_getElem? (i := 73) (by decide +kernel)
set_option maxRecDepth 20000 in
theorem zf_c0 : Cond.eq (.field (ztm 0) "java/lang/String" "coder" "B") (.int 0) ∈ zF := List.mem_of_getElem? (i := 74) (by decide +kernel)
set_option maxRecDepth 20000 in
theorem zf_a0 : Cond.arrayOf (.field (ztm 0) "java/lang/String" "value" "[B") .byte ∈ zF := List.mem_of_getElem? (i := 75) (by decide +kernel)
set_option maxRecDepth 20000 in
theorem zf_l0 : Cond.eq (.length (.field (ztm 0) "java/lang/String" "value" "[B")) (.int (Int32.ofNat (zsl.getD 0 0))) ∈ zF := List.mem_of_getElem? (i := 76) (by decide +kernel)
set_option maxRecDepth 20000 in
theorem zf_e0_0 : Cond.eq (.elem (.field (ztm 0) "java/lang/String" "value" "[B") (.int (Int32.ofNat 0))) (.int ((zsb.getD 0 []).getD 0 0)) ∈ zF := List.mem_of_getElem? (i := 77) (by decide +kernel)
set_option maxRecDepth 20000 in
theorem zf_e0_1 : Cond.eq (.elem (.field (ztm 0) "java/lang/String" "value" "[B") (.int (Int32.ofNat 1))) (.int ((zsb.getD 0 []).getD 1 0)) ∈ zF := List.mem_of_getElem? (i := 78) (by decide +kernel)
set_option maxRecDepth 20000 in
theorem zf_e0_2 : Cond.eq (.elem (.field (ztm 0) "java/lang/String" "value" "[B") (.int (Int32.ofNat 2))) (.int ((zsb.getD 0 []).getD 2 0)) ∈ zF := List.mem_of_getElem? (i := 79) (by decide +kernel)
set_option maxRecDepth 20000 in
theorem zf_e0_3 : Cond.eq (.elem (.field (ztm 0) "java/lang/String" "value" "[B") (.int (Int32.ofNat 3))) (.int ((zsb.getD 0 []).getD 3 0)) ∈ zF := List.mem_of_getElem? (i := 80) (by decide +kernel)
set_option maxRecDepth 20000 in
theorem zf_x1 : Cond.exactly (ztm 1) "java/lang/String" ∈ zF := List.mem_of_getElem? (i := 81) (by decide +kernel)
set_option maxRecDepth 20000 in
theorem zf_c1 : Cond.eq (.field (ztm 1) "java/lang/String" "coder" "B") (.int 0) ∈ zF := List.mem_of_getElem? (i := 82) (by decide +kernel)
set_option maxRecDepth 20000 in
theorem zf_a1 : Cond.arrayOf (.field (ztm 1) "java/lang/String" "value" "[B") .byte ∈ zF := List.mem_of_getElem? (i := 83) (by decide +kernel)
set_option maxRecDepth 20000 in
theorem zf_l1 : Cond.eq (.length (.field (ztm 1) "java/lang/String" "value" "[B")) (.int (Int32.ofNat (zsl.getD 1 0))) ∈ zF := List.mem_of_getElem? (i := 84) (by decide +kernel)
set_option maxRecDepth 20000 in
theorem zf_e1_0 : Cond.eq (.elem (.field (ztm 1) "java/lang/String" "value" "[B") (.int (Int32.ofNat 0))) (.int ((zsb.getD 1 []).getD 0 0)) ∈ zF := List.mem_of_getElem? (i := 85) (by decide +kernel)
set_option maxRecDepth 20000 in
theorem zf_e1_1 : Cond.eq (.elem (.field (ztm 1) "java/lang/String" "value" "[B") (.int (Int32.ofNat 1))) (.int ((zsb.getD 1 []).getD 1 0)) ∈ zF := List.mem_of_getElem? (i := 86) (by decide +kernel)
set_option maxRecDepth 20000 in
theorem zf_e1_2 : Cond.eq (.elem (.field (ztm 1) "java/lang/String" "value" "[B") (.int (Int32.ofNat 2))) (.int ((zsb.getD 1 []).getD 2 0)) ∈ zF := List.mem_of_getElem? (i := 87) (by decide +kernel)
set_option maxRecDepth 20000 in
theorem zf_e1_3 : Cond.eq (.elem (.field (ztm 1) "java/lang/String" "value" "[B") (.int (Int32.ofNat 3))) (.int ((zsb.getD 1 []).getD 3 0)) ∈ zF := List.mem_of_getElem? (i := 88) (by decide +kernel)
set_option maxRecDepth 20000 in
theorem zf_x2 : Cond.exactly (ztm 2) "java/lang/String" ∈ zF := List.mem_of_getElem? (i := 90) (by decide +kernel)
set_option maxRecDepth 20000 in
theorem zf_c2 : Cond.eq (.field (ztm 2) "java/lang/String" "coder" "B") (.int 0) ∈ zF := List.mem_of_getElem? (i := 91) (by decide +kernel)
set_option maxRecDepth 20000 in
theorem zf_a2 : Cond.arrayOf (.field (ztm 2) "java/lang/String" "value" "[B") .byte ∈ zF := List.mem_of_getElem? (i := 92) (by decide +kernel)
set_option maxRecDepth 20000 in
theorem zf_l2 : Cond.eq (.length (.field (ztm 2) "java/lang/String" "value" "[B")) (.int (Int32.ofNat (zsl.getD 2 0))) ∈ zF := List.mem_of_getElem? (i := 93) (by decide +kernel)
set_option maxRecDepth 20000 in
theorem zf_e2_0 : Cond.eq (.elem (.field (ztm 2) "java/lang/String" "value" "[B") (.int (Int32.ofNat 0))) (.int ((zsb.getD 2 []).getD 0 0)) ∈ zF := List.mem_of_getElem? (i := 94) (by decide +kernel)
set_option maxRecDepth 20000 in
theorem zf_e2_1 : Cond.eq (.elem (.field (ztm 2) "java/lang/String" "value" "[B") (.int (Int32.ofNat 1))) (.int ((zsb.getD 2 []).getD 1 0)) ∈ zF := List.mem_of_getElem? (i := 95) (by decide +kernel)
set_option maxRecDepth 20000 in
theorem zf_e2_2 : Cond.eq (.elem (.field (ztm 2) "java/lang/String" "value" "[B") (.int (Int32.ofNat 2))) (.int ((zsb.getD 2 []).getD 2 0)) ∈ zF := List.mem_of_getElem? (i := 96) (by decide +kernel)
set_option maxRecDepth 20000 in
theorem zf_e2_3 : Cond.eq (.elem (.field (ztm 2) "java/lang/String" "value" "[B") (.int (Int32.ofNat 3))) (.int ((zsb.getD 2 []).getD 3 0)) ∈ zF := List.mem_of_getElem? (i := 97) (by decide +kernel)
set_option maxRecDepth 20000 in
theorem zf_e2_4 : Cond.eq (.elem (.field (ztm 2) "java/lang/String" "value" "[B") (.int (Int32.ofNat 4))) (.int ((zsb.getD 2 []).getD 4 0)) ∈ zF := List.mem_of_getElem? (i := 98) (by decide +kernel)
set_option maxRecDepth 20000 in
theorem zf_e2_5 : Cond.eq (.elem (.field (ztm 2) "java/lang/String" "value" "[B") (.int (Int32.ofNat 5))) (.int ((zsb.getD 2 []).getD 5 0)) ∈ zF := List.mem_of_getElem? (i := 99) (by decide +kernel)
set_option maxRecDepth 20000 in
theorem zf_x3 : Cond.exactly (ztm 3) "java/lang/String" ∈ zF := List.mem_of_getElem? (i := 102) (by decide +kernel)
set_option maxRecDepth 20000 in
theorem zf_c3 : Cond.eq (.field (ztm 3) "java/lang/String" "coder" "B") (.int 0) ∈ zF := List.mem_of_getElem? (i := 103) (by decide +kernel)
set_option maxRecDepth 20000 in
theorem zf_a3 : Cond.arrayOf (.field (ztm 3) "java/lang/String" "value" "[B") .byte ∈ zF := List.mem_of_getElem? (i := 104) (by decide +kernel)
set_option maxRecDepth 20000 in
theorem zf_l3 : Cond.eq (.length (.field (ztm 3) "java/lang/String" "value" "[B")) (.int (Int32.ofNat (zsl.getD 3 0))) ∈ zF := List.mem_of_getElem? (i := 105) (by decide +kernel)
set_option maxRecDepth 20000 in
theorem zf_e3_0 : Cond.eq (.elem (.field (ztm 3) "java/lang/String" "value" "[B") (.int (Int32.ofNat 0))) (.int ((zsb.getD 3 []).getD 0 0)) ∈ zF := List.mem_of_getElem? (i := 106) (by decide +kernel)
set_option maxRecDepth 20000 in
theorem zf_e3_1 : Cond.eq (.elem (.field (ztm 3) "java/lang/String" "value" "[B") (.int (Int32.ofNat 1))) (.int ((zsb.getD 3 []).getD 1 0)) ∈ zF := List.mem_of_getElem? (i := 107) (by decide +kernel)
set_option maxRecDepth 20000 in
theorem zf_e3_2 : Cond.eq (.elem (.field (ztm 3) "java/lang/String" "value" "[B") (.int (Int32.ofNat 2))) (.int ((zsb.getD 3 []).getD 2 0)) ∈ zF := List.mem_of_getElem? (i := 108) (by decide +kernel)
set_option maxRecDepth 20000 in
theorem zf_e3_3 : Cond.eq (.elem (.field (ztm 3) "java/lang/String" "value" "[B") (.int (Int32.ofNat 3))) (.int ((zsb.getD 3 []).getD 3 0)) ∈ zF := List.mem_of_getElem? (i := 109) (by decide +kernel)
set_option maxRecDepth 20000 in
theorem zf_e3_4 : Cond.eq (.elem (.field (ztm 3) "java/lang/String" "value" "[B") (.int (Int32.ofNat 4))) (.int ((zsb.getD 3 []).getD 4 0)) ∈ zF := List.mem_of_getElem? (i := 110) (by decide +kernel)
set_option maxRecDepth 20000 in
theorem zf_x4 : Cond.exactly (ztm 4) "java/lang/String" ∈ zF := List.mem_of_getElem? (i := 114) (by decide +kernel)
set_option maxRecDepth 20000 in
theorem zf_c4 : Cond.eq (.field (ztm 4) "java/lang/String" "coder" "B") (.int 0) ∈ zF := List.mem_of_getElem? (i := 115) (by decide +kernel)
set_option maxRecDepth 20000 in
theorem zf_a4 : Cond.arrayOf (.field (ztm 4) "java/lang/String" "value" "[B") .byte ∈ zF := List.mem_of_getElem? (i := 116) (by decide +kernel)
set_option maxRecDepth 20000 in
theorem zf_l4 : Cond.eq (.length (.field (ztm 4) "java/lang/String" "value" "[B")) (.int (Int32.ofNat (zsl.getD 4 0))) ∈ zF := List.mem_of_getElem? (i := 117) (by decide +kernel)
set_option maxRecDepth 20000 in
theorem zf_x5 : Cond.exactly (ztm 5) "java/lang/String" ∈ zF := List.mem_of_getElem? (i := 122) (by decide +kernel)
set_option maxRecDepth 20000 in
theorem zf_c5 : Cond.eq (.field (ztm 5) "java/lang/String" "coder" "B") (.int 0) ∈ zF := List.mem_of_getElem? (i := 123) (by decide +kernel)
set_option maxRecDepth 20000 in
theorem zf_a5 : Cond.arrayOf (.field (ztm 5) "java/lang/String" "value" "[B") .byte ∈ zF := List.mem_of_getElem? (i := 124) (by decide +kernel)
set_option maxRecDepth 20000 in
theorem zf_l5 : Cond.eq (.length (.field (ztm 5) "java/lang/String" "value" "[B")) (.int (Int32.ofNat (zsl.getD 5 0))) ∈ zF := List.mem_of_getElem? (i := 125) (by decide +kernel)
set_option maxRecDepth 20000 in
theorem zf_e5_0 : Cond.eq (.elem (.field (ztm 5) "java/lang/String" "value" "[B") (.int (Int32.ofNat 0))) (.int ((zsb.getD 5 []).getD 0 0)) ∈ zF := List.mem_of_getElem? (i := 126) (by decide +kernel)
set_option maxRecDepth 20000 in
theorem zf_e5_1 : Cond.eq (.elem (.field (ztm 5) "java/lang/String" "value" "[B") (.int (Int32.ofNat 1))) (.int ((zsb.getD 5 []).getD 1 0)) ∈ zF := List.mem_of_getElem? (i := 127) (by decide +kernel)
set_option maxRecDepth 20000 in
theorem zf_e5_2 : Cond.eq (.elem (.field (ztm 5) "java/lang/String" "value" "[B") (.int (Int32.ofNat 2))) (.int ((zsb.getD 5 []).getD 2 0)) ∈ zF := List.mem_of_getElem? (i := 128) (by decide +kernel)
set_option maxRecDepth 20000 in
theorem zf_e5_3 : Cond.eq (.elem (.field (ztm 5) "java/lang/String" "value" "[B") (.int (Int32.ofNat 3))) (.int ((zsb.getD 5 []).getD 3 0)) ∈ zF := List.mem_of_getElem? (i := 129) (by decide +kernel)
set_option maxRecDepth 20000 in
theorem zf_e5_4 : Cond.eq (.elem (.field (ztm 5) "java/lang/String" "value" "[B") (.int (Int32.ofNat 4))) (.int ((zsb.getD 5 []).getD 4 0)) ∈ zF := List.mem_of_getElem? (i := 130) (by decide +kernel)
set_option maxRecDepth 20000 in
theorem zf_e5_5 : Cond.eq (.elem (.field (ztm 5) "java/lang/String" "value" "[B") (.int (Int32.ofNat 5))) (.int ((zsb.getD 5 []).getD 5 0)) ∈ zF := List.mem_of_getElem? (i := 131) (by decide +kernel)
set_option maxRecDepth 20000 in
theorem zf_x6 : Cond.exactly (ztm 6) "java/lang/String" ∈ zF := List.mem_of_getElem? (i := 137) (by decide +kernel)
set_option maxRecDepth 20000 in
theorem zf_c6 : Cond.eq (.field (ztm 6) "java/lang/String" "coder" "B") (.int 0) ∈ zF := List.mem_of_getElem? (i := 138) (by decide +kernel)
set_option maxRecDepth 20000 in
theorem zf_a6 : Cond.arrayOf (.field (ztm 6) "java/lang/String" "value" "[B") .byte ∈ zF := List.mem_of_getElem? (i := 139) (by decide +kernel)
set_option maxRecDepth 20000 in
theorem zf_l6 : Cond.eq (.length (.field (ztm 6) "java/lang/String" "value" "[B")) (.int (Int32.ofNat (zsl.getD 6 0))) ∈ zF := List.mem_of_getElem? (i := 140) (by decide +kernel)
set_option maxRecDepth 20000 in
theorem zf_e6_0 : Cond.eq (.elem (.field (ztm 6) "java/lang/String" "value" "[B") (.int (Int32.ofNat 0))) (.int ((zsb.getD 6 []).getD 0 0)) ∈ zF := List.mem_of_getElem? (i := 141) (by decide +kernel)
set_option maxRecDepth 20000 in
theorem zf_e6_1 : Cond.eq (.elem (.field (ztm 6) "java/lang/String" "value" "[B") (.int (Int32.ofNat 1))) (.int ((zsb.getD 6 []).getD 1 0)) ∈ zF := List.mem_of_getElem? (i := 142) (by decide +kernel)
set_option maxRecDepth 20000 in
theorem zf_e6_2 : Cond.eq (.elem (.field (ztm 6) "java/lang/String" "value" "[B") (.int (Int32.ofNat 2))) (.int ((zsb.getD 6 []).getD 2 0)) ∈ zF := List.mem_of_getElem? (i := 143) (by decide +kernel)
set_option maxRecDepth 20000 in
theorem zf_n0_1 : Cond.not (Cond.eq (ztm 0) (ztm 1)) ∈ zF := List.mem_of_getElem? (i := 89) (by decide +kernel)
set_option maxRecDepth 20000 in
theorem zf_n0_2 : Cond.not (Cond.eq (ztm 0) (ztm 2)) ∈ zF := List.mem_of_getElem? (i := 100) (by decide +kernel)
set_option maxRecDepth 20000 in
theorem zf_n0_3 : Cond.not (Cond.eq (ztm 0) (ztm 3)) ∈ zF := List.mem_of_getElem? (i := 111) (by decide +kernel)
set_option maxRecDepth 20000 in
theorem zf_n0_4 : Cond.not (Cond.eq (ztm 0) (ztm 4)) ∈ zF := List.mem_of_getElem? (i := 118) (by decide +kernel)
set_option maxRecDepth 20000 in
theorem zf_n0_5 : Cond.not (Cond.eq (ztm 0) (ztm 5)) ∈ zF := List.mem_of_getElem? (i := 132) (by decide +kernel)
set_option maxRecDepth 20000 in
theorem zf_n0_6 : Cond.not (Cond.eq (ztm 0) (ztm 6)) ∈ zF := List.mem_of_getElem? (i := 144) (by decide +kernel)
set_option maxRecDepth 20000 in
theorem zf_n1_2 : Cond.not (Cond.eq (ztm 1) (ztm 2)) ∈ zF := List.mem_of_getElem? (i := 101) (by decide +kernel)
set_option maxRecDepth 20000 in
theorem zf_n1_3 : Cond.not (Cond.eq (ztm 1) (ztm 3)) ∈ zF := List.mem_of_getElem? (i := 112) (by decide +kernel)
set_option maxRecDepth 20000 in
theorem zf_n1_4 : Cond.not (Cond.eq (ztm 1) (ztm 4)) ∈ zF := List.mem_of_getElem? (i := 119) (by decide +kernel)
set_option maxRecDepth 20000 in
theorem zf_n1_5 : Cond.not (Cond.eq (ztm 1) (ztm 5)) ∈ zF := List.mem_of_getElem? (i := 133) (by decide +kernel)
set_option maxRecDepth 20000 in
theorem zf_n1_6 : Cond.not (Cond.eq (ztm 1) (ztm 6)) ∈ zF := List.mem_of_getElem? (i := 145) (by decide +kernel)
set_option maxRecDepth 20000 in
theorem zf_n2_3 : Cond.not (Cond.eq (ztm 2) (ztm 3)) ∈ zF := List.mem_of_getElem? (i := 113) (by decide +kernel)
set_option maxRecDepth 20000 in
theorem zf_n2_4 : Cond.not (Cond.eq (ztm 2) (ztm 4)) ∈ zF := List.mem_of_getElem? (i := 120) (by decide +kernel)
set_option maxRecDepth 20000 in
theorem zf_n2_5 : Cond.not (Cond.eq (ztm 2) (ztm 5)) ∈ zF := List.mem_of_getElem? (i := 134) (by decide +kernel)
set_option maxRecDepth 20000 in
theorem zf_n2_6 : Cond.not (Cond.eq (ztm 2) (ztm 6)) ∈ zF := List.mem_of_getElem? (i := 146) (by decide +kernel)
set_option maxRecDepth 20000 in
theorem zf_n3_4 : Cond.not (Cond.eq (ztm 3) (ztm 4)) ∈ zF := List.mem_of_getElem? (i := 121) (by decide +kernel)
set_option maxRecDepth 20000 in
theorem zf_n3_5 : Cond.not (Cond.eq (ztm 3) (ztm 5)) ∈ zF := List.mem_of_getElem? (i := 135) (by decide +kernel)
set_option maxRecDepth 20000 in
theorem zf_n3_6 : Cond.not (Cond.eq (ztm 3) (ztm 6)) ∈ zF := List.mem_of_getElem? (i := 147) (by decide +kernel)
set_option maxRecDepth 20000 in
theorem zf_n4_5 : Cond.not (Cond.eq (ztm 4) (ztm 5)) ∈ zF := List.mem_of_getElem? (i := 136) (by decide +kernel)
set_option maxRecDepth 20000 in
theorem zf_n4_6 : Cond.not (Cond.eq (ztm 4) (ztm 6)) ∈ zF := List.mem_of_getElem? (i := 148) (by decide +kernel)
set_option maxRecDepth 20000 in
theorem zf_n5_6 : Cond.not (Cond.eq (ztm 5) (ztm 6)) ∈ zF := List.mem_of_getElem? (i := 149) (by decide +kernel)

def zX : List Cond := [.classLink RL 7 RX9, .instantiable RX9 9, .classLink RL 10 RX10, .instantiable RX10 76, .methodLink RL 9 yX9_init, .instanceMethod yX9_init, .code yX9_init cX9_init 2 none, .methodLink RL 12 yX10_init, .instanceMethod yX10_init, .code yX10_init cX10_init 1 none]
set_option maxRecDepth 20000 in
theorem zX_in : GoodIn lw_tbl zX := List.forall_mem_cons.mpr ⟨⟨List.mem_of_getElem? (i := 102) (by decide +kernel), Or.inl rfl⟩, List.forall_mem_cons.mpr ⟨⟨List.mem_of_getElem? (i := 103) (by decide +kernel), Or.inl rfl⟩, List.forall_mem_cons.mpr ⟨⟨List.mem_of_getElem? (i := 1041) (by decide +kernel), Or.inl rfl⟩, List.forall_mem_cons.mpr ⟨⟨List.mem_of_getElem? (i := 1042) (by decide +kernel), Or.inl rfl⟩, List.forall_mem_cons.mpr ⟨⟨List.mem_of_getElem? (i := 104) (by decide +kernel), Or.inl rfl⟩, List.forall_mem_cons.mpr ⟨⟨List.mem_of_getElem? (i := 105) (by decide +kernel), Or.inl rfl⟩, List.forall_mem_cons.mpr ⟨⟨List.mem_of_getElem? (i := 106) rfl, Or.inl rfl⟩, List.forall_mem_cons.mpr ⟨⟨List.mem_of_getElem? (i := 1043) (by decide +kernel), Or.inl rfl⟩, List.forall_mem_cons.mpr ⟨⟨List.mem_of_getElem? (i := 1044) (by decide +kernel), Or.inl rfl⟩, List.forall_mem_cons.mpr ⟨⟨List.mem_of_getElem? (i := 1045) rfl, Or.inl rfl⟩, fun _ h => absurd h List.not_mem_nil⟩⟩⟩⟩⟩⟩⟩⟩⟩⟩
def zT2 : List Cond := zX ++ zT
theorem zgin2 : GoodIn lw_tbl zT2 := goodIn_app zX_in zgin
theorem zs_0 : Cond.classLink RL 7 RX9 ∈ zT2 := List.mem_append_left _ (List.mem_of_getElem? (i := 0) rfl)
theorem zs_1 : Cond.instantiable RX9 9 ∈ zT2 := List.mem_append_left _ (List.mem_of_getElem? (i := 1) rfl)
theorem zs_2 : Cond.initialized RX9 ∈ zT2 := List.mem_append_right _ zm_2
theorem zs_3 : Cond.classLink RL 10 RX10 ∈ zT2 := List.mem_append_left _ (List.mem_of_getElem? (i := 2) rfl)
theorem zs_4 : Cond.instantiable RX10 76 ∈ zT2 := List.mem_append_left _ (List.mem_of_getElem? (i := 3) rfl)
theorem zs_5 : Cond.initialized RX10 ∈ zT2 := List.mem_append_right _ zm_5
theorem zs_7 : Cond.methodLink RL 9 yX9_init ∈ zT2 := List.mem_append_left _ (List.mem_of_getElem? (i := 4) rfl)
theorem zs_8 : Cond.instanceMethod yX9_init ∈ zT2 := List.mem_append_left _ (List.mem_of_getElem? (i := 5) rfl)
theorem zs_9 : Cond.code yX9_init cX9_init 2 none ∈ zT2 := List.mem_append_left _ (List.mem_of_getElem? (i := 6) rfl)
theorem zs_17 : Cond.instantiable RX5 5 ∈ zT2 := List.mem_append_right _ zm_17
theorem zs_21 : Cond.instantiable RX7 12 ∈ zT2 := List.mem_append_right _ zm_21
theorem zs_27 : Cond.instantiable RX1 9 ∈ zT2 := List.mem_append_right _ zm_27
theorem zs_31 : Cond.instantiable RX0 5 ∈ zT2 := List.mem_append_right _ zm_31
theorem zs_36 : Cond.instantiable RX2 8 ∈ zT2 := List.mem_append_right _ zm_36
theorem zs_38 : Cond.instantiable RX8 3 ∈ zT2 := List.mem_append_right _ zm_38
theorem zs_43 : Cond.arrayClass .int ∈ zT2 := List.mem_append_right _ zm_43
theorem zs_77 : Cond.instantiable RX6 3 ∈ zT2 := List.mem_append_right _ zm_77
theorem zs_82 : Cond.instantiable RX4 7 ∈ zT2 := List.mem_append_right _ zm_82
theorem zs_117 : Cond.arrayClass .boolean ∈ zT2 := List.mem_append_right _ zm_117
theorem zs_134 : Cond.arrayClass .long ∈ zT2 := List.mem_append_right _ zm_134
theorem zs_136 : Cond.methodLink RL 12 yX10_init ∈ zT2 := List.mem_append_left _ (List.mem_of_getElem? (i := 7) rfl)
theorem zs_137 : Cond.instanceMethod yX10_init ∈ zT2 := List.mem_append_left _ (List.mem_of_getElem? (i := 8) rfl)
theorem zs_138 : Cond.code yX10_init cX10_init 1 none ∈ zT2 := List.mem_append_left _ (List.mem_of_getElem? (i := 9) rfl)
theorem zslX9 : ∀ w ∈ u_ws RX9 TX9 9, w ∈ zT2 := fun w h => List.mem_append_right _ (inlX9 w h)
theorem zslX10 : ∀ w ∈ u_ws RX10 TX10 76, w ∈ zT2 := fun w h => List.mem_append_right _ (inlX10 w h)
theorem zslX5 : ∀ w ∈ u_ws RX5 TX5 5, w ∈ zT2 := fun w h => List.mem_append_right _ (inlX5 w h)
theorem zslX7 : ∀ w ∈ u_ws RX7 TX7 12, w ∈ zT2 := fun w h => List.mem_append_right _ (inlX7 w h)
theorem zslX1 : ∀ w ∈ u_ws RX1 TX1 9, w ∈ zT2 := fun w h => List.mem_append_right _ (inlX1 w h)
theorem zslX0 : ∀ w ∈ u_ws RX0 TX0 5, w ∈ zT2 := fun w h => List.mem_append_right _ (inlX0 w h)
theorem zslX2 : ∀ w ∈ u_ws RX2 TX2 8, w ∈ zT2 := fun w h => List.mem_append_right _ (inlX2 w h)
theorem zslX8 : ∀ w ∈ u_ws RX8 TX8 3, w ∈ zT2 := fun w h => List.mem_append_right _ (inlX8 w h)
theorem zslX6 : ∀ w ∈ u_ws RX6 TX6 3, w ∈ zT2 := fun w h => List.mem_append_right _ (inlX6 w h)
theorem zslX4 : ∀ w ∈ u_ws RX4 TX4 7, w ∈ zT2 := fun w h => List.mem_append_right _ (inlX4 w h)
theorem zgI2 {cd : Cond} (h5 : cd ∈ zT2) : GoodIn zT2 (cd :: zT) := by
  intro w hw
  have hm : w ∈ zT2 := by
    rcases List.mem_cons.mp hw with rfl | h
    · exact h5
    · exact List.mem_append_right _ h
  exact ⟨hm, (zgin2 w hm).2⟩
theorem zvk {len : List Nat} {byt : List (List Int32)} {adK adV aK aV : Nat → Nat} {A : Nat → Prop} {U : State} {H : Heap} (h : vk_S 7 len byt adK adV A U H) (e1 : ∀ i, i < 7 → aK i = adK i) (e2 : ∀ i, i < 7 → aV i = adV i) : vk_S 7 len byt aK aV A U H :=
  ⟨fun i hi => by rw [e1 i hi, e2 i hi]; exact h.1 i hi, fun i j hi hj he => h.2 i j hi hj (by rw [← e1 i hi, ← e1 j hj]; exact he)⟩
set_option maxHeartbeats 8000000 in
set_option maxRecDepth 100000 in
theorem whole_start {p : Program} {e : Env} {s : State} {m : MethodId} {below : List Frame} {meth : Method} {c : Code} (l : Launch) (hflags : l.flags = flags0) {b L : Nat} {xs : Nat → Int32} (hL : L ≤ 6) (C0 : lw_At p s m meth c b L xs) : W p l e room_1 s m #[Value.ref b] below meth c s.heap [] 0 0 (lw_Z below #[Value.ref b] s) (entryFrame m ([Value.ref b] : List Value).toArray 4) := by
  obtain ⟨hx, hb, hr, hml, hown, hts, hX, hbl, hlocks, hgv⟩ := id C0
  have ht : ∀ w ∈ zT2, w.before #[Value.ref b] s = true := fun w h => hts w (zgin2 w h).1
  have hown : s.vm.findClass RL = some m.cls := hown
  have hA : ∀ q : Nat, s.heap.size ≤ q → (fun q : Nat => s.heap.size ≤ q) q := fun _ h => h
  have hbA : ¬ (fun q : Nat => s.heap.size ≤ q) b := Nat.not_le.mpr hbl
  have F : ∀ w ∈ zF, w.before #[Value.ref b] s = true := flat_of_before _ hgv
  obtain ⟨c0, i0, n0⟩ := u_known (C := RX0) (T := TX0) (N := 5) (n := 5) ht zslX0 (ht _ zs_31)
  obtain ⟨c1, i1, n1⟩ := u_known (C := RX1) (T := TX1) (N := 9) (n := 9) ht zslX1 (ht _ zs_27)
  obtain ⟨c2, i2, n2⟩ := u_known (C := RX2) (T := TX2) (N := 8) (n := 8) ht zslX2 (ht _ zs_36)
  obtain ⟨c3, i3, n3⟩ := u_known (C := RX4) (T := TX4) (N := 7) (n := 7) ht zslX4 (ht _ zs_82)
  obtain ⟨c4, i4, n4⟩ := u_known (C := RX5) (T := TX5) (N := 5) (n := 5) ht zslX5 (ht _ zs_17)
  obtain ⟨c5, i5, n5⟩ := u_known (C := RX6) (T := TX6) (N := 3) (n := 3) ht zslX6 (ht _ zs_77)
  obtain ⟨c6, i6, n6⟩ := u_known (C := RX7) (T := TX7) (N := 12) (n := 12) ht zslX7 (ht _ zs_21)
  obtain ⟨c7, i7, n7⟩ := u_known (C := RX8) (T := TX8) (N := 3) (n := 3) ht zslX8 (ht _ zs_38)
  obtain ⟨c8, i8, n8⟩ := u_known (C := RX9) (T := TX9) (N := 9) (n := 9) ht zslX9 (ht _ zs_1)
  obtain ⟨c9, i9, n9⟩ := u_known (C := RX10) (T := TX10) (N := 76) (n := 76) ht zslX10 (ht _ zs_4)
  obtain ⟨dC, dI, hKc⟩ : ∃ (dC : Nat → ClassId) (dI : Nat → Nat → Nat), ∀ (k : Nat) (q : vw_C), vwCl[k]? = some q → u_Kn s q.1 q.2.1 q.2.2 (dC k) (dI k) := by
    refine ⟨fun k => if k = 0 then c0 else if k = 1 then c1 else if k = 2 then c2 else if k = 3 then c3 else if k = 4 then c4 else if k = 5 then c5 else if k = 6 then c6 else if k = 7 then c7 else if k = 8 then c8 else c9, fun k => if k = 0 then i0 else if k = 1 then i1 else if k = 2 then i2 else if k = 3 then i3 else if k = 4 then i4 else if k = 5 then i5 else if k = 6 then i6 else if k = 7 then i7 else if k = 8 then i8 else i9, ?_⟩
    intro k q hq
    match k, hq with
    | 0, hq => cases hq; exact n0
    | 1, hq => cases hq; exact n1
    | 2, hq => cases hq; exact n2
    | 3, hq => cases hq; exact n3
    | 4, hq => cases hq; exact n4
    | 5, hq => cases hq; exact n5
    | 6, hq => cases hq; exact n6
    | 7, hq => cases hq; exact n7
    | 8, hq => cases hq; exact n8
    | 9, hq => cases hq; exact n9
    | k + 10, hq => simp [vwCl] at hq
  obtain ⟨cI, kI, pI, fI1, fI2, fI3⟩ := Cond.arrayClass_spec (ht _ zs_43)
  obtain ⟨cJ, kJ, pJ, fJ1, fJ2, fJ3⟩ := Cond.arrayClass_spec (ht _ zs_134)
  obtain ⟨cZ, kZ, pZ, fZ1, fZ2, fZ3⟩ := Cond.arrayClass_spec (ht _ zs_117)
  have aoH : (Cond.arrayOver (.object "NineWindows$House")).before #[Value.ref b] s = true := hts _ (List.mem_of_getElem? (i := 111) (by decide +kernel))
  obtain ⟨pH, cH, kH, fH1, fH2, fH3, fH4, fH5⟩ := Cond.arrayOver_spec aoH
  have aoP : (Cond.arrayOver (.object "NineWindows$Pane")).before #[Value.ref b] s = true := hts _ (List.mem_of_getElem? (i := 182) (by decide +kernel))
  obtain ⟨pP, cP, kP, fP1, fP2, fP3, fP4, fP5⟩ := Cond.arrayOver_spec aoP
  have aoT : (Cond.arrayOver (.object "NineWindows$Tape")).before #[Value.ref b] s = true := hts _ (List.mem_of_getElem? (i := 380) (by decide +kernel))
  obtain ⟨pT, cT, kT, fT1, fT2, fT3, fT4, fT5⟩ := Cond.arrayOver_spec aoT
  obtain ⟨adK, adV, hV, hVe⟩ := vk_Sof (args := #[Value.ref b]) (s := s) (N := 7) (tm := ztm) (len := zsl) (byt := zsb) (A := (fun q : Nat => s.heap.size ≤ q)) (by decide)
    (fun i hi => match i, hi with | 0, _ => F _ zf_x0 | 1, _ => F _ zf_x1 | 2, _ => F _ zf_x2 | 3, _ => F _ zf_x3 | 4, _ => F _ zf_x4 | 5, _ => F _ zf_x5 | 6, _ => F _ zf_x6 | i + 7, h => absurd h (by omega))
    (fun i hi => match i, hi with | 0, _ => F _ zf_c0 | 1, _ => F _ zf_c1 | 2, _ => F _ zf_c2 | 3, _ => F _ zf_c3 | 4, _ => F _ zf_c4 | 5, _ => F _ zf_c5 | 6, _ => F _ zf_c6 | i + 7, h => absurd h (by omega))
    (fun i hi => match i, hi with | 0, _ => F _ zf_a0 | 1, _ => F _ zf_a1 | 2, _ => F _ zf_a2 | 3, _ => F _ zf_a3 | 4, _ => F _ zf_a4 | 5, _ => F _ zf_a5 | 6, _ => F _ zf_a6 | i + 7, h => absurd h (by omega))
    (fun i hi => match i, hi with | 0, _ => F _ zf_l0 | 1, _ => F _ zf_l1 | 2, _ => F _ zf_l2 | 3, _ => F _ zf_l3 | 4, _ => F _ zf_l4 | 5, _ => F _ zf_l5 | 6, _ => F _ zf_l6 | i + 7, h => absurd h (by omega))
    (fun i hi j hj => match i, hi, j, hj with | 0, _, 0, _ => F _ zf_e0_0 | 0, _, 1, _ => F _ zf_e0_1 | 0, _, 2, _ => F _ zf_e0_2 | 0, _, 3, _ => F _ zf_e0_3 | 1, _, 0, _ => F _ zf_e1_0 | 1, _, 1, _ => F _ zf_e1_1 | 1, _, 2, _ => F _ zf_e1_2 | 1, _, 3, _ => F _ zf_e1_3 | 2, _, 0, _ => F _ zf_e2_0 | 2, _, 1, _ => F _ zf_e2_1 | 2, _, 2, _ => F _ zf_e2_2 | 2, _, 3, _ => F _ zf_e2_3 | 2, _, 4, _ => F _ zf_e2_4 | 2, _, 5, _ => F _ zf_e2_5 | 3, _, 0, _ => F _ zf_e3_0 | 3, _, 1, _ => F _ zf_e3_1 | 3, _, 2, _ => F _ zf_e3_2 | 3, _, 3, _ => F _ zf_e3_3 | 3, _, 4, _ => F _ zf_e3_4 | 5, _, 0, _ => F _ zf_e5_0 | 5, _, 1, _ => F _ zf_e5_1 | 5, _, 2, _ => F _ zf_e5_2 | 5, _, 3, _ => F _ zf_e5_3 | 5, _, 4, _ => F _ zf_e5_4 | 5, _, 5, _ => F _ zf_e5_5 | 6, _, 0, _ => F _ zf_e6_0 | 6, _, 1, _ => F _ zf_e6_1 | 6, _, 2, _ => F _ zf_e6_2 | 0, _, j + 4, h => absurd h (by simp [zsl]) | 1, _, j + 4, h => absurd h (by simp [zsl]) | 2, _, j + 6, h => absurd h (by simp [zsl]) | 3, _, j + 5, h => absurd h (by simp [zsl]) | 4, _, j + 0, h => absurd h (by simp [zsl]) | 5, _, j + 6, h => absurd h (by simp [zsl]) | 6, _, j + 3, h => absurd h (by simp [zsl]) | i + 7, h, _, _ => absurd h (by omega))
    (fun i j hi hj hij => match i, j, hi, hj, hij with | 0, 0, _, _, h => absurd rfl h | 0, 1, _, _, _ => Or.inl (F _ zf_n0_1) | 0, 2, _, _, _ => Or.inl (F _ zf_n0_2) | 0, 3, _, _, _ => Or.inl (F _ zf_n0_3) | 0, 4, _, _, _ => Or.inl (F _ zf_n0_4) | 0, 5, _, _, _ => Or.inl (F _ zf_n0_5) | 0, 6, _, _, _ => Or.inl (F _ zf_n0_6) | 1, 0, _, _, _ => Or.inr (F _ zf_n0_1) | 1, 1, _, _, h => absurd rfl h | 1, 2, _, _, _ => Or.inl (F _ zf_n1_2) | 1, 3, _, _, _ => Or.inl (F _ zf_n1_3) | 1, 4, _, _, _ => Or.inl (F _ zf_n1_4) | 1, 5, _, _, _ => Or.inl (F _ zf_n1_5) | 1, 6, _, _, _ => Or.inl (F _ zf_n1_6) | 2, 0, _, _, _ => Or.inr (F _ zf_n0_2) | 2, 1, _, _, _ => Or.inr (F _ zf_n1_2) | 2, 2, _, _, h => absurd rfl h | 2, 3, _, _, _ => Or.inl (F _ zf_n2_3) | 2, 4, _, _, _ => Or.inl (F _ zf_n2_4) | 2, 5, _, _, _ => Or.inl (F _ zf_n2_5) | 2, 6, _, _, _ => Or.inl (F _ zf_n2_6) | 3, 0, _, _, _ => Or.inr (F _ zf_n0_3) | 3, 1, _, _, _ => Or.inr (F _ zf_n1_3) | 3, 2, _, _, _ => Or.inr (F _ zf_n2_3) | 3, 3, _, _, h => absurd rfl h | 3, 4, _, _, _ => Or.inl (F _ zf_n3_4) | 3, 5, _, _, _ => Or.inl (F _ zf_n3_5) | 3, 6, _, _, _ => Or.inl (F _ zf_n3_6) | 4, 0, _, _, _ => Or.inr (F _ zf_n0_4) | 4, 1, _, _, _ => Or.inr (F _ zf_n1_4) | 4, 2, _, _, _ => Or.inr (F _ zf_n2_4) | 4, 3, _, _, _ => Or.inr (F _ zf_n3_4) | 4, 4, _, _, h => absurd rfl h | 4, 5, _, _, _ => Or.inl (F _ zf_n4_5) | 4, 6, _, _, _ => Or.inl (F _ zf_n4_6) | 5, 0, _, _, _ => Or.inr (F _ zf_n0_5) | 5, 1, _, _, _ => Or.inr (F _ zf_n1_5) | 5, 2, _, _, _ => Or.inr (F _ zf_n2_5) | 5, 3, _, _, _ => Or.inr (F _ zf_n3_5) | 5, 4, _, _, _ => Or.inr (F _ zf_n4_5) | 5, 5, _, _, h => absurd rfl h | 5, 6, _, _, _ => Or.inl (F _ zf_n5_6) | 6, 0, _, _, _ => Or.inr (F _ zf_n0_6) | 6, 1, _, _, _ => Or.inr (F _ zf_n1_6) | 6, 2, _, _, _ => Or.inr (F _ zf_n2_6) | 6, 3, _, _, _ => Or.inr (F _ zf_n3_6) | 6, 4, _, _, _ => Or.inr (F _ zf_n4_6) | 6, 5, _, _, _ => Or.inr (F _ zf_n5_6) | 6, 6, _, _, h => absurd rfl h | i + 7, _, h, _, _ => absurd h (by omega) | 0, j + 7, _, h, _ => absurd h (by omega) | 1, j + 7, _, h, _ => absurd h (by omega) | 2, j + 7, _, h, _ => absurd h (by omega) | 3, j + 7, _, h, _ => absurd h (by omega) | 4, j + 7, _, h, _ => absurd h (by omega) | 5, j + 7, _, h, _ => absurd h (by omega) | 6, j + 7, _, h, _ => absurd h (by omega))
    (fun a h => Nat.not_le.mpr h)
  obtain ⟨y, y0, y1, y2, y3, y4, y5, yK, yV⟩ : ∃ y : Nat → ClassId, y 0 = cI ∧ y 1 = cJ ∧ y 2 = cZ ∧ y 3 = cH ∧ y 4 = cP ∧ y 5 = cT ∧ (∀ i, i < 7 → y (10 + i) = adK i) ∧ (∀ i, i < 7 → y (20 + i) = adV i) := by
    refine ⟨fun k => if k = 0 then cI else if k = 1 then cJ else if k = 2 then cZ else if k = 3 then cH else if k = 4 then cP else if k = 5 then cT else if k < 20 then adK (k - 10) else adV (k - 20), rfl, rfl, rfl, rfl, rfl, rfl, ?_, ?_⟩
    · intro i hi
      match i, hi with
      | 0, _ => rfl
      | 1, _ => rfl
      | 2, _ => rfl
      | 3, _ => rfl
      | 4, _ => rfl
      | 5, _ => rfl
      | 6, _ => rfl
      | i + 7, h => omega
    · intro i hi
      match i, hi with
      | 0, _ => rfl
      | 1, _ => rfl
      | 2, _ => rfl
      | 3, _ => rfl
      | 4, _ => rfl
      | 5, _ => rfl
      | 6, _ => rfl
      | i + 7, h => omega
  have hE : zE y (fun q : Nat => s.heap.size ≤ q) s s.heap := by
    refine ⟨zvk hV yK yV, ?_⟩
    intro i hi
    match i, hi with
    | 0, h => rw [yK 0 h]; exact vk_R.of (hts (.stringRef "NineWindows$Reader" 74 "wet ") (List.mem_of_getElem? (i := 568) (by decide +kernel))) (hVe 0 h)
    | 1, h => rw [yK 1 h]; exact vk_R.of (hts (.stringRef "NineWindows$Reader" 76 "dry ") (List.mem_of_getElem? (i := 569) (by decide +kernel))) (hVe 1 h)
    | 2, h => rw [yK 2 h]; exact vk_R.of (hts (.stringRef "NineWindows$Reader" 78 "stair ") (List.mem_of_getElem? (i := 570) (by decide +kernel))) (hVe 2 h)
    | 3, h => rw [yK 3 h]; exact vk_R.of (hts (.stringRef "NineWindows$Reader" 80 "last ") (List.mem_of_getElem? (i := 571) (by decide +kernel))) (hVe 3 h)
    | 4, h => rw [yK 4 h]; exact vk_R.of (hts (.stringRef "NineWindows$Reader" 82 "") (List.mem_of_getElem? (i := 572) (by decide +kernel))) (hVe 4 h)
    | 5, h => rw [yK 5 h]; exact vk_R.of (hts (.stringRef "NineWindows$Reader" 96 "wkfrst") (List.mem_of_getElem? (i := 653) (by decide +kernel))) (hVe 5 h)
    | 6, h => rw [yK 6 h]; exact vk_R.of (hts (.stringRef "NineWindows$Reader" 102 "<=>") (List.mem_of_getElem? (i := 713) (by decide +kernel))) (hVe 6 h)
    | i + 7, h => omega
  have hNs : ∀ q ∈ zNst, va_Nw (.methodLinkNest q.1 q.2.1 q.2.2.1 q.2.2.2) s := by
    intro q hq
    simp only [zNst, List.mem_cons, List.not_mem_nil, or_false] at hq
    rcases hq with rfl | rfl | rfl | rfl | rfl | rfl | rfl
    · exact va_Nw.of rfl (hts (.methodLinkNest "NineWindows" 23 yX5_init "NineWindows") (List.mem_of_getElem? (i := 114) (by decide +kernel)))
    · exact va_Nw.of rfl (hts (.methodLinkNest "NineWindows$Reader" 25 yX2_init "NineWindows") (List.mem_of_getElem? (i := 120) (by decide +kernel)))
    · exact va_Nw.of rfl (hts (.methodLinkNest "NineWindows$Scene" 41 yX2_init "NineWindows") (List.mem_of_getElem? (i := 184) (by decide +kernel)))
    · exact va_Nw.of rfl (hts (.methodLinkNest "NineWindows$Scene" 61 yX4_init "NineWindows") (List.mem_of_getElem? (i := 211) (by decide +kernel)))
    · exact va_Nw.of rfl (hts (.methodLinkNest "NineWindows" 53 yX0_init "NineWindows") (List.mem_of_getElem? (i := 357) (by decide +kernel)))
    · exact va_Nw.of rfl (hts (.methodLinkNest "NineWindows" 64 yX2_init "NineWindows") (List.mem_of_getElem? (i := 381) (by decide +kernel)))
    · exact va_Nw.of rfl (hts (.methodLinkNest "NineWindows" 65 yX8_init "NineWindows") (List.mem_of_getElem? (i := 383) (by decide +kernel)))
  have hK : zK (dC, dI) y s := by
    refine ⟨⟨hKc, ?_⟩, va_AO.of aoH, va_AO.of aoP, va_AO.of aoT, hNs⟩
    intro k q hq
    match k, hq with
    | 0, hq => cases hq; refine ⟨?_, ?_⟩ <;> dsimp only <;> rw [y0]; exact fun n z => ⟨fun k h => (by cases h), kI, fI2, pI, fI3⟩; exact fI1
    | 1, hq => cases hq; refine ⟨?_, ?_⟩ <;> dsimp only <;> rw [y1]; exact fun n z => ⟨fun k h => (by cases h), kJ, fJ2, pJ, fJ3⟩; exact fJ1
    | 2, hq => cases hq; refine ⟨?_, ?_⟩ <;> dsimp only <;> rw [y2]; exact fun n z => ⟨fun k h => (by cases h), kZ, fZ2, pZ, fZ3⟩; exact fZ1
    | 3, hq => cases hq; refine ⟨?_, ?_⟩ <;> dsimp only <;> rw [y3]; exact fun n z => ⟨fun k h => (by cases h), kH, fH3, pH, fH4⟩; exact ⟨kH, pH, fH3, fH4, fH1, fH5⟩
    | 4, hq => cases hq; refine ⟨?_, ?_⟩ <;> dsimp only <;> rw [y4]; exact fun n z => ⟨fun k h => (by cases h), kP, fP3, pP, fP4⟩; exact ⟨kP, pP, fP3, fP4, fP1, fP5⟩
    | 5, hq => cases hq; refine ⟨?_, ?_⟩ <;> dsimp only <;> rw [y5]; exact fun n z => ⟨fun k h => (by cases h), kT, fT3, pT, fT4⟩; exact ⟨kT, pT, fT3, fT4, fT1, fT5⟩
    | k + 6, hq => simp [zTY] at hq
  generalize (dC, dI) = D at hK
  have hS : va_S (fun q : Nat => s.heap.size ≤ q) s.heap s.heap [] := va_S.rf
  have hW : zPD D (fun q : Nat => s.heap.size ≤ q) [] s.heap := ⟨fun k q h => by simp at h, fun i j p q h => by simp at h, fun k q h => by simp at h⟩
  have hl := lv_entry ([.ref b]) (n := 4) (Nat.le_of_ble_eq_true rfl)
  rw [lg_entry_eq]
  generalize (lg_sl ([.ref b]) ++ List.replicate (4 - (lg_sl ([.ref b])).length) Slot.unset).toArray = ls at hl ⊢
  have hl : lv_has ls 4 [(0, .ref b)] := hl
  refine znew (ci := 8) (fs := [.null, .int 0, .null, .null, .null, .int 0, .null, .null, .null]) hx hb ht zslX9 tyX9 tyX9_ok hown zs_0 zs_1 zs_2 hK hS hW hA rfl zn_X9 (Nat.le_of_ble_eq_true rfl) (Nat.le_of_ble_eq_true rfl) dL_law_0 (fun q1_ H hW hS => ?_)
  have hW : zPD D _ [(q1_, .inr (8, [.null, .int 0, .null, .null, .null, .int 0, .null, .null, .null]))] H := hW
  refine lv_dup hx hb dL_law_3 rfl ?_
  refine zgo_v (wr := []) (zrunI (As := []) (rest := [.ref q1_]) ⟨hx, hb, hml, hown, ht⟩ (zc_X9_init_0 l D y q1_) (cwI 0 ht (zgI2 zs_9) rfl rfl rfl (ht _ zs_2) (ht _ zs_7) (ht _ zs_8) rfl (by decide +kernel) ⟨(Nat.le_of_ble_eq_true rfl), (Nat.le_of_ble_eq_true rfl)⟩) hK hE hS hA hW [0] (by decide) rfl rfl hl.1 rfl (Nat.le_of_ble_eq_true rfl) dL_law_4 (Nat.le_of_ble_eq_true rfl) (Nat.le_of_ble_eq_true rfl)) hS hA hW [0] [] rfl rfl (by decide) (by decide) (fun u H locs hw hW hS => ?_)
  obtain ⟨q2_, q3_, q4_, q5_, q6_, q7_, q8_, q9_, q10_, q11_, q12_, q13_, q14_, q15_, q16_, q17_, q18_, q19_, q20_, q21_, q22_, q23_, q24_, q25_, q26_, q27_, q28_, q29_, q30_, q31_, q32_, q33_, q34_, q35_, q36_, q37_, q38_, q39_, q40_, q41_, q42_, q43_, q44_, q45_, q46_, q47_, q48_, q49_, q50_, q51_, q52_, q53_, q54_, q55_, q56_, q57_, q58_, q59_, q60_, q61_, q62_, q63_, q64_, q65_, q66_, q67_, q68_, q69_, q70_, q71_, q72_, q73_, q74_, q75_, q76_⟩ := u
  have hW : zPD D _ [(q1_, .inr (8, [.ref q2_, .int 0, .ref q3_, .ref q4_, .ref q5_, .int 0, .ref q6_, .ref q7_, .ref q8_])), (q2_, .inl (y 3, 6, .inr (.inr (.inr (.inr (va_up (va_up (va_up (va_up (va_up (va_up (fun _ => none) 0 (some q9_)) 1 (some q10_)) 2 (some q11_)) 3 (some q12_)) 4 (some q13_)) 5 (some q14_))))))), (q3_, .inr (4, [.ref q15_, .int 0, .int 0, .int (-1), .ref q16_])), (q15_, .inl (y 0, 100, .inl (fun _ => 0))), (q4_, .inr (6, [.ref q17_, .int 0, .int 20, .int 0, .int 0, .int 0, .int 0, .int 0, .ref q18_, .ref q19_, .ref q20_, .ref q21_])), (q17_, .inl (y 4, 7, .inr (.inr (.inr (.inr (va_up (va_up (va_up (va_up (va_up (va_up (va_up (fun _ => none) 0 (some q22_)) 1 (some q23_)) 2 (some q24_)) 3 (some q25_)) 4 (some q26_)) 5 (some q27_)) 6 (some q28_))))))), (q18_, .inr (2, [.int 2, .int 15, .int 0, .ref q29_, .ref q30_, .int 0, .ref q31_, .ref q32_])), (q19_, .inr (5, [.int 0, .ref q33_, .ref q34_])), (q20_, .inr (5, [.int 0, .ref q35_, .ref q36_])), (q21_, .inr (5, [.int 0, .ref q37_, .ref q38_])), (q22_, .inr (3, [.int 0, .int 0, .int 0, .int 0, .int 1, .int 0, .ref q39_])), (q39_, .inl (y 0, 4, .inl (fun _ => 0))), (q5_, .inr (6, [.ref q40_, .int 0, .int 20, .int 0, .int 0, .int 0, .int 0, .int 0, .ref q41_, .ref q42_, .ref q43_, .ref q44_])), (q42_, .inr (5, [.int 0, .ref q45_, .ref q46_])), (q43_, .inr (5, [.int 0, .ref q47_, .ref q48_])), (q44_, .inr (5, [.int 0, .ref q49_, .ref q50_])), (q6_, .inr (1, [.ref q4_, .int 0, .int 0, .ref q51_, .ref q52_, .ref q53_, .int 0, .ref q54_, .ref q55_])), (q52_, .inr (5, [.int 0, .ref q56_, .ref q57_])), (q53_, .inr (5, [.int 0, .ref q58_, .ref q59_])), (q55_, .inl (y 2, 4, .inl (fun _ => 0))), (q7_, .inr (0, [.ref q60_, .int 0, .int 0, .int 0, .int 0])), (q8_, .inl (y 5, 6, .inr (.inr (.inr (.inr (va_up (va_up (va_up (va_up (va_up (va_up (fun _ => none) 0 (some q61_)) 1 (some q62_)) 2 (some q63_)) 3 (some q64_)) 4 (some q65_)) 5 (some q66_))))))), (q9_, .inr (2, [.int 2, .int 15, .int 0, .ref q67_, .ref q68_, .int 0, .ref q69_, .ref q70_])), (q61_, .inr (7, [.int (-1), .int 0, .ref q71_])), (q71_, .inl (y 1, 60, .inr (.inl (fun _ => 0)))), (q62_, .inr (7, [.int (-1), .int 0, .ref q72_])), (q72_, .inl (y 1, 60, .inr (.inl (fun _ => 0)))), (q63_, .inr (7, [.int (-1), .int 0, .ref q73_])), (q73_, .inl (y 1, 60, .inr (.inl (fun _ => 0)))), (q64_, .inr (7, [.int (-1), .int 0, .ref q74_])), (q74_, .inl (y 1, 60, .inr (.inl (fun _ => 0)))), (q65_, .inr (7, [.int (-1), .int 0, .ref q75_])), (q75_, .inl (y 1, 60, .inr (.inl (fun _ => 0)))), (q66_, .inr (7, [.int (-1), .int 0, .ref q76_])), (q76_, .inl (y 1, 60, .inr (.inl (fun _ => 0))))] H := hW
  refine lv_astore_n (lv' := [(1, .ref q1_), (0, .ref b)]) hx hb dL_law_7 rfl hl (by decide) rfl (fun ls hl => ?_)
  refine znew (ci := 9) (fs := [.int 0, .int 0, .int 0, .int 0, .int 0, .int 0, .int 0, .null, .null, .null, .null, .null, .null, .null, .int 0, .int 0, .int 0, .int 0, .int 0, .null, .null, .null, .null, .null, .null, .null, .null, .int 0, .int 0, .int 0, .null, .null, .int 0, .null, .null, .int 0, .null, .int 0, .null, .null, .int 0, .null, .null, .int 0, .null, .null, .int 0, .int 0, .int 0, .int 0, .int 0, .int 0, .int 0, .int 0, .int 0, .int 0, .int 0, .int 0, .null, .null, .null, .null, .null, .null, .null, .null, .null, .null, .null, .null, .int 0, .null, .null, .null, .null, .null]) hx hb ht zslX10 tyX10 tyX10_ok hown zs_3 zs_4 zs_5 hK hS hW hA rfl zn_X10 (Nat.le_of_ble_eq_true rfl) (Nat.le_of_ble_eq_true rfl) dL_law_8 (fun q78_ H hW hS => ?_)
  have hW : zPD D _ [(q1_, .inr (8, [.ref q2_, .int 0, .ref q3_, .ref q4_, .ref q5_, .int 0, .ref q6_, .ref q7_, .ref q8_])), (q2_, .inl (y 3, 6, .inr (.inr (.inr (.inr (va_up (va_up (va_up (va_up (va_up (va_up (fun _ => none) 0 (some q9_)) 1 (some q10_)) 2 (some q11_)) 3 (some q12_)) 4 (some q13_)) 5 (some q14_))))))), (q3_, .inr (4, [.ref q15_, .int 0, .int 0, .int (-1), .ref q16_])), (q15_, .inl (y 0, 100, .inl (fun _ => 0))), (q4_, .inr (6, [.ref q17_, .int 0, .int 20, .int 0, .int 0, .int 0, .int 0, .int 0, .ref q18_, .ref q19_, .ref q20_, .ref q21_])), (q17_, .inl (y 4, 7, .inr (.inr (.inr (.inr (va_up (va_up (va_up (va_up (va_up (va_up (va_up (fun _ => none) 0 (some q22_)) 1 (some q23_)) 2 (some q24_)) 3 (some q25_)) 4 (some q26_)) 5 (some q27_)) 6 (some q28_))))))), (q18_, .inr (2, [.int 2, .int 15, .int 0, .ref q29_, .ref q30_, .int 0, .ref q31_, .ref q32_])), (q19_, .inr (5, [.int 0, .ref q33_, .ref q34_])), (q20_, .inr (5, [.int 0, .ref q35_, .ref q36_])), (q21_, .inr (5, [.int 0, .ref q37_, .ref q38_])), (q22_, .inr (3, [.int 0, .int 0, .int 0, .int 0, .int 1, .int 0, .ref q39_])), (q39_, .inl (y 0, 4, .inl (fun _ => 0))), (q5_, .inr (6, [.ref q40_, .int 0, .int 20, .int 0, .int 0, .int 0, .int 0, .int 0, .ref q41_, .ref q42_, .ref q43_, .ref q44_])), (q42_, .inr (5, [.int 0, .ref q45_, .ref q46_])), (q43_, .inr (5, [.int 0, .ref q47_, .ref q48_])), (q44_, .inr (5, [.int 0, .ref q49_, .ref q50_])), (q6_, .inr (1, [.ref q4_, .int 0, .int 0, .ref q51_, .ref q52_, .ref q53_, .int 0, .ref q54_, .ref q55_])), (q52_, .inr (5, [.int 0, .ref q56_, .ref q57_])), (q53_, .inr (5, [.int 0, .ref q58_, .ref q59_])), (q55_, .inl (y 2, 4, .inl (fun _ => 0))), (q7_, .inr (0, [.ref q60_, .int 0, .int 0, .int 0, .int 0])), (q8_, .inl (y 5, 6, .inr (.inr (.inr (.inr (va_up (va_up (va_up (va_up (va_up (va_up (fun _ => none) 0 (some q61_)) 1 (some q62_)) 2 (some q63_)) 3 (some q64_)) 4 (some q65_)) 5 (some q66_))))))), (q9_, .inr (2, [.int 2, .int 15, .int 0, .ref q67_, .ref q68_, .int 0, .ref q69_, .ref q70_])), (q61_, .inr (7, [.int (-1), .int 0, .ref q71_])), (q71_, .inl (y 1, 60, .inr (.inl (fun _ => 0)))), (q62_, .inr (7, [.int (-1), .int 0, .ref q72_])), (q72_, .inl (y 1, 60, .inr (.inl (fun _ => 0)))), (q63_, .inr (7, [.int (-1), .int 0, .ref q73_])), (q73_, .inl (y 1, 60, .inr (.inl (fun _ => 0)))), (q64_, .inr (7, [.int (-1), .int 0, .ref q74_])), (q74_, .inl (y 1, 60, .inr (.inl (fun _ => 0)))), (q65_, .inr (7, [.int (-1), .int 0, .ref q75_])), (q75_, .inl (y 1, 60, .inr (.inl (fun _ => 0)))), (q66_, .inr (7, [.int (-1), .int 0, .ref q76_])), (q76_, .inl (y 1, 60, .inr (.inl (fun _ => 0)))), (q78_, .inr (9, [.int 0, .int 0, .int 0, .int 0, .int 0, .int 0, .int 0, .null, .null, .null, .null, .null, .null, .null, .int 0, .int 0, .int 0, .int 0, .int 0, .null, .null, .null, .null, .null, .null, .null, .null, .int 0, .int 0, .int 0, .null, .null, .int 0, .null, .null, .int 0, .null, .int 0, .null, .null, .int 0, .null, .null, .int 0, .null, .null, .int 0, .int 0, .int 0, .int 0, .int 0, .int 0, .int 0, .int 0, .int 0, .int 0, .int 0, .int 0, .null, .null, .null, .null, .null, .null, .null, .null, .null, .null, .null, .null, .int 0, .null, .null, .null, .null, .null]))] H := hW
  refine lv_dup hx hb dL_law_11 rfl ?_
  refine zgo_v (wr := [(q1_, .inr (8, [.ref q2_, .int 0, .ref q3_, .ref q4_, .ref q5_, .int 0, .ref q6_, .ref q7_, .ref q8_])), (q2_, .inl (y 3, 6, .inr (.inr (.inr (.inr (va_up (va_up (va_up (va_up (va_up (va_up (fun _ => none) 0 (some q9_)) 1 (some q10_)) 2 (some q11_)) 3 (some q12_)) 4 (some q13_)) 5 (some q14_))))))), (q3_, .inr (4, [.ref q15_, .int 0, .int 0, .int (-1), .ref q16_])), (q15_, .inl (y 0, 100, .inl (fun _ => 0))), (q4_, .inr (6, [.ref q17_, .int 0, .int 20, .int 0, .int 0, .int 0, .int 0, .int 0, .ref q18_, .ref q19_, .ref q20_, .ref q21_])), (q17_, .inl (y 4, 7, .inr (.inr (.inr (.inr (va_up (va_up (va_up (va_up (va_up (va_up (va_up (fun _ => none) 0 (some q22_)) 1 (some q23_)) 2 (some q24_)) 3 (some q25_)) 4 (some q26_)) 5 (some q27_)) 6 (some q28_))))))), (q18_, .inr (2, [.int 2, .int 15, .int 0, .ref q29_, .ref q30_, .int 0, .ref q31_, .ref q32_])), (q19_, .inr (5, [.int 0, .ref q33_, .ref q34_])), (q20_, .inr (5, [.int 0, .ref q35_, .ref q36_])), (q21_, .inr (5, [.int 0, .ref q37_, .ref q38_])), (q22_, .inr (3, [.int 0, .int 0, .int 0, .int 0, .int 1, .int 0, .ref q39_])), (q39_, .inl (y 0, 4, .inl (fun _ => 0))), (q5_, .inr (6, [.ref q40_, .int 0, .int 20, .int 0, .int 0, .int 0, .int 0, .int 0, .ref q41_, .ref q42_, .ref q43_, .ref q44_])), (q42_, .inr (5, [.int 0, .ref q45_, .ref q46_])), (q43_, .inr (5, [.int 0, .ref q47_, .ref q48_])), (q44_, .inr (5, [.int 0, .ref q49_, .ref q50_])), (q6_, .inr (1, [.ref q4_, .int 0, .int 0, .ref q51_, .ref q52_, .ref q53_, .int 0, .ref q54_, .ref q55_])), (q52_, .inr (5, [.int 0, .ref q56_, .ref q57_])), (q53_, .inr (5, [.int 0, .ref q58_, .ref q59_])), (q55_, .inl (y 2, 4, .inl (fun _ => 0))), (q7_, .inr (0, [.ref q60_, .int 0, .int 0, .int 0, .int 0])), (q8_, .inl (y 5, 6, .inr (.inr (.inr (.inr (va_up (va_up (va_up (va_up (va_up (va_up (fun _ => none) 0 (some q61_)) 1 (some q62_)) 2 (some q63_)) 3 (some q64_)) 4 (some q65_)) 5 (some q66_))))))), (q9_, .inr (2, [.int 2, .int 15, .int 0, .ref q67_, .ref q68_, .int 0, .ref q69_, .ref q70_])), (q61_, .inr (7, [.int (-1), .int 0, .ref q71_])), (q71_, .inl (y 1, 60, .inr (.inl (fun _ => 0)))), (q62_, .inr (7, [.int (-1), .int 0, .ref q72_])), (q72_, .inl (y 1, 60, .inr (.inl (fun _ => 0)))), (q63_, .inr (7, [.int (-1), .int 0, .ref q73_])), (q73_, .inl (y 1, 60, .inr (.inl (fun _ => 0)))), (q64_, .inr (7, [.int (-1), .int 0, .ref q74_])), (q74_, .inl (y 1, 60, .inr (.inl (fun _ => 0)))), (q65_, .inr (7, [.int (-1), .int 0, .ref q75_])), (q75_, .inl (y 1, 60, .inr (.inl (fun _ => 0)))), (q66_, .inr (7, [.int (-1), .int 0, .ref q76_])), (q76_, .inl (y 1, 60, .inr (.inl (fun _ => 0))))]) (zrunI (As := []) (rest := [.ref q78_]) ⟨hx, hb, hml, hown, ht⟩ (zc_X10_init_0 l D y q78_) (cwI 0 ht (zgI2 zs_138) rfl rfl rfl (ht _ zs_5) (ht _ zs_136) (ht _ zs_137) rfl (by decide +kernel) ⟨(Nat.le_of_ble_eq_true rfl), (Nat.le_of_ble_eq_true rfl)⟩) hK hE hS hA hW [35] (by decide) rfl rfl hl.1 rfl (Nat.le_of_ble_eq_true rfl) dL_law_12 (Nat.le_of_ble_eq_true rfl) (Nat.le_of_ble_eq_true rfl)) hS hA hW [35] [0, 1, 2, 3, 4, 5, 6, 7, 8, 9, 10, 11, 12, 13, 14, 15, 16, 17, 18, 19, 20, 21, 22, 23, 24, 25, 26, 27, 28, 29, 30, 31, 32, 33, 34] rfl rfl (by decide) (by decide) (fun u H locs hw hW hS => ?_)
  obtain ⟨q79_, q80_, q81_, q82_, q83_, q84_, q85_, q86_, q87_, q88_, q89_, q90_, q91_, q92_, q93_, q94_, q95_, q96_, q97_, q98_, q99_, q100_, q101_, q102_, q103_, q104_, q105_, q106_, q107_, q108_, q109_, q110_, q111_, q112_, q113_, q114_, q115_, q116_, q117_, q118_, q119_, q120_, q121_⟩ := u
  have hW : zPD D _ [(q1_, .inr (8, [.ref q2_, .int 0, .ref q3_, .ref q4_, .ref q5_, .int 0, .ref q6_, .ref q7_, .ref q8_])), (q2_, .inl (y 3, 6, .inr (.inr (.inr (.inr (va_up (va_up (va_up (va_up (va_up (va_up (fun _ => none) 0 (some q9_)) 1 (some q10_)) 2 (some q11_)) 3 (some q12_)) 4 (some q13_)) 5 (some q14_))))))), (q3_, .inr (4, [.ref q15_, .int 0, .int 0, .int (-1), .ref q16_])), (q15_, .inl (y 0, 100, .inl (fun _ => 0))), (q4_, .inr (6, [.ref q17_, .int 0, .int 20, .int 0, .int 0, .int 0, .int 0, .int 0, .ref q18_, .ref q19_, .ref q20_, .ref q21_])), (q17_, .inl (y 4, 7, .inr (.inr (.inr (.inr (va_up (va_up (va_up (va_up (va_up (va_up (va_up (fun _ => none) 0 (some q22_)) 1 (some q23_)) 2 (some q24_)) 3 (some q25_)) 4 (some q26_)) 5 (some q27_)) 6 (some q28_))))))), (q18_, .inr (2, [.int 2, .int 15, .int 0, .ref q29_, .ref q30_, .int 0, .ref q31_, .ref q32_])), (q19_, .inr (5, [.int 0, .ref q33_, .ref q34_])), (q20_, .inr (5, [.int 0, .ref q35_, .ref q36_])), (q21_, .inr (5, [.int 0, .ref q37_, .ref q38_])), (q22_, .inr (3, [.int 0, .int 0, .int 0, .int 0, .int 1, .int 0, .ref q39_])), (q39_, .inl (y 0, 4, .inl (fun _ => 0))), (q5_, .inr (6, [.ref q40_, .int 0, .int 20, .int 0, .int 0, .int 0, .int 0, .int 0, .ref q41_, .ref q42_, .ref q43_, .ref q44_])), (q42_, .inr (5, [.int 0, .ref q45_, .ref q46_])), (q43_, .inr (5, [.int 0, .ref q47_, .ref q48_])), (q44_, .inr (5, [.int 0, .ref q49_, .ref q50_])), (q6_, .inr (1, [.ref q4_, .int 0, .int 0, .ref q51_, .ref q52_, .ref q53_, .int 0, .ref q54_, .ref q55_])), (q52_, .inr (5, [.int 0, .ref q56_, .ref q57_])), (q53_, .inr (5, [.int 0, .ref q58_, .ref q59_])), (q55_, .inl (y 2, 4, .inl (fun _ => 0))), (q7_, .inr (0, [.ref q60_, .int 0, .int 0, .int 0, .int 0])), (q8_, .inl (y 5, 6, .inr (.inr (.inr (.inr (va_up (va_up (va_up (va_up (va_up (va_up (fun _ => none) 0 (some q61_)) 1 (some q62_)) 2 (some q63_)) 3 (some q64_)) 4 (some q65_)) 5 (some q66_))))))), (q9_, .inr (2, [.int 2, .int 15, .int 0, .ref q67_, .ref q68_, .int 0, .ref q69_, .ref q70_])), (q61_, .inr (7, [.int (-1), .int 0, .ref q71_])), (q71_, .inl (y 1, 60, .inr (.inl (fun _ => 0)))), (q62_, .inr (7, [.int (-1), .int 0, .ref q72_])), (q72_, .inl (y 1, 60, .inr (.inl (fun _ => 0)))), (q63_, .inr (7, [.int (-1), .int 0, .ref q73_])), (q73_, .inl (y 1, 60, .inr (.inl (fun _ => 0)))), (q64_, .inr (7, [.int (-1), .int 0, .ref q74_])), (q74_, .inl (y 1, 60, .inr (.inl (fun _ => 0)))), (q65_, .inr (7, [.int (-1), .int 0, .ref q75_])), (q75_, .inl (y 1, 60, .inr (.inl (fun _ => 0)))), (q66_, .inr (7, [.int (-1), .int 0, .ref q76_])), (q76_, .inl (y 1, 60, .inr (.inl (fun _ => 0)))), (q78_, .inr (9, [.int 0, .int 0, .int 0, .int 20, .int 0, .int 0, .int 0, .ref q79_, .ref q80_, .ref q81_, .ref q82_, .ref q83_, .ref q84_, .ref q85_, .int 0, .int (-1), .int 0, .int 0, .int 0, .ref q86_, .ref q87_, .ref q88_, .ref q89_, .ref q90_, .ref q91_, .ref q92_, .ref q93_, .int 0, .int 0, .int 0, .ref q94_, .ref q95_, .int 0, .ref q96_, .ref q97_, .int 0, .ref q98_, .int 0, .ref q99_, .ref q100_, .int 0, .ref q101_, .ref q102_, .int 0, .ref q103_, .ref q104_, .int 0, .int (-1), .int 0, .int 0, .int 0, .int 20, .int 0, .int 0, .int 0, .int 0, .int 0, .int 0, .ref q105_, .ref q106_, .ref q107_, .ref q108_, .ref q109_, .ref q110_, .ref q111_, .ref q112_, .ref q113_, .ref q114_, .ref q115_, .ref q116_, .int 0, .ref q117_, .ref q118_, .ref q119_, .ref q120_, .ref q121_])), (q79_, .inl (y 0, 7, .inl (fun _ => 0))), (q80_, .inl (y 0, 7, .inl (fun _ => 0))), (q81_, .inl (y 0, 7, .inl (fun _ => 0))), (q82_, .inl (y 0, 7, .inl (fun _ => 0))), (q83_, .inl (y 0, 7, .inl (fun _ => 0))), (q84_, .inl (y 0, 28, .inl (fun _ => 0))), (q85_, .inl (y 2, 7, .inl (fun _ => 0))), (q86_, .inl (y 0, 100, .inl (fun _ => 0))), (q87_, .inl (y 0, 6, .inl (fun _ => 0))), (q88_, .inl (y 0, 60, .inl (fun _ => 0))), (q89_, .inl (y 0, 60, .inl (fun _ => 0))), (q90_, .inl (y 0, 60, .inl (fun _ => 0))), (q91_, .inl (y 0, 60, .inl (fun _ => 0))), (q92_, .inl (y 0, 600, .inl (fun _ => 0))), (q93_, .inl (y 0, 101, .inl (fun _ => 0))), (q94_, .inl (y 0, 15, .inl (upd (upd (upd (upd (upd (upd (upd (upd (upd (upd (upd (upd (upd (upd (upd (fun _ => 0) 0 119) 1 101) 2 116) 3 100) 4 114) 5 121) 6 115) 7 116) 8 97) 9 105) 10 114) 11 108) 12 97) 13 115) 14 116))), (q95_, .inl (y 2, 100, .inl (fun _ => 0))), (q96_, .inl (y 0, 693, .inl (fun _ => 0))), (q97_, .inl (y 0, 7, .inl (fun _ => 0))), (q98_, .inl (y 0, 7, .inl (fun _ => 0))), (q99_, .inl (y 0, 7, .inl (fun _ => 0))), (q100_, .inl (y 0, 7, .inl (fun _ => 0))), (q101_, .inl (y 0, 6, .inl (fun _ => 0))), (q102_, .inl (y 0, 6, .inl (fun _ => 0))), (q103_, .inl (y 0, 8, .inl (fun _ => 0))), (q104_, .inl (y 0, 8, .inl (fun _ => 0))), (q105_, .inl (y 0, 7, .inl (fun _ => 0))), (q106_, .inl (y 0, 7, .inl (fun _ => 0))), (q107_, .inl (y 0, 7, .inl (fun _ => 0))), (q108_, .inl (y 0, 7, .inl (fun _ => 0))), (q109_, .inl (y 0, 7, .inl (fun _ => 0))), (q110_, .inl (y 0, 28, .inl (fun _ => 0))), (q111_, .inl (y 0, 7, .inl (fun _ => 0))), (q112_, .inl (y 0, 6, .inl (fun _ => 0))), (q113_, .inl (y 0, 6, .inl (fun _ => 0))), (q114_, .inl (y 0, 8, .inl (fun _ => 0))), (q115_, .inl (y 0, 8, .inl (fun _ => 0))), (q116_, .inl (y 2, 7, .inl (fun _ => 0))), (q117_, .inl (y 0, 20, .inl (fun _ => 0))), (q118_, .inl (y 0, 6, .inl (upd (upd (upd (upd (upd (upd (fun _ => 0) 0 (-1)) 1 (-1)) 2 (-1)) 3 (-1)) 4 (-1)) 5 (-1)))), (q119_, .inl (y 0, 6, .inl (fun _ => 0))), (q120_, .inl (y 1, 360, .inr (.inl (fun _ => 0)))), (q121_, .inl (y 1, 60, .inr (.inl (fun _ => 0))))] H := hW
  refine lv_astore_n (lv' := [(2, .ref q78_), (1, .ref q1_), (0, .ref b)]) hx hb dL_law_15 rfl hl (by decide) rfl (fun ls hl => ?_)
  refine lv_iconst (v := 0) hx hb dL_law_16 (by decide) ?_
  refine lv_istore_n (lv' := [(3, .int 0), (2, .ref q78_), (1, .ref q1_), (0, .ref b)]) hx hb dL_law_17 rfl hl (by decide) rfl (fun ls hl => ?_)
  refine W.widen (k := 1000) (n := 20000) (Nat.le_of_ble_eq_true rfl) (Nat.le_of_ble_eq_true rfl) ?_
  by_cases h6 : L = 6
  · subst h6
    exact zl_disp l C0 D y q1_ q2_ q3_ q4_ q5_ q6_ q7_ q8_ q9_ q10_ q11_ q12_ q13_ q14_ q15_ q16_ q17_ q18_ q19_ q20_ q21_ q22_ q23_ q24_ q25_ q26_ q27_ q28_ q29_ q30_ q31_ q32_ q33_ q34_ q35_ q36_ q37_ q38_ q39_ q40_ q41_ q42_ q43_ q44_ q45_ q46_ q47_ q48_ q49_ q50_ q51_ q52_ q53_ q54_ q55_ q56_ q57_ q58_ q59_ q60_ q61_ q62_ q63_ q64_ q65_ q66_ q67_ q68_ q69_ q70_ q71_ q72_ q73_ q74_ q75_ q76_ q78_ q79_ q80_ q81_ q82_ q83_ q84_ q85_ q86_ q87_ q88_ q89_ q90_ q91_ q92_ q93_ q94_ q95_ q96_ q97_ q98_ q99_ q100_ q101_ q102_ q103_ q104_ q105_ q106_ q107_ q108_ q109_ q110_ q111_ q112_ q113_ q114_ q115_ q116_ q117_ q118_ q119_ q120_ q121_ hK hE hS hW (lv_sub hl [0, 1, 2, 3] rfl)
  · have h5 : ∀ k, k < 6 → Int32.ofNat k - 6 < 0 := by decide
    exact zl_out l C0 (Nat.le_of_ble_eq_true rfl) (Nat.le_of_ble_eq_true rfl) 0 (h5 L (by omega)) hS (lv_sub hl [0, 3] rfl)
