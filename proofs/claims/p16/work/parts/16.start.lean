theorem dL_law_0 : decode code 0 = .ok (.new 7, 3) := by decide +kernel
theorem dL_law_3 : decode code 3 = .ok (.dup, 1) := by decide +kernel
theorem dL_law_4 : decode code 4 = .ok (.invokespecial 9, 3) := by decide +kernel
theorem dL_law_7 : decode code 7 = .ok (.astore_n 1, 1) := by decide +kernel
theorem dL_law_8 : decode code 8 = .ok (.new 10, 3) := by decide +kernel
theorem dL_law_11 : decode code 11 = .ok (.dup, 1) := by decide +kernel
theorem dL_law_12 : decode code 12 = .ok (.invokespecial 12, 3) := by decide +kernel
theorem dL_law_15 : decode code 15 = .ok (.astore_n 2, 1) := by decide +kernel
theorem dL_law_16 : decode code 16 = .ok (.iconst 0, 1) := by decide +kernel
theorem dL_law_17 : decode code 17 = .ok (.istore_n 3, 1) := by decide +kernel
def zF : List Cond := flatC (Jvm.Cond.and given_1 narrow_1)
def ztm (i : Nat) : Term := Term.string "NineWindows$Reader" (zsi.getD i 0)
set_option maxRecDepth 20000 in
theorem zf_x0 : Cond.exactly (ztm 0) "java/lang/String" ∈ zF := List.mem_of_getElem? (i := 73) (by decide +kernel)
set_option maxRecDepth 20000 in
theorem zf_c0 : Cond.eq (.field (ztm 0) "java/lang/String" "coder" "B") (.int 0) ∈ zF := List.mem_of_getElem? (i := 74) (by decide +kernel)
set_option maxRecDepth 20000 in
theorem zf_a0 : Cond.arrayOf (.field (ztm 0) "java/lang/String" "value" "[B") .byte ∈ zF := List.mem_of_getElem? (i := 75) (by decide +kernel)
set_option maxRecDepth 20000 in
theorem zf_l0 : Cond.eq (.length (.field (ztm 0) "java/lang/String" "value" "[B")) (.int (Int32.ofNat (zsl.getD 0 0))) ∈ zF := List.mem_of_getElem? (i := 76) (by decide +kernel)
set_option maxRecDepth 20000 in
theorem zf_e0_0 : Cond.eq (.elem (.field (ztm 0) "java/lang/String" "value" "[B") (.int (Int32.ofNat 0))) (.int ((zsb.getD 0 []).getD 0 0)) ∈ zF := List.mem_of_getElem? (i := 77) (by decide +kernel)
set_option maxRecDepth 20000 in
theorem zf_e0_1 : Cond.eq (.elem (.field (ztm 0) "java/lang/String" "value" "[B") (.int (Int32.ofNat 1))) (.int ((zsb.getD 0 []).getD 1 0)) ∈ zF := List.mem_of_getElem? (i := 78) (by decide +kernel)
set_option maxRecDepth 20000 in
theorem zf_e0_2 : Cond.eq (.elem (.field (ztm 0) "java/lang/String" "value" "[B") (.int (Int32.ofNat 2))) (.int ((zsb.getD 0 []).getD 2 0)) ∈ zF := List.mem_of_getElem? (i := 79) (by decide +kernel)
set_option maxRecDepth 20000 in
theorem zf_e0_3 : Cond.eq (.elem (.field (ztm 0) "java/lang/String" "value" "[B") (.int (Int32.ofNat 3))) (.int ((zsb.getD 0 []).getD 3 0)) ∈ zF := List.mem_of_getElem? (i := 80) (by decide +kernel)
set_option maxRecDepth 20000 in
theorem zf_x1 : Cond.exactly (ztm 1) "java/lang/String" ∈ zF := List.mem_of_getElem? (i := 81) (by decide +kernel)
set_option maxRecDepth 20000 in
theorem zf_c1 : Cond.eq (.field (ztm 1) "java/lang/String" "coder" "B") (.int 0) ∈ zF := List.mem_of_getElem? (i := 82) (by decide +kernel)
set_option maxRecDepth 20000 in
theorem zf_a1 : Cond.arrayOf (.field (ztm 1) "java/lang/String" "value" "[B") .byte ∈ zF := List.mem_of_getElem? (i := 83) (by decide +kernel)
set_option maxRecDepth 20000 in
theorem zf_l1 : Cond.eq (.length (.field (ztm 1) "java/lang/String" "value" "[B")) (.int (Int32.ofNat (zsl.getD 1 0))) ∈ zF := List.mem_of_getElem? (i := 84) (by decide +kernel)
set_option maxRecDepth 20000 in
theorem zf_e1_0 : Cond.eq (.elem (.field (ztm 1) "java/lang/String" "value" "[B") (.int (Int32.ofNat 0))) (.int ((zsb.getD 1 []).getD 0 0)) ∈ zF := List.mem_of_getElem? (i := 85) (by decide +kernel)
set_option maxRecDepth 20000 in
theorem zf_e1_1 : Cond.eq (.elem (.field (ztm 1) "java/lang/String" "value" "[B") (.int (Int32.ofNat 1))) (.int ((zsb.getD 1 []).getD 1 0)) ∈ zF := List.mem_of_getElem? (i := 86) (by decide +kernel)
set_option maxRecDepth 20000 in
theorem zf_e1_2 : Cond.eq (.elem (.field (ztm 1) "java/lang/String" "value" "[B") (.int (Int32.ofNat 2))) (.int ((zsb.getD 1 []).getD 2 0)) ∈ zF := List.mem_of_getElem? (i := 87) (by decide +kernel)
set_option maxRecDepth 20000 in
theorem zf_e1_3 : Cond.eq (.elem (.field (ztm 1) "java/lang/String" "value" "[B") (.int (Int32.ofNat 3))) (.int ((zsb.getD 1 []).getD 3 0)) ∈ zF := List.mem_of_getElem? (i := 88) (by decide +kernel)
set_option maxRecDepth 20000 in
theorem zf_x2 : Cond.exactly (ztm 2) "java/lang/String" ∈ zF := List.mem_of_getElem? (i := 90) (by decide +kernel)
set_option maxRecDepth 20000 in
theorem zf_c2 : Cond.eq (.field (ztm 2) "java/lang/String" "coder" "B") (.int 0) ∈ zF := List.mem_of_getElem? (i := 91) (by decide +kernel)
set_option maxRecDepth 20000 in
theorem zf_a2 : Cond.arrayOf (.field (ztm 2) "java/lang/String" "value" "[B") .byte ∈ zF := List.mem_of_getElem? (i := 92) (by decide +kernel)
set_option maxRecDepth 20000 in
theorem zf_l2 : Cond.eq (.length (.field (ztm 2) "java/lang/String" "value" "[B")) (.int (Int32.ofNat (zsl.getD 2 0))) ∈ zF := List.mem_of_getElem? (i := 93) (by decide +kernel)
set_option maxRecDepth 20000 in
theorem zf_e2_0 : Cond.eq (.elem (.field (ztm 2) "java/lang/String" "value" "[B") (.int (Int32.ofNat 0))) (.int ((zsb.getD 2 []).getD 0 0)) ∈ zF := List.mem_of_getElem? (i := 94) (by decide +kernel)
set_option maxRecDepth 20000 in
theorem zf_e2_1 : Cond.eq (.elem (.field (ztm 2) "java/lang/String" "value" "[B") (.int (Int32.ofNat 1))) (.int ((zsb.getD 2 []).getD 1 0)) ∈ zF := List.mem_of_getElem? (i := 95) (by decide +kernel)
set_option maxRecDepth 20000 in
theorem zf_e2_2 : Cond.eq (.elem (.field (ztm 2) "java/lang/String" "value" "[B") (.int (Int32.ofNat 2))) (.int ((zsb.getD 2 []).getD 2 0)) ∈ zF := List.mem_of_getElem? (i := 96) (by decide +kernel)
set_option maxRecDepth 20000 in
theorem zf_e2_3 : Cond.eq (.elem (.field (ztm 2) "java/lang/String" "value" "[B") (.int (Int32.ofNat 3))) (.int ((zsb.getD 2 []).getD 3 0)) ∈ zF := List.mem_of_getElem? (i := 97) (by decide +kernel)
set_option maxRecDepth 20000 in
theorem zf_e2_4 : Cond.eq (.elem (.field (ztm 2) "java/lang/String" "value" "[B") (.int (Int32.ofNat 4))) (.int ((zsb.getD 2 []).getD 4 0)) ∈ zF := List.mem_of_getElem? (i := 98) (by decide +kernel)
set_option maxRecDepth 20000 in
theorem zf_e2_5 : Cond.eq (.elem (.field (ztm 2) "java/lang/String" "value" "[B") (.int (Int32.ofNat 5))) (.int ((zsb.getD 2 []).getD 5 0)) ∈ zF := List.mem_of_getElem? (i := 99) (by decide +kernel)
set_option maxRecDepth 20000 in
theorem zf_x3 : Cond.exactly (ztm 3) "java/lang/String" ∈ zF := List.mem_of_getElem? (i := 102) (by decide +kernel)
set_option maxRecDepth 20000 in
theorem zf_c3 : Cond.eq (.field (ztm 3) "java/lang/String" "coder" "B") (.int 0) ∈ zF := List.mem_of_getElem? (i := 103) (by decide +kernel)
set_option maxRecDepth 20000 in
theorem zf_a3 : Cond.arrayOf (.field (ztm 3) "java/lang/String" "value" "[B") .byte ∈ zF := List.mem_of_getElem? (i := 104) (by decide +kernel)
set_option maxRecDepth 20000 in
theorem zf_l3 : Cond.eq (.length (.field (ztm 3) "java/lang/String" "value" "[B")) (.int (Int32.ofNat (zsl.getD 3 0))) ∈ zF := List.mem_of_getElem? (i := 105) (by decide +kernel)
set_option maxRecDepth 20000 in
theorem zf_e3_0 : Cond.eq (.elem (.field (ztm 3) "java/lang/String" "value" "[B") (.int (Int32.ofNat 0))) (.int ((zsb.getD 3 []).getD 0 0)) ∈ zF := List.mem_of_getElem? (i := 106) (by decide +kernel)
set_option maxRecDepth 20000 in
theorem zf_e3_1 : Cond.eq (.elem (.field (ztm 3) "java/lang/String" "value" "[B") (.int (Int32.ofNat 1))) (.int ((zsb.getD 3 []).getD 1 0)) ∈ zF := List.mem_of_getElem? (i := 107) (by decide +kernel)
set_option maxRecDepth 20000 in
theorem zf_e3_2 : Cond.eq (.elem (.field (ztm 3) "java/lang/String" "value" "[B") (.int (Int32.ofNat 2))) (.int ((zsb.getD 3 []).getD 2 0)) ∈ zF := List.mem_of_getElem? (i := 108) (by decide +kernel)
set_option maxRecDepth 20000 in
theorem zf_e3_3 : Cond.eq (.elem (.field (ztm 3) "java/lang/String" "value" "[B") (.int (Int32.ofNat 3))) (.int ((zsb.getD 3 []).getD 3 0)) ∈ zF := List.mem_of_getElem? (i := 109) (by decide +kernel)
set_option maxRecDepth 20000 in
theorem zf_e3_4 : Cond.eq (.elem (.field (ztm 3) "java/lang/String" "value" "[B") (.int (Int32.ofNat 4))) (.int ((zsb.getD 3 []).getD 4 0)) ∈ zF := List.mem_of_getElem? (i := 110) (by decide +kernel)
set_option maxRecDepth 20000 in
theorem zf_x4 : Cond.exactly (ztm 4) "java/lang/String" ∈ zF := List.mem_of_getElem? (i := 114) (by decide +kernel)
set_option maxRecDepth 20000 in
theorem zf_c4 : Cond.eq (.field (ztm 4) "java/lang/String" "coder" "B") (.int 0) ∈ zF := List.mem_of_getElem? (i := 115) (by decide +kernel)
set_option maxRecDepth 20000 in
theorem zf_a4 : Cond.arrayOf (.field (ztm 4) "java/lang/String" "value" "[B") .byte ∈ zF := List.mem_of_getElem? (i := 116) (by decide +kernel)
set_option maxRecDepth 20000 in
theorem zf_l4 : Cond.eq (.length (.field (ztm 4) "java/lang/String" "value" "[B")) (.int (Int32.ofNat (zsl.getD 4 0))) ∈ zF := List.mem_of_getElem? (i := 117) (by decide +kernel)
set_option maxRecDepth 20000 in
theorem zf_x5 : Cond.exactly (ztm 5) "java/lang/String" ∈ zF := List.mem_of_getElem? (i := 122) (by decide +kernel)
set_option maxRecDepth 20000 in
theorem zf_c5 : Cond.eq (.field (ztm 5) "java/lang/String" "coder" "B") (.int 0) ∈ zF := List.mem_of_getElem? (i := 123) (by decide +kernel)
set_option maxRecDepth 20000 in
theorem zf_a5 : Cond.arrayOf (.field (ztm 5) "java/lang/String" "value" "[B") .byte ∈ zF := List.mem_of_getElem? (i := 124) (by decide +kernel)
set_option maxRecDepth 20000 in
theorem zf_l5 : Cond.eq (.length (.field (ztm 5) "java/lang/String" "value" "[B")) (.int (Int32.ofNat (zsl.getD 5 0))) ∈ zF := List.mem_of_getElem? (i := 125) (by decide +kernel)
set_option maxRecDepth 20000 in
theorem zf_e5_0 : Cond.eq (.elem (.field (ztm 5) "java/lang/String" "value" "[B") (.int (Int32.ofNat 0))) (.int ((zsb.getD 5 []).getD 0 0)) ∈ zF := List.mem_of_getElem? (i := 126) (by decide +kernel)
set_option maxRecDepth 20000 in
theorem zf_e5_1 : Cond.eq (.elem (.field (ztm 5) "java/lang/String" "value" "[B") (.int (Int32.ofNat 1))) (.int ((zsb.getD 5 []).getD 1 0)) ∈ zF := List.mem_of_getElem? (i := 127) (by decide +kernel)
set_option maxRecDepth 20000 in
theorem zf_e5_2 : Cond.eq (.elem (.field (ztm 5) "java/lang/String" "value" "[B") (.int (Int32.ofNat 2))) (.int ((zsb.getD 5 []).getD 2 0)) ∈ zF := List.mem_of_getElem? (i := 128) (by decide +kernel)
set_option maxRecDepth 20000 in
theorem zf_e5_3 : Cond.eq (.elem (.field (ztm 5) "java/lang/String" "value" "[B") (.int (Int32.ofNat 3))) (.int ((zsb.getD 5 []).getD 3 0)) ∈ zF := List.mem_of_getElem? (i := 129) (by decide +kernel)
set_option maxRecDepth 20000 in
theorem zf_e5_4 : Cond.eq (.elem (.field (ztm 5) "java/lang/String" "value" "[B") (.int (Int32.ofNat 4))) (.int ((zsb.getD 5 []).getD 4 0)) ∈ zF := List.mem_of_getElem? (i := 130) (by decide +kernel)
set_option maxRecDepth 20000 in
theorem zf_e5_5 : Cond.eq (.elem (.field (ztm 5) "java/lang/String" "value" "[B") (.int (Int32.ofNat 5))) (.int ((zsb.getD 5 []).getD 5 0)) ∈ zF := List.mem_of_getElem? (i := 131) (by decide +kernel)
set_option maxRecDepth 20000 in
theorem zf_x6 : Cond.exactly (ztm 6) "java/lang/String" ∈ zF := List.mem_of_getElem? (i := 137) (by decide +kernel)
set_option maxRecDepth 20000 in
theorem zf_c6 : Cond.eq (.field (ztm 6) "java/lang/String" "coder" "B") (.int 0) ∈ zF := List.mem_of_getElem? (i := 138) (by decide +kernel)
set_option maxRecDepth 20000 in
theorem zf_a6 : Cond.arrayOf (.field (ztm 6) "java/lang/String" "value" "[B") .byte ∈ zF := List.mem_of_getElem? (i := 139) (by decide +kernel)
set_option maxRecDepth 20000 in
theorem zf_l6 : Cond.eq (.length (.field (ztm 6) "java/lang/String" "value" "[B")) (.int (Int32.ofNat (zsl.getD 6 0))) ∈ zF := List.mem_of_getElem? (i := 140) (by decide +kernel)
set_option maxRecDepth 20000 in
theorem zf_e6_0 : Cond.eq (.elem (.field (ztm 6) "java/lang/String" "value" "[B") (.int (Int32.ofNat 0))) (.int ((zsb.getD 6 []).getD 0 0)) ∈ zF := List.mem_of_getElem? (i := 141) (by decide +kernel)
set_option maxRecDepth 20000 in
theorem zf_e6_1 : Cond.eq (.elem (.field (ztm 6) "java/lang/String" "value" "[B") (.int (Int32.ofNat 1))) (.int ((zsb.getD 6 []).getD 1 0)) ∈ zF := List.mem_of_getElem? (i := 142) (by decide +kernel)
set_option maxRecDepth 20000 in
theorem zf_e6_2 : Cond.eq (.elem (.field (ztm 6) "java/lang/String" "value" "[B") (.int (Int32.ofNat 2))) (.int ((zsb.getD 6 []).getD 2 0)) ∈ zF := List.mem_of_getElem? (i := 143) (by decide +kernel)
set_option maxRecDepth 20000 in
theorem zf_n0_1 : Cond.not (Cond.eq (ztm 0) (ztm 1)) ∈ zF := List.mem_of_getElem? (i := 89) (by decide +kernel)
set_option maxRecDepth 20000 in
theorem zf_n0_2 : Cond.not (Cond.eq (ztm 0) (ztm 2)) ∈ zF := List.mem_of_getElem? (i := 100) (by decide +kernel)
set_option maxRecDepth 20000 in
theorem zf_n0_3 : Cond.not (Cond.eq (ztm 0) (ztm 3)) ∈ zF := List.mem_of_getElem? (i := 111) (by decide +kernel)
set_option maxRecDepth 20000 in
theorem zf_n0_4 : Cond.not (Cond.eq (ztm 0) (ztm 4)) ∈ zF := List.mem_of_getElem? (i := 118) (by decide +kernel)
set_option maxRecDepth 20000 in
theorem zf_n0_5 : Cond.not (Cond.eq (ztm 0) (ztm 5)) ∈ zF := List.mem_of_getElem? (i := 132) (by decide +kernel)
set_option maxRecDepth 20000 in
theorem zf_n0_6 : Cond.not (Cond.eq (ztm 0) (ztm 6)) ∈ zF := List.mem_of_getElem? (i := 144) (by decide +kernel)
set_option maxRecDepth 20000 in
theorem zf_n1_2 : Cond.not (Cond.eq (ztm 1) (ztm 2)) ∈ zF := List.mem_of_getElem? (i := 101) (by decide +kernel)
set_option maxRecDepth 20000 in
theorem zf_n1_3 : Cond.not (Cond.eq (ztm 1) (ztm 3)) ∈ zF := List.mem_of_getElem? (i := 112) (by decide +kernel)
set_option maxRecDepth 20000 in
theorem zf_n1_4 : Cond.not (Cond.eq (ztm 1) (ztm 4)) ∈ zF := List.mem_of_getElem? (i := 119) (by decide +kernel)
set_option maxRecDepth 20000 in
theorem zf_n1_5 : Cond.not (Cond.eq (ztm 1) (ztm 5)) ∈ zF := List.mem_of_getElem? (i := 133) (by decide +kernel)
set_option maxRecDepth 20000 in
theorem zf_n1_6 : Cond.not (Cond.eq (ztm 1) (ztm 6)) ∈ zF := List.mem_of_getElem? (i := 145) (by decide +kernel)
set_option maxRecDepth 20000 in
theorem zf_n2_3 : Cond.not (Cond.eq (ztm 2) (ztm 3)) ∈ zF := List.mem_of_getElem? (i := 113) (by decide +kernel)
set_option maxRecDepth 20000 in
theorem zf_n2_4 : Cond.not (Cond.eq (ztm 2) (ztm 4)) ∈ zF := List.mem_of_getElem? (i := 120) (by decide +kernel)
set_option maxRecDepth 20000 in
theorem zf_n2_5 : Cond.not (Cond.eq (ztm 2) (ztm 5)) ∈ zF := List.mem_of_getElem? (i := 134) (by decide +kernel)
set_option maxRecDepth 20000 in
theorem zf_n2_6 : Cond.not (Cond.eq (ztm 2) (ztm 6)) ∈ zF := List.mem_of_getElem? (i := 146) (by decide +kernel)
set_option maxRecDepth 20000 in
theorem zf_n3_4 : Cond.not (Cond.eq (ztm 3) (ztm 4)) ∈ zF := List.mem_of_getElem? (i := 121) (by decide +kernel)
set_option maxRecDepth 20000 in
theorem zf_n3_5 : Cond.not (Cond.eq (ztm 3) (ztm 5)) ∈ zF := List.mem_of_getElem? (i := 135) (by decide +kernel)
set_option maxRecDepth 20000 in
theorem zf_n3_6 : Cond.not (Cond.eq (ztm 3) (ztm 6)) ∈ zF := List.mem_of_getElem? (i := 147) (by decide +kernel)
set_option maxRecDepth 20000 in
theorem zf_n4_5 : Cond.not (Cond.eq (ztm 4) (ztm 5)) ∈ zF := List.mem_of_getElem? (i := 136) (by decide +kernel)
set_option maxRecDepth 20000 in
theorem zf_n4_6 : Cond.not (Cond.eq (ztm 4) (ztm 6)) ∈ zF := List.mem_of_getElem? (i := 148) (by decide +kernel)
set_option maxRecDepth 20000 in
theorem zf_n5_6 : Cond.not (Cond.eq (ztm 5) (ztm 6)) ∈ zF := List.mem_of_getElem? (i := 149) (by decide +kernel)
set_option maxRecDepth 20000 in
theorem zf_aa : Cond.arrayOf (Term.static "NineWindows$Kind" "ABOVE" "[I") .int ∈ zF := List.mem_of_getElem? (i := 34) (by decide +kernel)
set_option maxRecDepth 20000 in
theorem zf_al : Cond.eq (.length (Term.static "NineWindows$Kind" "ABOVE" "[I")) (.int (Int32.ofNat 7)) ∈ zF := List.mem_of_getElem? (i := 35) (by decide +kernel)
set_option maxRecDepth 20000 in
theorem zf_ae0 : Cond.eq (.elem (Term.static "NineWindows$Kind" "ABOVE" "[I") (.int (Int32.ofNat 0))) (.int (zab.getD 0 0)) ∈ zF := List.mem_of_getElem? (i := 36) (by decide +kernel)
set_option maxRecDepth 20000 in
theorem zf_ae1 : Cond.eq (.elem (Term.static "NineWindows$Kind" "ABOVE" "[I") (.int (Int32.ofNat 1))) (.int (zab.getD 1 0)) ∈ zF := List.mem_of_getElem? (i := 37) (by decide +kernel)
set_option maxRecDepth 20000 in
theorem zf_ae2 : Cond.eq (.elem (Term.static "NineWindows$Kind" "ABOVE" "[I") (.int (Int32.ofNat 2))) (.int (zab.getD 2 0)) ∈ zF := List.mem_of_getElem? (i := 38) (by decide +kernel)
set_option maxRecDepth 20000 in
theorem zf_ae3 : Cond.eq (.elem (Term.static "NineWindows$Kind" "ABOVE" "[I") (.int (Int32.ofNat 3))) (.int (zab.getD 3 0)) ∈ zF := List.mem_of_getElem? (i := 39) (by decide +kernel)
set_option maxRecDepth 20000 in
theorem zf_ae4 : Cond.eq (.elem (Term.static "NineWindows$Kind" "ABOVE" "[I") (.int (Int32.ofNat 4))) (.int (zab.getD 4 0)) ∈ zF := List.mem_of_getElem? (i := 40) (by decide +kernel)
set_option maxRecDepth 20000 in
theorem zf_ae5 : Cond.eq (.elem (Term.static "NineWindows$Kind" "ABOVE" "[I") (.int (Int32.ofNat 5))) (.int (zab.getD 5 0)) ∈ zF := List.mem_of_getElem? (i := 41) (by decide +kernel)
set_option maxRecDepth 20000 in
theorem zf_ae6 : Cond.eq (.elem (Term.static "NineWindows$Kind" "ABOVE" "[I") (.int (Int32.ofNat 6))) (.int (zab.getD 6 0)) ∈ zF := List.mem_of_getElem? (i := 42) (by decide +kernel)
set_option maxRecDepth 20000 in
theorem zf_ba : Cond.arrayOf (Term.static "NineWindows$Acts" "BODIES" "[I") .int ∈ zF := List.mem_of_getElem? (i := 10) (by decide +kernel)
set_option maxRecDepth 20000 in
theorem zf_bl : Cond.eq (.length (Term.static "NineWindows$Acts" "BODIES" "[I")) (.int (Int32.ofNat 21)) ∈ zF := List.mem_of_getElem? (i := 11) (by decide +kernel)
set_option maxRecDepth 20000 in
theorem zf_be0 : Cond.eq (.elem (Term.static "NineWindows$Acts" "BODIES" "[I") (.int (Int32.ofNat 0))) (.int (zbo.getD 0 0)) ∈ zF := List.mem_of_getElem? (i := 12) (by decide +kernel)
set_option maxRecDepth 20000 in
theorem zf_be1 : Cond.eq (.elem (Term.static "NineWindows$Acts" "BODIES" "[I") (.int (Int32.ofNat 1))) (.int (zbo.getD 1 0)) ∈ zF := List.mem_of_getElem? (i := 13) (by decide +kernel)
set_option maxRecDepth 20000 in
theorem zf_be2 : Cond.eq (.elem (Term.static "NineWindows$Acts" "BODIES" "[I") (.int (Int32.ofNat 2))) (.int (zbo.getD 2 0)) ∈ zF := List.mem_of_getElem? (i := 14) (by decide +kernel)
set_option maxRecDepth 20000 in
theorem zf_be3 : Cond.eq (.elem (Term.static "NineWindows$Acts" "BODIES" "[I") (.int (Int32.ofNat 3))) (.int (zbo.getD 3 0)) ∈ zF := List.mem_of_getElem? (i := 15) (by decide +kernel)
set_option maxRecDepth 20000 in
theorem zf_be4 : Cond.eq (.elem (Term.static "NineWindows$Acts" "BODIES" "[I") (.int (Int32.ofNat 4))) (.int (zbo.getD 4 0)) ∈ zF := List.mem_of_getElem? (i := 16) (by decide +kernel)
set_option maxRecDepth 20000 in
theorem zf_be5 : Cond.eq (.elem (Term.static "NineWindows$Acts" "BODIES" "[I") (.int (Int32.ofNat 5))) (.int (zbo.getD 5 0)) ∈ zF := List.mem_of_getElem? (i := 17) (by decide +kernel)
set_option maxRecDepth 20000 in
theorem zf_be6 : Cond.eq (.elem (Term.static "NineWindows$Acts" "BODIES" "[I") (.int (Int32.ofNat 6))) (.int (zbo.getD 6 0)) ∈ zF := List.mem_of_getElem? (i := 18) (by decide +kernel)
set_option maxRecDepth 20000 in
theorem zf_be7 : Cond.eq (.elem (Term.static "NineWindows$Acts" "BODIES" "[I") (.int (Int32.ofNat 7))) (.int (zbo.getD 7 0)) ∈ zF := List.mem_of_getElem? (i := 19) (by decide +kernel)
set_option maxRecDepth 20000 in
theorem zf_be8 : Cond.eq (.elem (Term.static "NineWindows$Acts" "BODIES" "[I") (.int (Int32.ofNat 8))) (.int (zbo.getD 8 0)) ∈ zF := List.mem_of_getElem? (i := 20) (by decide +kernel)
set_option maxRecDepth 20000 in
theorem zf_be9 : Cond.eq (.elem (Term.static "NineWindows$Acts" "BODIES" "[I") (.int (Int32.ofNat 9))) (.int (zbo.getD 9 0)) ∈ zF := List.mem_of_getElem? (i := 21) (by decide +kernel)
set_option maxRecDepth 20000 in
theorem zf_be10 : Cond.eq (.elem (Term.static "NineWindows$Acts" "BODIES" "[I") (.int (Int32.ofNat 10))) (.int (zbo.getD 10 0)) ∈ zF := List.mem_of_getElem? (i := 22) (by decide +kernel)
set_option maxRecDepth 20000 in
theorem zf_be11 : Cond.eq (.elem (Term.static "NineWindows$Acts" "BODIES" "[I") (.int (Int32.ofNat 11))) (.int (zbo.getD 11 0)) ∈ zF := List.mem_of_getElem? (i := 23) (by decide +kernel)
set_option maxRecDepth 20000 in
theorem zf_be12 : Cond.eq (.elem (Term.static "NineWindows$Acts" "BODIES" "[I") (.int (Int32.ofNat 12))) (.int (zbo.getD 12 0)) ∈ zF := List.mem_of_getElem? (i := 24) (by decide +kernel)
set_option maxRecDepth 20000 in
theorem zf_be13 : Cond.eq (.elem (Term.static "NineWindows$Acts" "BODIES" "[I") (.int (Int32.ofNat 13))) (.int (zbo.getD 13 0)) ∈ zF := List.mem_of_getElem? (i := 25) (by decide +kernel)
set_option maxRecDepth 20000 in
theorem zf_be14 : Cond.eq (.elem (Term.static "NineWindows$Acts" "BODIES" "[I") (.int (Int32.ofNat 14))) (.int (zbo.getD 14 0)) ∈ zF := List.mem_of_getElem? (i := 26) (by decide +kernel)
set_option maxRecDepth 20000 in
theorem zf_be15 : Cond.eq (.elem (Term.static "NineWindows$Acts" "BODIES" "[I") (.int (Int32.ofNat 15))) (.int (zbo.getD 15 0)) ∈ zF := List.mem_of_getElem? (i := 27) (by decide +kernel)
set_option maxRecDepth 20000 in
theorem zf_be16 : Cond.eq (.elem (Term.static "NineWindows$Acts" "BODIES" "[I") (.int (Int32.ofNat 16))) (.int (zbo.getD 16 0)) ∈ zF := List.mem_of_getElem? (i := 28) (by decide +kernel)
set_option maxRecDepth 20000 in
theorem zf_be17 : Cond.eq (.elem (Term.static "NineWindows$Acts" "BODIES" "[I") (.int (Int32.ofNat 17))) (.int (zbo.getD 17 0)) ∈ zF := List.mem_of_getElem? (i := 29) (by decide +kernel)
set_option maxRecDepth 20000 in
theorem zf_be18 : Cond.eq (.elem (Term.static "NineWindows$Acts" "BODIES" "[I") (.int (Int32.ofNat 18))) (.int (zbo.getD 18 0)) ∈ zF := List.mem_of_getElem? (i := 30) (by decide +kernel)
set_option maxRecDepth 20000 in
theorem zf_be19 : Cond.eq (.elem (Term.static "NineWindows$Acts" "BODIES" "[I") (.int (Int32.ofNat 19))) (.int (zbo.getD 19 0)) ∈ zF := List.mem_of_getElem? (i := 31) (by decide +kernel)
set_option maxRecDepth 20000 in
theorem zf_be20 : Cond.eq (.elem (Term.static "NineWindows$Acts" "BODIES" "[I") (.int (Int32.ofNat 20))) (.int (zbo.getD 20 0)) ∈ zF := List.mem_of_getElem? (i := 32) (by decide +kernel)
set_option maxRecDepth 20000 in
theorem zf_cs : Cond.eq (Term.static "java/lang/String" "COMPACT_STRINGS" "Z") (.int 1) ∈ zF := List.mem_of_getElem? (i := 4) (by decide +kernel)
set_option maxRecDepth 20000 in
theorem zf_sf : Cond.isRef (Term.static "jdk/internal/util/Preconditions" "SIOOBE_FORMATTER" "Ljava/util/function/BiFunction;") ∈ zF := List.mem_of_getElem? (i := 5) (by decide +kernel)
/-! the world of both sides at the start -/
theorem zrng_add (f : Nat → Nat × va_E) (a : Nat) : ∀ b : Nat, (List.range (a + b)).map f = (List.range a).map f ++ (List.range b).map (fun i => f (a + i))
  | 0 => by simp
  | b + 1 => by
    rw [← Nat.add_assoc, List.range_succ, List.range_succ, List.map_append, List.map_append, zrng_add f a b, List.append_assoc]
    rfl
def pvref (q : Nat) (f : Nat → Int32) (lo hi : Nat) : Bool :=
  bif Nat.ble 23 (pvkl q) then Nat.ble lo (pvbs q) && Nat.ble (pvbs q + pvln q) hi else bif Nat.ble 20 (pvkl q) then true else (List.range (pvnf (pvkl q))).all fun k =>
    bif Nat.beq (pvfk (pvkl q) k).1 2 then Nat.ble lo (q + (pvfk (pvkl q) k).2) && Nat.blt (q + (pvfk (pvkl q) k).2) hi else bif Nat.beq (pvfk (pvkl q) k).1 3 then Nat.ble lo (pvhp (f k)) && Nat.blt (pvhp (f k)) hi else true
theorem pvce_c {y : Nat → ClassId} {ad ad' : Nat → Nat} {q lo hi : Nat} {f : Nat → Int32} {g : Nat → Int64} (h : ∀ a, lo ≤ a → a < hi → ad a = ad' a) (hq : pvref q f lo hi = true) : pvce y ad q f g = pvce y ad' q f g := by
  unfold pvce
  by_cases h20 : pvkl q = 20
  · rw [if_pos h20, if_pos h20]
  · by_cases h21 : pvkl q = 21
    · rw [if_neg h20, if_neg h20, if_pos h21, if_pos h21]
    · by_cases h22 : pvkl q = 22
      · rw [if_neg h20, if_neg h20, if_neg h21, if_neg h21, if_pos h22, if_pos h22]
      · rw [if_neg h20, if_neg h20, if_neg h21, if_neg h21, if_neg h22, if_neg h22]
        unfold pvref at hq
        by_cases h23 : 23 ≤ pvkl q
        · rw [if_pos h23, if_pos h23]
          rw [Nat.ble_eq_true_of_le h23] at hq
          simp only [cond_true, Bool.and_eq_true] at hq
          have h1 := Nat.le_of_ble_eq_true hq.1
          have h2 := Nat.le_of_ble_eq_true hq.2
          have e : (fun i => if i < pvln q then some (ad (pvbs q + i)) else none) = (fun i => if i < pvln q then some (ad' (pvbs q + i)) else none) := by
            funext i
            by_cases hi : i < pvln q
            · rw [if_pos hi, if_pos hi, h _ (by omega) (by omega)]
            · rw [if_neg hi, if_neg hi]
          rw [e]
        · rw [if_neg h23, if_neg h23]
          have e23 : Nat.ble 23 (pvkl q) = false := by
            cases hc : Nat.ble 23 (pvkl q) with
            | false => rfl
            | true => exact absurd (Nat.le_of_ble_eq_true hc) h23
          have e20 : Nat.ble 20 (pvkl q) = false := by
            cases hc : Nat.ble 20 (pvkl q) with
            | false => rfl
            | true => have := Nat.le_of_ble_eq_true hc; omega
          rw [e23, e20] at hq
          simp only [cond_false] at hq
          have e : pvfl ad (pvkl q) q f = pvfl ad' (pvkl q) q f := by
            unfold pvfl
            refine List.map_congr_left (fun k hk => ?_)
            have h1 := List.all_eq_true.mp hq k hk
            unfold pvfv
            by_cases k2 : (pvfk (pvkl q) k).1 = 2
            · rw [if_pos k2]
              rw [k2] at h1
              have h1 : (Nat.ble lo (q + (pvfk (pvkl q) k).2) && Nat.blt (q + (pvfk (pvkl q) k).2) hi) = true := h1
              simp only [Bool.and_eq_true, Nat.blt_eq] at h1
              show Value.ref (ad _) = Value.ref (ad' _)
              rw [h _ (Nat.le_of_ble_eq_true h1.1) h1.2]
            · rw [if_neg k2]
              by_cases k3 : (pvfk (pvkl q) k).1 = 3
              · rw [if_pos k3]
                rw [k3] at h1
                have h1 : (Nat.ble lo (pvhp (f k)) && Nat.blt (pvhp (f k)) hi) = true := h1
                simp only [Bool.and_eq_true, Nat.blt_eq] at h1
                show Value.ref (ad _) = Value.ref (ad' _)
                rw [h _ (Nat.le_of_ble_eq_true h1.1) h1.2]
              · rw [if_neg k3]
                rfl
          rw [e]
def pvad (y : Nat → ClassId) (u z : Nat → Nat) (q : Nat) : Nat := if q < 124 then u q else if q < 168 then z (q - 124) else if q < 1000 then 0 else y (q - 1000)
theorem pvadE_0 (y : Nat → ClassId) (u z : Nat → Nat) : pvadE y (pvad y u z) := fun i => by
  unfold pvad
  rw [if_neg (by omega), if_neg (by omega), if_neg (by omega), Nat.add_sub_cancel_left]
theorem zapp2 {α : Type} {a b c d : List α} (h1 : a = c) (h2 : b = d) : a ++ b = c ++ d := by rw [h1, h2]
theorem pvW_0 (y : Nat → ClassId) (u z : Nat → Nat) : mkW y (pvad y u z) pvM0 = pvWX y u ++ pvWM y z := by
  have hX : ∀ q, q < 124 → pvref q (pvM0r q) 0 124 = true := by decide +kernel
  have hM : ∀ q, q < 44 → pvref (q + 124) (pvM0r (q + 124)) 124 168 = true := by decide +kernel
  unfold mkW pvWX pvWM
  rw [show pvNP = 124 + 44 from rfl, zrng_add]
  refine zapp2 ?_ ?_
  · refine List.map_congr_left (fun q hq => ?_)
    have hq := List.mem_range.mp hq
    have e : pvad y u z q = u q := if_pos hq
    rw [e]
    exact congrArg _ (pvce_c (fun a _ ha => if_pos ha) (hX q hq))
  · refine List.map_congr_left (fun q hq => ?_)
    have hq := List.mem_range.mp hq
    have e : ∀ a, 124 ≤ a → a < 168 → pvad y u z a = z (a - 124) := fun a h1 h2 => by
      unfold pvad
      rw [if_neg (by omega), if_pos h2]
    rw [Nat.add_comm 124 q, e _ (by omega) (by omega), Nat.add_sub_cancel]
    exact congrArg _ (pvce_c (ad' := fun a => z (a - 124)) e (hM q hq))
theorem pvM0_z (q k : Nat) (hk : 80 ≤ k) : pvM0r q k = 0 := by
  unfold pvM0r
  have hg : ∀ (l : List Int32), l.length ≤ 80 → l.getD k 0 = 0 := fun l hl => by
    rw [List.getD_eq_getElem?_getD, List.getElem?_eq_none (by omega)]
    rfl
  split <;> first | rfl | exact hg _ (by decide) | (simp only [upd]; repeat rw [if_neg (by omega)])
theorem zInv_0 : zInv pvM0 := by
  have h1 : ∀ q, q < 168 → ∀ k, k < 80 → (pvrg q k).1 ≤ (pvM0r q k).toInt ∧ (pvM0r q k).toInt ≤ (pvrg q k).2 := by decide +kernel
  have h2 : ∀ q, q < 168 → (pvrg q 80).1 ≤ 0 ∧ 0 ≤ (pvrg q 80).2 := by decide +kernel
  have h3 : ∀ q, q < 168 → ∀ k, 80 ≤ k → pvrg q k = pvrg q 80 := by
    have hl : ∀ q, q < 168 → pvkl q < 20 → (pvcL.getD (pvkl q) []).length ≤ 80 := by decide +kernel
    intro q hq k hk
    unfold pvrg
    by_cases c5 : pvkl q = 5
    · rw [if_pos c5, if_pos c5, if_neg (by omega), if_neg (by omega)]
    · rw [if_neg c5, if_neg c5]
      by_cases c20 : pvkl q < 20
      · rw [if_pos c20, if_pos c20]
        unfold pvct
        have hl := hl q hq c20
        rw [List.getD_eq_getElem?_getD, List.getD_eq_getElem?_getD (i := 80), List.getElem?_eq_none (by omega), List.getElem?_eq_none (by omega)]
      · rw [if_neg c20, if_neg c20]
  refine ⟨fun q k => ?_, ⟨by decide, by decide, fun h hh => ?_⟩, by decide, by decide, by unfold zLet; decide +kernel⟩
  · by_cases hq : q < 168
    · by_cases hk : k < 80
      · exact h1 q hq k hk
      · have hz : pvM0r q k = 0 := pvM0_z q k (by omega)
        have e0 : (0 : Int32).toInt = 0 := by decide
        show (pvrg q k).1 ≤ (pvM0r q k).toInt ∧ (pvM0r q k).toInt ≤ (pvrg q k).2
        rw [h3 q hq k (by omega), hz, e0]
        exact h2 q hq
    · have hb := zbnd (pvM0.1 q k)
      have e1 : pvkl q = 99 := by
        unfold pvkl
        rw [List.getD_eq_getElem?_getD, List.getElem?_eq_none (by show 168 ≤ q; omega)]
        rfl
      have e2 : pvrg q k = (-2147483648, 2147483647) := by
        unfold pvrg
        rw [e1, if_neg (by omega), if_neg (by omega)]
        unfold pvat
        rw [List.getD_eq_getElem?_getD, List.getElem?_eq_none (by show 168 ≤ q; omega)]
        rfl
      rw [e2]
      exact hb
  · have e : (pvM0.1 124 14).toInt = 0 := by decide
    rw [e] at hh
    omega
theorem zvk {len : List Nat} {byt : List (List Int32)} {adK adV aK aV : Nat → Nat} {A : Nat → Prop} {U : State} {H : Heap} (h : vk_S 7 len byt adK adV A U H) (e1 : ∀ i, i < 7 → aK i = adK i) (e2 : ∀ i, i < 7 → aV i = adV i) : vk_S 7 len byt aK aV A U H :=
  ⟨fun i hi => by rw [e1 i hi, e2 i hi]; exact h.1 i hi, fun i j hi hj he => h.2 i j hi hj (by rw [← e1 i hi, ← e1 j hj]; exact he)⟩
theorem zRl_0 : zRl pvM0 := by
  unfold zRl
  exact ⟨by decide, by decide, by decide, by decide, by decide, by decide, by decide, by decide, by decide, by decide, by decide, by decide, by decide, by unfold zP1; decide +kernel, by unfold zP2; decide +kernel, by unfold zPT; decide +kernel, by unfold zRr; decide +kernel, by unfold zRr; decide +kernel, by unfold zPH; refine ⟨by decide, by decide, fun i h => ?_⟩; have e : (pvM0.1 6 1).toInt = 0 := (by decide); omega, by unfold zVe; decide +kernel, by unfold zVe; decide +kernel, by refine ⟨fun h hh => ?_, zHC_nil (by decide) (by decide) (by decide) (by decide), zHC_nil (by decide) (by decide) (by decide) (by decide), Or.inl ⟨by decide, Or.inl (by decide)⟩, Or.inl ⟨by decide, Or.inr (by decide)⟩⟩; have e : (pvM0.1 0 1).toInt = 0 := (by decide); omega, by unfold zRr; decide +kernel, by unfold zRr; decide +kernel, by unfold zRr; decide +kernel, by unfold zRr; decide +kernel, by unfold zRr; decide +kernel, by unfold zRr; decide +kernel, by unfold zRr; decide +kernel, by unfold zRr; decide +kernel, by intro i _ hn; have e : (pvM0.1 100 0).toInt = 0 := (by decide); exfalso; omega, by intro i _ hn; have e : (pvM0.1 102 0).toInt = 0 := (by decide); exfalso; omega, by intro i _ hn; have e : (pvM0.1 104 0).toInt = 0 := (by decide); exfalso; omega, by intro i _ hn; have e : (pvM0.1 101 0).toInt = 0 := (by decide); exfalso; omega, by intro i _ hn; have e : (pvM0.1 103 0).toInt = 0 := (by decide); exfalso; omega, by intro i _ hn; have e : (pvM0.1 105 0).toInt = 0 := (by decide); exfalso; omega, by intro s hs c; exact absurd ((show ∀ s : Nat, s < 4 → pvM0.1 14 s = 0 from by decide +kernel) s hs) c, by unfold yWt; decide +kernel⟩
set_option maxHeartbeats 8000000 in
set_option maxRecDepth 100000 in
theorem whole_start {p : Program} {e : Env} {s : State} {m : MethodId} {below : List Frame} {meth : Method} {c : Code} (l : Launch) (hflags : l.flags = flags0) {b L : Nat} {xs : Nat → Int32} (hL : L ≤ 3072) (C0 : lw_At p s m meth c b L xs) : W p l e room_1 s m #[Value.ref b] below meth c s.heap [] 0 0 (lw_Z below #[Value.ref b] s) (entryFrame m ([Value.ref b] : List Value).toArray 4) := by
  obtain ⟨hx, hb, hr, hml, hown, hts, hX, hbl, hlocks, hgv⟩ := id C0
  have ht : ∀ w ∈ zT, w.before #[Value.ref b] s = true := fun w h => hts w (zgin w h).1
  have hown : s.vm.findClass RL = some m.cls := hown
  have hA : ∀ q : Nat, s.heap.size ≤ q → zLA s q := fun _ h => h
  have hAn : ∀ a : Nat, a < s.heap.size → ¬ zLA s a := fun a h => Nat.not_le.mpr h
  have F : ∀ w ∈ zF, w.before #[Value.ref b] s = true := flat_of_before _ hgv
  obtain ⟨c0, i0, n0⟩ := u_known (C := RX0) (T := TX0) (N := 5) (n := 5) ht inlX0 (ht _ zm_31)
  obtain ⟨c1, i1, n1⟩ := u_known (C := RX1) (T := TX1) (N := 9) (n := 9) ht inlX1 (ht _ zm_27)
  obtain ⟨c2, i2, n2⟩ := u_known (C := RX2) (T := TX2) (N := 8) (n := 8) ht inlX2 (ht _ zm_36)
  obtain ⟨c3, i3, n3⟩ := u_known (C := RX4) (T := TX4) (N := 7) (n := 7) ht inlX4 (ht _ zm_82)
  obtain ⟨c4, i4, n4⟩ := u_known (C := RX5) (T := TX5) (N := 5) (n := 5) ht inlX5 (ht _ zm_17)
  obtain ⟨c5, i5, n5⟩ := u_known (C := RX6) (T := TX6) (N := 3) (n := 3) ht inlX6 (ht _ zm_77)
  obtain ⟨c6, i6, n6⟩ := u_known (C := RX7) (T := TX7) (N := 12) (n := 12) ht inlX7 (ht _ zm_21)
  obtain ⟨c7, i7, n7⟩ := u_known (C := RX8) (T := TX8) (N := 3) (n := 3) ht inlX8 (ht _ zm_38)
  obtain ⟨c8, i8, n8⟩ := u_known (C := RX9) (T := TX9) (N := 9) (n := 9) ht inlX9 (ht _ zm_1)
  obtain ⟨c9, i9, n9⟩ := u_known (C := RX10) (T := TX10) (N := 76) (n := 76) ht inlX10 (ht _ zm_4)
  obtain ⟨dC, dI, hKc⟩ : ∃ (dC : Nat → ClassId) (dI : Nat → Nat → Nat), ∀ (k : Nat) (q : vw_C), vwCl[k]? = some q → u_Kn s q.1 q.2.1 q.2.2 (dC k) (dI k) := by
    refine ⟨fun k => if k = 0 then c0 else if k = 1 then c1 else if k = 2 then c2 else if k = 3 then c3 else if k = 4 then c4 else if k = 5 then c5 else if k = 6 then c6 else if k = 7 then c7 else if k = 8 then c8 else c9, fun k => if k = 0 then i0 else if k = 1 then i1 else if k = 2 then i2 else if k = 3 then i3 else if k = 4 then i4 else if k = 5 then i5 else if k = 6 then i6 else if k = 7 then i7 else if k = 8 then i8 else i9, ?_⟩
    intro k q hq
    match k, hq with
    | 0, hq => cases hq; exact n0
    | 1, hq => cases hq; exact n1
    | 2, hq => cases hq; exact n2
    | 3, hq => cases hq; exact n3
    | 4, hq => cases hq; exact n4
    | 5, hq => cases hq; exact n5
    | 6, hq => cases hq; exact n6
    | 7, hq => cases hq; exact n7
    | 8, hq => cases hq; exact n8
    | 9, hq => cases hq; exact n9
    | k + 10, hq => simp [vwCl] at hq
  obtain ⟨cI, kI, pI, fI1, fI2, fI3⟩ := Cond.arrayClass_spec (ht _ zm_43)
  obtain ⟨cJ, kJ, pJ, fJ1, fJ2, fJ3⟩ := Cond.arrayClass_spec (ht _ zm_134)
  obtain ⟨cZ, kZ, pZ, fZ1, fZ2, fZ3⟩ := Cond.arrayClass_spec (ht _ zm_117)
  have aoH : (Cond.arrayOver (.object "NineWindows$House")).before #[Value.ref b] s = true := hts _ (List.mem_of_getElem? (i := 111) (by decide +kernel))
  obtain ⟨pH, cH, kH, fH1, fH2, fH3, fH4, fH5⟩ := Cond.arrayOver_spec aoH
  have aoP : (Cond.arrayOver (.object "NineWindows$Pane")).before #[Value.ref b] s = true := hts _ (List.mem_of_getElem? (i := 182) (by decide +kernel))
  obtain ⟨pP, cP, kP, fP1, fP2, fP3, fP4, fP5⟩ := Cond.arrayOver_spec aoP
  have aoT : (Cond.arrayOver (.object "NineWindows$Tape")).before #[Value.ref b] s = true := hts _ (List.mem_of_getElem? (i := 380) (by decide +kernel))
  obtain ⟨pT, cT, kT, fT1, fT2, fT3, fT4, fT5⟩ := Cond.arrayOver_spec aoT
  obtain ⟨adK, adV, hV, hVe⟩ := vk_Sof (args := #[Value.ref b]) (s := s) (N := 7) (tm := ztm) (len := zsl) (byt := zsb) (A := zLA s) (by decide)
    (fun i hi => match i, hi with | 0, _ => F _ zf_x0 | 1, _ => F _ zf_x1 | 2, _ => F _ zf_x2 | 3, _ => F _ zf_x3 | 4, _ => F _ zf_x4 | 5, _ => F _ zf_x5 | 6, _ => F _ zf_x6 | i + 7, h => absurd h (by omega))
    (fun i hi => match i, hi with | 0, _ => F _ zf_c0 | 1, _ => F _ zf_c1 | 2, _ => F _ zf_c2 | 3, _ => F _ zf_c3 | 4, _ => F _ zf_c4 | 5, _ => F _ zf_c5 | 6, _ => F _ zf_c6 | i + 7, h => absurd h (by omega))
    (fun i hi => match i, hi with | 0, _ => F _ zf_a0 | 1, _ => F _ zf_a1 | 2, _ => F _ zf_a2 | 3, _ => F _ zf_a3 | 4, _ => F _ zf_a4 | 5, _ => F _ zf_a5 | 6, _ => F _ zf_a6 | i + 7, h => absurd h (by omega))
    (fun i hi => match i, hi with | 0, _ => F _ zf_l0 | 1, _ => F _ zf_l1 | 2, _ => F _ zf_l2 | 3, _ => F _ zf_l3 | 4, _ => F _ zf_l4 | 5, _ => F _ zf_l5 | 6, _ => F _ zf_l6 | i + 7, h => absurd h (by omega))
    (fun i hi j hj => match i, hi, j, hj with | 0, _, 0, _ => F _ zf_e0_0 | 0, _, 1, _ => F _ zf_e0_1 | 0, _, 2, _ => F _ zf_e0_2 | 0, _, 3, _ => F _ zf_e0_3 | 1, _, 0, _ => F _ zf_e1_0 | 1, _, 1, _ => F _ zf_e1_1 | 1, _, 2, _ => F _ zf_e1_2 | 1, _, 3, _ => F _ zf_e1_3 | 2, _, 0, _ => F _ zf_e2_0 | 2, _, 1, _ => F _ zf_e2_1 | 2, _, 2, _ => F _ zf_e2_2 | 2, _, 3, _ => F _ zf_e2_3 | 2, _, 4, _ => F _ zf_e2_4 | 2, _, 5, _ => F _ zf_e2_5 | 3, _, 0, _ => F _ zf_e3_0 | 3, _, 1, _ => F _ zf_e3_1 | 3, _, 2, _ => F _ zf_e3_2 | 3, _, 3, _ => F _ zf_e3_3 | 3, _, 4, _ => F _ zf_e3_4 | 5, _, 0, _ => F _ zf_e5_0 | 5, _, 1, _ => F _ zf_e5_1 | 5, _, 2, _ => F _ zf_e5_2 | 5, _, 3, _ => F _ zf_e5_3 | 5, _, 4, _ => F _ zf_e5_4 | 5, _, 5, _ => F _ zf_e5_5 | 6, _, 0, _ => F _ zf_e6_0 | 6, _, 1, _ => F _ zf_e6_1 | 6, _, 2, _ => F _ zf_e6_2 | 0, _, j + 4, h => absurd h (by simp [zsl]) | 1, _, j + 4, h => absurd h (by simp [zsl]) | 2, _, j + 6, h => absurd h (by simp [zsl]) | 3, _, j + 5, h => absurd h (by simp [zsl]) | 4, _, j + 0, h => absurd h (by simp [zsl]) | 5, _, j + 6, h => absurd h (by simp [zsl]) | 6, _, j + 3, h => absurd h (by simp [zsl]) | i + 7, h, _, _ => absurd h (by omega))
    (fun i j hi hj hij => match i, j, hi, hj, hij with | 0, 0, _, _, h => absurd rfl h | 0, 1, _, _, _ => Or.inl (F _ zf_n0_1) | 0, 2, _, _, _ => Or.inl (F _ zf_n0_2) | 0, 3, _, _, _ => Or.inl (F _ zf_n0_3) | 0, 4, _, _, _ => Or.inl (F _ zf_n0_4) | 0, 5, _, _, _ => Or.inl (F _ zf_n0_5) | 0, 6, _, _, _ => Or.inl (F _ zf_n0_6) | 1, 0, _, _, _ => Or.inr (F _ zf_n0_1) | 1, 1, _, _, h => absurd rfl h | 1, 2, _, _, _ => Or.inl (F _ zf_n1_2) | 1, 3, _, _, _ => Or.inl (F _ zf_n1_3) | 1, 4, _, _, _ => Or.inl (F _ zf_n1_4) | 1, 5, _, _, _ => Or.inl (F _ zf_n1_5) | 1, 6, _, _, _ => Or.inl (F _ zf_n1_6) | 2, 0, _, _, _ => Or.inr (F _ zf_n0_2) | 2, 1, _, _, _ => Or.inr (F _ zf_n1_2) | 2, 2, _, _, h => absurd rfl h | 2, 3, _, _, _ => Or.inl (F _ zf_n2_3) | 2, 4, _, _, _ => Or.inl (F _ zf_n2_4) | 2, 5, _, _, _ => Or.inl (F _ zf_n2_5) | 2, 6, _, _, _ => Or.inl (F _ zf_n2_6) | 3, 0, _, _, _ => Or.inr (F _ zf_n0_3) | 3, 1, _, _, _ => Or.inr (F _ zf_n1_3) | 3, 2, _, _, _ => Or.inr (F _ zf_n2_3) | 3, 3, _, _, h => absurd rfl h | 3, 4, _, _, _ => Or.inl (F _ zf_n3_4) | 3, 5, _, _, _ => Or.inl (F _ zf_n3_5) | 3, 6, _, _, _ => Or.inl (F _ zf_n3_6) | 4, 0, _, _, _ => Or.inr (F _ zf_n0_4) | 4, 1, _, _, _ => Or.inr (F _ zf_n1_4) | 4, 2, _, _, _ => Or.inr (F _ zf_n2_4) | 4, 3, _, _, _ => Or.inr (F _ zf_n3_4) | 4, 4, _, _, h => absurd rfl h | 4, 5, _, _, _ => Or.inl (F _ zf_n4_5) | 4, 6, _, _, _ => Or.inl (F _ zf_n4_6) | 5, 0, _, _, _ => Or.inr (F _ zf_n0_5) | 5, 1, _, _, _ => Or.inr (F _ zf_n1_5) | 5, 2, _, _, _ => Or.inr (F _ zf_n2_5) | 5, 3, _, _, _ => Or.inr (F _ zf_n3_5) | 5, 4, _, _, _ => Or.inr (F _ zf_n4_5) | 5, 5, _, _, h => absurd rfl h | 5, 6, _, _, _ => Or.inl (F _ zf_n5_6) | 6, 0, _, _, _ => Or.inr (F _ zf_n0_6) | 6, 1, _, _, _ => Or.inr (F _ zf_n1_6) | 6, 2, _, _, _ => Or.inr (F _ zf_n2_6) | 6, 3, _, _, _ => Or.inr (F _ zf_n3_6) | 6, 4, _, _, _ => Or.inr (F _ zf_n4_6) | 6, 5, _, _, _ => Or.inr (F _ zf_n5_6) | 6, 6, _, _, h => absurd rfl h | i + 7, _, h, _, _ => absurd h (by omega) | 0, j + 7, _, h, _ => absurd h (by omega) | 1, j + 7, _, h, _ => absurd h (by omega) | 2, j + 7, _, h, _ => absurd h (by omega) | 3, j + 7, _, h, _ => absurd h (by omega) | 4, j + 7, _, h, _ => absurd h (by omega) | 5, j + 7, _, h, _ => absurd h (by omega) | 6, j + 7, _, h, _ => absurd h (by omega))
    hAn
  obtain ⟨ta, hta, hTa⟩ := va_Tof (args := #[Value.ref b]) (s := s) (tm := Term.static "NineWindows$Kind" "ABOVE" "[I") (ty := .int) (N := 7) (f := fun j => .int (zab.getD j 0)) (A := zLA s) (by decide) (F _ zf_aa) (va_eqt (F _ zf_al)) (fun j hj => match j, hj with | 0, _ => va_eqt (F _ zf_ae0) | 1, _ => va_eqt (F _ zf_ae1) | 2, _ => va_eqt (F _ zf_ae2) | 3, _ => va_eqt (F _ zf_ae3) | 4, _ => va_eqt (F _ zf_ae4) | 5, _ => va_eqt (F _ zf_ae5) | 6, _ => va_eqt (F _ zf_ae6) | j + 7, h => absurd h (by omega)) hAn
  obtain ⟨tb, htb, hTb⟩ := va_Tof (args := #[Value.ref b]) (s := s) (tm := Term.static "NineWindows$Acts" "BODIES" "[I") (ty := .int) (N := 21) (f := fun j => .int (zbo.getD j 0)) (A := zLA s) (by decide) (F _ zf_ba) (va_eqt (F _ zf_bl)) (fun j hj => match j, hj with | 0, _ => va_eqt (F _ zf_be0) | 1, _ => va_eqt (F _ zf_be1) | 2, _ => va_eqt (F _ zf_be2) | 3, _ => va_eqt (F _ zf_be3) | 4, _ => va_eqt (F _ zf_be4) | 5, _ => va_eqt (F _ zf_be5) | 6, _ => va_eqt (F _ zf_be6) | 7, _ => va_eqt (F _ zf_be7) | 8, _ => va_eqt (F _ zf_be8) | 9, _ => va_eqt (F _ zf_be9) | 10, _ => va_eqt (F _ zf_be10) | 11, _ => va_eqt (F _ zf_be11) | 12, _ => va_eqt (F _ zf_be12) | 13, _ => va_eqt (F _ zf_be13) | 14, _ => va_eqt (F _ zf_be14) | 15, _ => va_eqt (F _ zf_be15) | 16, _ => va_eqt (F _ zf_be16) | 17, _ => va_eqt (F _ zf_be17) | 18, _ => va_eqt (F _ zf_be18) | 19, _ => va_eqt (F _ zf_be19) | 20, _ => va_eqt (F _ zf_be20) | j + 21, h => absurd h (by omega)) hAn
  obtain ⟨ts, hts5⟩ : ∃ ts : Nat, (Term.static "jdk/internal/util/Preconditions" "SIOOBE_FORMATTER" "Ljava/util/function/BiFunction;").eval #[Value.ref b] s none [] s = some (zSv ts) := by
    obtain ⟨v, hv, hr2⟩ := Cond.isRef_spec (F _ zf_sf)
    cases v with
    | null => exact ⟨0, hv⟩
    | ref a => exact ⟨a + 1, hv⟩
    | _ => cases hr2
  obtain ⟨y, y0, y1, y2, y3, y4, y5, yK, yV, yA, yB, yS⟩ : ∃ y : Nat → ClassId, y 0 = cI ∧ y 1 = cJ ∧ y 2 = cZ ∧ y 3 = cH ∧ y 4 = cP ∧ y 5 = cT ∧ (∀ i, i < 7 → y (10 + i) = adK i) ∧ (∀ i, i < 7 → y (20 + i) = adV i) ∧ y 40 = ta ∧ y 41 = tb ∧ y 42 = ts := by
    refine ⟨fun k => if k = 0 then cI else if k = 1 then cJ else if k = 2 then cZ else if k = 3 then cH else if k = 4 then cP else if k = 5 then cT else if k < 20 then adK (k - 10) else if k < 40 then adV (k - 20) else if k = 40 then ta else if k = 41 then tb else ts, rfl, rfl, rfl, rfl, rfl, rfl, ?_, ?_, rfl, rfl, rfl⟩
    · intro i hi
      match i, hi with
      | 0, _ => rfl
      | 1, _ => rfl
      | 2, _ => rfl
      | 3, _ => rfl
      | 4, _ => rfl
      | 5, _ => rfl
      | 6, _ => rfl
      | i + 7, h => omega
    · intro i hi
      match i, hi with
      | 0, _ => rfl
      | 1, _ => rfl
      | 2, _ => rfl
      | 3, _ => rfl
      | 4, _ => rfl
      | 5, _ => rfl
      | 6, _ => rfl
      | i + 7, h => omega
  have hZ : zSt y (zLA s) s s.heap := by
    unfold zSt
    rw [yA, yB, yS]
    exact ⟨va_Zof (hts (Cond.laysStatic "NineWindows$Kind" "ABOVE" "[I") (List.mem_of_getElem? (i := 985) (by decide +kernel))) (hts (Cond.initialized "NineWindows$Kind") (List.mem_of_getElem? (i := 101) (by decide +kernel))) hta hAn, hTa, va_Zof (hts (Cond.laysStatic "NineWindows$Acts" "BODIES" "[I") (List.mem_of_getElem? (i := 980) (by decide +kernel))) (hts (Cond.initialized "NineWindows$Acts") (List.mem_of_getElem? (i := 91) (by decide +kernel))) htb hAn, hTb, va_Zof (hts (Cond.laysStatic "java/lang/String" "COMPACT_STRINGS" "Z") (List.mem_of_getElem? (i := 590) (by decide +kernel))) (hts (Cond.initialized "java/lang/String") (List.mem_of_getElem? (i := 94) (by decide +kernel))) (va_eqt (F _ zf_cs)) hAn, va_Zof (hts (Cond.laysStatic "jdk/internal/util/Preconditions" "SIOOBE_FORMATTER" "Ljava/util/function/BiFunction;") (List.mem_of_getElem? (i := 606) (by decide +kernel))) (hts (Cond.initialized "jdk/internal/util/Preconditions") (List.mem_of_getElem? (i := 96) (by decide +kernel))) hts5 hAn⟩
  have hE : zE y (zLA s) s s.heap := by
    refine ⟨zvk hV yK yV, ?_, hZ⟩
    intro i hi
    match i, hi with
    | 0, h => rw [yK 0 h]; exact vk_R.of (hts (.stringRef "NineWindows$Reader" 74 "wet ") (List.mem_of_getElem? (i := 568) (by decide +kernel))) (hVe 0 h)
    | 1, h => rw [yK 1 h]; exact vk_R.of (hts (.stringRef "NineWindows$Reader" 76 "dry ") (List.mem_of_getElem? (i := 569) (by decide +kernel))) (hVe 1 h)
    | 2, h => rw [yK 2 h]; exact vk_R.of (hts (.stringRef "NineWindows$Reader" 78 "stair ") (List.mem_of_getElem? (i := 570) (by decide +kernel))) (hVe 2 h)
    | 3, h => rw [yK 3 h]; exact vk_R.of (hts (.stringRef "NineWindows$Reader" 80 "last ") (List.mem_of_getElem? (i := 571) (by decide +kernel))) (hVe 3 h)
    | 4, h => rw [yK 4 h]; exact vk_R.of (hts (.stringRef "NineWindows$Reader" 82 "") (List.mem_of_getElem? (i := 572) (by decide +kernel))) (hVe 4 h)
    | 5, h => rw [yK 5 h]; exact vk_R.of (hts (.stringRef "NineWindows$Reader" 96 "wkfrst") (List.mem_of_getElem? (i := 653) (by decide +kernel))) (hVe 5 h)
    | 6, h => rw [yK 6 h]; exact vk_R.of (hts (.stringRef "NineWindows$Reader" 102 "<=>") (List.mem_of_getElem? (i := 713) (by decide +kernel))) (hVe 6 h)
    | i + 7, h => omega
  have hNs : ∀ q ∈ zNst, va_Nw (.methodLinkNest q.1 q.2.1 q.2.2.1 q.2.2.2) s := by
    intro q hq
    simp only [zNst, List.mem_cons, List.not_mem_nil, or_false] at hq
    rcases hq with rfl | rfl | rfl | rfl | rfl | rfl | rfl
    · exact va_Nw.of rfl (hts (.methodLinkNest "NineWindows" 23 yX5_init "NineWindows") (List.mem_of_getElem? (i := 114) (by decide +kernel)))
    · exact va_Nw.of rfl (hts (.methodLinkNest "NineWindows$Reader" 25 yX2_init "NineWindows") (List.mem_of_getElem? (i := 120) (by decide +kernel)))
    · exact va_Nw.of rfl (hts (.methodLinkNest "NineWindows$Scene" 41 yX2_init "NineWindows") (List.mem_of_getElem? (i := 184) (by decide +kernel)))
    · exact va_Nw.of rfl (hts (.methodLinkNest "NineWindows$Scene" 61 yX4_init "NineWindows") (List.mem_of_getElem? (i := 211) (by decide +kernel)))
    · exact va_Nw.of rfl (hts (.methodLinkNest "NineWindows" 53 yX0_init "NineWindows") (List.mem_of_getElem? (i := 357) (by decide +kernel)))
    · exact va_Nw.of rfl (hts (.methodLinkNest "NineWindows" 64 yX2_init "NineWindows") (List.mem_of_getElem? (i := 381) (by decide +kernel)))
    · exact va_Nw.of rfl (hts (.methodLinkNest "NineWindows" 65 yX8_init "NineWindows") (List.mem_of_getElem? (i := 383) (by decide +kernel)))
  have hK : zK (dC, dI) y s := by
    refine ⟨⟨hKc, ?_⟩, va_AO.of aoH, va_AO.of aoP, va_AO.of aoT, hNs⟩
    intro k q hq
    match k, hq with
    | 0, hq => cases hq; refine ⟨?_, ?_⟩ <;> dsimp only <;> rw [y0]; exact fun n z => ⟨fun k h => (by cases h), kI, fI2, pI, fI3⟩; exact fI1
    | 1, hq => cases hq; refine ⟨?_, ?_⟩ <;> dsimp only <;> rw [y1]; exact fun n z => ⟨fun k h => (by cases h), kJ, fJ2, pJ, fJ3⟩; exact fJ1
    | 2, hq => cases hq; refine ⟨?_, ?_⟩ <;> dsimp only <;> rw [y2]; exact fun n z => ⟨fun k h => (by cases h), kZ, fZ2, pZ, fZ3⟩; exact fZ1
    | 3, hq => cases hq; refine ⟨?_, ?_⟩ <;> dsimp only <;> rw [y3]; exact fun n z => ⟨fun k h => (by cases h), kH, fH3, pH, fH4⟩; exact ⟨kH, pH, fH3, fH4, fH1, fH5⟩
    | 4, hq => cases hq; refine ⟨?_, ?_⟩ <;> dsimp only <;> rw [y4]; exact fun n z => ⟨fun k h => (by cases h), kP, fP3, pP, fP4⟩; exact ⟨kP, pP, fP3, fP4, fP1, fP5⟩
    | 5, hq => cases hq; refine ⟨?_, ?_⟩ <;> dsimp only <;> rw [y5]; exact fun n z => ⟨fun k h => (by cases h), kT, fT3, pT, fT4⟩; exact ⟨kT, pT, fT3, fT4, fT1, fT5⟩
    | k + 6, hq => simp [zTY] at hq
  generalize (dC, dI) = D at hK
  have hS : va_S (zLA s) s.heap s.heap [] := va_S.rf
  have hW : zPD D (zLA s) [] s.heap := ⟨fun k q h => by simp at h, fun i j p q h => by simp at h, fun k q h => by simp at h⟩
  have hl := lv_entry ([.ref b]) (n := 4) (Nat.le_of_ble_eq_true rfl)
  rw [lg_entry_eq]
  generalize (lg_sl ([.ref b]) ++ List.replicate (4 - (lg_sl ([.ref b])).length) Slot.unset).toArray = ls at hl ⊢
  have hl : lv_has ls 4 [(0, .ref b)] := hl
  refine znew (ci := 8) (fs := [.null, .int 0, .null, .null, .null, .int 0, .null, .null, .null]) hx hb ht inlX9 tyX9 tyX9_ok hown zm_0 zm_1 zm_2 hK hS hW hA rfl zn_X9 (Nat.le_of_ble_eq_true rfl) (Nat.le_of_ble_eq_true rfl) dL_law_0 (fun q1 H hW hS => ?_)
  have hW : zPD D (zLA s) ([(q1, .inr (8, [.null, .int 0, .null, .null, .null, .int 0, .null, .null, .null]))] ++ ([] : va_W)) H := hW
  refine lv_dup hx hb dL_law_3 rfl ?_
  refine zgo_vT (wr := []) (zrunI (As := []) (rest := [.ref q1]) ⟨hx, hb, hml, hown, ht⟩ (zc_X9_init_0 l D y q1) (cwI 0 ht (zgI zm_9) rfl rfl rfl (ht _ zm_2) (ht _ zm_7) (ht _ zm_8) rfl (by decide +kernel) ⟨(Nat.le_of_ble_eq_true rfl), (Nat.le_of_ble_eq_true rfl)⟩) hK hE hS hA hW [0] (by decide) rfl rfl hl.1 rfl (Nat.le_of_ble_eq_true rfl) dL_law_4 (Nat.le_of_ble_eq_true rfl) (Nat.le_of_ble_eq_true rfl)) hS hA hW [0] [] rfl rfl (by decide) (by decide) rfl rfl (fun u H locs huu hW hS => ?_)
  have hW : zPD D (zLA s) (pvWX y u) H := hW
  have hu0 : u 0 = q1 := huu
  refine ztop (w := .ref (u 0)) (congrArg Value.ref hu0.symm) ?_
  refine lv_astore_n (lv' := [(1, .ref (u 0)), (0, .ref b)]) hx hb dL_law_7 rfl hl (by decide) rfl (fun ls hl => ?_)
  refine znew (ci := 9) (fs := [.int 0, .int 0, .int 0, .int 0, .int 0, .int 0, .int 0, .null, .null, .null, .null, .null, .null, .null, .int 0, .int 0, .int 0, .int 0, .int 0, .null, .null, .null, .null, .null, .null, .null, .null, .int 0, .int 0, .int 0, .null, .null, .int 0, .null, .null, .int 0, .null, .int 0, .null, .null, .int 0, .null, .null, .int 0, .null, .null, .int 0, .int 0, .int 0, .int 0, .int 0, .int 0, .int 0, .int 0, .int 0, .int 0, .int 0, .int 0, .null, .null, .null, .null, .null, .null, .null, .null, .null, .null, .null, .null, .int 0, .null, .null, .null, .null, .null]) hx hb ht inlX10 tyX10 tyX10_ok hown zm_3 zm_4 zm_5 hK hS hW hA rfl zn_X10 (Nat.le_of_ble_eq_true rfl) (Nat.le_of_ble_eq_true rfl) dL_law_8 (fun q2 H hW hS => ?_)
  have hW : zPD D (zLA s) ([(q2, .inr (9, [.int 0, .int 0, .int 0, .int 0, .int 0, .int 0, .int 0, .null, .null, .null, .null, .null, .null, .null, .int 0, .int 0, .int 0, .int 0, .int 0, .null, .null, .null, .null, .null, .null, .null, .null, .int 0, .int 0, .int 0, .null, .null, .int 0, .null, .null, .int 0, .null, .int 0, .null, .null, .int 0, .null, .null, .int 0, .null, .null, .int 0, .int 0, .int 0, .int 0, .int 0, .int 0, .int 0, .int 0, .int 0, .int 0, .int 0, .int 0, .null, .null, .null, .null, .null, .null, .null, .null, .null, .null, .null, .null, .int 0, .null, .null, .null, .null, .null]))] ++ pvWX y u) H := hW.perm List.perm_append_comm
  refine lv_dup hx hb dL_law_11 rfl ?_
  refine zgo_vT (wr := []) (zrunI (As := []) (rest := [.ref q2]) ⟨hx, hb, hml, hown, ht⟩ (zc_X10_init_0 l D y q2) (cwI 0 ht (zgI zm_138) rfl rfl rfl (ht _ zm_5) (ht _ zm_136) (ht _ zm_137) rfl (by decide +kernel) ⟨(Nat.le_of_ble_eq_true rfl), (Nat.le_of_ble_eq_true rfl)⟩) hK hE hS hA hW [0] (by decide) rfl rfl hl.1 rfl (Nat.le_of_ble_eq_true rfl) dL_law_12 (Nat.le_of_ble_eq_true rfl) (Nat.le_of_ble_eq_true rfl)) hS hA hW [0] [] rfl rfl (by decide) (by decide) rfl rfl (fun z H locs huz hW hS => ?_)
  have hW : zPD D (zLA s) (pvWX y u ++ pvWM y z) H := hW
  have hz0 : z 0 = q2 := huz
  refine ztop (w := .ref (z 0)) (congrArg Value.ref hz0.symm) ?_
  rw [← pvW_0] at hW
  refine lv_astore_n (lv' := [(2, .ref (z 0)), (1, .ref (u 0)), (0, .ref b)]) hx hb dL_law_15 rfl hl (by decide) rfl (fun ls hl => ?_)
  refine lv_iconst (v := 0) hx hb dL_law_16 (by decide) ?_
  refine lv_istore_n (lv' := [(3, .int 0), (2, .ref (z 0)), (1, .ref (u 0)), (0, .ref b)]) hx hb dL_law_17 rfl hl (by decide) rfl (fun ls hl => ?_)
  refine W.widen (k := 1000) (n := 20000) (Nat.le_of_ble_eq_true rfl) (Nat.le_of_ble_eq_true rfl) ?_
  have e0 : (0 : Int32).toInt = 0 := by decide
  exact zl_loop pvtab l hL C0 ht hK hE (pvadE_0 y u z) (L + 1) 0 ls pvM0 H locs (by omega) (by omega) (by omega) ⟨zInv_0, zRl_0⟩ hl hW hS
