def fpL_eX0_run_3_0_2_x_1_6 : List (Nat × Nat × Nat) := [(0, 3, 2), (0, 4, 0)]
def fp_eX0_run_3_0_2_x_1_6 (q k : Nat) : Bool := pvfp fpL_eX0_run_3_0_2_x_1_6 q k
theorem fp_eX0_run_3_0_2_x_1_6_fp_eX0_note_3_x (a b : Nat) (h : fp_eX0_note_3_x a b = true) : fp_eX0_run_3_0_2_x_1_6 a b = true := pvfp_sub (l1 := fpL_eX0_note_3_x) (l2 := fpL_eX0_run_3_0_2_x_1_6) (by decide) a b h
theorem fp_eX0_run_3_0_2_x_1_6_fp_eX0_run_3_6_1_x_2_6 (a b : Nat) (h : fp_eX0_run_3_6_1_x_2_6 a b = true) : fp_eX0_run_3_0_2_x_1_6 a b = true := pvfp_sub (l1 := fpL_eX0_run_3_6_1_x_2_6) (l2 := fpL_eX0_run_3_0_2_x_1_6) (by decide) a b h
set_option maxHeartbeats 4000000 in
set_option maxRecDepth 10000 in
theorem se_X0_run_3_0_2_x_1_6 (M : pvM) (hok : pvOk M) (n3 : Int32) (hc3_1 : 0 ≤ Int32.toInt (M.1 3 1) ∧ Int32.toInt (M.1 3 1) ≤ 993) (hc3_2 : 6 ≤ Int32.toInt (M.1 3 2) ∧ Int32.toInt (M.1 3 2) ≤ 6) (d : Nat) (hd : 4 ≤ d) : PW 4 d (0, [some (pvR 3), some (pvI 0), some (pvI 2), some (pvI n3), some (pvI 1), none, none], [], M) (fun r X => (∃ x : Int32, r = some (pvI x) ∧ True ∧ x = (((((n3 + (M.1 3 4)) ^^^ (M.1 3 3)) - (M.1 3 3)) + (2 + (M.1 3 4))) * 2)) ∧ pvOk X ∧ pvFr fp_eX0_run_3_0_2_x_1_6 M X ∧ Int32.toInt (X.1 3 1) ≤ Int32.toInt (M.1 3 1) + 6 ∧ zTr 3 1 4 (([12] : List Int32) ++ (([70] : List Int32) ++ (([11] : List Int32) ++ (([71] : List Int32) ++ ([10] : List Int32))) ++ ([10] : List Int32))) M X) := by
  have hT : pvdom 4 = pvD_4 := rfl
  refine pw_blk hT 2 (S' := (4, [some (pvR 3), some (pvI 0), some (pvI 2), some (pvI n3), some (pvI 1), none, none], [pvI 40, pvI 1], M)) rfl ⟨trivial, trivial, trivial⟩ ?_
  refine pw_ic hT (c := 1 ≤ 40) rfl rfl (fun c1_ => ?_) (fun c1_ => absurd (by decide) c1_)
  refine pw_blk hT 2 (S' := (11, [some (pvR 3), some (pvI 0), some (pvI 2), some (pvI n3), some (pvI 1), none, none], [pvI 2, pvI 0], M)) rfl ⟨trivial, trivial, trivial⟩ ?_
  refine pw_callT hT (as := [pvI 0, pvI 2]) (lo1 := [some (pvI 0), some (pvI 2), none, none, none]) (d1 := d) (rest := []) rfl rfl rfl rfl rfl (fun h => absurd h (by decide)) (Nat.zero_le _) rfl rfl rfl (sf_X0_bodyFrom_0_2 M hok d) ?_
  refine pw_eqI (show ((pvstab 1041).getD (Int32.toNatClampNeg ((0 * 3) + 2)) 0) = 12 from by decide) ?_
  show PW 4 d (14, [some (pvR 3), some (pvI 0), some (pvI 2), some (pvI n3), some (pvI 1), none, none], [pvI 12], M) _
  refine pw_blk hT 7 (S' := (25, [some (pvR 3), some (pvI 0), some (pvI 2), some (pvI n3), some (pvI 1), some (pvI 12), some (pvI (1 + 1))], [pvI 12, pvR 3], M)) rfl ⟨trivial, trivial, trivial, trivial, trivial, trivial, trivial, trivial⟩ ?_
  refine pw_callVd hT (as := [pvR 3, pvI 12]) (lo1 := [some (pvR 3), some (pvI 12)]) (d1 := d) (rest := []) rfl rfl rfl rfl rfl (fun _ => rfl) (Nat.zero_le _) rfl rfl rfl (se_X0_note_3_x M hok 12 (zr_wide (show 12 ≤ Int32.toInt 12 ∧ Int32.toInt 12 ≤ 12 from (by decide)) (by decide) (by decide)) (zr_wide hc3_1 (by decide) (by decide)) d) (fun M11_ o13_ g14_ d9_ => ?_)
  have d7_ := d9_.1
  have d8_ := d9_.2
  have f15_ : pvFr fp_eX0_run_3_0_2_x_1_6 M M11_ := pvfr_t g14_ pvfr_0 fp_eX0_run_3_0_2_x_1_6_fp_eX0_note_3_x
  have b16_ : 0 ≤ Int32.toInt (M11_.1 3 1) ∧ Int32.toInt (M11_.1 3 1) ≤ 994 := (by have u0 := hc3_1; have u1 := d7_; have u2 := pvok_r o13_ 3 1 (lo := 0) (hi := 1000000) rfl; omega)
  refine pw_blk hT 1 (S' := (30, [some (pvR 3), some (pvI 0), some (pvI 2), some (pvI n3), some (pvI 1), some (pvI 12), some (pvI (1 + 1))], [pvI 12], M11_)) rfl ⟨trivial, trivial⟩ ?_
  refine pw_sw hT rfl rfl ?_
  refine And.intro (fun c17_ => absurd c17_ (by decide)) (fun c17_ => ?_)
  refine And.intro (fun c18_ => absurd c18_ (by decide)) (fun c18_ => ?_)
  refine And.intro (fun c19_ => ?_) (fun c19_ => absurd (by decide) c19_)
  show PW 4 d (153, [some (pvR 3), some (pvI 0), some (pvI 2), some (pvI n3), some (pvI 1), some (pvI 12), some (pvI (1 + 1))], [], M11_) _
  have e20_ : (M11_.1 3 2) = (M.1 3 2) := (g14_ 3 2 rfl)
  have b21_ : 6 ≤ Int32.toInt (M11_.1 3 2) ∧ Int32.toInt (M11_.1 3 2) ≤ 6 := (by rw [e20_]; exact hc3_2)
  refine pw_blk hT 3 (S' := (158, [some (pvR 3), some (pvI 0), some (pvI 2), some (pvI n3), some (pvI 1), some (pvI 12), some (pvI (1 + 1))], [pvI (M11_.1 3 2), pvR 3], M11_)) rfl ⟨trivial, trivial, rfl, trivial⟩ ?_
  refine pw_eqI ((zi_eq _ (6)).mpr (by have u0 := b21_; have u1 : Int32.toInt (6) = 6 := (by decide); omega)) ?_
  refine pw_blk hT 3 (S' := (162, [some (pvR 3), some (pvI 0), some (pvI 2), some (pvI n3), some (pvI 1), some (pvI 12), some (pvI (1 + 1))], [pvI (1 + 1), pvI n3, pvI 1, pvI 6, pvR 3], M11_)) rfl ⟨trivial, trivial, trivial, trivial⟩ ?_
  refine pw_callGd hT (as := [pvR 3, pvI 6, pvI 1, pvI n3, pvI (1 + 1)]) (lo1 := [some (pvR 3), some (pvI 6), some (pvI 1), some (pvI n3), some (pvI (1 + 1)), none, none]) (d1 := (d - 1)) (rest := []) rfl rfl rfl rfl rfl (fun h => absurd h (by decide)) (show 1 ≤ d by omega) rfl rfl rfl (se_X0_run_3_6_1_x_2_6 M11_ o13_ n3 b16_ b21_ (d - 1) (by omega)) (fun x25_ M26_ b27_ o28_ g29_ d24_ => ?_)
  have d22_ := d24_.1
  have d23_ := d24_.2
  have f30_ : pvFr fp_eX0_run_3_0_2_x_1_6 M M26_ := pvfr_t g29_ f15_ fp_eX0_run_3_0_2_x_1_6_fp_eX0_run_3_6_1_x_2_6
  have b31_ : 0 ≤ Int32.toInt (M26_.1 3 1) ∧ Int32.toInt (M26_.1 3 1) ≤ 999 := (by have u0 := b16_; have u1 := d22_; have u2 := pvok_r o28_ 3 1 (lo := 0) (hi := 1000000) rfl; omega)
  have u32_ : Int32.toInt 6 = 6 := by decide
  have u33_ : Int32.toInt 1 = 1 := by decide
  have u34_ : Int32.toInt (1 + 1) = 2 := by decide
  obtain ⟨b35_, d36_⟩ := b27_
  subst d36_
  have e37_ : ((((n3 + (M11_.1 3 4)) ^^^ (M11_.1 3 3)) - (M11_.1 3 3)) + (2 + (M11_.1 3 4))) = ((((n3 + (M.1 3 4)) ^^^ (M.1 3 3)) - (M.1 3 3)) + (2 + (M.1 3 4))) := (show ((((n3 + (M11_.1 3 4)) ^^^ (M11_.1 3 3)) - (M11_.1 3 3)) + (2 + (M11_.1 3 4))) = ((((n3 + (M.1 3 4)) ^^^ (M.1 3 3)) - (M.1 3 3)) + (2 + (M.1 3 4))) from by rw [(g14_ 3 4 rfl), (g14_ 3 3 rfl)])
  refine pw_eqI e37_ ?_
  refine pw_blk hT 2 (S' := (167, [some (pvR 3), some (pvI 0), some (pvI 2), some (pvI n3), some (pvI 1), some (pvI 12), some (pvI (1 + 1))], [pvI (((((n3 + (M.1 3 4)) ^^^ (M.1 3 3)) - (M.1 3 3)) + (2 + (M.1 3 4))) * 2)], M26_)) rfl ⟨trivial, trivial, trivial⟩ ?_
  exact pw_ret hT rfl (r := some (pvI (((((n3 + (M.1 3 4)) ^^^ (M.1 3 3)) - (M.1 3 3)) + (2 + (M.1 3 4))) * 2))) (M' := M26_) ⟨rfl, rfl⟩ ⟨⟨_, rfl, trivial, rfl⟩, o28_, f30_, (by omega), (zTr_c (pvok_r hok 3 1 rfl).1 (zTr_c0 (pvok_r hok 3 1 rfl).1 (zTr_0 3 1 4 M) d8_) d23_)⟩
def fpL_eX0_run_3_3_0_x_4_6 : List (Nat × Nat × Nat) := [(0, 3, 2), (0, 4, 0)]
def fp_eX0_run_3_3_0_x_4_6 (q k : Nat) : Bool := pvfp fpL_eX0_run_3_3_0_x_4_6 q k
theorem fp_eX0_run_3_3_0_x_4_6_fp_eX0_note_3_x (a b : Nat) (h : fp_eX0_note_3_x a b = true) : fp_eX0_run_3_3_0_x_4_6 a b = true := pvfp_sub (l1 := fpL_eX0_note_3_x) (l2 := fpL_eX0_run_3_3_0_x_4_6) (by decide) a b h
set_option maxHeartbeats 4000000 in
set_option maxRecDepth 10000 in
theorem se_X0_run_3_3_0_x_4_6 (M : pvM) (hok : pvOk M) (n3 : Int32) (hc3_1 : 0 ≤ Int32.toInt (M.1 3 1) ∧ Int32.toInt (M.1 3 1) ≤ 998) (hc3_2 : 6 ≤ Int32.toInt (M.1 3 2) ∧ Int32.toInt (M.1 3 2) ≤ 6) (d : Nat) : PW 4 d (0, [some (pvR 3), some (pvI 3), some (pvI 0), some (pvI n3), some (pvI 4), none, none], [], M) (fun r X => (∃ x : Int32, r = some (pvI x) ∧ True ∧ x = (n3 + (M.1 3 4))) ∧ pvOk X ∧ pvFr fp_eX0_run_3_3_0_x_4_6 M X ∧ Int32.toInt (X.1 3 1) ≤ Int32.toInt (M.1 3 1) + 1 ∧ zTr 3 1 4 ([10] : List Int32) M X) := by
  have hT : pvdom 4 = pvD_4 := rfl
  refine pw_blk hT 2 (S' := (4, [some (pvR 3), some (pvI 3), some (pvI 0), some (pvI n3), some (pvI 4), none, none], [pvI 40, pvI 4], M)) rfl ⟨trivial, trivial, trivial⟩ ?_
  refine pw_ic hT (c := 4 ≤ 40) rfl rfl (fun c1_ => ?_) (fun c1_ => absurd (by decide) c1_)
  refine pw_blk hT 2 (S' := (11, [some (pvR 3), some (pvI 3), some (pvI 0), some (pvI n3), some (pvI 4), none, none], [pvI 0, pvI 3], M)) rfl ⟨trivial, trivial, trivial⟩ ?_
  refine pw_callT hT (as := [pvI 3, pvI 0]) (lo1 := [some (pvI 3), some (pvI 0), none, none, none]) (d1 := d) (rest := []) rfl rfl rfl rfl rfl (fun h => absurd h (by decide)) (Nat.zero_le _) rfl rfl rfl (sf_X0_bodyFrom_3_0 M hok d) ?_
  refine pw_eqI (show ((pvstab 1041).getD (Int32.toNatClampNeg ((0 * 3) + 0)) 0) = 10 from by decide) ?_
  show PW 4 d (14, [some (pvR 3), some (pvI 3), some (pvI 0), some (pvI n3), some (pvI 4), none, none], [pvI 10], M) _
  refine pw_blk hT 7 (S' := (25, [some (pvR 3), some (pvI 3), some (pvI 0), some (pvI n3), some (pvI 4), some (pvI 10), some (pvI (4 + 1))], [pvI 10, pvR 3], M)) rfl ⟨trivial, trivial, trivial, trivial, trivial, trivial, trivial, trivial⟩ ?_
  refine pw_callVd hT (as := [pvR 3, pvI 10]) (lo1 := [some (pvR 3), some (pvI 10)]) (d1 := d) (rest := []) rfl rfl rfl rfl rfl (fun _ => rfl) (Nat.zero_le _) rfl rfl rfl (se_X0_note_3_x M hok 10 (zr_wide (show 10 ≤ Int32.toInt 10 ∧ Int32.toInt 10 ≤ 10 from (by decide)) (by decide) (by decide)) (zr_wide hc3_1 (by decide) (by decide)) d) (fun M11_ o13_ g14_ d9_ => ?_)
  have d7_ := d9_.1
  have d8_ := d9_.2
  have f15_ : pvFr fp_eX0_run_3_3_0_x_4_6 M M11_ := pvfr_t g14_ pvfr_0 fp_eX0_run_3_3_0_x_4_6_fp_eX0_note_3_x
  have b16_ : 0 ≤ Int32.toInt (M11_.1 3 1) ∧ Int32.toInt (M11_.1 3 1) ≤ 999 := (by have u0 := hc3_1; have u1 := d7_; have u2 := pvok_r o13_ 3 1 (lo := 0) (hi := 1000000) rfl; omega)
  refine pw_blk hT 1 (S' := (30, [some (pvR 3), some (pvI 3), some (pvI 0), some (pvI n3), some (pvI 4), some (pvI 10), some (pvI (4 + 1))], [pvI 10], M11_)) rfl ⟨trivial, trivial⟩ ?_
  refine pw_sw hT rfl rfl ?_
  refine And.intro (fun c17_ => ?_) (fun c17_ => absurd (by decide) c17_)
  show PW 4 d (128, [some (pvR 3), some (pvI 3), some (pvI 0), some (pvI n3), some (pvI 4), some (pvI 10), some (pvI (4 + 1))], [], M11_) _
  refine pw_blk hT 3 (S' := (133, [some (pvR 3), some (pvI 3), some (pvI 0), some (pvI n3), some (pvI 4), some (pvI 10), some (pvI (4 + 1))], [pvI (M11_.1 3 4), pvI n3], M11_)) rfl ⟨trivial, trivial, rfl, trivial⟩ ?_
  have e18_ : (M11_.1 3 4) = (M.1 3 4) := (g14_ 3 4 rfl)
  refine pw_eqI e18_ ?_
  refine pw_blk hT 1 (S' := (134, [some (pvR 3), some (pvI 3), some (pvI 0), some (pvI n3), some (pvI 4), some (pvI 10), some (pvI (4 + 1))], [pvI (n3 + (M.1 3 4))], M11_)) rfl ⟨trivial, trivial⟩ ?_
  exact pw_ret hT rfl (r := some (pvI (n3 + (M.1 3 4)))) (M' := M11_) ⟨rfl, rfl⟩ ⟨⟨_, rfl, trivial, rfl⟩, o13_, f15_, (by omega), (zTr_c0 (pvok_r hok 3 1 rfl).1 (zTr_0 3 1 4 M) d8_)⟩
def fpL_eX0_run_3_6_0_x_3_6 : List (Nat × Nat × Nat) := [(0, 3, 2), (0, 4, 0)]
def fp_eX0_run_3_6_0_x_3_6 (q k : Nat) : Bool := pvfp fpL_eX0_run_3_6_0_x_3_6 q k
theorem fp_eX0_run_3_6_0_x_3_6_fp_eX0_note_3_x (a b : Nat) (h : fp_eX0_note_3_x a b = true) : fp_eX0_run_3_6_0_x_3_6 a b = true := pvfp_sub (l1 := fpL_eX0_note_3_x) (l2 := fpL_eX0_run_3_6_0_x_3_6) (by decide) a b h
theorem fp_eX0_run_3_6_0_x_3_6_fp_eX0_run_3_3_0_x_4_6 (a b : Nat) (h : fp_eX0_run_3_3_0_x_4_6 a b = true) : fp_eX0_run_3_6_0_x_3_6 a b = true := pvfp_sub (l1 := fpL_eX0_run_3_3_0_x_4_6) (l2 := fpL_eX0_run_3_6_0_x_3_6) (by decide) a b h
set_option maxHeartbeats 4000000 in
set_option maxRecDepth 10000 in
theorem se_X0_run_3_6_0_x_3_6 (M : pvM) (hok : pvOk M) (n3 : Int32) (hc3_1 : 0 ≤ Int32.toInt (M.1 3 1) ∧ Int32.toInt (M.1 3 1) ≤ 997) (hc3_2 : 6 ≤ Int32.toInt (M.1 3 2) ∧ Int32.toInt (M.1 3 2) ≤ 6) (d : Nat) (hd : 1 ≤ d) : PW 4 d (0, [some (pvR 3), some (pvI 6), some (pvI 0), some (pvI n3), some (pvI 3), none, none], [], M) (fun r X => (∃ x : Int32, r = some (pvI x) ∧ True ∧ x = ((n3 + (M.1 3 4)) ^^^ (M.1 3 3))) ∧ pvOk X ∧ pvFr fp_eX0_run_3_6_0_x_3_6 M X ∧ Int32.toInt (X.1 3 1) ≤ Int32.toInt (M.1 3 1) + 2 ∧ zTr 3 1 4 (([71] : List Int32) ++ ([10] : List Int32)) M X) := by
  have hT : pvdom 4 = pvD_4 := rfl
  refine pw_blk hT 2 (S' := (4, [some (pvR 3), some (pvI 6), some (pvI 0), some (pvI n3), some (pvI 3), none, none], [pvI 40, pvI 3], M)) rfl ⟨trivial, trivial, trivial⟩ ?_
  refine pw_ic hT (c := 3 ≤ 40) rfl rfl (fun c1_ => ?_) (fun c1_ => absurd (by decide) c1_)
  refine pw_blk hT 2 (S' := (11, [some (pvR 3), some (pvI 6), some (pvI 0), some (pvI n3), some (pvI 3), none, none], [pvI 0, pvI 6], M)) rfl ⟨trivial, trivial, trivial⟩ ?_
  refine pw_callT hT (as := [pvI 6, pvI 0]) (lo1 := [some (pvI 6), some (pvI 0), none, none, none]) (d1 := d) (rest := []) rfl rfl rfl rfl rfl (fun h => absurd h (by decide)) (Nat.zero_le _) rfl rfl rfl (sf_X0_bodyFrom_6_0 M hok d) ?_
  refine pw_eqI (show ((pvstab 1041).getD (Int32.toNatClampNeg ((6 * 3) + 0)) 0) = 71 from by decide) ?_
  show PW 4 d (14, [some (pvR 3), some (pvI 6), some (pvI 0), some (pvI n3), some (pvI 3), none, none], [pvI 71], M) _
  refine pw_blk hT 7 (S' := (25, [some (pvR 3), some (pvI 6), some (pvI 0), some (pvI n3), some (pvI 3), some (pvI 71), some (pvI (3 + 1))], [pvI 71, pvR 3], M)) rfl ⟨trivial, trivial, trivial, trivial, trivial, trivial, trivial, trivial⟩ ?_
  refine pw_callVd hT (as := [pvR 3, pvI 71]) (lo1 := [some (pvR 3), some (pvI 71)]) (d1 := d) (rest := []) rfl rfl rfl rfl rfl (fun _ => rfl) (Nat.zero_le _) rfl rfl rfl (se_X0_note_3_x M hok 71 (zr_wide (show 71 ≤ Int32.toInt 71 ∧ Int32.toInt 71 ≤ 71 from (by decide)) (by decide) (by decide)) (zr_wide hc3_1 (by decide) (by decide)) d) (fun M11_ o13_ g14_ d9_ => ?_)
  have d7_ := d9_.1
  have d8_ := d9_.2
  have f15_ : pvFr fp_eX0_run_3_6_0_x_3_6 M M11_ := pvfr_t g14_ pvfr_0 fp_eX0_run_3_6_0_x_3_6_fp_eX0_note_3_x
  have b16_ : 0 ≤ Int32.toInt (M11_.1 3 1) ∧ Int32.toInt (M11_.1 3 1) ≤ 998 := (by have u0 := hc3_1; have u1 := d7_; have u2 := pvok_r o13_ 3 1 (lo := 0) (hi := 1000000) rfl; omega)
  refine pw_blk hT 1 (S' := (30, [some (pvR 3), some (pvI 6), some (pvI 0), some (pvI n3), some (pvI 3), some (pvI 71), some (pvI (3 + 1))], [pvI 71], M11_)) rfl ⟨trivial, trivial⟩ ?_
  refine pw_sw hT rfl rfl ?_
  refine And.intro (fun c17_ => absurd c17_ (by decide)) (fun c17_ => ?_)
  refine And.intro (fun c18_ => absurd c18_ (by decide)) (fun c18_ => ?_)
  refine And.intro (fun c19_ => absurd c19_ (by decide)) (fun c19_ => ?_)
  refine And.intro (fun c20_ => absurd c20_ (by decide)) (fun c20_ => ?_)
  refine And.intro (fun c21_ => absurd c21_ (by decide)) (fun c21_ => ?_)
  refine And.intro (fun c22_ => absurd c22_ (by decide)) (fun c22_ => ?_)
  refine And.intro (fun c23_ => absurd c23_ (by decide)) (fun c23_ => ?_)
  refine And.intro (fun c24_ => absurd c24_ (by decide)) (fun c24_ => ?_)
  refine And.intro (fun c25_ => absurd c25_ (by decide)) (fun c25_ => ?_)
  refine And.intro (fun c26_ => absurd c26_ (by decide)) (fun c26_ => ?_)
  refine And.intro (fun c27_ => ?_) (fun c27_ => absurd (by decide) c27_)
  show PW 4 d (274, [some (pvR 3), some (pvI 6), some (pvI 0), some (pvI n3), some (pvI 3), some (pvI 71), some (pvI (3 + 1))], [], M11_) _
  refine pw_blk hT 5 (S' := (280, [some (pvR 3), some (pvI 6), some (pvI 0), some (pvI n3), some (pvI 3), some (pvI 71), some (pvI (3 + 1))], [pvI (3 + 1), pvI n3, pvI 0, pvI 3, pvR 3], M11_)) rfl ⟨trivial, trivial, trivial, trivial, trivial, trivial⟩ ?_
  have e28_ : (M11_.1 3 2) = (M.1 3 2) := (g14_ 3 2 rfl)
  have b29_ : 6 ≤ Int32.toInt (M11_.1 3 2) ∧ Int32.toInt (M11_.1 3 2) ≤ 6 := (by rw [e28_]; exact hc3_2)
  refine pw_callGd hT (as := [pvR 3, pvI 3, pvI 0, pvI n3, pvI (3 + 1)]) (lo1 := [some (pvR 3), some (pvI 3), some (pvI 0), some (pvI n3), some (pvI (3 + 1)), none, none]) (d1 := (d - 1)) (rest := []) rfl rfl rfl rfl rfl (fun h => absurd h (by decide)) (show 1 ≤ d by omega) rfl rfl rfl (se_X0_run_3_3_0_x_4_6 M11_ o13_ n3 b16_ b29_ (d - 1)) (fun x33_ M34_ b35_ o36_ g37_ d32_ => ?_)
  have d30_ := d32_.1
  have d31_ := d32_.2
  have f38_ : pvFr fp_eX0_run_3_6_0_x_3_6 M M34_ := pvfr_t g37_ f15_ fp_eX0_run_3_6_0_x_3_6_fp_eX0_run_3_3_0_x_4_6
  have b39_ : 0 ≤ Int32.toInt (M34_.1 3 1) ∧ Int32.toInt (M34_.1 3 1) ≤ 999 := (by have u0 := b16_; have u1 := d30_; have u2 := pvok_r o36_ 3 1 (lo := 0) (hi := 1000000) rfl; omega)
  have u40_ : Int32.toInt 3 = 3 := by decide
  have u41_ : Int32.toInt 0 = 0 := by decide
  have u42_ : Int32.toInt (3 + 1) = 4 := by decide
  obtain ⟨b43_, d44_⟩ := b35_
  subst d44_
  have e45_ : (n3 + (M11_.1 3 4)) = (n3 + (M.1 3 4)) := (show (n3 + (M11_.1 3 4)) = (n3 + (M.1 3 4)) from by rw [(g14_ 3 4 rfl)])
  refine pw_eqI e45_ ?_
  refine pw_blk hT 2 (S' := (287, [some (pvR 3), some (pvI 6), some (pvI 0), some (pvI n3), some (pvI 3), some (pvI 71), some (pvI (3 + 1))], [pvI (M34_.1 3 3), pvI (n3 + (M.1 3 4))], M34_)) rfl ⟨trivial, rfl, trivial⟩ ?_
  have e46_ : (M34_.1 3 3) = (M.1 3 3) := ((g37_ 3 3 rfl).trans (g14_ 3 3 rfl))
  refine pw_eqI e46_ ?_
  refine pw_blk hT 1 (S' := (288, [some (pvR 3), some (pvI 6), some (pvI 0), some (pvI n3), some (pvI 3), some (pvI 71), some (pvI (3 + 1))], [pvI ((n3 + (M.1 3 4)) ^^^ (M.1 3 3))], M34_)) rfl ⟨trivial, trivial⟩ ?_
  exact pw_ret hT rfl (r := some (pvI ((n3 + (M.1 3 4)) ^^^ (M.1 3 3)))) (M' := M34_) ⟨rfl, rfl⟩ ⟨⟨_, rfl, trivial, rfl⟩, o36_, f38_, (by omega), (zTr_c (pvok_r hok 3 1 rfl).1 (zTr_c0 (pvok_r hok 3 1 rfl).1 (zTr_0 3 1 4 M) d8_) d31_)⟩
def fpL_eX0_run_3_3_1_x_2_6 : List (Nat × Nat × Nat) := [(0, 3, 2), (0, 4, 0)]
def fp_eX0_run_3_3_1_x_2_6 (q k : Nat) : Bool := pvfp fpL_eX0_run_3_3_1_x_2_6 q k
theorem fp_eX0_run_3_3_1_x_2_6_fp_eX0_note_3_x (a b : Nat) (h : fp_eX0_note_3_x a b = true) : fp_eX0_run_3_3_1_x_2_6 a b = true := pvfp_sub (l1 := fpL_eX0_note_3_x) (l2 := fpL_eX0_run_3_3_1_x_2_6) (by decide) a b h
theorem fp_eX0_run_3_3_1_x_2_6_fp_eX0_run_3_6_0_x_3_6 (a b : Nat) (h : fp_eX0_run_3_6_0_x_3_6 a b = true) : fp_eX0_run_3_3_1_x_2_6 a b = true := pvfp_sub (l1 := fpL_eX0_run_3_6_0_x_3_6) (l2 := fpL_eX0_run_3_3_1_x_2_6) (by decide) a b h
set_option maxHeartbeats 4000000 in
set_option maxRecDepth 10000 in
theorem se_X0_run_3_3_1_x_2_6 (M : pvM) (hok : pvOk M) (n3 : Int32) (hc3_1 : 0 ≤ Int32.toInt (M.1 3 1) ∧ Int32.toInt (M.1 3 1) ≤ 996) (hc3_2 : 6 ≤ Int32.toInt (M.1 3 2) ∧ Int32.toInt (M.1 3 2) ≤ 6) (d : Nat) (hd : 2 ≤ d) : PW 4 d (0, [some (pvR 3), some (pvI 3), some (pvI 1), some (pvI n3), some (pvI 2), none, none], [], M) (fun r X => (∃ x : Int32, r = some (pvI x) ∧ True ∧ x = (((n3 + (M.1 3 4)) ^^^ (M.1 3 3)) - (M.1 3 3))) ∧ pvOk X ∧ pvFr fp_eX0_run_3_3_1_x_2_6 M X ∧ Int32.toInt (X.1 3 1) ≤ Int32.toInt (M.1 3 1) + 3 ∧ zTr 3 1 4 (([11] : List Int32) ++ (([71] : List Int32) ++ ([10] : List Int32))) M X) := by
  have hT : pvdom 4 = pvD_4 := rfl
  refine pw_blk hT 2 (S' := (4, [some (pvR 3), some (pvI 3), some (pvI 1), some (pvI n3), some (pvI 2), none, none], [pvI 40, pvI 2], M)) rfl ⟨trivial, trivial, trivial⟩ ?_
  refine pw_ic hT (c := 2 ≤ 40) rfl rfl (fun c1_ => ?_) (fun c1_ => absurd (by decide) c1_)
  refine pw_blk hT 2 (S' := (11, [some (pvR 3), some (pvI 3), some (pvI 1), some (pvI n3), some (pvI 2), none, none], [pvI 1, pvI 3], M)) rfl ⟨trivial, trivial, trivial⟩ ?_
  refine pw_callT hT (as := [pvI 3, pvI 1]) (lo1 := [some (pvI 3), some (pvI 1), none, none, none]) (d1 := d) (rest := []) rfl rfl rfl rfl rfl (fun h => absurd h (by decide)) (Nat.zero_le _) rfl rfl rfl (sf_X0_bodyFrom_3_1 M hok d) ?_
  refine pw_eqI (show ((pvstab 1041).getD (Int32.toNatClampNeg ((0 * 3) + 1)) 0) = 11 from by decide) ?_
  show PW 4 d (14, [some (pvR 3), some (pvI 3), some (pvI 1), some (pvI n3), some (pvI 2), none, none], [pvI 11], M) _
  refine pw_blk hT 7 (S' := (25, [some (pvR 3), some (pvI 3), some (pvI 1), some (pvI n3), some (pvI 2), some (pvI 11), some (pvI (2 + 1))], [pvI 11, pvR 3], M)) rfl ⟨trivial, trivial, trivial, trivial, trivial, trivial, trivial, trivial⟩ ?_
  refine pw_callVd hT (as := [pvR 3, pvI 11]) (lo1 := [some (pvR 3), some (pvI 11)]) (d1 := d) (rest := []) rfl rfl rfl rfl rfl (fun _ => rfl) (Nat.zero_le _) rfl rfl rfl (se_X0_note_3_x M hok 11 (zr_wide (show 11 ≤ Int32.toInt 11 ∧ Int32.toInt 11 ≤ 11 from (by decide)) (by decide) (by decide)) (zr_wide hc3_1 (by decide) (by decide)) d) (fun M11_ o13_ g14_ d9_ => ?_)
  have d7_ := d9_.1
  have d8_ := d9_.2
  have f15_ : pvFr fp_eX0_run_3_3_1_x_2_6 M M11_ := pvfr_t g14_ pvfr_0 fp_eX0_run_3_3_1_x_2_6_fp_eX0_note_3_x
  have b16_ : 0 ≤ Int32.toInt (M11_.1 3 1) ∧ Int32.toInt (M11_.1 3 1) ≤ 997 := (by have u0 := hc3_1; have u1 := d7_; have u2 := pvok_r o13_ 3 1 (lo := 0) (hi := 1000000) rfl; omega)
  refine pw_blk hT 1 (S' := (30, [some (pvR 3), some (pvI 3), some (pvI 1), some (pvI n3), some (pvI 2), some (pvI 11), some (pvI (2 + 1))], [pvI 11], M11_)) rfl ⟨trivial, trivial⟩ ?_
  refine pw_sw hT rfl rfl ?_
  refine And.intro (fun c17_ => absurd c17_ (by decide)) (fun c17_ => ?_)
  refine And.intro (fun c18_ => ?_) (fun c18_ => absurd (by decide) c18_)
  show PW 4 d (135, [some (pvR 3), some (pvI 3), some (pvI 1), some (pvI n3), some (pvI 2), some (pvI 11), some (pvI (2 + 1))], [], M11_) _
  have e19_ : (M11_.1 3 2) = (M.1 3 2) := (g14_ 3 2 rfl)
  have b20_ : 6 ≤ Int32.toInt (M11_.1 3 2) ∧ Int32.toInt (M11_.1 3 2) ≤ 6 := (by rw [e19_]; exact hc3_2)
  refine pw_blk hT 3 (S' := (140, [some (pvR 3), some (pvI 3), some (pvI 1), some (pvI n3), some (pvI 2), some (pvI 11), some (pvI (2 + 1))], [pvI (M11_.1 3 2), pvR 3], M11_)) rfl ⟨trivial, trivial, rfl, trivial⟩ ?_
  refine pw_eqI ((zi_eq _ (6)).mpr (by have u0 := b20_; have u1 : Int32.toInt (6) = 6 := (by decide); omega)) ?_
  refine pw_blk hT 3 (S' := (144, [some (pvR 3), some (pvI 3), some (pvI 1), some (pvI n3), some (pvI 2), some (pvI 11), some (pvI (2 + 1))], [pvI (2 + 1), pvI n3, pvI 0, pvI 6, pvR 3], M11_)) rfl ⟨trivial, trivial, trivial, trivial⟩ ?_
  refine pw_callGd hT (as := [pvR 3, pvI 6, pvI 0, pvI n3, pvI (2 + 1)]) (lo1 := [some (pvR 3), some (pvI 6), some (pvI 0), some (pvI n3), some (pvI (2 + 1)), none, none]) (d1 := (d - 1)) (rest := []) rfl rfl rfl rfl rfl (fun h => absurd h (by decide)) (show 1 ≤ d by omega) rfl rfl rfl (se_X0_run_3_6_0_x_3_6 M11_ o13_ n3 b16_ b20_ (d - 1) (by omega)) (fun x24_ M25_ b26_ o27_ g28_ d23_ => ?_)
  have d21_ := d23_.1
  have d22_ := d23_.2
  have f29_ : pvFr fp_eX0_run_3_3_1_x_2_6 M M25_ := pvfr_t g28_ f15_ fp_eX0_run_3_3_1_x_2_6_fp_eX0_run_3_6_0_x_3_6
  have b30_ : 0 ≤ Int32.toInt (M25_.1 3 1) ∧ Int32.toInt (M25_.1 3 1) ≤ 999 := (by have u0 := b16_; have u1 := d21_; have u2 := pvok_r o27_ 3 1 (lo := 0) (hi := 1000000) rfl; omega)
  have u31_ : Int32.toInt 6 = 6 := by decide
  have u32_ : Int32.toInt 0 = 0 := by decide
  have u33_ : Int32.toInt (2 + 1) = 3 := by decide
  obtain ⟨b34_, d35_⟩ := b26_
  subst d35_
  have e36_ : ((n3 + (M11_.1 3 4)) ^^^ (M11_.1 3 3)) = ((n3 + (M.1 3 4)) ^^^ (M.1 3 3)) := (show ((n3 + (M11_.1 3 4)) ^^^ (M11_.1 3 3)) = ((n3 + (M.1 3 4)) ^^^ (M.1 3 3)) from by rw [(g14_ 3 4 rfl), (g14_ 3 3 rfl)])
  refine pw_eqI e36_ ?_
  refine pw_blk hT 2 (S' := (151, [some (pvR 3), some (pvI 3), some (pvI 1), some (pvI n3), some (pvI 2), some (pvI 11), some (pvI (2 + 1))], [pvI (M25_.1 3 3), pvI ((n3 + (M.1 3 4)) ^^^ (M.1 3 3))], M25_)) rfl ⟨trivial, rfl, trivial⟩ ?_
  have e37_ : (M25_.1 3 3) = (M.1 3 3) := ((g28_ 3 3 rfl).trans (g14_ 3 3 rfl))
  refine pw_eqI e37_ ?_
  refine pw_blk hT 1 (S' := (152, [some (pvR 3), some (pvI 3), some (pvI 1), some (pvI n3), some (pvI 2), some (pvI 11), some (pvI (2 + 1))], [pvI (((n3 + (M.1 3 4)) ^^^ (M.1 3 3)) - (M.1 3 3))], M25_)) rfl ⟨trivial, trivial⟩ ?_
  exact pw_ret hT rfl (r := some (pvI (((n3 + (M.1 3 4)) ^^^ (M.1 3 3)) - (M.1 3 3)))) (M' := M25_) ⟨rfl, rfl⟩ ⟨⟨_, rfl, trivial, rfl⟩, o27_, f29_, (by omega), (zTr_c (pvok_r hok 3 1 rfl).1 (zTr_c0 (pvok_r hok 3 1 rfl).1 (zTr_0 3 1 4 M) d8_) d22_)⟩
def fpL_eX0_run_3_3_0_x_2_6 : List (Nat × Nat × Nat) := [(0, 3, 2), (0, 4, 0)]
def fp_eX0_run_3_3_0_x_2_6 (q k : Nat) : Bool := pvfp fpL_eX0_run_3_3_0_x_2_6 q k
theorem fp_eX0_run_3_3_0_x_2_6_fp_eX0_note_3_x (a b : Nat) (h : fp_eX0_note_3_x a b = true) : fp_eX0_run_3_3_0_x_2_6 a b = true := pvfp_sub (l1 := fpL_eX0_note_3_x) (l2 := fpL_eX0_run_3_3_0_x_2_6) (by decide) a b h
set_option maxHeartbeats 4000000 in
set_option maxRecDepth 10000 in
theorem se_X0_run_3_3_0_x_2_6 (M : pvM) (hok : pvOk M) (n3 : Int32) (hc3_1 : 0 ≤ Int32.toInt (M.1 3 1) ∧ Int32.toInt (M.1 3 1) ≤ 998) (hc3_2 : 6 ≤ Int32.toInt (M.1 3 2) ∧ Int32.toInt (M.1 3 2) ≤ 6) (d : Nat) : PW 4 d (0, [some (pvR 3), some (pvI 3), some (pvI 0), some (pvI n3), some (pvI 2), none, none], [], M) (fun r X => (∃ x : Int32, r = some (pvI x) ∧ True ∧ x = (n3 + (M.1 3 4))) ∧ pvOk X ∧ pvFr fp_eX0_run_3_3_0_x_2_6 M X ∧ Int32.toInt (X.1 3 1) ≤ Int32.toInt (M.1 3 1) + 1 ∧ zTr 3 1 4 ([10] : List Int32) M X) := by
  have hT : pvdom 4 = pvD_4 := rfl
  refine pw_blk hT 2 (S' := (4, [some (pvR 3), some (pvI 3), some (pvI 0), some (pvI n3), some (pvI 2), none, none], [pvI 40, pvI 2], M)) rfl ⟨trivial, trivial, trivial⟩ ?_
  refine pw_ic hT (c := 2 ≤ 40) rfl rfl (fun c1_ => ?_) (fun c1_ => absurd (by decide) c1_)
  refine pw_blk hT 2 (S' := (11, [some (pvR 3), some (pvI 3), some (pvI 0), some (pvI n3), some (pvI 2), none, none], [pvI 0, pvI 3], M)) rfl ⟨trivial, trivial, trivial⟩ ?_
  refine pw_callT hT (as := [pvI 3, pvI 0]) (lo1 := [some (pvI 3), some (pvI 0), none, none, none]) (d1 := d) (rest := []) rfl rfl rfl rfl rfl (fun h => absurd h (by decide)) (Nat.zero_le _) rfl rfl rfl (sf_X0_bodyFrom_3_0 M hok d) ?_
  refine pw_eqI (show ((pvstab 1041).getD (Int32.toNatClampNeg ((0 * 3) + 0)) 0) = 10 from by decide) ?_
  show PW 4 d (14, [some (pvR 3), some (pvI 3), some (pvI 0), some (pvI n3), some (pvI 2), none, none], [pvI 10], M) _
  refine pw_blk hT 7 (S' := (25, [some (pvR 3), some (pvI 3), some (pvI 0), some (pvI n3), some (pvI 2), some (pvI 10), some (pvI (2 + 1))], [pvI 10, pvR 3], M)) rfl ⟨trivial, trivial, trivial, trivial, trivial, trivial, trivial, trivial⟩ ?_
  refine pw_callVd hT (as := [pvR 3, pvI 10]) (lo1 := [some (pvR 3), some (pvI 10)]) (d1 := d) (rest := []) rfl rfl rfl rfl rfl (fun _ => rfl) (Nat.zero_le _) rfl rfl rfl (se_X0_note_3_x M hok 10 (zr_wide (show 10 ≤ Int32.toInt 10 ∧ Int32.toInt 10 ≤ 10 from (by decide)) (by decide) (by decide)) (zr_wide hc3_1 (by decide) (by decide)) d) (fun M11_ o13_ g14_ d9_ => ?_)
  have d7_ := d9_.1
  have d8_ := d9_.2
  have f15_ : pvFr fp_eX0_run_3_3_0_x_2_6 M M11_ := pvfr_t g14_ pvfr_0 fp_eX0_run_3_3_0_x_2_6_fp_eX0_note_3_x
  have b16_ : 0 ≤ Int32.toInt (M11_.1 3 1) ∧ Int32.toInt (M11_.1 3 1) ≤ 999 := (by have u0 := hc3_1; have u1 := d7_; have u2 := pvok_r o13_ 3 1 (lo := 0) (hi := 1000000) rfl; omega)
  refine pw_blk hT 1 (S' := (30, [some (pvR 3), some (pvI 3), some (pvI 0), some (pvI n3), some (pvI 2), some (pvI 10), some (pvI (2 + 1))], [pvI 10], M11_)) rfl ⟨trivial, trivial⟩ ?_
  refine pw_sw hT rfl rfl ?_
  refine And.intro (fun c17_ => ?_) (fun c17_ => absurd (by decide) c17_)
  show PW 4 d (128, [some (pvR 3), some (pvI 3), some (pvI 0), some (pvI n3), some (pvI 2), some (pvI 10), some (pvI (2 + 1))], [], M11_) _
  refine pw_blk hT 3 (S' := (133, [some (pvR 3), some (pvI 3), some (pvI 0), some (pvI n3), some (pvI 2), some (pvI 10), some (pvI (2 + 1))], [pvI (M11_.1 3 4), pvI n3], M11_)) rfl ⟨trivial, trivial, rfl, trivial⟩ ?_
  have e18_ : (M11_.1 3 4) = (M.1 3 4) := (g14_ 3 4 rfl)
  refine pw_eqI e18_ ?_
  refine pw_blk hT 1 (S' := (134, [some (pvR 3), some (pvI 3), some (pvI 0), some (pvI n3), some (pvI 2), some (pvI 10), some (pvI (2 + 1))], [pvI (n3 + (M.1 3 4))], M11_)) rfl ⟨trivial, trivial⟩ ?_
  exact pw_ret hT rfl (r := some (pvI (n3 + (M.1 3 4)))) (M' := M11_) ⟨rfl, rfl⟩ ⟨⟨_, rfl, trivial, rfl⟩, o13_, f15_, (by omega), (zTr_c0 (pvok_r hok 3 1 rfl).1 (zTr_0 3 1 4 M) d8_)⟩
def fpL_eX0_run_3_6_1_x_1_6 : List (Nat × Nat × Nat) := [(0, 3, 2), (0, 4, 0)]
def fp_eX0_run_3_6_1_x_1_6 (q k : Nat) : Bool := pvfp fpL_eX0_run_3_6_1_x_1_6 q k
theorem fp_eX0_run_3_6_1_x_1_6_fp_eX0_note_3_x (a b : Nat) (h : fp_eX0_note_3_x a b = true) : fp_eX0_run_3_6_1_x_1_6 a b = true := pvfp_sub (l1 := fpL_eX0_note_3_x) (l2 := fpL_eX0_run_3_6_1_x_1_6) (by decide) a b h
theorem fp_eX0_run_3_6_1_x_1_6_fp_eX0_run_3_3_0_x_2_6 (a b : Nat) (h : fp_eX0_run_3_3_0_x_2_6 a b = true) : fp_eX0_run_3_6_1_x_1_6 a b = true := pvfp_sub (l1 := fpL_eX0_run_3_3_0_x_2_6) (l2 := fpL_eX0_run_3_6_1_x_1_6) (by decide) a b h
theorem fp_eX0_run_3_6_1_x_1_6_fp_eX0_run_3_3_1_x_2_6 (a b : Nat) (h : fp_eX0_run_3_3_1_x_2_6 a b = true) : fp_eX0_run_3_6_1_x_1_6 a b = true := pvfp_sub (l1 := fpL_eX0_run_3_3_1_x_2_6) (l2 := fpL_eX0_run_3_6_1_x_1_6) (by decide) a b h
set_option maxHeartbeats 4000000 in
set_option maxRecDepth 10000 in
theorem se_X0_run_3_6_1_x_1_6 (M : pvM) (hok : pvOk M) (n3 : Int32) (hc3_1 : 0 ≤ Int32.toInt (M.1 3 1) ∧ Int32.toInt (M.1 3 1) ≤ 994) (hc3_2 : 6 ≤ Int32.toInt (M.1 3 2) ∧ Int32.toInt (M.1 3 2) ≤ 6) (d : Nat) (hd : 3 ≤ d) : PW 4 d (0, [some (pvR 3), some (pvI 6), some (pvI 1), some (pvI n3), some (pvI 1), none, none], [], M) (fun r X => (∃ x : Int32, r = some (pvI x) ∧ True ∧ x = ((((n3 + (M.1 3 4)) ^^^ (M.1 3 3)) - (M.1 3 3)) + (2 + (M.1 3 4)))) ∧ pvOk X ∧ pvFr fp_eX0_run_3_6_1_x_1_6 M X ∧ Int32.toInt (X.1 3 1) ≤ Int32.toInt (M.1 3 1) + 5 ∧ zTr 3 1 4 (([70] : List Int32) ++ (([11] : List Int32) ++ (([71] : List Int32) ++ ([10] : List Int32))) ++ ([10] : List Int32)) M X) := by
  have hT : pvdom 4 = pvD_4 := rfl
  refine pw_blk hT 2 (S' := (4, [some (pvR 3), some (pvI 6), some (pvI 1), some (pvI n3), some (pvI 1), none, none], [pvI 40, pvI 1], M)) rfl ⟨trivial, trivial, trivial⟩ ?_
  refine pw_ic hT (c := 1 ≤ 40) rfl rfl (fun c1_ => ?_) (fun c1_ => absurd (by decide) c1_)
  refine pw_blk hT 2 (S' := (11, [some (pvR 3), some (pvI 6), some (pvI 1), some (pvI n3), some (pvI 1), none, none], [pvI 1, pvI 6], M)) rfl ⟨trivial, trivial, trivial⟩ ?_
  refine pw_callT hT (as := [pvI 6, pvI 1]) (lo1 := [some (pvI 6), some (pvI 1), none, none, none]) (d1 := d) (rest := []) rfl rfl rfl rfl rfl (fun h => absurd h (by decide)) (Nat.zero_le _) rfl rfl rfl (sf_X0_bodyFrom_6_1 M hok d) ?_
  refine pw_eqI (show ((pvstab 1041).getD (Int32.toNatClampNeg ((6 * 3) + 1)) 0) = 70 from by decide) ?_
  show PW 4 d (14, [some (pvR 3), some (pvI 6), some (pvI 1), some (pvI n3), some (pvI 1), none, none], [pvI 70], M) _
  refine pw_blk hT 7 (S' := (25, [some (pvR 3), some (pvI 6), some (pvI 1), some (pvI n3), some (pvI 1), some (pvI 70), some (pvI (1 + 1))], [pvI 70, pvR 3], M)) rfl ⟨trivial, trivial, trivial, trivial, trivial, trivial, trivial, trivial⟩ ?_
  refine pw_callVd hT (as := [pvR 3, pvI 70]) (lo1 := [some (pvR 3), some (pvI 70)]) (d1 := d) (rest := []) rfl rfl rfl rfl rfl (fun _ => rfl) (Nat.zero_le _) rfl rfl rfl (se_X0_note_3_x M hok 70 (zr_wide (show 70 ≤ Int32.toInt 70 ∧ Int32.toInt 70 ≤ 70 from (by decide)) (by decide) (by decide)) (zr_wide hc3_1 (by decide) (by decide)) d) (fun M11_ o13_ g14_ d9_ => ?_)
  have d7_ := d9_.1
  have d8_ := d9_.2
  have f15_ : pvFr fp_eX0_run_3_6_1_x_1_6 M M11_ := pvfr_t g14_ pvfr_0 fp_eX0_run_3_6_1_x_1_6_fp_eX0_note_3_x
  have b16_ : 0 ≤ Int32.toInt (M11_.1 3 1) ∧ Int32.toInt (M11_.1 3 1) ≤ 995 := (by have u0 := hc3_1; have u1 := d7_; have u2 := pvok_r o13_ 3 1 (lo := 0) (hi := 1000000) rfl; omega)
  refine pw_blk hT 1 (S' := (30, [some (pvR 3), some (pvI 6), some (pvI 1), some (pvI n3), some (pvI 1), some (pvI 70), some (pvI (1 + 1))], [pvI 70], M11_)) rfl ⟨trivial, trivial⟩ ?_
  refine pw_sw hT rfl rfl ?_
  refine And.intro (fun c17_ => absurd c17_ (by decide)) (fun c17_ => ?_)
  refine And.intro (fun c18_ => absurd c18_ (by decide)) (fun c18_ => ?_)
  refine And.intro (fun c19_ => absurd c19_ (by decide)) (fun c19_ => ?_)
  refine And.intro (fun c20_ => absurd c20_ (by decide)) (fun c20_ => ?_)
  refine And.intro (fun c21_ => absurd c21_ (by decide)) (fun c21_ => ?_)
  refine And.intro (fun c22_ => absurd c22_ (by decide)) (fun c22_ => ?_)
  refine And.intro (fun c23_ => absurd c23_ (by decide)) (fun c23_ => ?_)
  refine And.intro (fun c24_ => absurd c24_ (by decide)) (fun c24_ => ?_)
  refine And.intro (fun c25_ => absurd c25_ (by decide)) (fun c25_ => ?_)
  refine And.intro (fun c26_ => ?_) (fun c26_ => absurd (by decide) c26_)
  show PW 4 d (254, [some (pvR 3), some (pvI 6), some (pvI 1), some (pvI n3), some (pvI 1), some (pvI 70), some (pvI (1 + 1))], [], M11_) _
  refine pw_blk hT 5 (S' := (260, [some (pvR 3), some (pvI 6), some (pvI 1), some (pvI n3), some (pvI 1), some (pvI 70), some (pvI (1 + 1))], [pvI (1 + 1), pvI n3, pvI 1, pvI 3, pvR 3], M11_)) rfl ⟨trivial, trivial, trivial, trivial, trivial, trivial⟩ ?_
  have e27_ : (M11_.1 3 2) = (M.1 3 2) := (g14_ 3 2 rfl)
  have b28_ : 6 ≤ Int32.toInt (M11_.1 3 2) ∧ Int32.toInt (M11_.1 3 2) ≤ 6 := (by rw [e27_]; exact hc3_2)
  refine pw_callGd hT (as := [pvR 3, pvI 3, pvI 1, pvI n3, pvI (1 + 1)]) (lo1 := [some (pvR 3), some (pvI 3), some (pvI 1), some (pvI n3), some (pvI (1 + 1)), none, none]) (d1 := (d - 1)) (rest := []) rfl rfl rfl rfl rfl (fun h => absurd h (by decide)) (show 1 ≤ d by omega) rfl rfl rfl (se_X0_run_3_3_1_x_2_6 M11_ o13_ n3 (zr_wide b16_ (by decide) (by decide)) b28_ (d - 1) (by omega)) (fun x32_ M33_ b34_ o35_ g36_ d31_ => ?_)
  have d29_ := d31_.1
  have d30_ := d31_.2
  have f37_ : pvFr fp_eX0_run_3_6_1_x_1_6 M M33_ := pvfr_t g36_ f15_ fp_eX0_run_3_6_1_x_1_6_fp_eX0_run_3_3_1_x_2_6
  have b38_ : 0 ≤ Int32.toInt (M33_.1 3 1) ∧ Int32.toInt (M33_.1 3 1) ≤ 998 := (by have u0 := b16_; have u1 := d29_; have u2 := pvok_r o35_ 3 1 (lo := 0) (hi := 1000000) rfl; omega)
  have u39_ : Int32.toInt 3 = 3 := by decide
  have u40_ : Int32.toInt 1 = 1 := by decide
  have u41_ : Int32.toInt (1 + 1) = 2 := by decide
  obtain ⟨b42_, d43_⟩ := b34_
  subst d43_
  have e44_ : (((n3 + (M11_.1 3 4)) ^^^ (M11_.1 3 3)) - (M11_.1 3 3)) = (((n3 + (M.1 3 4)) ^^^ (M.1 3 3)) - (M.1 3 3)) := (show (((n3 + (M11_.1 3 4)) ^^^ (M11_.1 3 3)) - (M11_.1 3 3)) = (((n3 + (M.1 3 4)) ^^^ (M.1 3 3)) - (M.1 3 3)) from by rw [(g14_ 3 4 rfl), (g14_ 3 3 rfl)])
  refine pw_eqI e44_ ?_
  refine pw_blk hT 5 (S' := (269, [some (pvR 3), some (pvI 6), some (pvI 1), some (pvI n3), some (pvI 1), some (pvI 70), some (pvI (1 + 1))], [pvI (1 + 1), pvI 2, pvI 0, pvI 3, pvR 3, pvI (((n3 + (M.1 3 4)) ^^^ (M.1 3 3)) - (M.1 3 3))], M33_)) rfl ⟨trivial, trivial, trivial, trivial, trivial, trivial⟩ ?_
  have e45_ : (M33_.1 3 2) = (M11_.1 3 2) := (g36_ 3 2 rfl)
  have b46_ : 6 ≤ Int32.toInt (M33_.1 3 2) ∧ Int32.toInt (M33_.1 3 2) ≤ 6 := (by rw [e45_]; exact b28_)
  refine pw_callGd hT (as := [pvR 3, pvI 3, pvI 0, pvI 2, pvI (1 + 1)]) (lo1 := [some (pvR 3), some (pvI 3), some (pvI 0), some (pvI 2), some (pvI (1 + 1)), none, none]) (d1 := (d - 1)) (rest := [pvI (((n3 + (M.1 3 4)) ^^^ (M.1 3 3)) - (M.1 3 3))]) rfl rfl rfl rfl rfl (fun h => absurd h (by decide)) (show 1 ≤ d by omega) rfl rfl rfl (se_X0_run_3_3_0_x_2_6 M33_ o35_ 2 b38_ b46_ (d - 1)) (fun x50_ M51_ b52_ o53_ g54_ d49_ => ?_)
  have d47_ := d49_.1
  have d48_ := d49_.2
  have f55_ : pvFr fp_eX0_run_3_6_1_x_1_6 M M51_ := pvfr_t g54_ f37_ fp_eX0_run_3_6_1_x_1_6_fp_eX0_run_3_3_0_x_2_6
  have b56_ : 0 ≤ Int32.toInt (M51_.1 3 1) ∧ Int32.toInt (M51_.1 3 1) ≤ 999 := (by have u0 := b38_; have u1 := d47_; have u2 := pvok_r o53_ 3 1 (lo := 0) (hi := 1000000) rfl; omega)
  have u57_ : Int32.toInt 0 = 0 := by decide
  have u58_ : Int32.toInt 2 = 2 := by decide
  obtain ⟨b59_, d60_⟩ := b52_
  subst d60_
  have e61_ : (2 + (M33_.1 3 4)) = (2 + (M.1 3 4)) := (show (2 + (M33_.1 3 4)) = (2 + (M.1 3 4)) from by rw [((g36_ 3 4 rfl).trans (g14_ 3 4 rfl))])
  refine pw_eqI e61_ ?_
  refine pw_blk hT 1 (S' := (273, [some (pvR 3), some (pvI 6), some (pvI 1), some (pvI n3), some (pvI 1), some (pvI 70), some (pvI (1 + 1))], [pvI ((((n3 + (M.1 3 4)) ^^^ (M.1 3 3)) - (M.1 3 3)) + (2 + (M.1 3 4)))], M51_)) rfl ⟨trivial, trivial⟩ ?_
  exact pw_ret hT rfl (r := some (pvI ((((n3 + (M.1 3 4)) ^^^ (M.1 3 3)) - (M.1 3 3)) + (2 + (M.1 3 4))))) (M' := M51_) ⟨rfl, rfl⟩ ⟨⟨_, rfl, trivial, rfl⟩, o53_, f55_, (by omega), (zTr_c (pvok_r hok 3 1 rfl).1 (zTr_c (pvok_r hok 3 1 rfl).1 (zTr_c0 (pvok_r hok 3 1 rfl).1 (zTr_0 3 1 4 M) d8_) d30_) d48_)⟩
def fpL_eX0_run_3_6_2_x_0_6 : List (Nat × Nat × Nat) := [(0, 3, 2), (0, 4, 0)]
def fp_eX0_run_3_6_2_x_0_6 (q k : Nat) : Bool := pvfp fpL_eX0_run_3_6_2_x_0_6 q k
theorem fp_eX0_run_3_6_2_x_0_6_fp_eX0_note_3_x (a b : Nat) (h : fp_eX0_note_3_x a b = true) : fp_eX0_run_3_6_2_x_0_6 a b = true := pvfp_sub (l1 := fpL_eX0_note_3_x) (l2 := fpL_eX0_run_3_6_2_x_0_6) (by decide) a b h
theorem fp_eX0_run_3_6_2_x_0_6_fp_eX0_run_3_0_2_x_1_6 (a b : Nat) (h : fp_eX0_run_3_0_2_x_1_6 a b = true) : fp_eX0_run_3_6_2_x_0_6 a b = true := pvfp_sub (l1 := fpL_eX0_run_3_0_2_x_1_6) (l2 := fpL_eX0_run_3_6_2_x_0_6) (by decide) a b h
theorem fp_eX0_run_3_6_2_x_0_6_fp_eX0_run_3_6_1_x_1_6 (a b : Nat) (h : fp_eX0_run_3_6_1_x_1_6 a b = true) : fp_eX0_run_3_6_2_x_0_6 a b = true := pvfp_sub (l1 := fpL_eX0_run_3_6_1_x_1_6) (l2 := fpL_eX0_run_3_6_2_x_0_6) (by decide) a b h
set_option maxHeartbeats 4000000 in
set_option maxRecDepth 10000 in
theorem se_X0_run_3_6_2_x_0_6 (M : pvM) (hok : pvOk M) (n3 : Int32) (hc3_1 : 0 ≤ Int32.toInt (M.1 3 1) ∧ Int32.toInt (M.1 3 1) ≤ 987) (hc3_2 : 6 ≤ Int32.toInt (M.1 3 2) ∧ Int32.toInt (M.1 3 2) ≤ 6) (d : Nat) (hd : 5 ≤ d) : PW 4 d (0, [some (pvR 3), some (pvI 6), some (pvI 2), some (pvI n3), some (pvI 0), none, none], [], M) (fun r X => (∃ x : Int32, r = some (pvI x) ∧ True ∧ x = ((((((n3 + (M.1 3 4)) ^^^ (M.1 3 3)) - (M.1 3 3)) + (2 + (M.1 3 4))) * 2) + ((((1 + (M.1 3 4)) ^^^ (M.1 3 3)) - (M.1 3 3)) + (2 + (M.1 3 4))))) ∧ pvOk X ∧ pvFr fp_eX0_run_3_6_2_x_0_6 M X ∧ Int32.toInt (X.1 3 1) ≤ Int32.toInt (M.1 3 1) + 12 ∧ zTr 3 1 4 (([40] : List Int32) ++ (([12] : List Int32) ++ (([70] : List Int32) ++ (([11] : List Int32) ++ (([71] : List Int32) ++ ([10] : List Int32))) ++ ([10] : List Int32))) ++ (([70] : List Int32) ++ (([11] : List Int32) ++ (([71] : List Int32) ++ ([10] : List Int32))) ++ ([10] : List Int32))) M X) := by
  have hT : pvdom 4 = pvD_4 := rfl
  refine pw_blk hT 2 (S' := (4, [some (pvR 3), some (pvI 6), some (pvI 2), some (pvI n3), some (pvI 0), none, none], [pvI 40, pvI 0], M)) rfl ⟨trivial, trivial, trivial⟩ ?_
  refine pw_ic hT (c := 0 ≤ 40) rfl rfl (fun c1_ => ?_) (fun c1_ => absurd (by decide) c1_)
  refine pw_blk hT 2 (S' := (11, [some (pvR 3), some (pvI 6), some (pvI 2), some (pvI n3), some (pvI 0), none, none], [pvI 2, pvI 6], M)) rfl ⟨trivial, trivial, trivial⟩ ?_
  refine pw_callT hT (as := [pvI 6, pvI 2]) (lo1 := [some (pvI 6), some (pvI 2), none, none, none]) (d1 := d) (rest := []) rfl rfl rfl rfl rfl (fun h => absurd h (by decide)) (Nat.zero_le _) rfl rfl rfl (sf_X0_bodyFrom_6_2 M hok d) ?_
  refine pw_eqI (show ((pvstab 1041).getD (Int32.toNatClampNeg ((3 * 3) + 2)) 0) = 40 from by decide) ?_
  show PW 4 d (14, [some (pvR 3), some (pvI 6), some (pvI 2), some (pvI n3), some (pvI 0), none, none], [pvI 40], M) _
  refine pw_blk hT 7 (S' := (25, [some (pvR 3), some (pvI 6), some (pvI 2), some (pvI n3), some (pvI 0), some (pvI 40), some (pvI (0 + 1))], [pvI 40, pvR 3], M)) rfl ⟨trivial, trivial, trivial, trivial, trivial, trivial, trivial, trivial⟩ ?_
  refine pw_callVd hT (as := [pvR 3, pvI 40]) (lo1 := [some (pvR 3), some (pvI 40)]) (d1 := d) (rest := []) rfl rfl rfl rfl rfl (fun _ => rfl) (Nat.zero_le _) rfl rfl rfl (se_X0_note_3_x M hok 40 (zr_wide (show 40 ≤ Int32.toInt 40 ∧ Int32.toInt 40 ≤ 40 from (by decide)) (by decide) (by decide)) (zr_wide hc3_1 (by decide) (by decide)) d) (fun M11_ o13_ g14_ d9_ => ?_)
  have d7_ := d9_.1
  have d8_ := d9_.2
  have f15_ : pvFr fp_eX0_run_3_6_2_x_0_6 M M11_ := pvfr_t g14_ pvfr_0 fp_eX0_run_3_6_2_x_0_6_fp_eX0_note_3_x
  have b16_ : 0 ≤ Int32.toInt (M11_.1 3 1) ∧ Int32.toInt (M11_.1 3 1) ≤ 988 := (by have u0 := hc3_1; have u1 := d7_; have u2 := pvok_r o13_ 3 1 (lo := 0) (hi := 1000000) rfl; omega)
  refine pw_blk hT 1 (S' := (30, [some (pvR 3), some (pvI 6), some (pvI 2), some (pvI n3), some (pvI 0), some (pvI 40), some (pvI (0 + 1))], [pvI 40], M11_)) rfl ⟨trivial, trivial⟩ ?_
  refine pw_sw hT rfl rfl ?_
  refine And.intro (fun c17_ => absurd c17_ (by decide)) (fun c17_ => ?_)
  refine And.intro (fun c18_ => absurd c18_ (by decide)) (fun c18_ => ?_)
  refine And.intro (fun c19_ => absurd c19_ (by decide)) (fun c19_ => ?_)
  refine And.intro (fun c20_ => absurd c20_ (by decide)) (fun c20_ => ?_)
  refine And.intro (fun c21_ => absurd c21_ (by decide)) (fun c21_ => ?_)
  refine And.intro (fun c22_ => ?_) (fun c22_ => absurd (by decide) c22_)
  show PW 4 d (193, [some (pvR 3), some (pvI 6), some (pvI 2), some (pvI n3), some (pvI 0), some (pvI 40), some (pvI (0 + 1))], [], M11_) _
  refine pw_blk hT 5 (S' := (199, [some (pvR 3), some (pvI 6), some (pvI 2), some (pvI n3), some (pvI 0), some (pvI 40), some (pvI (0 + 1))], [pvI (0 + 1), pvI n3, pvI 2, pvI 0, pvR 3], M11_)) rfl ⟨trivial, trivial, trivial, trivial, trivial, trivial⟩ ?_
  have e23_ : (M11_.1 3 2) = (M.1 3 2) := (g14_ 3 2 rfl)
  have b24_ : 6 ≤ Int32.toInt (M11_.1 3 2) ∧ Int32.toInt (M11_.1 3 2) ≤ 6 := (by rw [e23_]; exact hc3_2)
  refine pw_callGd hT (as := [pvR 3, pvI 0, pvI 2, pvI n3, pvI (0 + 1)]) (lo1 := [some (pvR 3), some (pvI 0), some (pvI 2), some (pvI n3), some (pvI (0 + 1)), none, none]) (d1 := (d - 1)) (rest := []) rfl rfl rfl rfl rfl (fun h => absurd h (by decide)) (show 1 ≤ d by omega) rfl rfl rfl (se_X0_run_3_0_2_x_1_6 M11_ o13_ n3 (zr_wide b16_ (by decide) (by decide)) b24_ (d - 1) (by omega)) (fun x28_ M29_ b30_ o31_ g32_ d27_ => ?_)
  have d25_ := d27_.1
  have d26_ := d27_.2
  have f33_ : pvFr fp_eX0_run_3_6_2_x_0_6 M M29_ := pvfr_t g32_ f15_ fp_eX0_run_3_6_2_x_0_6_fp_eX0_run_3_0_2_x_1_6
  have b34_ : 0 ≤ Int32.toInt (M29_.1 3 1) ∧ Int32.toInt (M29_.1 3 1) ≤ 994 := (by have u0 := b16_; have u1 := d25_; have u2 := pvok_r o31_ 3 1 (lo := 0) (hi := 1000000) rfl; omega)
  have u35_ : Int32.toInt 0 = 0 := by decide
  have u36_ : Int32.toInt 2 = 2 := by decide
  have u37_ : Int32.toInt (0 + 1) = 1 := by decide
  obtain ⟨b38_, d39_⟩ := b30_
  subst d39_
  have e40_ : (((((n3 + (M11_.1 3 4)) ^^^ (M11_.1 3 3)) - (M11_.1 3 3)) + (2 + (M11_.1 3 4))) * 2) = (((((n3 + (M.1 3 4)) ^^^ (M.1 3 3)) - (M.1 3 3)) + (2 + (M.1 3 4))) * 2) := (show (((((n3 + (M11_.1 3 4)) ^^^ (M11_.1 3 3)) - (M11_.1 3 3)) + (2 + (M11_.1 3 4))) * 2) = (((((n3 + (M.1 3 4)) ^^^ (M.1 3 3)) - (M.1 3 3)) + (2 + (M.1 3 4))) * 2) from by rw [(g14_ 3 4 rfl), (g14_ 3 3 rfl)])
  refine pw_eqI e40_ ?_
  have e41_ : (M29_.1 3 2) = (M11_.1 3 2) := (g32_ 3 2 rfl)
  have b42_ : 6 ≤ Int32.toInt (M29_.1 3 2) ∧ Int32.toInt (M29_.1 3 2) ≤ 6 := (by rw [e41_]; exact b24_)
  refine pw_blk hT 3 (S' := (207, [some (pvR 3), some (pvI 6), some (pvI 2), some (pvI n3), some (pvI 0), some (pvI 40), some (pvI (0 + 1))], [pvI (M29_.1 3 2), pvR 3, pvI (((((n3 + (M.1 3 4)) ^^^ (M.1 3 3)) - (M.1 3 3)) + (2 + (M.1 3 4))) * 2)], M29_)) rfl ⟨trivial, trivial, rfl, trivial⟩ ?_
  refine pw_eqI ((zi_eq _ (6)).mpr (by have u0 := b42_; have u1 : Int32.toInt (6) = 6 := (by decide); omega)) ?_
  refine pw_blk hT 3 (S' := (211, [some (pvR 3), some (pvI 6), some (pvI 2), some (pvI n3), some (pvI 0), some (pvI 40), some (pvI (0 + 1))], [pvI (0 + 1), pvI 1, pvI 1, pvI 6, pvR 3, pvI (((((n3 + (M.1 3 4)) ^^^ (M.1 3 3)) - (M.1 3 3)) + (2 + (M.1 3 4))) * 2)], M29_)) rfl ⟨trivial, trivial, trivial, trivial⟩ ?_
  refine pw_callGd hT (as := [pvR 3, pvI 6, pvI 1, pvI 1, pvI (0 + 1)]) (lo1 := [some (pvR 3), some (pvI 6), some (pvI 1), some (pvI 1), some (pvI (0 + 1)), none, none]) (d1 := (d - 1)) (rest := [pvI (((((n3 + (M.1 3 4)) ^^^ (M.1 3 3)) - (M.1 3 3)) + (2 + (M.1 3 4))) * 2)]) rfl rfl rfl rfl rfl (fun h => absurd h (by decide)) (show 1 ≤ d by omega) rfl rfl rfl (se_X0_run_3_6_1_x_1_6 M29_ o31_ 1 b34_ b42_ (d - 1) (by omega)) (fun x46_ M47_ b48_ o49_ g50_ d45_ => ?_)
  have d43_ := d45_.1
  have d44_ := d45_.2
  have f51_ : pvFr fp_eX0_run_3_6_2_x_0_6 M M47_ := pvfr_t g50_ f33_ fp_eX0_run_3_6_2_x_0_6_fp_eX0_run_3_6_1_x_1_6
  have b52_ : 0 ≤ Int32.toInt (M47_.1 3 1) ∧ Int32.toInt (M47_.1 3 1) ≤ 999 := (by have u0 := b34_; have u1 := d43_; have u2 := pvok_r o49_ 3 1 (lo := 0) (hi := 1000000) rfl; omega)
  have u53_ : Int32.toInt 6 = 6 := by decide
  have u54_ : Int32.toInt 1 = 1 := by decide
  obtain ⟨b55_, d56_⟩ := b48_
  subst d56_
  have e57_ : ((((1 + (M29_.1 3 4)) ^^^ (M29_.1 3 3)) - (M29_.1 3 3)) + (2 + (M29_.1 3 4))) = ((((1 + (M.1 3 4)) ^^^ (M.1 3 3)) - (M.1 3 3)) + (2 + (M.1 3 4))) := (show ((((1 + (M29_.1 3 4)) ^^^ (M29_.1 3 3)) - (M29_.1 3 3)) + (2 + (M29_.1 3 4))) = ((((1 + (M.1 3 4)) ^^^ (M.1 3 3)) - (M.1 3 3)) + (2 + (M.1 3 4))) from by rw [((g32_ 3 4 rfl).trans (g14_ 3 4 rfl)), ((g32_ 3 3 rfl).trans (g14_ 3 3 rfl))])
  refine pw_eqI e57_ ?_
  refine pw_blk hT 1 (S' := (215, [some (pvR 3), some (pvI 6), some (pvI 2), some (pvI n3), some (pvI 0), some (pvI 40), some (pvI (0 + 1))], [pvI ((((((n3 + (M.1 3 4)) ^^^ (M.1 3 3)) - (M.1 3 3)) + (2 + (M.1 3 4))) * 2) + ((((1 + (M.1 3 4)) ^^^ (M.1 3 3)) - (M.1 3 3)) + (2 + (M.1 3 4))))], M47_)) rfl ⟨trivial, trivial⟩ ?_
  exact pw_ret hT rfl (r := some (pvI ((((((n3 + (M.1 3 4)) ^^^ (M.1 3 3)) - (M.1 3 3)) + (2 + (M.1 3 4))) * 2) + ((((1 + (M.1 3 4)) ^^^ (M.1 3 3)) - (M.1 3 3)) + (2 + (M.1 3 4)))))) (M' := M47_) ⟨rfl, rfl⟩ ⟨⟨_, rfl, trivial, rfl⟩, o49_, f51_, (by omega), (zTr_c (pvok_r hok 3 1 rfl).1 (zTr_c (pvok_r hok 3 1 rfl).1 (zTr_c0 (pvok_r hok 3 1 rfl).1 (zTr_0 3 1 4 M) d8_) d26_) d44_)⟩
def fpL_eX0_perform_3_x_x_x_x : List (Nat × Nat × Nat) := [(0, 3, 2), (0, 3, 3), (0, 3, 4), (0, 3, 5), (0, 4, 0)]
def fp_eX0_perform_3_x_x_x_x (q k : Nat) : Bool := pvfp fpL_eX0_perform_3_x_x_x_x q k
theorem fp_eX0_perform_3_x_x_x_x_fp_eX0_run_3_0_0_x_0_0 (a b : Nat) (h : fp_eX0_run_3_0_0_x_0_0 a b = true) : fp_eX0_perform_3_x_x_x_x a b = true := pvfp_sub (l1 := fpL_eX0_run_3_0_0_x_0_0) (l2 := fpL_eX0_perform_3_x_x_x_x) (by decide) a b h
theorem fp_eX0_perform_3_x_x_x_x_fp_eX0_run_3_0_1_x_0_0 (a b : Nat) (h : fp_eX0_run_3_0_1_x_0_0 a b = true) : fp_eX0_perform_3_x_x_x_x a b = true := pvfp_sub (l1 := fpL_eX0_run_3_0_1_x_0_0) (l2 := fpL_eX0_perform_3_x_x_x_x) (by decide) a b h
theorem fp_eX0_perform_3_x_x_x_x_fp_eX0_run_3_0_2_x_0_0 (a b : Nat) (h : fp_eX0_run_3_0_2_x_0_0 a b = true) : fp_eX0_perform_3_x_x_x_x a b = true := pvfp_sub (l1 := fpL_eX0_run_3_0_2_x_0_0) (l2 := fpL_eX0_perform_3_x_x_x_x) (by decide) a b h
theorem fp_eX0_perform_3_x_x_x_x_fp_eX0_run_3_1_0_x_0_1 (a b : Nat) (h : fp_eX0_run_3_1_0_x_0_1 a b = true) : fp_eX0_perform_3_x_x_x_x a b = true := pvfp_sub (l1 := fpL_eX0_run_3_1_0_x_0_1) (l2 := fpL_eX0_perform_3_x_x_x_x) (by decide) a b h
theorem fp_eX0_perform_3_x_x_x_x_fp_eX0_run_3_1_1_x_0_1 (a b : Nat) (h : fp_eX0_run_3_1_1_x_0_1 a b = true) : fp_eX0_perform_3_x_x_x_x a b = true := pvfp_sub (l1 := fpL_eX0_run_3_1_1_x_0_1) (l2 := fpL_eX0_perform_3_x_x_x_x) (by decide) a b h
theorem fp_eX0_perform_3_x_x_x_x_fp_eX0_run_3_1_2_x_0_1 (a b : Nat) (h : fp_eX0_run_3_1_2_x_0_1 a b = true) : fp_eX0_perform_3_x_x_x_x a b = true := pvfp_sub (l1 := fpL_eX0_run_3_1_2_x_0_1) (l2 := fpL_eX0_perform_3_x_x_x_x) (by decide) a b h
theorem fp_eX0_perform_3_x_x_x_x_fp_eX0_run_3_2_0_x_0_2 (a b : Nat) (h : fp_eX0_run_3_2_0_x_0_2 a b = true) : fp_eX0_perform_3_x_x_x_x a b = true := pvfp_sub (l1 := fpL_eX0_run_3_2_0_x_0_2) (l2 := fpL_eX0_perform_3_x_x_x_x) (by decide) a b h
theorem fp_eX0_perform_3_x_x_x_x_fp_eX0_run_3_2_1_x_0_2 (a b : Nat) (h : fp_eX0_run_3_2_1_x_0_2 a b = true) : fp_eX0_perform_3_x_x_x_x a b = true := pvfp_sub (l1 := fpL_eX0_run_3_2_1_x_0_2) (l2 := fpL_eX0_perform_3_x_x_x_x) (by decide) a b h
theorem fp_eX0_perform_3_x_x_x_x_fp_eX0_run_3_2_2_x_0_2 (a b : Nat) (h : fp_eX0_run_3_2_2_x_0_2 a b = true) : fp_eX0_perform_3_x_x_x_x a b = true := pvfp_sub (l1 := fpL_eX0_run_3_2_2_x_0_2) (l2 := fpL_eX0_perform_3_x_x_x_x) (by decide) a b h
theorem fp_eX0_perform_3_x_x_x_x_fp_eX0_run_3_3_0_x_0_3 (a b : Nat) (h : fp_eX0_run_3_3_0_x_0_3 a b = true) : fp_eX0_perform_3_x_x_x_x a b = true := pvfp_sub (l1 := fpL_eX0_run_3_3_0_x_0_3) (l2 := fpL_eX0_perform_3_x_x_x_x) (by decide) a b h
theorem fp_eX0_perform_3_x_x_x_x_fp_eX0_run_3_3_1_x_0_3 (a b : Nat) (h : fp_eX0_run_3_3_1_x_0_3 a b = true) : fp_eX0_perform_3_x_x_x_x a b = true := pvfp_sub (l1 := fpL_eX0_run_3_3_1_x_0_3) (l2 := fpL_eX0_perform_3_x_x_x_x) (by decide) a b h
theorem fp_eX0_perform_3_x_x_x_x_fp_eX0_run_3_3_2_x_0_3 (a b : Nat) (h : fp_eX0_run_3_3_2_x_0_3 a b = true) : fp_eX0_perform_3_x_x_x_x a b = true := pvfp_sub (l1 := fpL_eX0_run_3_3_2_x_0_3) (l2 := fpL_eX0_perform_3_x_x_x_x) (by decide) a b h
theorem fp_eX0_perform_3_x_x_x_x_fp_eX0_run_3_4_0_x_0_4 (a b : Nat) (h : fp_eX0_run_3_4_0_x_0_4 a b = true) : fp_eX0_perform_3_x_x_x_x a b = true := pvfp_sub (l1 := fpL_eX0_run_3_4_0_x_0_4) (l2 := fpL_eX0_perform_3_x_x_x_x) (by decide) a b h
theorem fp_eX0_perform_3_x_x_x_x_fp_eX0_run_3_4_1_x_0_4 (a b : Nat) (h : fp_eX0_run_3_4_1_x_0_4 a b = true) : fp_eX0_perform_3_x_x_x_x a b = true := pvfp_sub (l1 := fpL_eX0_run_3_4_1_x_0_4) (l2 := fpL_eX0_perform_3_x_x_x_x) (by decide) a b h
theorem fp_eX0_perform_3_x_x_x_x_fp_eX0_run_3_4_2_x_0_4 (a b : Nat) (h : fp_eX0_run_3_4_2_x_0_4 a b = true) : fp_eX0_perform_3_x_x_x_x a b = true := pvfp_sub (l1 := fpL_eX0_run_3_4_2_x_0_4) (l2 := fpL_eX0_perform_3_x_x_x_x) (by decide) a b h
theorem fp_eX0_perform_3_x_x_x_x_fp_eX0_run_3_5_0_x_0_5 (a b : Nat) (h : fp_eX0_run_3_5_0_x_0_5 a b = true) : fp_eX0_perform_3_x_x_x_x a b = true := pvfp_sub (l1 := fpL_eX0_run_3_5_0_x_0_5) (l2 := fpL_eX0_perform_3_x_x_x_x) (by decide) a b h
theorem fp_eX0_perform_3_x_x_x_x_fp_eX0_run_3_5_1_x_0_5 (a b : Nat) (h : fp_eX0_run_3_5_1_x_0_5 a b = true) : fp_eX0_perform_3_x_x_x_x a b = true := pvfp_sub (l1 := fpL_eX0_run_3_5_1_x_0_5) (l2 := fpL_eX0_perform_3_x_x_x_x) (by decide) a b h
theorem fp_eX0_perform_3_x_x_x_x_fp_eX0_run_3_5_2_x_0_5 (a b : Nat) (h : fp_eX0_run_3_5_2_x_0_5 a b = true) : fp_eX0_perform_3_x_x_x_x a b = true := pvfp_sub (l1 := fpL_eX0_run_3_5_2_x_0_5) (l2 := fpL_eX0_perform_3_x_x_x_x) (by decide) a b h
theorem fp_eX0_perform_3_x_x_x_x_fp_eX0_run_3_6_0_x_0_6 (a b : Nat) (h : fp_eX0_run_3_6_0_x_0_6 a b = true) : fp_eX0_perform_3_x_x_x_x a b = true := pvfp_sub (l1 := fpL_eX0_run_3_6_0_x_0_6) (l2 := fpL_eX0_perform_3_x_x_x_x) (by decide) a b h
theorem fp_eX0_perform_3_x_x_x_x_fp_eX0_run_3_6_1_x_0_6 (a b : Nat) (h : fp_eX0_run_3_6_1_x_0_6 a b = true) : fp_eX0_perform_3_x_x_x_x a b = true := pvfp_sub (l1 := fpL_eX0_run_3_6_1_x_0_6) (l2 := fpL_eX0_perform_3_x_x_x_x) (by decide) a b h
theorem fp_eX0_perform_3_x_x_x_x_fp_eX0_run_3_6_2_x_0_6 (a b : Nat) (h : fp_eX0_run_3_6_2_x_0_6 a b = true) : fp_eX0_perform_3_x_x_x_x a b = true := pvfp_sub (l1 := fpL_eX0_run_3_6_2_x_0_6) (l2 := fpL_eX0_perform_3_x_x_x_x) (by decide) a b h
set_option maxHeartbeats 4000000 in
set_option maxRecDepth 10000 in
theorem se_X0_perform_3_x_x_x_x (M : pvM) (hok : pvOk M) (q1 : Nat) (n2 : Int32) (n3 : Int32) (n4 : Int32) (hq1 : pvkl q1 = 3) (hn2 : 0 ≤ Int32.toInt n2 ∧ Int32.toInt n2 ≤ 6) (hn3 : 0 ≤ Int32.toInt n3 ∧ Int32.toInt n3 ≤ 2) (d : Nat) (hd : 5 ≤ d) : PW 3 d (0, [some (pvR 3), some (pvR q1), some (pvI n2), some (pvI n3), some (pvI n4)], [], M) (fun r X => (∃ x : Int32, r = some (pvI x) ∧ True ∧ x = (if (M.1 q1 0) = 0 then (if n3 = 0 then (n4 + n2) else (if n3 = 1 then ((n4 + n2) - (M.1 q1 1)) else (((n4 + n2) - (M.1 q1 1)) * 2))) else (if (M.1 q1 0) = 1 then (if n3 = 0 then (n4 + n2) else (if n3 = 1 then (((n4 + n2) - (M.1 q1 1)) ^^^ 6) else ((((n4 + n2) - (M.1 q1 1)) ^^^ 6) * 2))) else (if (M.1 q1 0) = 2 then (if n3 = 0 then ((n4 * 3) + n2) else (if n3 = 1 then (((n4 * 3) + n2) - (M.1 q1 1)) else ((((n4 * 3) + n2) - (M.1 q1 1)) * 2))) else (if (M.1 q1 0) = 3 then (if n3 = 0 then (n4 + n2) else (if n3 = 1 then ((n4 + n2) - (M.1 q1 1)) else ((((n4 + n2) - (M.1 q1 1)) * 2) + ((1 + n2) - (M.1 q1 1))))) else (if (M.1 q1 0) = 4 then (if n3 = 0 then (-(n4 + n2)) else (if n3 = 1 then (((-((n4 + 1) + n2)) - (M.1 q1 1)) ^^^ 6) else ((((-((n4 + 1) + n2)) - (M.1 q1 1)) ^^^ 6) * 2))) else (if (M.1 q1 0) = 5 then (if n3 = 0 then ((n4 * 3) + n2) else (if n3 = 1 then (((n4 * 3) + n2) - (M.1 q1 1)) else (((((n4 - n2) * 3) + n2) - (M.1 q1 1)) * 2))) else (if n3 = 0 then ((n4 + n2) ^^^ (M.1 q1 1)) else (if n3 = 1 then ((((n4 + n2) ^^^ (M.1 q1 1)) - (M.1 q1 1)) + (2 + n2)) else ((((((n4 + n2) ^^^ (M.1 q1 1)) - (M.1 q1 1)) + (2 + n2)) * 2) + ((((1 + n2) ^^^ (M.1 q1 1)) - (M.1 q1 1)) + (2 + n2)))))))))))) ∧ pvOk X ∧ pvFr fp_eX0_perform_3_x_x_x_x M X ∧ zTs 3 1 4 (if (M.1 q1 0) = 0 then (if n3 = 0 then ([10] : List Int32) else (if n3 = 1 then (([11] : List Int32) ++ ([10] : List Int32)) else (([12] : List Int32) ++ (([11] : List Int32) ++ ([10] : List Int32))))) else (if (M.1 q1 0) = 1 then (if n3 = 0 then ([10] : List Int32) else (if n3 = 1 then (([20] : List Int32) ++ (([11] : List Int32) ++ ([10] : List Int32))) else (([12] : List Int32) ++ (([20] : List Int32) ++ (([11] : List Int32) ++ ([10] : List Int32)))))) else (if (M.1 q1 0) = 2 then (if n3 = 0 then (([30] : List Int32) ++ ([10] : List Int32)) else (if n3 = 1 then (([11] : List Int32) ++ (([30] : List Int32) ++ ([10] : List Int32))) else (([12] : List Int32) ++ (([11] : List Int32) ++ (([30] : List Int32) ++ ([10] : List Int32)))))) else (if (M.1 q1 0) = 3 then (if n3 = 0 then ([10] : List Int32) else (if n3 = 1 then (([11] : List Int32) ++ ([10] : List Int32)) else (([40] : List Int32) ++ (([12] : List Int32) ++ (([11] : List Int32) ++ ([10] : List Int32))) ++ (([11] : List Int32) ++ ([10] : List Int32))))) else (if (M.1 q1 0) = 4 then (if n3 = 0 then (([50] : List Int32) ++ ([10] : List Int32)) else (if n3 = 1 then (([51] : List Int32) ++ (([20] : List Int32) ++ (([11] : List Int32) ++ (([50] : List Int32) ++ ([10] : List Int32))))) else (([12] : List Int32) ++ (([51] : List Int32) ++ (([20] : List Int32) ++ (([11] : List Int32) ++ (([50] : List Int32) ++ ([10] : List Int32)))))))) else (if (M.1 q1 0) = 5 then (if n3 = 0 then (([30] : List Int32) ++ ([10] : List Int32)) else (if n3 = 1 then (([11] : List Int32) ++ (([30] : List Int32) ++ ([10] : List Int32))) else (([60] : List Int32) ++ (([12] : List Int32) ++ (([11] : List Int32) ++ (([30] : List Int32) ++ ([10] : List Int32))))))) else (if n3 = 0 then (([71] : List Int32) ++ ([10] : List Int32)) else (if n3 = 1 then (([70] : List Int32) ++ (([11] : List Int32) ++ (([71] : List Int32) ++ ([10] : List Int32))) ++ ([10] : List Int32)) else (([40] : List Int32) ++ (([12] : List Int32) ++ (([70] : List Int32) ++ (([11] : List Int32) ++ (([71] : List Int32) ++ ([10] : List Int32))) ++ ([10] : List Int32))) ++ (([70] : List Int32) ++ (([11] : List Int32) ++ (([71] : List Int32) ++ ([10] : List Int32))) ++ ([10] : List Int32))))))))))) X) := by
  have hT : pvdom 3 = pvD_3 := rfl
  refine pw_blkw hT 3 (pc := 5) (lo := [some (pvR 3), some (pvR q1), some (pvI n2), some (pvI n3), some (pvI n4)]) (st := []) (M := pvu M 3 1 0) rfl ⟨trivial, trivial, rfl, trivial⟩ (fun M1_ e2_ => ?_)
  have o3_ : pvOk M1_ := pvok_u2 e2_ hok rfl (zr_wide (show 0 ≤ Int32.toInt 0 ∧ Int32.toInt 0 ≤ 0 from (by decide)) (by decide) (by decide))
  have f4_ : pvFr fp_eX0_perform_3_x_x_x_x M M1_ := pvfr_u e2_ pvfr_0 rfl
  have b5_ : 0 ≤ Int32.toInt (M1_.1 q1 0) ∧ Int32.toInt (M1_.1 q1 0) ≤ 6 := pvok_r o3_ q1 0 ((pvrg_o 0 hq1 (by decide) (by decide)).trans rfl)
  refine pw_blk hT 3 (S' := (10, [some (pvR 3), some (pvR q1), some (pvI n2), some (pvI n3), some (pvI n4)], [pvI (M1_.1 q1 0), pvR 3], M1_)) rfl ⟨trivial, trivial, hq1, trivial⟩ ?_
  have e6_ : (M1_.1 q1 0) = (M.1 q1 0) := (pvu_n e2_ q1 0 (Or.inl (fun z => absurd (z ▸ hq1) (by decide))))
  refine pw_eqI e6_ ?_
  have b7_ : 0 ≤ Int32.toInt (M.1 q1 0) ∧ Int32.toInt (M.1 q1 0) ≤ 6 := (by rw [← e6_]; exact b5_)
  refine pw_blkw hT 1 (pc := 13) (lo := [some (pvR 3), some (pvR q1), some (pvI n2), some (pvI n3), some (pvI n4)]) (st := []) (M := pvu M1_ 3 2 (M.1 q1 0)) rfl ⟨rfl, trivial⟩ (fun M8_ e9_ => ?_)
  have o10_ : pvOk M8_ := pvok_u2 e9_ o3_ rfl (zbnd (M.1 q1 0))
  have f11_ : pvFr fp_eX0_perform_3_x_x_x_x M M8_ := pvfr_u e9_ f4_ rfl
  have b12_ : 0 ≤ Int32.toInt (M8_.1 q1 1) ∧ Int32.toInt (M8_.1 q1 1) ≤ 9 := pvok_r o10_ q1 1 ((pvrg_o 1 hq1 (by decide) (by decide)).trans rfl)
  refine pw_blk hT 3 (S' := (18, [some (pvR 3), some (pvR q1), some (pvI n2), some (pvI n3), some (pvI n4)], [pvI (M8_.1 q1 1), pvR 3], M8_)) rfl ⟨trivial, trivial, hq1, trivial⟩ ?_
  have e13_ : (M8_.1 q1 1) = (M.1 q1 1) := ((pvu_n e9_ q1 1 (Or.inl (fun z => absurd (z ▸ hq1) (by decide)))).trans (pvu_n e2_ q1 1 (Or.inl (fun z => absurd (z ▸ hq1) (by decide)))))
  refine pw_eqI e13_ ?_
  have b14_ : 0 ≤ Int32.toInt (M.1 q1 1) ∧ Int32.toInt (M.1 q1 1) ≤ 9 := (by rw [← e13_]; exact b12_)
  refine pw_blkw hT 1 (pc := 21) (lo := [some (pvR 3), some (pvR q1), some (pvI n2), some (pvI n3), some (pvI n4)]) (st := []) (M := pvu M8_ 3 3 (M.1 q1 1)) rfl ⟨rfl, trivial⟩ (fun M15_ e16_ => ?_)
  have o17_ : pvOk M15_ := pvok_u2 e16_ o10_ rfl (zbnd (M.1 q1 1))
  have f18_ : pvFr fp_eX0_perform_3_x_x_x_x M M15_ := pvfr_u e16_ f11_ rfl
  refine pw_blkw hT 3 (pc := 26) (lo := [some (pvR 3), some (pvR q1), some (pvI n2), some (pvI n3), some (pvI n4)]) (st := []) (M := pvu M15_ 3 4 n2) rfl ⟨trivial, trivial, rfl, trivial⟩ (fun M19_ e20_ => ?_)
  have o21_ : pvOk M19_ := pvok_u2 e20_ o17_ rfl (zbnd n2)
  have f22_ : pvFr fp_eX0_perform_3_x_x_x_x M M19_ := pvfr_u e20_ f18_ rfl
  have e23_ : (M19_.1 3 2) = (M.1 q1 0) := (((pvu_n e20_ 3 2 (Or.inr (by decide))).trans (pvu_n e16_ 3 2 (Or.inr (by decide)))).trans (pvu_s e9_))
  have b24_ : 0 ≤ Int32.toInt (M19_.1 3 2) ∧ Int32.toInt (M19_.1 3 2) ≤ 6 := (by rw [e23_]; exact b7_)
  refine pw_blk hT 3 (S' := (31, [some (pvR 3), some (pvR q1), some (pvI n2), some (pvI n3), some (pvI n4)], [pvI (M19_.1 3 2), pvR 3], M19_)) rfl ⟨trivial, trivial, rfl, trivial⟩ ?_
  have e25_ : (M19_.1 3 2) = (M.1 q1 0) := (((pvu_n e20_ 3 2 (Or.inr (by decide))).trans (pvu_n e16_ 3 2 (Or.inr (by decide)))).trans (pvu_s e9_))
  refine pw_eqI e25_ ?_
  by_cases c26_ : (M.1 q1 0) = 0
  · refine pw_eqI c26_ ?_
    have b27_ : 0 ≤ Int32.toInt (M.1 q1 0) ∧ Int32.toInt (M.1 q1 0) ≤ 0 := (by have u0 := b7_; have u1 := (zi_eq _ _).mp c26_; have u2 := (show 0 ≤ Int32.toInt 0 ∧ Int32.toInt 0 ≤ 0 from (by decide)); omega)
    refine pw_blk hT 1 (S' := (32, [some (pvR 3), some (pvR q1), some (pvI n2), some (pvI n3), some (pvI n4)], [pvI n3, pvI 0, pvR 3], M19_)) rfl ⟨trivial, trivial⟩ ?_
    by_cases c28_ : n3 = 0
    · refine pw_eqI c28_ ?_
      have b29_ : 0 ≤ Int32.toInt n3 ∧ Int32.toInt n3 ≤ 0 := (by have u0 := hn3; have u1 := (zi_eq _ _).mp c28_; have u2 := (show 0 ≤ Int32.toInt 0 ∧ Int32.toInt 0 ≤ 0 from (by decide)); omega)
      refine pw_blk hT 2 (S' := (35, [some (pvR 3), some (pvR q1), some (pvI n2), some (pvI n3), some (pvI n4)], [pvI 0, pvI n4, pvI 0, pvI 0, pvR 3], M19_)) rfl ⟨trivial, trivial, trivial⟩ ?_
      have b30_ : 0 ≤ Int32.toInt (M19_.1 3 2) ∧ Int32.toInt (M19_.1 3 2) ≤ 0 := (by rw [(((pvu_n e20_ 3 2 (Or.inr (by decide))).trans (pvu_n e16_ 3 2 (Or.inr (by decide)))).trans (pvu_s e9_))]; exact b27_)
      have e31_ : (M19_.1 3 1) = 0 := ((((pvu_n e20_ 3 1 (Or.inr (by decide))).trans (pvu_n e16_ 3 1 (Or.inr (by decide)))).trans (pvu_n e9_ 3 1 (Or.inr (by decide)))).trans (pvu_s e2_))
      have b32_ : 0 ≤ Int32.toInt (M19_.1 3 1) ∧ Int32.toInt (M19_.1 3 1) ≤ 0 := (by rw [e31_]; exact (show 0 ≤ Int32.toInt 0 ∧ Int32.toInt 0 ≤ 0 from (by decide)))
      refine pw_callGd hT (as := [pvR 3, pvI 0, pvI 0, pvI n4, pvI 0]) (lo1 := [some (pvR 3), some (pvI 0), some (pvI 0), some (pvI n4), some (pvI 0), none, none]) (d1 := d) (rest := []) rfl rfl rfl rfl rfl (fun h => absurd h (by decide)) (Nat.zero_le _) rfl rfl rfl (se_X0_run_3_0_0_x_0_0 M19_ o21_ n4 (zr_wide b32_ (by decide) (by decide)) b30_ d) (fun x36_ M37_ b38_ o39_ g40_ d35_ => ?_)
      have d33_ := d35_.1
      have d34_ := d35_.2
      have f41_ : pvFr fp_eX0_perform_3_x_x_x_x M M37_ := pvfr_t g40_ f22_ fp_eX0_perform_3_x_x_x_x_fp_eX0_run_3_0_0_x_0_0
      have b42_ : 0 ≤ Int32.toInt (M37_.1 3 1) ∧ Int32.toInt (M37_.1 3 1) ≤ 1 := (by have u0 := b32_; have u1 := d33_; have u2 := pvok_r o39_ 3 1 (lo := 0) (hi := 1000000) rfl; omega)
      have u43_ : Int32.toInt 0 = 0 := by decide
      obtain ⟨b44_, d45_⟩ := b38_
      subst d45_
      have e46_ : (n4 + (M19_.1 3 4)) = (n4 + n2) := (show (n4 + (M19_.1 3 4)) = (n4 + n2) from by rw [(pvu_s e20_)])
      refine pw_eqI e46_ ?_
      exact pw_ret hT rfl (r := some (pvI (n4 + n2))) (M' := M37_) ⟨rfl, rfl⟩ ⟨⟨_, rfl, trivial, ((if_pos c26_).trans (if_pos c28_)).symm⟩, o39_, f41_, (zTs_e ((if_pos c26_).trans (if_pos c28_)) (zTs_r (zTr_c0 (pvok_r o3_ 3 1 rfl).1 (zTr_k (zTr_k (zTr_k (zTr_0 3 1 4 M1_) (pvu_n e9_ 3 1 (Or.inr (by decide))) (fun j _ => pvu_n e9_ 4 j (Or.inl (by decide)))) (pvu_n e16_ 3 1 (Or.inr (by decide))) (fun j _ => pvu_n e16_ 4 j (Or.inl (by decide)))) (pvu_n e20_ 3 1 (Or.inr (by decide))) (fun j _ => pvu_n e20_ 4 j (Or.inl (by decide)))) d34_) (pvu_s e2_)))⟩
    · have b47_ : 1 ≤ Int32.toInt n3 ∧ Int32.toInt n3 ≤ 2 := (by have u0 := hn3; have u1 := (not_congr (zi_eq _ _)).mp c28_; have u2 := (show 0 ≤ Int32.toInt 0 ∧ Int32.toInt 0 ≤ 0 from (by decide)); omega)
      by_cases c48_ : n3 = 1
      · refine pw_eqI c48_ ?_
        have b49_ : 1 ≤ Int32.toInt n3 ∧ Int32.toInt n3 ≤ 1 := (by have u0 := b47_; have u1 := (zi_eq _ _).mp c48_; have u2 := (show 1 ≤ Int32.toInt 1 ∧ Int32.toInt 1 ≤ 1 from (by decide)); omega)
        refine pw_blk hT 2 (S' := (35, [some (pvR 3), some (pvR q1), some (pvI n2), some (pvI n3), some (pvI n4)], [pvI 0, pvI n4, pvI 1, pvI 0, pvR 3], M19_)) rfl ⟨trivial, trivial, trivial⟩ ?_
        have b50_ : 0 ≤ Int32.toInt (M19_.1 3 2) ∧ Int32.toInt (M19_.1 3 2) ≤ 0 := (by rw [(((pvu_n e20_ 3 2 (Or.inr (by decide))).trans (pvu_n e16_ 3 2 (Or.inr (by decide)))).trans (pvu_s e9_))]; exact b27_)
        have e51_ : (M19_.1 3 1) = 0 := ((((pvu_n e20_ 3 1 (Or.inr (by decide))).trans (pvu_n e16_ 3 1 (Or.inr (by decide)))).trans (pvu_n e9_ 3 1 (Or.inr (by decide)))).trans (pvu_s e2_))
        have b52_ : 0 ≤ Int32.toInt (M19_.1 3 1) ∧ Int32.toInt (M19_.1 3 1) ≤ 0 := (by rw [e51_]; exact (show 0 ≤ Int32.toInt 0 ∧ Int32.toInt 0 ≤ 0 from (by decide)))
        refine pw_callGd hT (as := [pvR 3, pvI 0, pvI 1, pvI n4, pvI 0]) (lo1 := [some (pvR 3), some (pvI 0), some (pvI 1), some (pvI n4), some (pvI 0), none, none]) (d1 := d) (rest := []) rfl rfl rfl rfl rfl (fun h => absurd h (by decide)) (Nat.zero_le _) rfl rfl rfl (se_X0_run_3_0_1_x_0_0 M19_ o21_ n4 (zr_wide b52_ (by decide) (by decide)) b50_ d (Nat.le_trans (by decide) hd)) (fun x56_ M57_ b58_ o59_ g60_ d55_ => ?_)
        have d53_ := d55_.1
        have d54_ := d55_.2
        have f61_ : pvFr fp_eX0_perform_3_x_x_x_x M M57_ := pvfr_t g60_ f22_ fp_eX0_perform_3_x_x_x_x_fp_eX0_run_3_0_1_x_0_0
        have b62_ : 0 ≤ Int32.toInt (M57_.1 3 1) ∧ Int32.toInt (M57_.1 3 1) ≤ 2 := (by have u0 := b52_; have u1 := d53_; have u2 := pvok_r o59_ 3 1 (lo := 0) (hi := 1000000) rfl; omega)
        have u63_ : Int32.toInt 0 = 0 := by decide
        have u64_ : Int32.toInt 1 = 1 := by decide
        obtain ⟨b65_, d66_⟩ := b58_
        subst d66_
        have e67_ : ((n4 + (M19_.1 3 4)) - (M19_.1 3 3)) = ((n4 + n2) - (M.1 q1 1)) := (show ((n4 + (M19_.1 3 4)) - (M19_.1 3 3)) = ((n4 + n2) - (M.1 q1 1)) from by rw [(pvu_s e20_), ((pvu_n e20_ 3 3 (Or.inr (by decide))).trans (pvu_s e16_))])
        refine pw_eqI e67_ ?_
        exact pw_ret hT rfl (r := some (pvI ((n4 + n2) - (M.1 q1 1)))) (M' := M57_) ⟨rfl, rfl⟩ ⟨⟨_, rfl, trivial, ((if_pos c26_).trans ((if_neg c28_).trans (if_pos c48_))).symm⟩, o59_, f61_, (zTs_e ((if_pos c26_).trans ((if_neg c28_).trans (if_pos c48_))) (zTs_r (zTr_c0 (pvok_r o3_ 3 1 rfl).1 (zTr_k (zTr_k (zTr_k (zTr_0 3 1 4 M1_) (pvu_n e9_ 3 1 (Or.inr (by decide))) (fun j _ => pvu_n e9_ 4 j (Or.inl (by decide)))) (pvu_n e16_ 3 1 (Or.inr (by decide))) (fun j _ => pvu_n e16_ 4 j (Or.inl (by decide)))) (pvu_n e20_ 3 1 (Or.inr (by decide))) (fun j _ => pvu_n e20_ 4 j (Or.inl (by decide)))) d54_) (pvu_s e2_)))⟩
      · have b68_ : 2 ≤ Int32.toInt n3 ∧ Int32.toInt n3 ≤ 2 := (by have u0 := b47_; have u1 := (not_congr (zi_eq _ _)).mp c48_; have u2 := (show 1 ≤ Int32.toInt 1 ∧ Int32.toInt 1 ≤ 1 from (by decide)); omega)
        refine pw_eqI ((zi_eq _ (2)).mpr (by have u0 := b68_; have u1 : Int32.toInt (2) = 2 := (by decide); omega)) ?_
        refine pw_blk hT 2 (S' := (35, [some (pvR 3), some (pvR q1), some (pvI n2), some (pvI n3), some (pvI n4)], [pvI 0, pvI n4, pvI 2, pvI 0, pvR 3], M19_)) rfl ⟨trivial, trivial, trivial⟩ ?_
        have b69_ : 0 ≤ Int32.toInt (M19_.1 3 2) ∧ Int32.toInt (M19_.1 3 2) ≤ 0 := (by rw [(((pvu_n e20_ 3 2 (Or.inr (by decide))).trans (pvu_n e16_ 3 2 (Or.inr (by decide)))).trans (pvu_s e9_))]; exact b27_)
        have e70_ : (M19_.1 3 1) = 0 := ((((pvu_n e20_ 3 1 (Or.inr (by decide))).trans (pvu_n e16_ 3 1 (Or.inr (by decide)))).trans (pvu_n e9_ 3 1 (Or.inr (by decide)))).trans (pvu_s e2_))
        have b71_ : 0 ≤ Int32.toInt (M19_.1 3 1) ∧ Int32.toInt (M19_.1 3 1) ≤ 0 := (by rw [e70_]; exact (show 0 ≤ Int32.toInt 0 ∧ Int32.toInt 0 ≤ 0 from (by decide)))
        refine pw_callGd hT (as := [pvR 3, pvI 0, pvI 2, pvI n4, pvI 0]) (lo1 := [some (pvR 3), some (pvI 0), some (pvI 2), some (pvI n4), some (pvI 0), none, none]) (d1 := d) (rest := []) rfl rfl rfl rfl rfl (fun h => absurd h (by decide)) (Nat.zero_le _) rfl rfl rfl (se_X0_run_3_0_2_x_0_0 M19_ o21_ n4 (zr_wide b71_ (by decide) (by decide)) b69_ d (Nat.le_trans (by decide) hd)) (fun x75_ M76_ b77_ o78_ g79_ d74_ => ?_)
        have d72_ := d74_.1
        have d73_ := d74_.2
        have f80_ : pvFr fp_eX0_perform_3_x_x_x_x M M76_ := pvfr_t g79_ f22_ fp_eX0_perform_3_x_x_x_x_fp_eX0_run_3_0_2_x_0_0
        have b81_ : 0 ≤ Int32.toInt (M76_.1 3 1) ∧ Int32.toInt (M76_.1 3 1) ≤ 3 := (by have u0 := b71_; have u1 := d72_; have u2 := pvok_r o78_ 3 1 (lo := 0) (hi := 1000000) rfl; omega)
        have u82_ : Int32.toInt 0 = 0 := by decide
        have u83_ : Int32.toInt 2 = 2 := by decide
        obtain ⟨b84_, d85_⟩ := b77_
        subst d85_
        have e86_ : (((n4 + (M19_.1 3 4)) - (M19_.1 3 3)) * 2) = (((n4 + n2) - (M.1 q1 1)) * 2) := (show (((n4 + (M19_.1 3 4)) - (M19_.1 3 3)) * 2) = (((n4 + n2) - (M.1 q1 1)) * 2) from by rw [(pvu_s e20_), ((pvu_n e20_ 3 3 (Or.inr (by decide))).trans (pvu_s e16_))])
        refine pw_eqI e86_ ?_
        exact pw_ret hT rfl (r := some (pvI (((n4 + n2) - (M.1 q1 1)) * 2))) (M' := M76_) ⟨rfl, rfl⟩ ⟨⟨_, rfl, trivial, ((if_pos c26_).trans ((if_neg c28_).trans (if_neg c48_))).symm⟩, o78_, f80_, (zTs_e ((if_pos c26_).trans ((if_neg c28_).trans (if_neg c48_))) (zTs_r (zTr_c0 (pvok_r o3_ 3 1 rfl).1 (zTr_k (zTr_k (zTr_k (zTr_0 3 1 4 M1_) (pvu_n e9_ 3 1 (Or.inr (by decide))) (fun j _ => pvu_n e9_ 4 j (Or.inl (by decide)))) (pvu_n e16_ 3 1 (Or.inr (by decide))) (fun j _ => pvu_n e16_ 4 j (Or.inl (by decide)))) (pvu_n e20_ 3 1 (Or.inr (by decide))) (fun j _ => pvu_n e20_ 4 j (Or.inl (by decide)))) d73_) (pvu_s e2_)))⟩
  · have b87_ : 1 ≤ Int32.toInt (M.1 q1 0) ∧ Int32.toInt (M.1 q1 0) ≤ 6 := (by have u0 := b7_; have u1 := (not_congr (zi_eq _ _)).mp c26_; have u2 := (show 0 ≤ Int32.toInt 0 ∧ Int32.toInt 0 ≤ 0 from (by decide)); omega)
    by_cases c88_ : (M.1 q1 0) = 1
    · refine pw_eqI c88_ ?_
      have b89_ : 1 ≤ Int32.toInt (M.1 q1 0) ∧ Int32.toInt (M.1 q1 0) ≤ 1 := (by have u0 := b87_; have u1 := (zi_eq _ _).mp c88_; have u2 := (show 1 ≤ Int32.toInt 1 ∧ Int32.toInt 1 ≤ 1 from (by decide)); omega)
      refine pw_blk hT 1 (S' := (32, [some (pvR 3), some (pvR q1), some (pvI n2), some (pvI n3), some (pvI n4)], [pvI n3, pvI 1, pvR 3], M19_)) rfl ⟨trivial, trivial⟩ ?_
      by_cases c90_ : n3 = 0
      · refine pw_eqI c90_ ?_
        have b91_ : 0 ≤ Int32.toInt n3 ∧ Int32.toInt n3 ≤ 0 := (by have u0 := hn3; have u1 := (zi_eq _ _).mp c90_; have u2 := (show 0 ≤ Int32.toInt 0 ∧ Int32.toInt 0 ≤ 0 from (by decide)); omega)
        refine pw_blk hT 2 (S' := (35, [some (pvR 3), some (pvR q1), some (pvI n2), some (pvI n3), some (pvI n4)], [pvI 0, pvI n4, pvI 0, pvI 1, pvR 3], M19_)) rfl ⟨trivial, trivial, trivial⟩ ?_
        have b92_ : 1 ≤ Int32.toInt (M19_.1 3 2) ∧ Int32.toInt (M19_.1 3 2) ≤ 1 := (by rw [(((pvu_n e20_ 3 2 (Or.inr (by decide))).trans (pvu_n e16_ 3 2 (Or.inr (by decide)))).trans (pvu_s e9_))]; exact b89_)
        have e93_ : (M19_.1 3 1) = 0 := ((((pvu_n e20_ 3 1 (Or.inr (by decide))).trans (pvu_n e16_ 3 1 (Or.inr (by decide)))).trans (pvu_n e9_ 3 1 (Or.inr (by decide)))).trans (pvu_s e2_))
        have b94_ : 0 ≤ Int32.toInt (M19_.1 3 1) ∧ Int32.toInt (M19_.1 3 1) ≤ 0 := (by rw [e93_]; exact (show 0 ≤ Int32.toInt 0 ∧ Int32.toInt 0 ≤ 0 from (by decide)))
        refine pw_callGd hT (as := [pvR 3, pvI 1, pvI 0, pvI n4, pvI 0]) (lo1 := [some (pvR 3), some (pvI 1), some (pvI 0), some (pvI n4), some (pvI 0), none, none]) (d1 := d) (rest := []) rfl rfl rfl rfl rfl (fun h => absurd h (by decide)) (Nat.zero_le _) rfl rfl rfl (se_X0_run_3_1_0_x_0_1 M19_ o21_ n4 (zr_wide b94_ (by decide) (by decide)) b92_ d) (fun x98_ M99_ b100_ o101_ g102_ d97_ => ?_)
        have d95_ := d97_.1
        have d96_ := d97_.2
        have f103_ : pvFr fp_eX0_perform_3_x_x_x_x M M99_ := pvfr_t g102_ f22_ fp_eX0_perform_3_x_x_x_x_fp_eX0_run_3_1_0_x_0_1
        have b104_ : 0 ≤ Int32.toInt (M99_.1 3 1) ∧ Int32.toInt (M99_.1 3 1) ≤ 1 := (by have u0 := b94_; have u1 := d95_; have u2 := pvok_r o101_ 3 1 (lo := 0) (hi := 1000000) rfl; omega)
        have u105_ : Int32.toInt 1 = 1 := by decide
        have u106_ : Int32.toInt 0 = 0 := by decide
        obtain ⟨b107_, d108_⟩ := b100_
        subst d108_
        have e109_ : (n4 + (M19_.1 3 4)) = (n4 + n2) := (show (n4 + (M19_.1 3 4)) = (n4 + n2) from by rw [(pvu_s e20_)])
        refine pw_eqI e109_ ?_
        exact pw_ret hT rfl (r := some (pvI (n4 + n2))) (M' := M99_) ⟨rfl, rfl⟩ ⟨⟨_, rfl, trivial, ((if_neg c26_).trans ((if_pos c88_).trans (if_pos c90_))).symm⟩, o101_, f103_, (zTs_e ((if_neg c26_).trans ((if_pos c88_).trans (if_pos c90_))) (zTs_r (zTr_c0 (pvok_r o3_ 3 1 rfl).1 (zTr_k (zTr_k (zTr_k (zTr_0 3 1 4 M1_) (pvu_n e9_ 3 1 (Or.inr (by decide))) (fun j _ => pvu_n e9_ 4 j (Or.inl (by decide)))) (pvu_n e16_ 3 1 (Or.inr (by decide))) (fun j _ => pvu_n e16_ 4 j (Or.inl (by decide)))) (pvu_n e20_ 3 1 (Or.inr (by decide))) (fun j _ => pvu_n e20_ 4 j (Or.inl (by decide)))) d96_) (pvu_s e2_)))⟩
      · have b110_ : 1 ≤ Int32.toInt n3 ∧ Int32.toInt n3 ≤ 2 := (by have u0 := hn3; have u1 := (not_congr (zi_eq _ _)).mp c90_; have u2 := (show 0 ≤ Int32.toInt 0 ∧ Int32.toInt 0 ≤ 0 from (by decide)); omega)
        by_cases c111_ : n3 = 1
        · refine pw_eqI c111_ ?_
          have b112_ : 1 ≤ Int32.toInt n3 ∧ Int32.toInt n3 ≤ 1 := (by have u0 := b110_; have u1 := (zi_eq _ _).mp c111_; have u2 := (show 1 ≤ Int32.toInt 1 ∧ Int32.toInt 1 ≤ 1 from (by decide)); omega)
          refine pw_blk hT 2 (S' := (35, [some (pvR 3), some (pvR q1), some (pvI n2), some (pvI n3), some (pvI n4)], [pvI 0, pvI n4, pvI 1, pvI 1, pvR 3], M19_)) rfl ⟨trivial, trivial, trivial⟩ ?_
          have b113_ : 1 ≤ Int32.toInt (M19_.1 3 2) ∧ Int32.toInt (M19_.1 3 2) ≤ 1 := (by rw [(((pvu_n e20_ 3 2 (Or.inr (by decide))).trans (pvu_n e16_ 3 2 (Or.inr (by decide)))).trans (pvu_s e9_))]; exact b89_)
          have e114_ : (M19_.1 3 1) = 0 := ((((pvu_n e20_ 3 1 (Or.inr (by decide))).trans (pvu_n e16_ 3 1 (Or.inr (by decide)))).trans (pvu_n e9_ 3 1 (Or.inr (by decide)))).trans (pvu_s e2_))
          have b115_ : 0 ≤ Int32.toInt (M19_.1 3 1) ∧ Int32.toInt (M19_.1 3 1) ≤ 0 := (by rw [e114_]; exact (show 0 ≤ Int32.toInt 0 ∧ Int32.toInt 0 ≤ 0 from (by decide)))
          refine pw_callGd hT (as := [pvR 3, pvI 1, pvI 1, pvI n4, pvI 0]) (lo1 := [some (pvR 3), some (pvI 1), some (pvI 1), some (pvI n4), some (pvI 0), none, none]) (d1 := d) (rest := []) rfl rfl rfl rfl rfl (fun h => absurd h (by decide)) (Nat.zero_le _) rfl rfl rfl (se_X0_run_3_1_1_x_0_1 M19_ o21_ n4 (zr_wide b115_ (by decide) (by decide)) b113_ d (Nat.le_trans (by decide) hd)) (fun x119_ M120_ b121_ o122_ g123_ d118_ => ?_)
          have d116_ := d118_.1
          have d117_ := d118_.2
          have f124_ : pvFr fp_eX0_perform_3_x_x_x_x M M120_ := pvfr_t g123_ f22_ fp_eX0_perform_3_x_x_x_x_fp_eX0_run_3_1_1_x_0_1
          have b125_ : 0 ≤ Int32.toInt (M120_.1 3 1) ∧ Int32.toInt (M120_.1 3 1) ≤ 3 := (by have u0 := b115_; have u1 := d116_; have u2 := pvok_r o122_ 3 1 (lo := 0) (hi := 1000000) rfl; omega)
          have u126_ : Int32.toInt 1 = 1 := by decide
          have u127_ : Int32.toInt 0 = 0 := by decide
          obtain ⟨b128_, d129_⟩ := b121_
          subst d129_
          have e130_ : (((n4 + (M19_.1 3 4)) - (M19_.1 3 3)) ^^^ 6) = (((n4 + n2) - (M.1 q1 1)) ^^^ 6) := (show (((n4 + (M19_.1 3 4)) - (M19_.1 3 3)) ^^^ 6) = (((n4 + n2) - (M.1 q1 1)) ^^^ 6) from by rw [(pvu_s e20_), ((pvu_n e20_ 3 3 (Or.inr (by decide))).trans (pvu_s e16_))])
          refine pw_eqI e130_ ?_
          exact pw_ret hT rfl (r := some (pvI (((n4 + n2) - (M.1 q1 1)) ^^^ 6))) (M' := M120_) ⟨rfl, rfl⟩ ⟨⟨_, rfl, trivial, ((if_neg c26_).trans ((if_pos c88_).trans ((if_neg c90_).trans (if_pos c111_)))).symm⟩, o122_, f124_, (zTs_e ((if_neg c26_).trans ((if_pos c88_).trans ((if_neg c90_).trans (if_pos c111_)))) (zTs_r (zTr_c0 (pvok_r o3_ 3 1 rfl).1 (zTr_k (zTr_k (zTr_k (zTr_0 3 1 4 M1_) (pvu_n e9_ 3 1 (Or.inr (by decide))) (fun j _ => pvu_n e9_ 4 j (Or.inl (by decide)))) (pvu_n e16_ 3 1 (Or.inr (by decide))) (fun j _ => pvu_n e16_ 4 j (Or.inl (by decide)))) (pvu_n e20_ 3 1 (Or.inr (by decide))) (fun j _ => pvu_n e20_ 4 j (Or.inl (by decide)))) d117_) (pvu_s e2_)))⟩
        · have b131_ : 2 ≤ Int32.toInt n3 ∧ Int32.toInt n3 ≤ 2 := (by have u0 := b110_; have u1 := (not_congr (zi_eq _ _)).mp c111_; have u2 := (show 1 ≤ Int32.toInt 1 ∧ Int32.toInt 1 ≤ 1 from (by decide)); omega)
          refine pw_eqI ((zi_eq _ (2)).mpr (by have u0 := b131_; have u1 : Int32.toInt (2) = 2 := (by decide); omega)) ?_
          refine pw_blk hT 2 (S' := (35, [some (pvR 3), some (pvR q1), some (pvI n2), some (pvI n3), some (pvI n4)], [pvI 0, pvI n4, pvI 2, pvI 1, pvR 3], M19_)) rfl ⟨trivial, trivial, trivial⟩ ?_
          have b132_ : 1 ≤ Int32.toInt (M19_.1 3 2) ∧ Int32.toInt (M19_.1 3 2) ≤ 1 := (by rw [(((pvu_n e20_ 3 2 (Or.inr (by decide))).trans (pvu_n e16_ 3 2 (Or.inr (by decide)))).trans (pvu_s e9_))]; exact b89_)
          have e133_ : (M19_.1 3 1) = 0 := ((((pvu_n e20_ 3 1 (Or.inr (by decide))).trans (pvu_n e16_ 3 1 (Or.inr (by decide)))).trans (pvu_n e9_ 3 1 (Or.inr (by decide)))).trans (pvu_s e2_))
          have b134_ : 0 ≤ Int32.toInt (M19_.1 3 1) ∧ Int32.toInt (M19_.1 3 1) ≤ 0 := (by rw [e133_]; exact (show 0 ≤ Int32.toInt 0 ∧ Int32.toInt 0 ≤ 0 from (by decide)))
          refine pw_callGd hT (as := [pvR 3, pvI 1, pvI 2, pvI n4, pvI 0]) (lo1 := [some (pvR 3), some (pvI 1), some (pvI 2), some (pvI n4), some (pvI 0), none, none]) (d1 := d) (rest := []) rfl rfl rfl rfl rfl (fun h => absurd h (by decide)) (Nat.zero_le _) rfl rfl rfl (se_X0_run_3_1_2_x_0_1 M19_ o21_ n4 (zr_wide b134_ (by decide) (by decide)) b132_ d (Nat.le_trans (by decide) hd)) (fun x138_ M139_ b140_ o141_ g142_ d137_ => ?_)
          have d135_ := d137_.1
          have d136_ := d137_.2
          have f143_ : pvFr fp_eX0_perform_3_x_x_x_x M M139_ := pvfr_t g142_ f22_ fp_eX0_perform_3_x_x_x_x_fp_eX0_run_3_1_2_x_0_1
          have b144_ : 0 ≤ Int32.toInt (M139_.1 3 1) ∧ Int32.toInt (M139_.1 3 1) ≤ 4 := (by have u0 := b134_; have u1 := d135_; have u2 := pvok_r o141_ 3 1 (lo := 0) (hi := 1000000) rfl; omega)
          have u145_ : Int32.toInt 1 = 1 := by decide
          have u146_ : Int32.toInt 2 = 2 := by decide
          have u147_ : Int32.toInt 0 = 0 := by decide
          obtain ⟨b148_, d149_⟩ := b140_
          subst d149_
          have e150_ : ((((n4 + (M19_.1 3 4)) - (M19_.1 3 3)) ^^^ 6) * 2) = ((((n4 + n2) - (M.1 q1 1)) ^^^ 6) * 2) := (show ((((n4 + (M19_.1 3 4)) - (M19_.1 3 3)) ^^^ 6) * 2) = ((((n4 + n2) - (M.1 q1 1)) ^^^ 6) * 2) from by rw [(pvu_s e20_), ((pvu_n e20_ 3 3 (Or.inr (by decide))).trans (pvu_s e16_))])
          refine pw_eqI e150_ ?_
          exact pw_ret hT rfl (r := some (pvI ((((n4 + n2) - (M.1 q1 1)) ^^^ 6) * 2))) (M' := M139_) ⟨rfl, rfl⟩ ⟨⟨_, rfl, trivial, ((if_neg c26_).trans ((if_pos c88_).trans ((if_neg c90_).trans (if_neg c111_)))).symm⟩, o141_, f143_, (zTs_e ((if_neg c26_).trans ((if_pos c88_).trans ((if_neg c90_).trans (if_neg c111_)))) (zTs_r (zTr_c0 (pvok_r o3_ 3 1 rfl).1 (zTr_k (zTr_k (zTr_k (zTr_0 3 1 4 M1_) (pvu_n e9_ 3 1 (Or.inr (by decide))) (fun j _ => pvu_n e9_ 4 j (Or.inl (by decide)))) (pvu_n e16_ 3 1 (Or.inr (by decide))) (fun j _ => pvu_n e16_ 4 j (Or.inl (by decide)))) (pvu_n e20_ 3 1 (Or.inr (by decide))) (fun j _ => pvu_n e20_ 4 j (Or.inl (by decide)))) d136_) (pvu_s e2_)))⟩
    · have b151_ : 2 ≤ Int32.toInt (M.1 q1 0) ∧ Int32.toInt (M.1 q1 0) ≤ 6 := (by have u0 := b87_; have u1 := (not_congr (zi_eq _ _)).mp c88_; have u2 := (show 1 ≤ Int32.toInt 1 ∧ Int32.toInt 1 ≤ 1 from (by decide)); omega)
      by_cases c152_ : (M.1 q1 0) = 2
      · refine pw_eqI c152_ ?_
        have b153_ : 2 ≤ Int32.toInt (M.1 q1 0) ∧ Int32.toInt (M.1 q1 0) ≤ 2 := (by have u0 := b151_; have u1 := (zi_eq _ _).mp c152_; have u2 := (show 2 ≤ Int32.toInt 2 ∧ Int32.toInt 2 ≤ 2 from (by decide)); omega)
        refine pw_blk hT 1 (S' := (32, [some (pvR 3), some (pvR q1), some (pvI n2), some (pvI n3), some (pvI n4)], [pvI n3, pvI 2, pvR 3], M19_)) rfl ⟨trivial, trivial⟩ ?_
        by_cases c154_ : n3 = 0
        · refine pw_eqI c154_ ?_
          have b155_ : 0 ≤ Int32.toInt n3 ∧ Int32.toInt n3 ≤ 0 := (by have u0 := hn3; have u1 := (zi_eq _ _).mp c154_; have u2 := (show 0 ≤ Int32.toInt 0 ∧ Int32.toInt 0 ≤ 0 from (by decide)); omega)
          refine pw_blk hT 2 (S' := (35, [some (pvR 3), some (pvR q1), some (pvI n2), some (pvI n3), some (pvI n4)], [pvI 0, pvI n4, pvI 0, pvI 2, pvR 3], M19_)) rfl ⟨trivial, trivial, trivial⟩ ?_
          have b156_ : 2 ≤ Int32.toInt (M19_.1 3 2) ∧ Int32.toInt (M19_.1 3 2) ≤ 2 := (by rw [(((pvu_n e20_ 3 2 (Or.inr (by decide))).trans (pvu_n e16_ 3 2 (Or.inr (by decide)))).trans (pvu_s e9_))]; exact b153_)
          have e157_ : (M19_.1 3 1) = 0 := ((((pvu_n e20_ 3 1 (Or.inr (by decide))).trans (pvu_n e16_ 3 1 (Or.inr (by decide)))).trans (pvu_n e9_ 3 1 (Or.inr (by decide)))).trans (pvu_s e2_))
          have b158_ : 0 ≤ Int32.toInt (M19_.1 3 1) ∧ Int32.toInt (M19_.1 3 1) ≤ 0 := (by rw [e157_]; exact (show 0 ≤ Int32.toInt 0 ∧ Int32.toInt 0 ≤ 0 from (by decide)))
          refine pw_callGd hT (as := [pvR 3, pvI 2, pvI 0, pvI n4, pvI 0]) (lo1 := [some (pvR 3), some (pvI 2), some (pvI 0), some (pvI n4), some (pvI 0), none, none]) (d1 := d) (rest := []) rfl rfl rfl rfl rfl (fun h => absurd h (by decide)) (Nat.zero_le _) rfl rfl rfl (se_X0_run_3_2_0_x_0_2 M19_ o21_ n4 (zr_wide b158_ (by decide) (by decide)) b156_ d (Nat.le_trans (by decide) hd)) (fun x162_ M163_ b164_ o165_ g166_ d161_ => ?_)
          have d159_ := d161_.1
          have d160_ := d161_.2
          have f167_ : pvFr fp_eX0_perform_3_x_x_x_x M M163_ := pvfr_t g166_ f22_ fp_eX0_perform_3_x_x_x_x_fp_eX0_run_3_2_0_x_0_2
          have b168_ : 0 ≤ Int32.toInt (M163_.1 3 1) ∧ Int32.toInt (M163_.1 3 1) ≤ 2 := (by have u0 := b158_; have u1 := d159_; have u2 := pvok_r o165_ 3 1 (lo := 0) (hi := 1000000) rfl; omega)
          have u169_ : Int32.toInt 2 = 2 := by decide
          have u170_ : Int32.toInt 0 = 0 := by decide
          obtain ⟨b171_, d172_⟩ := b164_
          subst d172_
          have e173_ : ((n4 * 3) + (M19_.1 3 4)) = ((n4 * 3) + n2) := (show ((n4 * 3) + (M19_.1 3 4)) = ((n4 * 3) + n2) from by rw [(pvu_s e20_)])
          refine pw_eqI e173_ ?_
          exact pw_ret hT rfl (r := some (pvI ((n4 * 3) + n2))) (M' := M163_) ⟨rfl, rfl⟩ ⟨⟨_, rfl, trivial, ((if_neg c26_).trans ((if_neg c88_).trans ((if_pos c152_).trans (if_pos c154_)))).symm⟩, o165_, f167_, (zTs_e ((if_neg c26_).trans ((if_neg c88_).trans ((if_pos c152_).trans (if_pos c154_)))) (zTs_r (zTr_c0 (pvok_r o3_ 3 1 rfl).1 (zTr_k (zTr_k (zTr_k (zTr_0 3 1 4 M1_) (pvu_n e9_ 3 1 (Or.inr (by decide))) (fun j _ => pvu_n e9_ 4 j (Or.inl (by decide)))) (pvu_n e16_ 3 1 (Or.inr (by decide))) (fun j _ => pvu_n e16_ 4 j (Or.inl (by decide)))) (pvu_n e20_ 3 1 (Or.inr (by decide))) (fun j _ => pvu_n e20_ 4 j (Or.inl (by decide)))) d160_) (pvu_s e2_)))⟩
        · have b174_ : 1 ≤ Int32.toInt n3 ∧ Int32.toInt n3 ≤ 2 := (by have u0 := hn3; have u1 := (not_congr (zi_eq _ _)).mp c154_; have u2 := (show 0 ≤ Int32.toInt 0 ∧ Int32.toInt 0 ≤ 0 from (by decide)); omega)
          by_cases c175_ : n3 = 1
          · refine pw_eqI c175_ ?_
            have b176_ : 1 ≤ Int32.toInt n3 ∧ Int32.toInt n3 ≤ 1 := (by have u0 := b174_; have u1 := (zi_eq _ _).mp c175_; have u2 := (show 1 ≤ Int32.toInt 1 ∧ Int32.toInt 1 ≤ 1 from (by decide)); omega)
            refine pw_blk hT 2 (S' := (35, [some (pvR 3), some (pvR q1), some (pvI n2), some (pvI n3), some (pvI n4)], [pvI 0, pvI n4, pvI 1, pvI 2, pvR 3], M19_)) rfl ⟨trivial, trivial, trivial⟩ ?_
            have b177_ : 2 ≤ Int32.toInt (M19_.1 3 2) ∧ Int32.toInt (M19_.1 3 2) ≤ 2 := (by rw [(((pvu_n e20_ 3 2 (Or.inr (by decide))).trans (pvu_n e16_ 3 2 (Or.inr (by decide)))).trans (pvu_s e9_))]; exact b153_)
            have e178_ : (M19_.1 3 1) = 0 := ((((pvu_n e20_ 3 1 (Or.inr (by decide))).trans (pvu_n e16_ 3 1 (Or.inr (by decide)))).trans (pvu_n e9_ 3 1 (Or.inr (by decide)))).trans (pvu_s e2_))
            have b179_ : 0 ≤ Int32.toInt (M19_.1 3 1) ∧ Int32.toInt (M19_.1 3 1) ≤ 0 := (by rw [e178_]; exact (show 0 ≤ Int32.toInt 0 ∧ Int32.toInt 0 ≤ 0 from (by decide)))
            refine pw_callGd hT (as := [pvR 3, pvI 2, pvI 1, pvI n4, pvI 0]) (lo1 := [some (pvR 3), some (pvI 2), some (pvI 1), some (pvI n4), some (pvI 0), none, none]) (d1 := d) (rest := []) rfl rfl rfl rfl rfl (fun h => absurd h (by decide)) (Nat.zero_le _) rfl rfl rfl (se_X0_run_3_2_1_x_0_2 M19_ o21_ n4 (zr_wide b179_ (by decide) (by decide)) b177_ d (Nat.le_trans (by decide) hd)) (fun x183_ M184_ b185_ o186_ g187_ d182_ => ?_)
            have d180_ := d182_.1
            have d181_ := d182_.2
            have f188_ : pvFr fp_eX0_perform_3_x_x_x_x M M184_ := pvfr_t g187_ f22_ fp_eX0_perform_3_x_x_x_x_fp_eX0_run_3_2_1_x_0_2
            have b189_ : 0 ≤ Int32.toInt (M184_.1 3 1) ∧ Int32.toInt (M184_.1 3 1) ≤ 3 := (by have u0 := b179_; have u1 := d180_; have u2 := pvok_r o186_ 3 1 (lo := 0) (hi := 1000000) rfl; omega)
            have u190_ : Int32.toInt 2 = 2 := by decide
            have u191_ : Int32.toInt 1 = 1 := by decide
            have u192_ : Int32.toInt 0 = 0 := by decide
            obtain ⟨b193_, d194_⟩ := b185_
            subst d194_
            have e195_ : (((n4 * 3) + (M19_.1 3 4)) - (M19_.1 3 3)) = (((n4 * 3) + n2) - (M.1 q1 1)) := (show (((n4 * 3) + (M19_.1 3 4)) - (M19_.1 3 3)) = (((n4 * 3) + n2) - (M.1 q1 1)) from by rw [(pvu_s e20_), ((pvu_n e20_ 3 3 (Or.inr (by decide))).trans (pvu_s e16_))])
            refine pw_eqI e195_ ?_
            exact pw_ret hT rfl (r := some (pvI (((n4 * 3) + n2) - (M.1 q1 1)))) (M' := M184_) ⟨rfl, rfl⟩ ⟨⟨_, rfl, trivial, ((if_neg c26_).trans ((if_neg c88_).trans ((if_pos c152_).trans ((if_neg c154_).trans (if_pos c175_))))).symm⟩, o186_, f188_, (zTs_e ((if_neg c26_).trans ((if_neg c88_).trans ((if_pos c152_).trans ((if_neg c154_).trans (if_pos c175_))))) (zTs_r (zTr_c0 (pvok_r o3_ 3 1 rfl).1 (zTr_k (zTr_k (zTr_k (zTr_0 3 1 4 M1_) (pvu_n e9_ 3 1 (Or.inr (by decide))) (fun j _ => pvu_n e9_ 4 j (Or.inl (by decide)))) (pvu_n e16_ 3 1 (Or.inr (by decide))) (fun j _ => pvu_n e16_ 4 j (Or.inl (by decide)))) (pvu_n e20_ 3 1 (Or.inr (by decide))) (fun j _ => pvu_n e20_ 4 j (Or.inl (by decide)))) d181_) (pvu_s e2_)))⟩
          · have b196_ : 2 ≤ Int32.toInt n3 ∧ Int32.toInt n3 ≤ 2 := (by have u0 := b174_; have u1 := (not_congr (zi_eq _ _)).mp c175_; have u2 := (show 1 ≤ Int32.toInt 1 ∧ Int32.toInt 1 ≤ 1 from (by decide)); omega)
            refine pw_eqI ((zi_eq _ (2)).mpr (by have u0 := b196_; have u1 : Int32.toInt (2) = 2 := (by decide); omega)) ?_
            refine pw_blk hT 2 (S' := (35, [some (pvR 3), some (pvR q1), some (pvI n2), some (pvI n3), some (pvI n4)], [pvI 0, pvI n4, pvI 2, pvI 2, pvR 3], M19_)) rfl ⟨trivial, trivial, trivial⟩ ?_
            have b197_ : 2 ≤ Int32.toInt (M19_.1 3 2) ∧ Int32.toInt (M19_.1 3 2) ≤ 2 := (by rw [(((pvu_n e20_ 3 2 (Or.inr (by decide))).trans (pvu_n e16_ 3 2 (Or.inr (by decide)))).trans (pvu_s e9_))]; exact b153_)
            have e198_ : (M19_.1 3 1) = 0 := ((((pvu_n e20_ 3 1 (Or.inr (by decide))).trans (pvu_n e16_ 3 1 (Or.inr (by decide)))).trans (pvu_n e9_ 3 1 (Or.inr (by decide)))).trans (pvu_s e2_))
            have b199_ : 0 ≤ Int32.toInt (M19_.1 3 1) ∧ Int32.toInt (M19_.1 3 1) ≤ 0 := (by rw [e198_]; exact (show 0 ≤ Int32.toInt 0 ∧ Int32.toInt 0 ≤ 0 from (by decide)))
            refine pw_callGd hT (as := [pvR 3, pvI 2, pvI 2, pvI n4, pvI 0]) (lo1 := [some (pvR 3), some (pvI 2), some (pvI 2), some (pvI n4), some (pvI 0), none, none]) (d1 := d) (rest := []) rfl rfl rfl rfl rfl (fun h => absurd h (by decide)) (Nat.zero_le _) rfl rfl rfl (se_X0_run_3_2_2_x_0_2 M19_ o21_ n4 (zr_wide b199_ (by decide) (by decide)) b197_ d (Nat.le_trans (by decide) hd)) (fun x203_ M204_ b205_ o206_ g207_ d202_ => ?_)
            have d200_ := d202_.1
            have d201_ := d202_.2
            have f208_ : pvFr fp_eX0_perform_3_x_x_x_x M M204_ := pvfr_t g207_ f22_ fp_eX0_perform_3_x_x_x_x_fp_eX0_run_3_2_2_x_0_2
            have b209_ : 0 ≤ Int32.toInt (M204_.1 3 1) ∧ Int32.toInt (M204_.1 3 1) ≤ 4 := (by have u0 := b199_; have u1 := d200_; have u2 := pvok_r o206_ 3 1 (lo := 0) (hi := 1000000) rfl; omega)
            have u210_ : Int32.toInt 2 = 2 := by decide
            have u211_ : Int32.toInt 0 = 0 := by decide
            obtain ⟨b212_, d213_⟩ := b205_
            subst d213_
            have e214_ : ((((n4 * 3) + (M19_.1 3 4)) - (M19_.1 3 3)) * 2) = ((((n4 * 3) + n2) - (M.1 q1 1)) * 2) := (show ((((n4 * 3) + (M19_.1 3 4)) - (M19_.1 3 3)) * 2) = ((((n4 * 3) + n2) - (M.1 q1 1)) * 2) from by rw [(pvu_s e20_), ((pvu_n e20_ 3 3 (Or.inr (by decide))).trans (pvu_s e16_))])
            refine pw_eqI e214_ ?_
            exact pw_ret hT rfl (r := some (pvI ((((n4 * 3) + n2) - (M.1 q1 1)) * 2))) (M' := M204_) ⟨rfl, rfl⟩ ⟨⟨_, rfl, trivial, ((if_neg c26_).trans ((if_neg c88_).trans ((if_pos c152_).trans ((if_neg c154_).trans (if_neg c175_))))).symm⟩, o206_, f208_, (zTs_e ((if_neg c26_).trans ((if_neg c88_).trans ((if_pos c152_).trans ((if_neg c154_).trans (if_neg c175_))))) (zTs_r (zTr_c0 (pvok_r o3_ 3 1 rfl).1 (zTr_k (zTr_k (zTr_k (zTr_0 3 1 4 M1_) (pvu_n e9_ 3 1 (Or.inr (by decide))) (fun j _ => pvu_n e9_ 4 j (Or.inl (by decide)))) (pvu_n e16_ 3 1 (Or.inr (by decide))) (fun j _ => pvu_n e16_ 4 j (Or.inl (by decide)))) (pvu_n e20_ 3 1 (Or.inr (by decide))) (fun j _ => pvu_n e20_ 4 j (Or.inl (by decide)))) d201_) (pvu_s e2_)))⟩
      · have b215_ : 3 ≤ Int32.toInt (M.1 q1 0) ∧ Int32.toInt (M.1 q1 0) ≤ 6 := (by have u0 := b151_; have u1 := (not_congr (zi_eq _ _)).mp c152_; have u2 := (show 2 ≤ Int32.toInt 2 ∧ Int32.toInt 2 ≤ 2 from (by decide)); omega)
        by_cases c216_ : (M.1 q1 0) = 3
        · refine pw_eqI c216_ ?_
          have b217_ : 3 ≤ Int32.toInt (M.1 q1 0) ∧ Int32.toInt (M.1 q1 0) ≤ 3 := (by have u0 := b215_; have u1 := (zi_eq _ _).mp c216_; have u2 := (show 3 ≤ Int32.toInt 3 ∧ Int32.toInt 3 ≤ 3 from (by decide)); omega)
          refine pw_blk hT 1 (S' := (32, [some (pvR 3), some (pvR q1), some (pvI n2), some (pvI n3), some (pvI n4)], [pvI n3, pvI 3, pvR 3], M19_)) rfl ⟨trivial, trivial⟩ ?_
          by_cases c218_ : n3 = 0
          · refine pw_eqI c218_ ?_
            have b219_ : 0 ≤ Int32.toInt n3 ∧ Int32.toInt n3 ≤ 0 := (by have u0 := hn3; have u1 := (zi_eq _ _).mp c218_; have u2 := (show 0 ≤ Int32.toInt 0 ∧ Int32.toInt 0 ≤ 0 from (by decide)); omega)
            refine pw_blk hT 2 (S' := (35, [some (pvR 3), some (pvR q1), some (pvI n2), some (pvI n3), some (pvI n4)], [pvI 0, pvI n4, pvI 0, pvI 3, pvR 3], M19_)) rfl ⟨trivial, trivial, trivial⟩ ?_
            have b220_ : 3 ≤ Int32.toInt (M19_.1 3 2) ∧ Int32.toInt (M19_.1 3 2) ≤ 3 := (by rw [(((pvu_n e20_ 3 2 (Or.inr (by decide))).trans (pvu_n e16_ 3 2 (Or.inr (by decide)))).trans (pvu_s e9_))]; exact b217_)
            have e221_ : (M19_.1 3 1) = 0 := ((((pvu_n e20_ 3 1 (Or.inr (by decide))).trans (pvu_n e16_ 3 1 (Or.inr (by decide)))).trans (pvu_n e9_ 3 1 (Or.inr (by decide)))).trans (pvu_s e2_))
            have b222_ : 0 ≤ Int32.toInt (M19_.1 3 1) ∧ Int32.toInt (M19_.1 3 1) ≤ 0 := (by rw [e221_]; exact (show 0 ≤ Int32.toInt 0 ∧ Int32.toInt 0 ≤ 0 from (by decide)))
            refine pw_callGd hT (as := [pvR 3, pvI 3, pvI 0, pvI n4, pvI 0]) (lo1 := [some (pvR 3), some (pvI 3), some (pvI 0), some (pvI n4), some (pvI 0), none, none]) (d1 := d) (rest := []) rfl rfl rfl rfl rfl (fun h => absurd h (by decide)) (Nat.zero_le _) rfl rfl rfl (se_X0_run_3_3_0_x_0_3 M19_ o21_ n4 (zr_wide b222_ (by decide) (by decide)) b220_ d) (fun x226_ M227_ b228_ o229_ g230_ d225_ => ?_)
            have d223_ := d225_.1
            have d224_ := d225_.2
            have f231_ : pvFr fp_eX0_perform_3_x_x_x_x M M227_ := pvfr_t g230_ f22_ fp_eX0_perform_3_x_x_x_x_fp_eX0_run_3_3_0_x_0_3
            have b232_ : 0 ≤ Int32.toInt (M227_.1 3 1) ∧ Int32.toInt (M227_.1 3 1) ≤ 1 := (by have u0 := b222_; have u1 := d223_; have u2 := pvok_r o229_ 3 1 (lo := 0) (hi := 1000000) rfl; omega)
            have u233_ : Int32.toInt 3 = 3 := by decide
            have u234_ : Int32.toInt 0 = 0 := by decide
            obtain ⟨b235_, d236_⟩ := b228_
            subst d236_
            have e237_ : (n4 + (M19_.1 3 4)) = (n4 + n2) := (show (n4 + (M19_.1 3 4)) = (n4 + n2) from by rw [(pvu_s e20_)])
            refine pw_eqI e237_ ?_
            exact pw_ret hT rfl (r := some (pvI (n4 + n2))) (M' := M227_) ⟨rfl, rfl⟩ ⟨⟨_, rfl, trivial, ((if_neg c26_).trans ((if_neg c88_).trans ((if_neg c152_).trans ((if_pos c216_).trans (if_pos c218_))))).symm⟩, o229_, f231_, (zTs_e ((if_neg c26_).trans ((if_neg c88_).trans ((if_neg c152_).trans ((if_pos c216_).trans (if_pos c218_))))) (zTs_r (zTr_c0 (pvok_r o3_ 3 1 rfl).1 (zTr_k (zTr_k (zTr_k (zTr_0 3 1 4 M1_) (pvu_n e9_ 3 1 (Or.inr (by decide))) (fun j _ => pvu_n e9_ 4 j (Or.inl (by decide)))) (pvu_n e16_ 3 1 (Or.inr (by decide))) (fun j _ => pvu_n e16_ 4 j (Or.inl (by decide)))) (pvu_n e20_ 3 1 (Or.inr (by decide))) (fun j _ => pvu_n e20_ 4 j (Or.inl (by decide)))) d224_) (pvu_s e2_)))⟩
          · have b238_ : 1 ≤ Int32.toInt n3 ∧ Int32.toInt n3 ≤ 2 := (by have u0 := hn3; have u1 := (not_congr (zi_eq _ _)).mp c218_; have u2 := (show 0 ≤ Int32.toInt 0 ∧ Int32.toInt 0 ≤ 0 from (by decide)); omega)
            by_cases c239_ : n3 = 1
            · refine pw_eqI c239_ ?_
              have b240_ : 1 ≤ Int32.toInt n3 ∧ Int32.toInt n3 ≤ 1 := (by have u0 := b238_; have u1 := (zi_eq _ _).mp c239_; have u2 := (show 1 ≤ Int32.toInt 1 ∧ Int32.toInt 1 ≤ 1 from (by decide)); omega)
              refine pw_blk hT 2 (S' := (35, [some (pvR 3), some (pvR q1), some (pvI n2), some (pvI n3), some (pvI n4)], [pvI 0, pvI n4, pvI 1, pvI 3, pvR 3], M19_)) rfl ⟨trivial, trivial, trivial⟩ ?_
              have b241_ : 3 ≤ Int32.toInt (M19_.1 3 2) ∧ Int32.toInt (M19_.1 3 2) ≤ 3 := (by rw [(((pvu_n e20_ 3 2 (Or.inr (by decide))).trans (pvu_n e16_ 3 2 (Or.inr (by decide)))).trans (pvu_s e9_))]; exact b217_)
              have e242_ : (M19_.1 3 1) = 0 := ((((pvu_n e20_ 3 1 (Or.inr (by decide))).trans (pvu_n e16_ 3 1 (Or.inr (by decide)))).trans (pvu_n e9_ 3 1 (Or.inr (by decide)))).trans (pvu_s e2_))
              have b243_ : 0 ≤ Int32.toInt (M19_.1 3 1) ∧ Int32.toInt (M19_.1 3 1) ≤ 0 := (by rw [e242_]; exact (show 0 ≤ Int32.toInt 0 ∧ Int32.toInt 0 ≤ 0 from (by decide)))
              refine pw_callGd hT (as := [pvR 3, pvI 3, pvI 1, pvI n4, pvI 0]) (lo1 := [some (pvR 3), some (pvI 3), some (pvI 1), some (pvI n4), some (pvI 0), none, none]) (d1 := d) (rest := []) rfl rfl rfl rfl rfl (fun h => absurd h (by decide)) (Nat.zero_le _) rfl rfl rfl (se_X0_run_3_3_1_x_0_3 M19_ o21_ n4 (zr_wide b243_ (by decide) (by decide)) b241_ d (Nat.le_trans (by decide) hd)) (fun x247_ M248_ b249_ o250_ g251_ d246_ => ?_)
              have d244_ := d246_.1
              have d245_ := d246_.2
              have f252_ : pvFr fp_eX0_perform_3_x_x_x_x M M248_ := pvfr_t g251_ f22_ fp_eX0_perform_3_x_x_x_x_fp_eX0_run_3_3_1_x_0_3
              have b253_ : 0 ≤ Int32.toInt (M248_.1 3 1) ∧ Int32.toInt (M248_.1 3 1) ≤ 2 := (by have u0 := b243_; have u1 := d244_; have u2 := pvok_r o250_ 3 1 (lo := 0) (hi := 1000000) rfl; omega)
              have u254_ : Int32.toInt 3 = 3 := by decide
              have u255_ : Int32.toInt 1 = 1 := by decide
              have u256_ : Int32.toInt 0 = 0 := by decide
              obtain ⟨b257_, d258_⟩ := b249_
              subst d258_
              have e259_ : ((n4 + (M19_.1 3 4)) - (M19_.1 3 3)) = ((n4 + n2) - (M.1 q1 1)) := (show ((n4 + (M19_.1 3 4)) - (M19_.1 3 3)) = ((n4 + n2) - (M.1 q1 1)) from by rw [(pvu_s e20_), ((pvu_n e20_ 3 3 (Or.inr (by decide))).trans (pvu_s e16_))])
              refine pw_eqI e259_ ?_
              exact pw_ret hT rfl (r := some (pvI ((n4 + n2) - (M.1 q1 1)))) (M' := M248_) ⟨rfl, rfl⟩ ⟨⟨_, rfl, trivial, ((if_neg c26_).trans ((if_neg c88_).trans ((if_neg c152_).trans ((if_pos c216_).trans ((if_neg c218_).trans (if_pos c239_)))))).symm⟩, o250_, f252_, (zTs_e ((if_neg c26_).trans ((if_neg c88_).trans ((if_neg c152_).trans ((if_pos c216_).trans ((if_neg c218_).trans (if_pos c239_)))))) (zTs_r (zTr_c0 (pvok_r o3_ 3 1 rfl).1 (zTr_k (zTr_k (zTr_k (zTr_0 3 1 4 M1_) (pvu_n e9_ 3 1 (Or.inr (by decide))) (fun j _ => pvu_n e9_ 4 j (Or.inl (by decide)))) (pvu_n e16_ 3 1 (Or.inr (by decide))) (fun j _ => pvu_n e16_ 4 j (Or.inl (by decide)))) (pvu_n e20_ 3 1 (Or.inr (by decide))) (fun j _ => pvu_n e20_ 4 j (Or.inl (by decide)))) d245_) (pvu_s e2_)))⟩
            · have b260_ : 2 ≤ Int32.toInt n3 ∧ Int32.toInt n3 ≤ 2 := (by have u0 := b238_; have u1 := (not_congr (zi_eq _ _)).mp c239_; have u2 := (show 1 ≤ Int32.toInt 1 ∧ Int32.toInt 1 ≤ 1 from (by decide)); omega)
              refine pw_eqI ((zi_eq _ (2)).mpr (by have u0 := b260_; have u1 : Int32.toInt (2) = 2 := (by decide); omega)) ?_
              refine pw_blk hT 2 (S' := (35, [some (pvR 3), some (pvR q1), some (pvI n2), some (pvI n3), some (pvI n4)], [pvI 0, pvI n4, pvI 2, pvI 3, pvR 3], M19_)) rfl ⟨trivial, trivial, trivial⟩ ?_
              have b261_ : 3 ≤ Int32.toInt (M19_.1 3 2) ∧ Int32.toInt (M19_.1 3 2) ≤ 3 := (by rw [(((pvu_n e20_ 3 2 (Or.inr (by decide))).trans (pvu_n e16_ 3 2 (Or.inr (by decide)))).trans (pvu_s e9_))]; exact b217_)
              have e262_ : (M19_.1 3 1) = 0 := ((((pvu_n e20_ 3 1 (Or.inr (by decide))).trans (pvu_n e16_ 3 1 (Or.inr (by decide)))).trans (pvu_n e9_ 3 1 (Or.inr (by decide)))).trans (pvu_s e2_))
              have b263_ : 0 ≤ Int32.toInt (M19_.1 3 1) ∧ Int32.toInt (M19_.1 3 1) ≤ 0 := (by rw [e262_]; exact (show 0 ≤ Int32.toInt 0 ∧ Int32.toInt 0 ≤ 0 from (by decide)))
              refine pw_callGd hT (as := [pvR 3, pvI 3, pvI 2, pvI n4, pvI 0]) (lo1 := [some (pvR 3), some (pvI 3), some (pvI 2), some (pvI n4), some (pvI 0), none, none]) (d1 := d) (rest := []) rfl rfl rfl rfl rfl (fun h => absurd h (by decide)) (Nat.zero_le _) rfl rfl rfl (se_X0_run_3_3_2_x_0_3 M19_ o21_ n4 (zr_wide b263_ (by decide) (by decide)) b261_ d (Nat.le_trans (by decide) hd)) (fun x267_ M268_ b269_ o270_ g271_ d266_ => ?_)
              have d264_ := d266_.1
              have d265_ := d266_.2
              have f272_ : pvFr fp_eX0_perform_3_x_x_x_x M M268_ := pvfr_t g271_ f22_ fp_eX0_perform_3_x_x_x_x_fp_eX0_run_3_3_2_x_0_3
              have b273_ : 0 ≤ Int32.toInt (M268_.1 3 1) ∧ Int32.toInt (M268_.1 3 1) ≤ 6 := (by have u0 := b263_; have u1 := d264_; have u2 := pvok_r o270_ 3 1 (lo := 0) (hi := 1000000) rfl; omega)
              have u274_ : Int32.toInt 3 = 3 := by decide
              have u275_ : Int32.toInt 2 = 2 := by decide
              have u276_ : Int32.toInt 0 = 0 := by decide
              obtain ⟨b277_, d278_⟩ := b269_
              subst d278_
              have e279_ : ((((n4 + (M19_.1 3 4)) - (M19_.1 3 3)) * 2) + ((1 + (M19_.1 3 4)) - (M19_.1 3 3))) = ((((n4 + n2) - (M.1 q1 1)) * 2) + ((1 + n2) - (M.1 q1 1))) := (show ((((n4 + (M19_.1 3 4)) - (M19_.1 3 3)) * 2) + ((1 + (M19_.1 3 4)) - (M19_.1 3 3))) = ((((n4 + n2) - (M.1 q1 1)) * 2) + ((1 + n2) - (M.1 q1 1))) from by rw [(pvu_s e20_), ((pvu_n e20_ 3 3 (Or.inr (by decide))).trans (pvu_s e16_))])
              refine pw_eqI e279_ ?_
              exact pw_ret hT rfl (r := some (pvI ((((n4 + n2) - (M.1 q1 1)) * 2) + ((1 + n2) - (M.1 q1 1))))) (M' := M268_) ⟨rfl, rfl⟩ ⟨⟨_, rfl, trivial, ((if_neg c26_).trans ((if_neg c88_).trans ((if_neg c152_).trans ((if_pos c216_).trans ((if_neg c218_).trans (if_neg c239_)))))).symm⟩, o270_, f272_, (zTs_e ((if_neg c26_).trans ((if_neg c88_).trans ((if_neg c152_).trans ((if_pos c216_).trans ((if_neg c218_).trans (if_neg c239_)))))) (zTs_r (zTr_c0 (pvok_r o3_ 3 1 rfl).1 (zTr_k (zTr_k (zTr_k (zTr_0 3 1 4 M1_) (pvu_n e9_ 3 1 (Or.inr (by decide))) (fun j _ => pvu_n e9_ 4 j (Or.inl (by decide)))) (pvu_n e16_ 3 1 (Or.inr (by decide))) (fun j _ => pvu_n e16_ 4 j (Or.inl (by decide)))) (pvu_n e20_ 3 1 (Or.inr (by decide))) (fun j _ => pvu_n e20_ 4 j (Or.inl (by decide)))) d265_) (pvu_s e2_)))⟩
        · have b280_ : 4 ≤ Int32.toInt (M.1 q1 0) ∧ Int32.toInt (M.1 q1 0) ≤ 6 := (by have u0 := b215_; have u1 := (not_congr (zi_eq _ _)).mp c216_; have u2 := (show 3 ≤ Int32.toInt 3 ∧ Int32.toInt 3 ≤ 3 from (by decide)); omega)
          by_cases c281_ : (M.1 q1 0) = 4
          · refine pw_eqI c281_ ?_
            have b282_ : 4 ≤ Int32.toInt (M.1 q1 0) ∧ Int32.toInt (M.1 q1 0) ≤ 4 := (by have u0 := b280_; have u1 := (zi_eq _ _).mp c281_; have u2 := (show 4 ≤ Int32.toInt 4 ∧ Int32.toInt 4 ≤ 4 from (by decide)); omega)
            refine pw_blk hT 1 (S' := (32, [some (pvR 3), some (pvR q1), some (pvI n2), some (pvI n3), some (pvI n4)], [pvI n3, pvI 4, pvR 3], M19_)) rfl ⟨trivial, trivial⟩ ?_
            by_cases c283_ : n3 = 0
            · refine pw_eqI c283_ ?_
              have b284_ : 0 ≤ Int32.toInt n3 ∧ Int32.toInt n3 ≤ 0 := (by have u0 := hn3; have u1 := (zi_eq _ _).mp c283_; have u2 := (show 0 ≤ Int32.toInt 0 ∧ Int32.toInt 0 ≤ 0 from (by decide)); omega)
              refine pw_blk hT 2 (S' := (35, [some (pvR 3), some (pvR q1), some (pvI n2), some (pvI n3), some (pvI n4)], [pvI 0, pvI n4, pvI 0, pvI 4, pvR 3], M19_)) rfl ⟨trivial, trivial, trivial⟩ ?_
              have b285_ : 4 ≤ Int32.toInt (M19_.1 3 2) ∧ Int32.toInt (M19_.1 3 2) ≤ 4 := (by rw [(((pvu_n e20_ 3 2 (Or.inr (by decide))).trans (pvu_n e16_ 3 2 (Or.inr (by decide)))).trans (pvu_s e9_))]; exact b282_)
              have e286_ : (M19_.1 3 1) = 0 := ((((pvu_n e20_ 3 1 (Or.inr (by decide))).trans (pvu_n e16_ 3 1 (Or.inr (by decide)))).trans (pvu_n e9_ 3 1 (Or.inr (by decide)))).trans (pvu_s e2_))
              have b287_ : 0 ≤ Int32.toInt (M19_.1 3 1) ∧ Int32.toInt (M19_.1 3 1) ≤ 0 := (by rw [e286_]; exact (show 0 ≤ Int32.toInt 0 ∧ Int32.toInt 0 ≤ 0 from (by decide)))
              refine pw_callGd hT (as := [pvR 3, pvI 4, pvI 0, pvI n4, pvI 0]) (lo1 := [some (pvR 3), some (pvI 4), some (pvI 0), some (pvI n4), some (pvI 0), none, none]) (d1 := d) (rest := []) rfl rfl rfl rfl rfl (fun h => absurd h (by decide)) (Nat.zero_le _) rfl rfl rfl (se_X0_run_3_4_0_x_0_4 M19_ o21_ n4 (zr_wide b287_ (by decide) (by decide)) b285_ d (Nat.le_trans (by decide) hd)) (fun x291_ M292_ b293_ o294_ g295_ d290_ => ?_)
              have d288_ := d290_.1
              have d289_ := d290_.2
              have f296_ : pvFr fp_eX0_perform_3_x_x_x_x M M292_ := pvfr_t g295_ f22_ fp_eX0_perform_3_x_x_x_x_fp_eX0_run_3_4_0_x_0_4
              have b297_ : 0 ≤ Int32.toInt (M292_.1 3 1) ∧ Int32.toInt (M292_.1 3 1) ≤ 2 := (by have u0 := b287_; have u1 := d288_; have u2 := pvok_r o294_ 3 1 (lo := 0) (hi := 1000000) rfl; omega)
              have u298_ : Int32.toInt 4 = 4 := by decide
              have u299_ : Int32.toInt 0 = 0 := by decide
              obtain ⟨b300_, d301_⟩ := b293_
              subst d301_
              have e302_ : (-(n4 + (M19_.1 3 4))) = (-(n4 + n2)) := (show (-(n4 + (M19_.1 3 4))) = (-(n4 + n2)) from by rw [(pvu_s e20_)])
              refine pw_eqI e302_ ?_
              exact pw_ret hT rfl (r := some (pvI (-(n4 + n2)))) (M' := M292_) ⟨rfl, rfl⟩ ⟨⟨_, rfl, trivial, ((if_neg c26_).trans ((if_neg c88_).trans ((if_neg c152_).trans ((if_neg c216_).trans ((if_pos c281_).trans (if_pos c283_)))))).symm⟩, o294_, f296_, (zTs_e ((if_neg c26_).trans ((if_neg c88_).trans ((if_neg c152_).trans ((if_neg c216_).trans ((if_pos c281_).trans (if_pos c283_)))))) (zTs_r (zTr_c0 (pvok_r o3_ 3 1 rfl).1 (zTr_k (zTr_k (zTr_k (zTr_0 3 1 4 M1_) (pvu_n e9_ 3 1 (Or.inr (by decide))) (fun j _ => pvu_n e9_ 4 j (Or.inl (by decide)))) (pvu_n e16_ 3 1 (Or.inr (by decide))) (fun j _ => pvu_n e16_ 4 j (Or.inl (by decide)))) (pvu_n e20_ 3 1 (Or.inr (by decide))) (fun j _ => pvu_n e20_ 4 j (Or.inl (by decide)))) d289_) (pvu_s e2_)))⟩
            · have b303_ : 1 ≤ Int32.toInt n3 ∧ Int32.toInt n3 ≤ 2 := (by have u0 := hn3; have u1 := (not_congr (zi_eq _ _)).mp c283_; have u2 := (show 0 ≤ Int32.toInt 0 ∧ Int32.toInt 0 ≤ 0 from (by decide)); omega)
              by_cases c304_ : n3 = 1
              · refine pw_eqI c304_ ?_
                have b305_ : 1 ≤ Int32.toInt n3 ∧ Int32.toInt n3 ≤ 1 := (by have u0 := b303_; have u1 := (zi_eq _ _).mp c304_; have u2 := (show 1 ≤ Int32.toInt 1 ∧ Int32.toInt 1 ≤ 1 from (by decide)); omega)
                refine pw_blk hT 2 (S' := (35, [some (pvR 3), some (pvR q1), some (pvI n2), some (pvI n3), some (pvI n4)], [pvI 0, pvI n4, pvI 1, pvI 4, pvR 3], M19_)) rfl ⟨trivial, trivial, trivial⟩ ?_
                have b306_ : 4 ≤ Int32.toInt (M19_.1 3 2) ∧ Int32.toInt (M19_.1 3 2) ≤ 4 := (by rw [(((pvu_n e20_ 3 2 (Or.inr (by decide))).trans (pvu_n e16_ 3 2 (Or.inr (by decide)))).trans (pvu_s e9_))]; exact b282_)
                have e307_ : (M19_.1 3 1) = 0 := ((((pvu_n e20_ 3 1 (Or.inr (by decide))).trans (pvu_n e16_ 3 1 (Or.inr (by decide)))).trans (pvu_n e9_ 3 1 (Or.inr (by decide)))).trans (pvu_s e2_))
                have b308_ : 0 ≤ Int32.toInt (M19_.1 3 1) ∧ Int32.toInt (M19_.1 3 1) ≤ 0 := (by rw [e307_]; exact (show 0 ≤ Int32.toInt 0 ∧ Int32.toInt 0 ≤ 0 from (by decide)))
                refine pw_callGd hT (as := [pvR 3, pvI 4, pvI 1, pvI n4, pvI 0]) (lo1 := [some (pvR 3), some (pvI 4), some (pvI 1), some (pvI n4), some (pvI 0), none, none]) (d1 := d) (rest := []) rfl rfl rfl rfl rfl (fun h => absurd h (by decide)) (Nat.zero_le _) rfl rfl rfl (se_X0_run_3_4_1_x_0_4 M19_ o21_ n4 (zr_wide b308_ (by decide) (by decide)) b306_ d (Nat.le_trans (by decide) hd)) (fun x312_ M313_ b314_ o315_ g316_ d311_ => ?_)
                have d309_ := d311_.1
                have d310_ := d311_.2
                have f317_ : pvFr fp_eX0_perform_3_x_x_x_x M M313_ := pvfr_t g316_ f22_ fp_eX0_perform_3_x_x_x_x_fp_eX0_run_3_4_1_x_0_4
                have b318_ : 0 ≤ Int32.toInt (M313_.1 3 1) ∧ Int32.toInt (M313_.1 3 1) ≤ 5 := (by have u0 := b308_; have u1 := d309_; have u2 := pvok_r o315_ 3 1 (lo := 0) (hi := 1000000) rfl; omega)
                have u319_ : Int32.toInt 4 = 4 := by decide
                have u320_ : Int32.toInt 1 = 1 := by decide
                have u321_ : Int32.toInt 0 = 0 := by decide
                obtain ⟨b322_, d323_⟩ := b314_
                subst d323_
                have e324_ : (((-((n4 + 1) + (M19_.1 3 4))) - (M19_.1 3 3)) ^^^ 6) = (((-((n4 + 1) + n2)) - (M.1 q1 1)) ^^^ 6) := (show (((-((n4 + 1) + (M19_.1 3 4))) - (M19_.1 3 3)) ^^^ 6) = (((-((n4 + 1) + n2)) - (M.1 q1 1)) ^^^ 6) from by rw [(pvu_s e20_), ((pvu_n e20_ 3 3 (Or.inr (by decide))).trans (pvu_s e16_))])
                refine pw_eqI e324_ ?_
                exact pw_ret hT rfl (r := some (pvI (((-((n4 + 1) + n2)) - (M.1 q1 1)) ^^^ 6))) (M' := M313_) ⟨rfl, rfl⟩ ⟨⟨_, rfl, trivial, ((if_neg c26_).trans ((if_neg c88_).trans ((if_neg c152_).trans ((if_neg c216_).trans ((if_pos c281_).trans ((if_neg c283_).trans (if_pos c304_))))))).symm⟩, o315_, f317_, (zTs_e ((if_neg c26_).trans ((if_neg c88_).trans ((if_neg c152_).trans ((if_neg c216_).trans ((if_pos c281_).trans ((if_neg c283_).trans (if_pos c304_))))))) (zTs_r (zTr_c0 (pvok_r o3_ 3 1 rfl).1 (zTr_k (zTr_k (zTr_k (zTr_0 3 1 4 M1_) (pvu_n e9_ 3 1 (Or.inr (by decide))) (fun j _ => pvu_n e9_ 4 j (Or.inl (by decide)))) (pvu_n e16_ 3 1 (Or.inr (by decide))) (fun j _ => pvu_n e16_ 4 j (Or.inl (by decide)))) (pvu_n e20_ 3 1 (Or.inr (by decide))) (fun j _ => pvu_n e20_ 4 j (Or.inl (by decide)))) d310_) (pvu_s e2_)))⟩
              · have b325_ : 2 ≤ Int32.toInt n3 ∧ Int32.toInt n3 ≤ 2 := (by have u0 := b303_; have u1 := (not_congr (zi_eq _ _)).mp c304_; have u2 := (show 1 ≤ Int32.toInt 1 ∧ Int32.toInt 1 ≤ 1 from (by decide)); omega)
                refine pw_eqI ((zi_eq _ (2)).mpr (by have u0 := b325_; have u1 : Int32.toInt (2) = 2 := (by decide); omega)) ?_
                refine pw_blk hT 2 (S' := (35, [some (pvR 3), some (pvR q1), some (pvI n2), some (pvI n3), some (pvI n4)], [pvI 0, pvI n4, pvI 2, pvI 4, pvR 3], M19_)) rfl ⟨trivial, trivial, trivial⟩ ?_
                have b326_ : 4 ≤ Int32.toInt (M19_.1 3 2) ∧ Int32.toInt (M19_.1 3 2) ≤ 4 := (by rw [(((pvu_n e20_ 3 2 (Or.inr (by decide))).trans (pvu_n e16_ 3 2 (Or.inr (by decide)))).trans (pvu_s e9_))]; exact b282_)
                have e327_ : (M19_.1 3 1) = 0 := ((((pvu_n e20_ 3 1 (Or.inr (by decide))).trans (pvu_n e16_ 3 1 (Or.inr (by decide)))).trans (pvu_n e9_ 3 1 (Or.inr (by decide)))).trans (pvu_s e2_))
                have b328_ : 0 ≤ Int32.toInt (M19_.1 3 1) ∧ Int32.toInt (M19_.1 3 1) ≤ 0 := (by rw [e327_]; exact (show 0 ≤ Int32.toInt 0 ∧ Int32.toInt 0 ≤ 0 from (by decide)))
                refine pw_callGd hT (as := [pvR 3, pvI 4, pvI 2, pvI n4, pvI 0]) (lo1 := [some (pvR 3), some (pvI 4), some (pvI 2), some (pvI n4), some (pvI 0), none, none]) (d1 := d) (rest := []) rfl rfl rfl rfl rfl (fun h => absurd h (by decide)) (Nat.zero_le _) rfl rfl rfl (se_X0_run_3_4_2_x_0_4 M19_ o21_ n4 (zr_wide b328_ (by decide) (by decide)) b326_ d (Nat.le_trans (by decide) hd)) (fun x332_ M333_ b334_ o335_ g336_ d331_ => ?_)
                have d329_ := d331_.1
                have d330_ := d331_.2
                have f337_ : pvFr fp_eX0_perform_3_x_x_x_x M M333_ := pvfr_t g336_ f22_ fp_eX0_perform_3_x_x_x_x_fp_eX0_run_3_4_2_x_0_4
                have b338_ : 0 ≤ Int32.toInt (M333_.1 3 1) ∧ Int32.toInt (M333_.1 3 1) ≤ 6 := (by have u0 := b328_; have u1 := d329_; have u2 := pvok_r o335_ 3 1 (lo := 0) (hi := 1000000) rfl; omega)
                have u339_ : Int32.toInt 4 = 4 := by decide
                have u340_ : Int32.toInt 2 = 2 := by decide
                have u341_ : Int32.toInt 0 = 0 := by decide
                obtain ⟨b342_, d343_⟩ := b334_
                subst d343_
                have e344_ : ((((-((n4 + 1) + (M19_.1 3 4))) - (M19_.1 3 3)) ^^^ 6) * 2) = ((((-((n4 + 1) + n2)) - (M.1 q1 1)) ^^^ 6) * 2) := (show ((((-((n4 + 1) + (M19_.1 3 4))) - (M19_.1 3 3)) ^^^ 6) * 2) = ((((-((n4 + 1) + n2)) - (M.1 q1 1)) ^^^ 6) * 2) from by rw [(pvu_s e20_), ((pvu_n e20_ 3 3 (Or.inr (by decide))).trans (pvu_s e16_))])
                refine pw_eqI e344_ ?_
                exact pw_ret hT rfl (r := some (pvI ((((-((n4 + 1) + n2)) - (M.1 q1 1)) ^^^ 6) * 2))) (M' := M333_) ⟨rfl, rfl⟩ ⟨⟨_, rfl, trivial, ((if_neg c26_).trans ((if_neg c88_).trans ((if_neg c152_).trans ((if_neg c216_).trans ((if_pos c281_).trans ((if_neg c283_).trans (if_neg c304_))))))).symm⟩, o335_, f337_, (zTs_e ((if_neg c26_).trans ((if_neg c88_).trans ((if_neg c152_).trans ((if_neg c216_).trans ((if_pos c281_).trans ((if_neg c283_).trans (if_neg c304_))))))) (zTs_r (zTr_c0 (pvok_r o3_ 3 1 rfl).1 (zTr_k (zTr_k (zTr_k (zTr_0 3 1 4 M1_) (pvu_n e9_ 3 1 (Or.inr (by decide))) (fun j _ => pvu_n e9_ 4 j (Or.inl (by decide)))) (pvu_n e16_ 3 1 (Or.inr (by decide))) (fun j _ => pvu_n e16_ 4 j (Or.inl (by decide)))) (pvu_n e20_ 3 1 (Or.inr (by decide))) (fun j _ => pvu_n e20_ 4 j (Or.inl (by decide)))) d330_) (pvu_s e2_)))⟩
          · have b345_ : 5 ≤ Int32.toInt (M.1 q1 0) ∧ Int32.toInt (M.1 q1 0) ≤ 6 := (by have u0 := b280_; have u1 := (not_congr (zi_eq _ _)).mp c281_; have u2 := (show 4 ≤ Int32.toInt 4 ∧ Int32.toInt 4 ≤ 4 from (by decide)); omega)
            by_cases c346_ : (M.1 q1 0) = 5
            · refine pw_eqI c346_ ?_
              have b347_ : 5 ≤ Int32.toInt (M.1 q1 0) ∧ Int32.toInt (M.1 q1 0) ≤ 5 := (by have u0 := b345_; have u1 := (zi_eq _ _).mp c346_; have u2 := (show 5 ≤ Int32.toInt 5 ∧ Int32.toInt 5 ≤ 5 from (by decide)); omega)
              refine pw_blk hT 1 (S' := (32, [some (pvR 3), some (pvR q1), some (pvI n2), some (pvI n3), some (pvI n4)], [pvI n3, pvI 5, pvR 3], M19_)) rfl ⟨trivial, trivial⟩ ?_
              by_cases c348_ : n3 = 0
              · refine pw_eqI c348_ ?_
                have b349_ : 0 ≤ Int32.toInt n3 ∧ Int32.toInt n3 ≤ 0 := (by have u0 := hn3; have u1 := (zi_eq _ _).mp c348_; have u2 := (show 0 ≤ Int32.toInt 0 ∧ Int32.toInt 0 ≤ 0 from (by decide)); omega)
                refine pw_blk hT 2 (S' := (35, [some (pvR 3), some (pvR q1), some (pvI n2), some (pvI n3), some (pvI n4)], [pvI 0, pvI n4, pvI 0, pvI 5, pvR 3], M19_)) rfl ⟨trivial, trivial, trivial⟩ ?_
                have b350_ : 5 ≤ Int32.toInt (M19_.1 3 2) ∧ Int32.toInt (M19_.1 3 2) ≤ 5 := (by rw [(((pvu_n e20_ 3 2 (Or.inr (by decide))).trans (pvu_n e16_ 3 2 (Or.inr (by decide)))).trans (pvu_s e9_))]; exact b347_)
                have e351_ : (M19_.1 3 1) = 0 := ((((pvu_n e20_ 3 1 (Or.inr (by decide))).trans (pvu_n e16_ 3 1 (Or.inr (by decide)))).trans (pvu_n e9_ 3 1 (Or.inr (by decide)))).trans (pvu_s e2_))
                have b352_ : 0 ≤ Int32.toInt (M19_.1 3 1) ∧ Int32.toInt (M19_.1 3 1) ≤ 0 := (by rw [e351_]; exact (show 0 ≤ Int32.toInt 0 ∧ Int32.toInt 0 ≤ 0 from (by decide)))
                refine pw_callGd hT (as := [pvR 3, pvI 5, pvI 0, pvI n4, pvI 0]) (lo1 := [some (pvR 3), some (pvI 5), some (pvI 0), some (pvI n4), some (pvI 0), none, none]) (d1 := d) (rest := []) rfl rfl rfl rfl rfl (fun h => absurd h (by decide)) (Nat.zero_le _) rfl rfl rfl (se_X0_run_3_5_0_x_0_5 M19_ o21_ n4 (zr_wide b352_ (by decide) (by decide)) b350_ d (Nat.le_trans (by decide) hd)) (fun x356_ M357_ b358_ o359_ g360_ d355_ => ?_)
                have d353_ := d355_.1
                have d354_ := d355_.2
                have f361_ : pvFr fp_eX0_perform_3_x_x_x_x M M357_ := pvfr_t g360_ f22_ fp_eX0_perform_3_x_x_x_x_fp_eX0_run_3_5_0_x_0_5
                have b362_ : 0 ≤ Int32.toInt (M357_.1 3 1) ∧ Int32.toInt (M357_.1 3 1) ≤ 2 := (by have u0 := b352_; have u1 := d353_; have u2 := pvok_r o359_ 3 1 (lo := 0) (hi := 1000000) rfl; omega)
                have u363_ : Int32.toInt 5 = 5 := by decide
                have u364_ : Int32.toInt 0 = 0 := by decide
                obtain ⟨b365_, d366_⟩ := b358_
                subst d366_
                have e367_ : ((n4 * 3) + (M19_.1 3 4)) = ((n4 * 3) + n2) := (show ((n4 * 3) + (M19_.1 3 4)) = ((n4 * 3) + n2) from by rw [(pvu_s e20_)])
                refine pw_eqI e367_ ?_
                exact pw_ret hT rfl (r := some (pvI ((n4 * 3) + n2))) (M' := M357_) ⟨rfl, rfl⟩ ⟨⟨_, rfl, trivial, ((if_neg c26_).trans ((if_neg c88_).trans ((if_neg c152_).trans ((if_neg c216_).trans ((if_neg c281_).trans ((if_pos c346_).trans (if_pos c348_))))))).symm⟩, o359_, f361_, (zTs_e ((if_neg c26_).trans ((if_neg c88_).trans ((if_neg c152_).trans ((if_neg c216_).trans ((if_neg c281_).trans ((if_pos c346_).trans (if_pos c348_))))))) (zTs_r (zTr_c0 (pvok_r o3_ 3 1 rfl).1 (zTr_k (zTr_k (zTr_k (zTr_0 3 1 4 M1_) (pvu_n e9_ 3 1 (Or.inr (by decide))) (fun j _ => pvu_n e9_ 4 j (Or.inl (by decide)))) (pvu_n e16_ 3 1 (Or.inr (by decide))) (fun j _ => pvu_n e16_ 4 j (Or.inl (by decide)))) (pvu_n e20_ 3 1 (Or.inr (by decide))) (fun j _ => pvu_n e20_ 4 j (Or.inl (by decide)))) d354_) (pvu_s e2_)))⟩
              · have b368_ : 1 ≤ Int32.toInt n3 ∧ Int32.toInt n3 ≤ 2 := (by have u0 := hn3; have u1 := (not_congr (zi_eq _ _)).mp c348_; have u2 := (show 0 ≤ Int32.toInt 0 ∧ Int32.toInt 0 ≤ 0 from (by decide)); omega)
                by_cases c369_ : n3 = 1
                · refine pw_eqI c369_ ?_
                  have b370_ : 1 ≤ Int32.toInt n3 ∧ Int32.toInt n3 ≤ 1 := (by have u0 := b368_; have u1 := (zi_eq _ _).mp c369_; have u2 := (show 1 ≤ Int32.toInt 1 ∧ Int32.toInt 1 ≤ 1 from (by decide)); omega)
                  refine pw_blk hT 2 (S' := (35, [some (pvR 3), some (pvR q1), some (pvI n2), some (pvI n3), some (pvI n4)], [pvI 0, pvI n4, pvI 1, pvI 5, pvR 3], M19_)) rfl ⟨trivial, trivial, trivial⟩ ?_
                  have b371_ : 5 ≤ Int32.toInt (M19_.1 3 2) ∧ Int32.toInt (M19_.1 3 2) ≤ 5 := (by rw [(((pvu_n e20_ 3 2 (Or.inr (by decide))).trans (pvu_n e16_ 3 2 (Or.inr (by decide)))).trans (pvu_s e9_))]; exact b347_)
                  have e372_ : (M19_.1 3 1) = 0 := ((((pvu_n e20_ 3 1 (Or.inr (by decide))).trans (pvu_n e16_ 3 1 (Or.inr (by decide)))).trans (pvu_n e9_ 3 1 (Or.inr (by decide)))).trans (pvu_s e2_))
                  have b373_ : 0 ≤ Int32.toInt (M19_.1 3 1) ∧ Int32.toInt (M19_.1 3 1) ≤ 0 := (by rw [e372_]; exact (show 0 ≤ Int32.toInt 0 ∧ Int32.toInt 0 ≤ 0 from (by decide)))
                  refine pw_callGd hT (as := [pvR 3, pvI 5, pvI 1, pvI n4, pvI 0]) (lo1 := [some (pvR 3), some (pvI 5), some (pvI 1), some (pvI n4), some (pvI 0), none, none]) (d1 := d) (rest := []) rfl rfl rfl rfl rfl (fun h => absurd h (by decide)) (Nat.zero_le _) rfl rfl rfl (se_X0_run_3_5_1_x_0_5 M19_ o21_ n4 (zr_wide b373_ (by decide) (by decide)) b371_ d (Nat.le_trans (by decide) hd)) (fun x377_ M378_ b379_ o380_ g381_ d376_ => ?_)
                  have d374_ := d376_.1
                  have d375_ := d376_.2
                  have f382_ : pvFr fp_eX0_perform_3_x_x_x_x M M378_ := pvfr_t g381_ f22_ fp_eX0_perform_3_x_x_x_x_fp_eX0_run_3_5_1_x_0_5
                  have b383_ : 0 ≤ Int32.toInt (M378_.1 3 1) ∧ Int32.toInt (M378_.1 3 1) ≤ 3 := (by have u0 := b373_; have u1 := d374_; have u2 := pvok_r o380_ 3 1 (lo := 0) (hi := 1000000) rfl; omega)
                  have u384_ : Int32.toInt 5 = 5 := by decide
                  have u385_ : Int32.toInt 1 = 1 := by decide
                  have u386_ : Int32.toInt 0 = 0 := by decide
                  obtain ⟨b387_, d388_⟩ := b379_
                  subst d388_
                  have e389_ : (((n4 * 3) + (M19_.1 3 4)) - (M19_.1 3 3)) = (((n4 * 3) + n2) - (M.1 q1 1)) := (show (((n4 * 3) + (M19_.1 3 4)) - (M19_.1 3 3)) = (((n4 * 3) + n2) - (M.1 q1 1)) from by rw [(pvu_s e20_), ((pvu_n e20_ 3 3 (Or.inr (by decide))).trans (pvu_s e16_))])
                  refine pw_eqI e389_ ?_
                  exact pw_ret hT rfl (r := some (pvI (((n4 * 3) + n2) - (M.1 q1 1)))) (M' := M378_) ⟨rfl, rfl⟩ ⟨⟨_, rfl, trivial, ((if_neg c26_).trans ((if_neg c88_).trans ((if_neg c152_).trans ((if_neg c216_).trans ((if_neg c281_).trans ((if_pos c346_).trans ((if_neg c348_).trans (if_pos c369_)))))))).symm⟩, o380_, f382_, (zTs_e ((if_neg c26_).trans ((if_neg c88_).trans ((if_neg c152_).trans ((if_neg c216_).trans ((if_neg c281_).trans ((if_pos c346_).trans ((if_neg c348_).trans (if_pos c369_)))))))) (zTs_r (zTr_c0 (pvok_r o3_ 3 1 rfl).1 (zTr_k (zTr_k (zTr_k (zTr_0 3 1 4 M1_) (pvu_n e9_ 3 1 (Or.inr (by decide))) (fun j _ => pvu_n e9_ 4 j (Or.inl (by decide)))) (pvu_n e16_ 3 1 (Or.inr (by decide))) (fun j _ => pvu_n e16_ 4 j (Or.inl (by decide)))) (pvu_n e20_ 3 1 (Or.inr (by decide))) (fun j _ => pvu_n e20_ 4 j (Or.inl (by decide)))) d375_) (pvu_s e2_)))⟩
                · have b390_ : 2 ≤ Int32.toInt n3 ∧ Int32.toInt n3 ≤ 2 := (by have u0 := b368_; have u1 := (not_congr (zi_eq _ _)).mp c369_; have u2 := (show 1 ≤ Int32.toInt 1 ∧ Int32.toInt 1 ≤ 1 from (by decide)); omega)
                  refine pw_eqI ((zi_eq _ (2)).mpr (by have u0 := b390_; have u1 : Int32.toInt (2) = 2 := (by decide); omega)) ?_
                  refine pw_blk hT 2 (S' := (35, [some (pvR 3), some (pvR q1), some (pvI n2), some (pvI n3), some (pvI n4)], [pvI 0, pvI n4, pvI 2, pvI 5, pvR 3], M19_)) rfl ⟨trivial, trivial, trivial⟩ ?_
                  have b391_ : 5 ≤ Int32.toInt (M19_.1 3 2) ∧ Int32.toInt (M19_.1 3 2) ≤ 5 := (by rw [(((pvu_n e20_ 3 2 (Or.inr (by decide))).trans (pvu_n e16_ 3 2 (Or.inr (by decide)))).trans (pvu_s e9_))]; exact b347_)
                  have e392_ : (M19_.1 3 1) = 0 := ((((pvu_n e20_ 3 1 (Or.inr (by decide))).trans (pvu_n e16_ 3 1 (Or.inr (by decide)))).trans (pvu_n e9_ 3 1 (Or.inr (by decide)))).trans (pvu_s e2_))
                  have b393_ : 0 ≤ Int32.toInt (M19_.1 3 1) ∧ Int32.toInt (M19_.1 3 1) ≤ 0 := (by rw [e392_]; exact (show 0 ≤ Int32.toInt 0 ∧ Int32.toInt 0 ≤ 0 from (by decide)))
                  refine pw_callGd hT (as := [pvR 3, pvI 5, pvI 2, pvI n4, pvI 0]) (lo1 := [some (pvR 3), some (pvI 5), some (pvI 2), some (pvI n4), some (pvI 0), none, none]) (d1 := d) (rest := []) rfl rfl rfl rfl rfl (fun h => absurd h (by decide)) (Nat.zero_le _) rfl rfl rfl (se_X0_run_3_5_2_x_0_5 M19_ o21_ n4 (zr_wide b393_ (by decide) (by decide)) b391_ d (Nat.le_trans (by decide) hd)) (fun x397_ M398_ b399_ o400_ g401_ d396_ => ?_)
                  have d394_ := d396_.1
                  have d395_ := d396_.2
                  have f402_ : pvFr fp_eX0_perform_3_x_x_x_x M M398_ := pvfr_t g401_ f22_ fp_eX0_perform_3_x_x_x_x_fp_eX0_run_3_5_2_x_0_5
                  have b403_ : 0 ≤ Int32.toInt (M398_.1 3 1) ∧ Int32.toInt (M398_.1 3 1) ≤ 5 := (by have u0 := b393_; have u1 := d394_; have u2 := pvok_r o400_ 3 1 (lo := 0) (hi := 1000000) rfl; omega)
                  have u404_ : Int32.toInt 5 = 5 := by decide
                  have u405_ : Int32.toInt 2 = 2 := by decide
                  have u406_ : Int32.toInt 0 = 0 := by decide
                  obtain ⟨b407_, d408_⟩ := b399_
                  subst d408_
                  have e409_ : (((((n4 - (M19_.1 3 4)) * 3) + (M19_.1 3 4)) - (M19_.1 3 3)) * 2) = (((((n4 - n2) * 3) + n2) - (M.1 q1 1)) * 2) := (show (((((n4 - (M19_.1 3 4)) * 3) + (M19_.1 3 4)) - (M19_.1 3 3)) * 2) = (((((n4 - n2) * 3) + n2) - (M.1 q1 1)) * 2) from by rw [(pvu_s e20_), ((pvu_n e20_ 3 3 (Or.inr (by decide))).trans (pvu_s e16_))])
                  refine pw_eqI e409_ ?_
                  exact pw_ret hT rfl (r := some (pvI (((((n4 - n2) * 3) + n2) - (M.1 q1 1)) * 2))) (M' := M398_) ⟨rfl, rfl⟩ ⟨⟨_, rfl, trivial, ((if_neg c26_).trans ((if_neg c88_).trans ((if_neg c152_).trans ((if_neg c216_).trans ((if_neg c281_).trans ((if_pos c346_).trans ((if_neg c348_).trans (if_neg c369_)))))))).symm⟩, o400_, f402_, (zTs_e ((if_neg c26_).trans ((if_neg c88_).trans ((if_neg c152_).trans ((if_neg c216_).trans ((if_neg c281_).trans ((if_pos c346_).trans ((if_neg c348_).trans (if_neg c369_)))))))) (zTs_r (zTr_c0 (pvok_r o3_ 3 1 rfl).1 (zTr_k (zTr_k (zTr_k (zTr_0 3 1 4 M1_) (pvu_n e9_ 3 1 (Or.inr (by decide))) (fun j _ => pvu_n e9_ 4 j (Or.inl (by decide)))) (pvu_n e16_ 3 1 (Or.inr (by decide))) (fun j _ => pvu_n e16_ 4 j (Or.inl (by decide)))) (pvu_n e20_ 3 1 (Or.inr (by decide))) (fun j _ => pvu_n e20_ 4 j (Or.inl (by decide)))) d395_) (pvu_s e2_)))⟩
            · have b410_ : 6 ≤ Int32.toInt (M.1 q1 0) ∧ Int32.toInt (M.1 q1 0) ≤ 6 := (by have u0 := b345_; have u1 := (not_congr (zi_eq _ _)).mp c346_; have u2 := (show 5 ≤ Int32.toInt 5 ∧ Int32.toInt 5 ≤ 5 from (by decide)); omega)
              refine pw_eqI ((zi_eq _ (6)).mpr (by have u0 := b410_; have u1 : Int32.toInt (6) = 6 := (by decide); omega)) ?_
              refine pw_blk hT 1 (S' := (32, [some (pvR 3), some (pvR q1), some (pvI n2), some (pvI n3), some (pvI n4)], [pvI n3, pvI 6, pvR 3], M19_)) rfl ⟨trivial, trivial⟩ ?_
              by_cases c411_ : n3 = 0
              · refine pw_eqI c411_ ?_
                have b412_ : 0 ≤ Int32.toInt n3 ∧ Int32.toInt n3 ≤ 0 := (by have u0 := hn3; have u1 := (zi_eq _ _).mp c411_; have u2 := (show 0 ≤ Int32.toInt 0 ∧ Int32.toInt 0 ≤ 0 from (by decide)); omega)
                refine pw_blk hT 2 (S' := (35, [some (pvR 3), some (pvR q1), some (pvI n2), some (pvI n3), some (pvI n4)], [pvI 0, pvI n4, pvI 0, pvI 6, pvR 3], M19_)) rfl ⟨trivial, trivial, trivial⟩ ?_
                have b413_ : 6 ≤ Int32.toInt (M19_.1 3 2) ∧ Int32.toInt (M19_.1 3 2) ≤ 6 := (by rw [(((pvu_n e20_ 3 2 (Or.inr (by decide))).trans (pvu_n e16_ 3 2 (Or.inr (by decide)))).trans (pvu_s e9_))]; exact b410_)
                have e414_ : (M19_.1 3 1) = 0 := ((((pvu_n e20_ 3 1 (Or.inr (by decide))).trans (pvu_n e16_ 3 1 (Or.inr (by decide)))).trans (pvu_n e9_ 3 1 (Or.inr (by decide)))).trans (pvu_s e2_))
                have b415_ : 0 ≤ Int32.toInt (M19_.1 3 1) ∧ Int32.toInt (M19_.1 3 1) ≤ 0 := (by rw [e414_]; exact (show 0 ≤ Int32.toInt 0 ∧ Int32.toInt 0 ≤ 0 from (by decide)))
                refine pw_callGd hT (as := [pvR 3, pvI 6, pvI 0, pvI n4, pvI 0]) (lo1 := [some (pvR 3), some (pvI 6), some (pvI 0), some (pvI n4), some (pvI 0), none, none]) (d1 := d) (rest := []) rfl rfl rfl rfl rfl (fun h => absurd h (by decide)) (Nat.zero_le _) rfl rfl rfl (se_X0_run_3_6_0_x_0_6 M19_ o21_ n4 (zr_wide b415_ (by decide) (by decide)) b413_ d (Nat.le_trans (by decide) hd)) (fun x419_ M420_ b421_ o422_ g423_ d418_ => ?_)
                have d416_ := d418_.1
                have d417_ := d418_.2
                have f424_ : pvFr fp_eX0_perform_3_x_x_x_x M M420_ := pvfr_t g423_ f22_ fp_eX0_perform_3_x_x_x_x_fp_eX0_run_3_6_0_x_0_6
                have b425_ : 0 ≤ Int32.toInt (M420_.1 3 1) ∧ Int32.toInt (M420_.1 3 1) ≤ 2 := (by have u0 := b415_; have u1 := d416_; have u2 := pvok_r o422_ 3 1 (lo := 0) (hi := 1000000) rfl; omega)
                have u426_ : Int32.toInt 6 = 6 := by decide
                have u427_ : Int32.toInt 0 = 0 := by decide
                obtain ⟨b428_, d429_⟩ := b421_
                subst d429_
                have e430_ : ((n4 + (M19_.1 3 4)) ^^^ (M19_.1 3 3)) = ((n4 + n2) ^^^ (M.1 q1 1)) := (show ((n4 + (M19_.1 3 4)) ^^^ (M19_.1 3 3)) = ((n4 + n2) ^^^ (M.1 q1 1)) from by rw [(pvu_s e20_), ((pvu_n e20_ 3 3 (Or.inr (by decide))).trans (pvu_s e16_))])
                refine pw_eqI e430_ ?_
                exact pw_ret hT rfl (r := some (pvI ((n4 + n2) ^^^ (M.1 q1 1)))) (M' := M420_) ⟨rfl, rfl⟩ ⟨⟨_, rfl, trivial, ((if_neg c26_).trans ((if_neg c88_).trans ((if_neg c152_).trans ((if_neg c216_).trans ((if_neg c281_).trans ((if_neg c346_).trans (if_pos c411_))))))).symm⟩, o422_, f424_, (zTs_e ((if_neg c26_).trans ((if_neg c88_).trans ((if_neg c152_).trans ((if_neg c216_).trans ((if_neg c281_).trans ((if_neg c346_).trans (if_pos c411_))))))) (zTs_r (zTr_c0 (pvok_r o3_ 3 1 rfl).1 (zTr_k (zTr_k (zTr_k (zTr_0 3 1 4 M1_) (pvu_n e9_ 3 1 (Or.inr (by decide))) (fun j _ => pvu_n e9_ 4 j (Or.inl (by decide)))) (pvu_n e16_ 3 1 (Or.inr (by decide))) (fun j _ => pvu_n e16_ 4 j (Or.inl (by decide)))) (pvu_n e20_ 3 1 (Or.inr (by decide))) (fun j _ => pvu_n e20_ 4 j (Or.inl (by decide)))) d417_) (pvu_s e2_)))⟩
              · have b431_ : 1 ≤ Int32.toInt n3 ∧ Int32.toInt n3 ≤ 2 := (by have u0 := hn3; have u1 := (not_congr (zi_eq _ _)).mp c411_; have u2 := (show 0 ≤ Int32.toInt 0 ∧ Int32.toInt 0 ≤ 0 from (by decide)); omega)
                by_cases c432_ : n3 = 1
                · refine pw_eqI c432_ ?_
                  have b433_ : 1 ≤ Int32.toInt n3 ∧ Int32.toInt n3 ≤ 1 := (by have u0 := b431_; have u1 := (zi_eq _ _).mp c432_; have u2 := (show 1 ≤ Int32.toInt 1 ∧ Int32.toInt 1 ≤ 1 from (by decide)); omega)
                  refine pw_blk hT 2 (S' := (35, [some (pvR 3), some (pvR q1), some (pvI n2), some (pvI n3), some (pvI n4)], [pvI 0, pvI n4, pvI 1, pvI 6, pvR 3], M19_)) rfl ⟨trivial, trivial, trivial⟩ ?_
                  have b434_ : 6 ≤ Int32.toInt (M19_.1 3 2) ∧ Int32.toInt (M19_.1 3 2) ≤ 6 := (by rw [(((pvu_n e20_ 3 2 (Or.inr (by decide))).trans (pvu_n e16_ 3 2 (Or.inr (by decide)))).trans (pvu_s e9_))]; exact b410_)
                  have e435_ : (M19_.1 3 1) = 0 := ((((pvu_n e20_ 3 1 (Or.inr (by decide))).trans (pvu_n e16_ 3 1 (Or.inr (by decide)))).trans (pvu_n e9_ 3 1 (Or.inr (by decide)))).trans (pvu_s e2_))
                  have b436_ : 0 ≤ Int32.toInt (M19_.1 3 1) ∧ Int32.toInt (M19_.1 3 1) ≤ 0 := (by rw [e435_]; exact (show 0 ≤ Int32.toInt 0 ∧ Int32.toInt 0 ≤ 0 from (by decide)))
                  refine pw_callGd hT (as := [pvR 3, pvI 6, pvI 1, pvI n4, pvI 0]) (lo1 := [some (pvR 3), some (pvI 6), some (pvI 1), some (pvI n4), some (pvI 0), none, none]) (d1 := d) (rest := []) rfl rfl rfl rfl rfl (fun h => absurd h (by decide)) (Nat.zero_le _) rfl rfl rfl (se_X0_run_3_6_1_x_0_6 M19_ o21_ n4 (zr_wide b436_ (by decide) (by decide)) b434_ d (Nat.le_trans (by decide) hd)) (fun x440_ M441_ b442_ o443_ g444_ d439_ => ?_)
                  have d437_ := d439_.1
                  have d438_ := d439_.2
                  have f445_ : pvFr fp_eX0_perform_3_x_x_x_x M M441_ := pvfr_t g444_ f22_ fp_eX0_perform_3_x_x_x_x_fp_eX0_run_3_6_1_x_0_6
                  have b446_ : 0 ≤ Int32.toInt (M441_.1 3 1) ∧ Int32.toInt (M441_.1 3 1) ≤ 5 := (by have u0 := b436_; have u1 := d437_; have u2 := pvok_r o443_ 3 1 (lo := 0) (hi := 1000000) rfl; omega)
                  have u447_ : Int32.toInt 6 = 6 := by decide
                  have u448_ : Int32.toInt 1 = 1 := by decide
                  have u449_ : Int32.toInt 0 = 0 := by decide
                  obtain ⟨b450_, d451_⟩ := b442_
                  subst d451_
                  have e452_ : ((((n4 + (M19_.1 3 4)) ^^^ (M19_.1 3 3)) - (M19_.1 3 3)) + (2 + (M19_.1 3 4))) = ((((n4 + n2) ^^^ (M.1 q1 1)) - (M.1 q1 1)) + (2 + n2)) := (show ((((n4 + (M19_.1 3 4)) ^^^ (M19_.1 3 3)) - (M19_.1 3 3)) + (2 + (M19_.1 3 4))) = ((((n4 + n2) ^^^ (M.1 q1 1)) - (M.1 q1 1)) + (2 + n2)) from by rw [(pvu_s e20_), ((pvu_n e20_ 3 3 (Or.inr (by decide))).trans (pvu_s e16_))])
                  refine pw_eqI e452_ ?_
                  exact pw_ret hT rfl (r := some (pvI ((((n4 + n2) ^^^ (M.1 q1 1)) - (M.1 q1 1)) + (2 + n2)))) (M' := M441_) ⟨rfl, rfl⟩ ⟨⟨_, rfl, trivial, ((if_neg c26_).trans ((if_neg c88_).trans ((if_neg c152_).trans ((if_neg c216_).trans ((if_neg c281_).trans ((if_neg c346_).trans ((if_neg c411_).trans (if_pos c432_)))))))).symm⟩, o443_, f445_, (zTs_e ((if_neg c26_).trans ((if_neg c88_).trans ((if_neg c152_).trans ((if_neg c216_).trans ((if_neg c281_).trans ((if_neg c346_).trans ((if_neg c411_).trans (if_pos c432_)))))))) (zTs_r (zTr_c0 (pvok_r o3_ 3 1 rfl).1 (zTr_k (zTr_k (zTr_k (zTr_0 3 1 4 M1_) (pvu_n e9_ 3 1 (Or.inr (by decide))) (fun j _ => pvu_n e9_ 4 j (Or.inl (by decide)))) (pvu_n e16_ 3 1 (Or.inr (by decide))) (fun j _ => pvu_n e16_ 4 j (Or.inl (by decide)))) (pvu_n e20_ 3 1 (Or.inr (by decide))) (fun j _ => pvu_n e20_ 4 j (Or.inl (by decide)))) d438_) (pvu_s e2_)))⟩
                · have b453_ : 2 ≤ Int32.toInt n3 ∧ Int32.toInt n3 ≤ 2 := (by have u0 := b431_; have u1 := (not_congr (zi_eq _ _)).mp c432_; have u2 := (show 1 ≤ Int32.toInt 1 ∧ Int32.toInt 1 ≤ 1 from (by decide)); omega)
                  refine pw_eqI ((zi_eq _ (2)).mpr (by have u0 := b453_; have u1 : Int32.toInt (2) = 2 := (by decide); omega)) ?_
                  refine pw_blk hT 2 (S' := (35, [some (pvR 3), some (pvR q1), some (pvI n2), some (pvI n3), some (pvI n4)], [pvI 0, pvI n4, pvI 2, pvI 6, pvR 3], M19_)) rfl ⟨trivial, trivial, trivial⟩ ?_
                  have b454_ : 6 ≤ Int32.toInt (M19_.1 3 2) ∧ Int32.toInt (M19_.1 3 2) ≤ 6 := (by rw [(((pvu_n e20_ 3 2 (Or.inr (by decide))).trans (pvu_n e16_ 3 2 (Or.inr (by decide)))).trans (pvu_s e9_))]; exact b410_)
                  have e455_ : (M19_.1 3 1) = 0 := ((((pvu_n e20_ 3 1 (Or.inr (by decide))).trans (pvu_n e16_ 3 1 (Or.inr (by decide)))).trans (pvu_n e9_ 3 1 (Or.inr (by decide)))).trans (pvu_s e2_))
                  have b456_ : 0 ≤ Int32.toInt (M19_.1 3 1) ∧ Int32.toInt (M19_.1 3 1) ≤ 0 := (by rw [e455_]; exact (show 0 ≤ Int32.toInt 0 ∧ Int32.toInt 0 ≤ 0 from (by decide)))
                  refine pw_callGd hT (as := [pvR 3, pvI 6, pvI 2, pvI n4, pvI 0]) (lo1 := [some (pvR 3), some (pvI 6), some (pvI 2), some (pvI n4), some (pvI 0), none, none]) (d1 := d) (rest := []) rfl rfl rfl rfl rfl (fun h => absurd h (by decide)) (Nat.zero_le _) rfl rfl rfl (se_X0_run_3_6_2_x_0_6 M19_ o21_ n4 (zr_wide b456_ (by decide) (by decide)) b454_ d (Nat.le_trans (by decide) hd)) (fun x460_ M461_ b462_ o463_ g464_ d459_ => ?_)
                  have d457_ := d459_.1
                  have d458_ := d459_.2
                  have f465_ : pvFr fp_eX0_perform_3_x_x_x_x M M461_ := pvfr_t g464_ f22_ fp_eX0_perform_3_x_x_x_x_fp_eX0_run_3_6_2_x_0_6
                  have b466_ : 0 ≤ Int32.toInt (M461_.1 3 1) ∧ Int32.toInt (M461_.1 3 1) ≤ 12 := (by have u0 := b456_; have u1 := d457_; have u2 := pvok_r o463_ 3 1 (lo := 0) (hi := 1000000) rfl; omega)
                  have u467_ : Int32.toInt 6 = 6 := by decide
                  have u468_ : Int32.toInt 2 = 2 := by decide
                  have u469_ : Int32.toInt 0 = 0 := by decide
                  obtain ⟨b470_, d471_⟩ := b462_
                  subst d471_
                  have e472_ : ((((((n4 + (M19_.1 3 4)) ^^^ (M19_.1 3 3)) - (M19_.1 3 3)) + (2 + (M19_.1 3 4))) * 2) + ((((1 + (M19_.1 3 4)) ^^^ (M19_.1 3 3)) - (M19_.1 3 3)) + (2 + (M19_.1 3 4)))) = ((((((n4 + n2) ^^^ (M.1 q1 1)) - (M.1 q1 1)) + (2 + n2)) * 2) + ((((1 + n2) ^^^ (M.1 q1 1)) - (M.1 q1 1)) + (2 + n2))) := (show ((((((n4 + (M19_.1 3 4)) ^^^ (M19_.1 3 3)) - (M19_.1 3 3)) + (2 + (M19_.1 3 4))) * 2) + ((((1 + (M19_.1 3 4)) ^^^ (M19_.1 3 3)) - (M19_.1 3 3)) + (2 + (M19_.1 3 4)))) = ((((((n4 + n2) ^^^ (M.1 q1 1)) - (M.1 q1 1)) + (2 + n2)) * 2) + ((((1 + n2) ^^^ (M.1 q1 1)) - (M.1 q1 1)) + (2 + n2))) from by rw [(pvu_s e20_), ((pvu_n e20_ 3 3 (Or.inr (by decide))).trans (pvu_s e16_))])
                  refine pw_eqI e472_ ?_
                  exact pw_ret hT rfl (r := some (pvI ((((((n4 + n2) ^^^ (M.1 q1 1)) - (M.1 q1 1)) + (2 + n2)) * 2) + ((((1 + n2) ^^^ (M.1 q1 1)) - (M.1 q1 1)) + (2 + n2))))) (M' := M461_) ⟨rfl, rfl⟩ ⟨⟨_, rfl, trivial, ((if_neg c26_).trans ((if_neg c88_).trans ((if_neg c152_).trans ((if_neg c216_).trans ((if_neg c281_).trans ((if_neg c346_).trans ((if_neg c411_).trans (if_neg c432_)))))))).symm⟩, o463_, f465_, (zTs_e ((if_neg c26_).trans ((if_neg c88_).trans ((if_neg c152_).trans ((if_neg c216_).trans ((if_neg c281_).trans ((if_neg c346_).trans ((if_neg c411_).trans (if_neg c432_)))))))) (zTs_r (zTr_c0 (pvok_r o3_ 3 1 rfl).1 (zTr_k (zTr_k (zTr_k (zTr_0 3 1 4 M1_) (pvu_n e9_ 3 1 (Or.inr (by decide))) (fun j _ => pvu_n e9_ 4 j (Or.inl (by decide)))) (pvu_n e16_ 3 1 (Or.inr (by decide))) (fun j _ => pvu_n e16_ 4 j (Or.inl (by decide)))) (pvu_n e20_ 3 1 (Or.inr (by decide))) (fun j _ => pvu_n e20_ 4 j (Or.inl (by decide)))) d458_) (pvu_s e2_)))⟩
