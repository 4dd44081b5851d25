def fpL_eX0_run_3_0_0_x_4_5 : List (Nat × Nat × Nat) := [(0, 3, 2), (0, 4, 0)]
def fp_eX0_run_3_0_0_x_4_5 (q k : Nat) : Bool := pvfp fpL_eX0_run_3_0_0_x_4_5 q k
theorem fp_eX0_run_3_0_0_x_4_5_fp_eX0_note_3_x (a b : Nat) (h : fp_eX0_note_3_x a b = true) : fp_eX0_run_3_0_0_x_4_5 a b = true := pvfp_sub (l1 := fpL_eX0_note_3_x) (l2 := fpL_eX0_run_3_0_0_x_4_5) (by decide) a b h
set_option maxHeartbeats 4000000 in
set_option maxRecDepth 10000 in
theorem se_X0_run_3_0_0_x_4_5 (M : pvM) (hok : pvOk M) (n3 : Int32) (hc3_1 : 0 ≤ Int32.toInt (M.1 3 1) ∧ Int32.toInt (M.1 3 1) ≤ 998) (hc3_2 : 5 ≤ Int32.toInt (M.1 3 2) ∧ Int32.toInt (M.1 3 2) ≤ 5) (d : Nat) : PW 4 d (0, [some (pvR 3), some (pvI 0), some (pvI 0), some (pvI n3), some (pvI 4), none, none], [], M) (fun r X => (∃ x : Int32, r = some (pvI x) ∧ True ∧ x = (n3 + (M.1 3 4))) ∧ pvOk X ∧ pvFr fp_eX0_run_3_0_0_x_4_5 M X ∧ Int32.toInt (X.1 3 1) ≤ Int32.toInt (M.1 3 1) + 1 ∧ zTr 3 1 4 ([10] : List Int32) M X) := by
  have hT : pvdom 4 = pvD_4 := rfl
  refine pw_blk hT 2 (S' := (4, [some (pvR 3), some (pvI 0), some (pvI 0), some (pvI n3), some (pvI 4), none, none], [pvI 40, pvI 4], M)) rfl ⟨trivial, trivial, trivial⟩ ?_
  refine pw_ic hT (c := 4 ≤ 40) rfl rfl (fun c1_ => ?_) (fun c1_ => absurd (by decide) c1_)
  refine pw_blk hT 2 (S' := (11, [some (pvR 3), some (pvI 0), some (pvI 0), some (pvI n3), some (pvI 4), none, none], [pvI 0, pvI 0], M)) rfl ⟨trivial, trivial, trivial⟩ ?_
  refine pw_callT hT (as := [pvI 0, pvI 0]) (lo1 := [some (pvI 0), some (pvI 0), none, none, none]) (d1 := d) (rest := []) rfl rfl rfl rfl rfl (fun h => absurd h (by decide)) (Nat.zero_le _) rfl rfl rfl (sf_X0_bodyFrom_0_0 M hok d) ?_
  refine pw_eqI (show ((pvstab 1041).getD (Int32.toNatClampNeg ((0 * 3) + 0)) 0) = 10 from by decide) ?_
  show PW 4 d (14, [some (pvR 3), some (pvI 0), some (pvI 0), some (pvI n3), some (pvI 4), none, none], [pvI 10], M) _
  refine pw_blk hT 7 (S' := (25, [some (pvR 3), some (pvI 0), some (pvI 0), some (pvI n3), some (pvI 4), some (pvI 10), some (pvI (4 + 1))], [pvI 10, pvR 3], M)) rfl ⟨trivial, trivial, trivial, trivial, trivial, trivial, trivial, trivial⟩ ?_
  refine pw_callVd hT (as := [pvR 3, pvI 10]) (lo1 := [some (pvR 3), some (pvI 10)]) (d1 := d) (rest := []) rfl rfl rfl rfl rfl (fun _ => rfl) (Nat.zero_le _) rfl rfl rfl (se_X0_note_3_x M hok 10 (zr_wide (show 10 ≤ Int32.toInt 10 ∧ Int32.toInt 10 ≤ 10 from (by decide)) (by decide) (by decide)) (zr_wide hc3_1 (by decide) (by decide)) d) (fun M11_ o13_ g14_ d9_ => ?_)
  have d7_ := d9_.1
  have d8_ := d9_.2
  have f15_ : pvFr fp_eX0_run_3_0_0_x_4_5 M M11_ := pvfr_t g14_ pvfr_0 fp_eX0_run_3_0_0_x_4_5_fp_eX0_note_3_x
  have b16_ : 0 ≤ Int32.toInt (M11_.1 3 1) ∧ Int32.toInt (M11_.1 3 1) ≤ 999 := (by have u0 := hc3_1; have u1 := d7_; have u2 := pvok_r o13_ 3 1 (lo := 0) (hi := 1000000) rfl; omega)
  refine pw_blk hT 1 (S' := (30, [some (pvR 3), some (pvI 0), some (pvI 0), some (pvI n3), some (pvI 4), some (pvI 10), some (pvI (4 + 1))], [pvI 10], M11_)) rfl ⟨trivial, trivial⟩ ?_
  refine pw_sw hT rfl rfl ?_
  refine And.intro (fun c17_ => ?_) (fun c17_ => absurd (by decide) c17_)
  show PW 4 d (128, [some (pvR 3), some (pvI 0), some (pvI 0), some (pvI n3), some (pvI 4), some (pvI 10), some (pvI (4 + 1))], [], M11_) _
  refine pw_blk hT 3 (S' := (133, [some (pvR 3), some (pvI 0), some (pvI 0), some (pvI n3), some (pvI 4), some (pvI 10), some (pvI (4 + 1))], [pvI (M11_.1 3 4), pvI n3], M11_)) rfl ⟨trivial, trivial, rfl, trivial⟩ ?_
  have e18_ : (M11_.1 3 4) = (M.1 3 4) := (g14_ 3 4 rfl)
  refine pw_eqI e18_ ?_
  refine pw_blk hT 1 (S' := (134, [some (pvR 3), some (pvI 0), some (pvI 0), some (pvI n3), some (pvI 4), some (pvI 10), some (pvI (4 + 1))], [pvI (n3 + (M.1 3 4))], M11_)) rfl ⟨trivial, trivial⟩ ?_
  exact pw_ret hT rfl (r := some (pvI (n3 + (M.1 3 4)))) (M' := M11_) ⟨rfl, rfl⟩ ⟨⟨_, rfl, trivial, rfl⟩, o13_, f15_, (by omega), (zTr_c0 (pvok_r hok 3 1 rfl).1 (zTr_0 3 1 4 M) d8_)⟩
def fpL_eX0_run_3_5_0_x_3_5 : List (Nat × Nat × Nat) := [(0, 3, 2), (0, 4, 0)]
def fp_eX0_run_3_5_0_x_3_5 (q k : Nat) : Bool := pvfp fpL_eX0_run_3_5_0_x_3_5 q k
theorem fp_eX0_run_3_5_0_x_3_5_fp_eX0_note_3_x (a b : Nat) (h : fp_eX0_note_3_x a b = true) : fp_eX0_run_3_5_0_x_3_5 a b = true := pvfp_sub (l1 := fpL_eX0_note_3_x) (l2 := fpL_eX0_run_3_5_0_x_3_5) (by decide) a b h
theorem fp_eX0_run_3_5_0_x_3_5_fp_eX0_run_3_0_0_x_4_5 (a b : Nat) (h : fp_eX0_run_3_0_0_x_4_5 a b = true) : fp_eX0_run_3_5_0_x_3_5 a b = true := pvfp_sub (l1 := fpL_eX0_run_3_0_0_x_4_5) (l2 := fpL_eX0_run_3_5_0_x_3_5) (by decide) a b h
set_option maxHeartbeats 4000000 in
set_option maxRecDepth 10000 in
theorem se_X0_run_3_5_0_x_3_5 (M : pvM) (hok : pvOk M) (n3 : Int32) (hc3_1 : 0 ≤ Int32.toInt (M.1 3 1) ∧ Int32.toInt (M.1 3 1) ≤ 997) (hc3_2 : 5 ≤ Int32.toInt (M.1 3 2) ∧ Int32.toInt (M.1 3 2) ≤ 5) (d : Nat) (hd : 1 ≤ d) : PW 4 d (0, [some (pvR 3), some (pvI 5), some (pvI 0), some (pvI n3), some (pvI 3), none, none], [], M) (fun r X => (∃ x : Int32, r = some (pvI x) ∧ True ∧ x = ((n3 * 3) + (M.1 3 4))) ∧ pvOk X ∧ pvFr fp_eX0_run_3_5_0_x_3_5 M X ∧ Int32.toInt (X.1 3 1) ≤ Int32.toInt (M.1 3 1) + 2 ∧ zTr 3 1 4 (([30] : List Int32) ++ ([10] : List Int32)) M X) := by
  have hT : pvdom 4 = pvD_4 := rfl
  refine pw_blk hT 2 (S' := (4, [some (pvR 3), some (pvI 5), some (pvI 0), some (pvI n3), some (pvI 3), none, none], [pvI 40, pvI 3], M)) rfl ⟨trivial, trivial, trivial⟩ ?_
  refine pw_ic hT (c := 3 ≤ 40) rfl rfl (fun c1_ => ?_) (fun c1_ => absurd (by decide) c1_)
  refine pw_blk hT 2 (S' := (11, [some (pvR 3), some (pvI 5), some (pvI 0), some (pvI n3), some (pvI 3), none, none], [pvI 0, pvI 5], M)) rfl ⟨trivial, trivial, trivial⟩ ?_
  refine pw_callT hT (as := [pvI 5, pvI 0]) (lo1 := [some (pvI 5), some (pvI 0), none, none, none]) (d1 := d) (rest := []) rfl rfl rfl rfl rfl (fun h => absurd h (by decide)) (Nat.zero_le _) rfl rfl rfl (sf_X0_bodyFrom_5_0 M hok d) ?_
  refine pw_eqI (show ((pvstab 1041).getD (Int32.toNatClampNeg ((2 * 3) + 0)) 0) = 30 from by decide) ?_
  show PW 4 d (14, [some (pvR 3), some (pvI 5), some (pvI 0), some (pvI n3), some (pvI 3), none, none], [pvI 30], M) _
  refine pw_blk hT 7 (S' := (25, [some (pvR 3), some (pvI 5), some (pvI 0), some (pvI n3), some (pvI 3), some (pvI 30), some (pvI (3 + 1))], [pvI 30, pvR 3], M)) rfl ⟨trivial, trivial, trivial, trivial, trivial, trivial, trivial, trivial⟩ ?_
  refine pw_callVd hT (as := [pvR 3, pvI 30]) (lo1 := [some (pvR 3), some (pvI 30)]) (d1 := d) (rest := []) rfl rfl rfl rfl rfl (fun _ => rfl) (Nat.zero_le _) rfl rfl rfl (se_X0_note_3_x M hok 30 (zr_wide (show 30 ≤ Int32.toInt 30 ∧ Int32.toInt 30 ≤ 30 from (by decide)) (by decide) (by decide)) (zr_wide hc3_1 (by decide) (by decide)) d) (fun M11_ o13_ g14_ d9_ => ?_)
  have d7_ := d9_.1
  have d8_ := d9_.2
  have f15_ : pvFr fp_eX0_run_3_5_0_x_3_5 M M11_ := pvfr_t g14_ pvfr_0 fp_eX0_run_3_5_0_x_3_5_fp_eX0_note_3_x
  have b16_ : 0 ≤ Int32.toInt (M11_.1 3 1) ∧ Int32.toInt (M11_.1 3 1) ≤ 998 := (by have u0 := hc3_1; have u1 := d7_; have u2 := pvok_r o13_ 3 1 (lo := 0) (hi := 1000000) rfl; omega)
  refine pw_blk hT 1 (S' := (30, [some (pvR 3), some (pvI 5), some (pvI 0), some (pvI n3), some (pvI 3), some (pvI 30), some (pvI (3 + 1))], [pvI 30], M11_)) rfl ⟨trivial, trivial⟩ ?_
  refine pw_sw hT rfl rfl ?_
  refine And.intro (fun c17_ => absurd c17_ (by decide)) (fun c17_ => ?_)
  refine And.intro (fun c18_ => absurd c18_ (by decide)) (fun c18_ => ?_)
  refine And.intro (fun c19_ => absurd c19_ (by decide)) (fun c19_ => ?_)
  refine And.intro (fun c20_ => absurd c20_ (by decide)) (fun c20_ => ?_)
  refine And.intro (fun c21_ => ?_) (fun c21_ => absurd (by decide) c21_)
  show PW 4 d (181, [some (pvR 3), some (pvI 5), some (pvI 0), some (pvI n3), some (pvI 3), some (pvI 30), some (pvI (3 + 1))], [], M11_) _
  refine pw_blk hT 7 (S' := (189, [some (pvR 3), some (pvI 5), some (pvI 0), some (pvI n3), some (pvI 3), some (pvI 30), some (pvI (3 + 1))], [pvI (3 + 1), pvI (n3 * 3), pvI 0, pvI 0, pvR 3], M11_)) rfl ⟨trivial, trivial, trivial, trivial, trivial, trivial, trivial, trivial⟩ ?_
  have e22_ : (M11_.1 3 2) = (M.1 3 2) := (g14_ 3 2 rfl)
  have b23_ : 5 ≤ Int32.toInt (M11_.1 3 2) ∧ Int32.toInt (M11_.1 3 2) ≤ 5 := (by rw [e22_]; exact hc3_2)
  refine pw_callGd hT (as := [pvR 3, pvI 0, pvI 0, pvI (n3 * 3), pvI (3 + 1)]) (lo1 := [some (pvR 3), some (pvI 0), some (pvI 0), some (pvI (n3 * 3)), some (pvI (3 + 1)), none, none]) (d1 := (d - 1)) (rest := []) rfl rfl rfl rfl rfl (fun h => absurd h (by decide)) (show 1 ≤ d by omega) rfl rfl rfl (se_X0_run_3_0_0_x_4_5 M11_ o13_ (n3 * 3) b16_ b23_ (d - 1)) (fun x27_ M28_ b29_ o30_ g31_ d26_ => ?_)
  have d24_ := d26_.1
  have d25_ := d26_.2
  have f32_ : pvFr fp_eX0_run_3_5_0_x_3_5 M M28_ := pvfr_t g31_ f15_ fp_eX0_run_3_5_0_x_3_5_fp_eX0_run_3_0_0_x_4_5
  have b33_ : 0 ≤ Int32.toInt (M28_.1 3 1) ∧ Int32.toInt (M28_.1 3 1) ≤ 999 := (by have u0 := b16_; have u1 := d24_; have u2 := pvok_r o30_ 3 1 (lo := 0) (hi := 1000000) rfl; omega)
  have u34_ : Int32.toInt 0 = 0 := by decide
  have u35_ : Int32.toInt (3 + 1) = 4 := by decide
  obtain ⟨b36_, d37_⟩ := b29_
  subst d37_
  have e38_ : ((n3 * 3) + (M11_.1 3 4)) = ((n3 * 3) + (M.1 3 4)) := (show ((n3 * 3) + (M11_.1 3 4)) = ((n3 * 3) + (M.1 3 4)) from by rw [(g14_ 3 4 rfl)])
  refine pw_eqI e38_ ?_
  exact pw_ret hT rfl (r := some (pvI ((n3 * 3) + (M.1 3 4)))) (M' := M28_) ⟨rfl, rfl⟩ ⟨⟨_, rfl, trivial, rfl⟩, o30_, f32_, (by omega), (zTr_c (pvok_r hok 3 1 rfl).1 (zTr_c0 (pvok_r hok 3 1 rfl).1 (zTr_0 3 1 4 M) d8_) d25_)⟩
def fpL_eX0_run_3_5_1_x_2_5 : List (Nat × Nat × Nat) := [(0, 3, 2), (0, 4, 0)]
def fp_eX0_run_3_5_1_x_2_5 (q k : Nat) : Bool := pvfp fpL_eX0_run_3_5_1_x_2_5 q k
theorem fp_eX0_run_3_5_1_x_2_5_fp_eX0_note_3_x (a b : Nat) (h : fp_eX0_note_3_x a b = true) : fp_eX0_run_3_5_1_x_2_5 a b = true := pvfp_sub (l1 := fpL_eX0_note_3_x) (l2 := fpL_eX0_run_3_5_1_x_2_5) (by decide) a b h
theorem fp_eX0_run_3_5_1_x_2_5_fp_eX0_run_3_5_0_x_3_5 (a b : Nat) (h : fp_eX0_run_3_5_0_x_3_5 a b = true) : fp_eX0_run_3_5_1_x_2_5 a b = true := pvfp_sub (l1 := fpL_eX0_run_3_5_0_x_3_5) (l2 := fpL_eX0_run_3_5_1_x_2_5) (by decide) a b h
set_option maxHeartbeats 4000000 in
set_option maxRecDepth 10000 in
theorem se_X0_run_3_5_1_x_2_5 (M : pvM) (hok : pvOk M) (n3 : Int32) (hc3_1 : 0 ≤ Int32.toInt (M.1 3 1) ∧ Int32.toInt (M.1 3 1) ≤ 996) (hc3_2 : 5 ≤ Int32.toInt (M.1 3 2) ∧ Int32.toInt (M.1 3 2) ≤ 5) (d : Nat) (hd : 2 ≤ d) : PW 4 d (0, [some (pvR 3), some (pvI 5), some (pvI 1), some (pvI n3), some (pvI 2), none, none], [], M) (fun r X => (∃ x : Int32, r = some (pvI x) ∧ True ∧ x = (((n3 * 3) + (M.1 3 4)) - (M.1 3 3))) ∧ pvOk X ∧ pvFr fp_eX0_run_3_5_1_x_2_5 M X ∧ Int32.toInt (X.1 3 1) ≤ Int32.toInt (M.1 3 1) + 3 ∧ zTr 3 1 4 (([11] : List Int32) ++ (([30] : List Int32) ++ ([10] : List Int32))) M X) := by
  have hT : pvdom 4 = pvD_4 := rfl
  refine pw_blk hT 2 (S' := (4, [some (pvR 3), some (pvI 5), some (pvI 1), some (pvI n3), some (pvI 2), none, none], [pvI 40, pvI 2], M)) rfl ⟨trivial, trivial, trivial⟩ ?_
  refine pw_ic hT (c := 2 ≤ 40) rfl rfl (fun c1_ => ?_) (fun c1_ => absurd (by decide) c1_)
  refine pw_blk hT 2 (S' := (11, [some (pvR 3), some (pvI 5), some (pvI 1), some (pvI n3), some (pvI 2), none, none], [pvI 1, pvI 5], M)) rfl ⟨trivial, trivial, trivial⟩ ?_
  refine pw_callT hT (as := [pvI 5, pvI 1]) (lo1 := [some (pvI 5), some (pvI 1), none, none, none]) (d1 := d) (rest := []) rfl rfl rfl rfl rfl (fun h => absurd h (by decide)) (Nat.zero_le _) rfl rfl rfl (sf_X0_bodyFrom_5_1 M hok d) ?_
  refine pw_eqI (show ((pvstab 1041).getD (Int32.toNatClampNeg ((0 * 3) + 1)) 0) = 11 from by decide) ?_
  show PW 4 d (14, [some (pvR 3), some (pvI 5), some (pvI 1), some (pvI n3), some (pvI 2), none, none], [pvI 11], M) _
  refine pw_blk hT 7 (S' := (25, [some (pvR 3), some (pvI 5), some (pvI 1), some (pvI n3), some (pvI 2), some (pvI 11), some (pvI (2 + 1))], [pvI 11, pvR 3], M)) rfl ⟨trivial, trivial, trivial, trivial, trivial, trivial, trivial, trivial⟩ ?_
  refine pw_callVd hT (as := [pvR 3, pvI 11]) (lo1 := [some (pvR 3), some (pvI 11)]) (d1 := d) (rest := []) rfl rfl rfl rfl rfl (fun _ => rfl) (Nat.zero_le _) rfl rfl rfl (se_X0_note_3_x M hok 11 (zr_wide (show 11 ≤ Int32.toInt 11 ∧ Int32.toInt 11 ≤ 11 from (by decide)) (by decide) (by decide)) (zr_wide hc3_1 (by decide) (by decide)) d) (fun M11_ o13_ g14_ d9_ => ?_)
  have d7_ := d9_.1
  have d8_ := d9_.2
  have f15_ : pvFr fp_eX0_run_3_5_1_x_2_5 M M11_ := pvfr_t g14_ pvfr_0 fp_eX0_run_3_5_1_x_2_5_fp_eX0_note_3_x
  have b16_ : 0 ≤ Int32.toInt (M11_.1 3 1) ∧ Int32.toInt (M11_.1 3 1) ≤ 997 := (by have u0 := hc3_1; have u1 := d7_; have u2 := pvok_r o13_ 3 1 (lo := 0) (hi := 1000000) rfl; omega)
  refine pw_blk hT 1 (S' := (30, [some (pvR 3), some (pvI 5), some (pvI 1), some (pvI n3), some (pvI 2), some (pvI 11), some (pvI (2 + 1))], [pvI 11], M11_)) rfl ⟨trivial, trivial⟩ ?_
  refine pw_sw hT rfl rfl ?_
  refine And.intro (fun c17_ => absurd c17_ (by decide)) (fun c17_ => ?_)
  refine And.intro (fun c18_ => ?_) (fun c18_ => absurd (by decide) c18_)
  show PW 4 d (135, [some (pvR 3), some (pvI 5), some (pvI 1), some (pvI n3), some (pvI 2), some (pvI 11), some (pvI (2 + 1))], [], M11_) _
  have e19_ : (M11_.1 3 2) = (M.1 3 2) := (g14_ 3 2 rfl)
  have b20_ : 5 ≤ Int32.toInt (M11_.1 3 2) ∧ Int32.toInt (M11_.1 3 2) ≤ 5 := (by rw [e19_]; exact hc3_2)
  refine pw_blk hT 3 (S' := (140, [some (pvR 3), some (pvI 5), some (pvI 1), some (pvI n3), some (pvI 2), some (pvI 11), some (pvI (2 + 1))], [pvI (M11_.1 3 2), pvR 3], M11_)) rfl ⟨trivial, trivial, rfl, trivial⟩ ?_
  refine pw_eqI ((zi_eq _ (5)).mpr (by have u0 := b20_; have u1 : Int32.toInt (5) = 5 := (by decide); omega)) ?_
  refine pw_blk hT 3 (S' := (144, [some (pvR 3), some (pvI 5), some (pvI 1), some (pvI n3), some (pvI 2), some (pvI 11), some (pvI (2 + 1))], [pvI (2 + 1), pvI n3, pvI 0, pvI 5, pvR 3], M11_)) rfl ⟨trivial, trivial, trivial, trivial⟩ ?_
  refine pw_callGd hT (as := [pvR 3, pvI 5, pvI 0, pvI n3, pvI (2 + 1)]) (lo1 := [some (pvR 3), some (pvI 5), some (pvI 0), some (pvI n3), some (pvI (2 + 1)), none, none]) (d1 := (d - 1)) (rest := []) rfl rfl rfl rfl rfl (fun h => absurd h (by decide)) (show 1 ≤ d by omega) rfl rfl rfl (se_X0_run_3_5_0_x_3_5 M11_ o13_ n3 b16_ b20_ (d - 1) (by omega)) (fun x24_ M25_ b26_ o27_ g28_ d23_ => ?_)
  have d21_ := d23_.1
  have d22_ := d23_.2
  have f29_ : pvFr fp_eX0_run_3_5_1_x_2_5 M M25_ := pvfr_t g28_ f15_ fp_eX0_run_3_5_1_x_2_5_fp_eX0_run_3_5_0_x_3_5
  have b30_ : 0 ≤ Int32.toInt (M25_.1 3 1) ∧ Int32.toInt (M25_.1 3 1) ≤ 999 := (by have u0 := b16_; have u1 := d21_; have u2 := pvok_r o27_ 3 1 (lo := 0) (hi := 1000000) rfl; omega)
  have u31_ : Int32.toInt 5 = 5 := by decide
  have u32_ : Int32.toInt 0 = 0 := by decide
  have u33_ : Int32.toInt (2 + 1) = 3 := by decide
  obtain ⟨b34_, d35_⟩ := b26_
  subst d35_
  have e36_ : ((n3 * 3) + (M11_.1 3 4)) = ((n3 * 3) + (M.1 3 4)) := (show ((n3 * 3) + (M11_.1 3 4)) = ((n3 * 3) + (M.1 3 4)) from by rw [(g14_ 3 4 rfl)])
  refine pw_eqI e36_ ?_
  refine pw_blk hT 2 (S' := (151, [some (pvR 3), some (pvI 5), some (pvI 1), some (pvI n3), some (pvI 2), some (pvI 11), some (pvI (2 + 1))], [pvI (M25_.1 3 3), pvI ((n3 * 3) + (M.1 3 4))], M25_)) rfl ⟨trivial, rfl, trivial⟩ ?_
  have e37_ : (M25_.1 3 3) = (M.1 3 3) := ((g28_ 3 3 rfl).trans (g14_ 3 3 rfl))
  refine pw_eqI e37_ ?_
  refine pw_blk hT 1 (S' := (152, [some (pvR 3), some (pvI 5), some (pvI 1), some (pvI n3), some (pvI 2), some (pvI 11), some (pvI (2 + 1))], [pvI (((n3 * 3) + (M.1 3 4)) - (M.1 3 3))], M25_)) rfl ⟨trivial, trivial⟩ ?_
  exact pw_ret hT rfl (r := some (pvI (((n3 * 3) + (M.1 3 4)) - (M.1 3 3)))) (M' := M25_) ⟨rfl, rfl⟩ ⟨⟨_, rfl, trivial, rfl⟩, o27_, f29_, (by omega), (zTr_c (pvok_r hok 3 1 rfl).1 (zTr_c0 (pvok_r hok 3 1 rfl).1 (zTr_0 3 1 4 M) d8_) d22_)⟩
def fpL_eX0_run_3_2_2_x_1_5 : List (Nat × Nat × Nat) := [(0, 3, 2), (0, 4, 0)]
def fp_eX0_run_3_2_2_x_1_5 (q k : Nat) : Bool := pvfp fpL_eX0_run_3_2_2_x_1_5 q k
theorem fp_eX0_run_3_2_2_x_1_5_fp_eX0_note_3_x (a b : Nat) (h : fp_eX0_note_3_x a b = true) : fp_eX0_run_3_2_2_x_1_5 a b = true := pvfp_sub (l1 := fpL_eX0_note_3_x) (l2 := fpL_eX0_run_3_2_2_x_1_5) (by decide) a b h
theorem fp_eX0_run_3_2_2_x_1_5_fp_eX0_run_3_5_1_x_2_5 (a b : Nat) (h : fp_eX0_run_3_5_1_x_2_5 a b = true) : fp_eX0_run_3_2_2_x_1_5 a b = true := pvfp_sub (l1 := fpL_eX0_run_3_5_1_x_2_5) (l2 := fpL_eX0_run_3_2_2_x_1_5) (by decide) a b h
set_option maxHeartbeats 4000000 in
set_option maxRecDepth 10000 in
theorem se_X0_run_3_2_2_x_1_5 (M : pvM) (hok : pvOk M) (n3 : Int32) (hc3_1 : 0 ≤ Int32.toInt (M.1 3 1) ∧ Int32.toInt (M.1 3 1) ≤ 995) (hc3_2 : 5 ≤ Int32.toInt (M.1 3 2) ∧ Int32.toInt (M.1 3 2) ≤ 5) (d : Nat) (hd : 3 ≤ d) : PW 4 d (0, [some (pvR 3), some (pvI 2), some (pvI 2), some (pvI n3), some (pvI 1), none, none], [], M) (fun r X => (∃ x : Int32, r = some (pvI x) ∧ True ∧ x = ((((n3 * 3) + (M.1 3 4)) - (M.1 3 3)) * 2)) ∧ pvOk X ∧ pvFr fp_eX0_run_3_2_2_x_1_5 M X ∧ Int32.toInt (X.1 3 1) ≤ Int32.toInt (M.1 3 1) + 4 ∧ zTr 3 1 4 (([12] : List Int32) ++ (([11] : List Int32) ++ (([30] : List Int32) ++ ([10] : List Int32)))) M X) := by
  have hT : pvdom 4 = pvD_4 := rfl
  refine pw_blk hT 2 (S' := (4, [some (pvR 3), some (pvI 2), some (pvI 2), some (pvI n3), some (pvI 1), none, none], [pvI 40, pvI 1], M)) rfl ⟨trivial, trivial, trivial⟩ ?_
  refine pw_ic hT (c := 1 ≤ 40) rfl rfl (fun c1_ => ?_) (fun c1_ => absurd (by decide) c1_)
  refine pw_blk hT 2 (S' := (11, [some (pvR 3), some (pvI 2), some (pvI 2), some (pvI n3), some (pvI 1), none, none], [pvI 2, pvI 2], M)) rfl ⟨trivial, trivial, trivial⟩ ?_
  refine pw_callT hT (as := [pvI 2, pvI 2]) (lo1 := [some (pvI 2), some (pvI 2), none, none, none]) (d1 := d) (rest := []) rfl rfl rfl rfl rfl (fun h => absurd h (by decide)) (Nat.zero_le _) rfl rfl rfl (sf_X0_bodyFrom_2_2 M hok d) ?_
  refine pw_eqI (show ((pvstab 1041).getD (Int32.toNatClampNeg ((0 * 3) + 2)) 0) = 12 from by decide) ?_
  show PW 4 d (14, [some (pvR 3), some (pvI 2), some (pvI 2), some (pvI n3), some (pvI 1), none, none], [pvI 12], M) _
  refine pw_blk hT 7 (S' := (25, [some (pvR 3), some (pvI 2), some (pvI 2), some (pvI n3), some (pvI 1), some (pvI 12), some (pvI (1 + 1))], [pvI 12, pvR 3], M)) rfl ⟨trivial, trivial, trivial, trivial, trivial, trivial, trivial, trivial⟩ ?_
  refine pw_callVd hT (as := [pvR 3, pvI 12]) (lo1 := [some (pvR 3), some (pvI 12)]) (d1 := d) (rest := []) rfl rfl rfl rfl rfl (fun _ => rfl) (Nat.zero_le _) rfl rfl rfl (se_X0_note_3_x M hok 12 (zr_wide (show 12 ≤ Int32.toInt 12 ∧ Int32.toInt 12 ≤ 12 from (by decide)) (by decide) (by decide)) (zr_wide hc3_1 (by decide) (by decide)) d) (fun M11_ o13_ g14_ d9_ => ?_)
  have d7_ := d9_.1
  have d8_ := d9_.2
  have f15_ : pvFr fp_eX0_run_3_2_2_x_1_5 M M11_ := pvfr_t g14_ pvfr_0 fp_eX0_run_3_2_2_x_1_5_fp_eX0_note_3_x
  have b16_ : 0 ≤ Int32.toInt (M11_.1 3 1) ∧ Int32.toInt (M11_.1 3 1) ≤ 996 := (by have u0 := hc3_1; have u1 := d7_; have u2 := pvok_r o13_ 3 1 (lo := 0) (hi := 1000000) rfl; omega)
  refine pw_blk hT 1 (S' := (30, [some (pvR 3), some (pvI 2), some (pvI 2), some (pvI n3), some (pvI 1), some (pvI 12), some (pvI (1 + 1))], [pvI 12], M11_)) rfl ⟨trivial, trivial⟩ ?_
  refine pw_sw hT rfl rfl ?_
  refine And.intro (fun c17_ => absurd c17_ (by decide)) (fun c17_ => ?_)
  refine And.intro (fun c18_ => absurd c18_ (by decide)) (fun c18_ => ?_)
  refine And.intro (fun c19_ => ?_) (fun c19_ => absurd (by decide) c19_)
  show PW 4 d (153, [some (pvR 3), some (pvI 2), some (pvI 2), some (pvI n3), some (pvI 1), some (pvI 12), some (pvI (1 + 1))], [], M11_) _
  have e20_ : (M11_.1 3 2) = (M.1 3 2) := (g14_ 3 2 rfl)
  have b21_ : 5 ≤ Int32.toInt (M11_.1 3 2) ∧ Int32.toInt (M11_.1 3 2) ≤ 5 := (by rw [e20_]; exact hc3_2)
  refine pw_blk hT 3 (S' := (158, [some (pvR 3), some (pvI 2), some (pvI 2), some (pvI n3), some (pvI 1), some (pvI 12), some (pvI (1 + 1))], [pvI (M11_.1 3 2), pvR 3], M11_)) rfl ⟨trivial, trivial, rfl, trivial⟩ ?_
  refine pw_eqI ((zi_eq _ (5)).mpr (by have u0 := b21_; have u1 : Int32.toInt (5) = 5 := (by decide); omega)) ?_
  refine pw_blk hT 3 (S' := (162, [some (pvR 3), some (pvI 2), some (pvI 2), some (pvI n3), some (pvI 1), some (pvI 12), some (pvI (1 + 1))], [pvI (1 + 1), pvI n3, pvI 1, pvI 5, pvR 3], M11_)) rfl ⟨trivial, trivial, trivial, trivial⟩ ?_
  refine pw_callGd hT (as := [pvR 3, pvI 5, pvI 1, pvI n3, pvI (1 + 1)]) (lo1 := [some (pvR 3), some (pvI 5), some (pvI 1), some (pvI n3), some (pvI (1 + 1)), none, none]) (d1 := (d - 1)) (rest := []) rfl rfl rfl rfl rfl (fun h => absurd h (by decide)) (show 1 ≤ d by omega) rfl rfl rfl (se_X0_run_3_5_1_x_2_5 M11_ o13_ n3 b16_ b21_ (d - 1) (by omega)) (fun x25_ M26_ b27_ o28_ g29_ d24_ => ?_)
  have d22_ := d24_.1
  have d23_ := d24_.2
  have f30_ : pvFr fp_eX0_run_3_2_2_x_1_5 M M26_ := pvfr_t g29_ f15_ fp_eX0_run_3_2_2_x_1_5_fp_eX0_run_3_5_1_x_2_5
  have b31_ : 0 ≤ Int32.toInt (M26_.1 3 1) ∧ Int32.toInt (M26_.1 3 1) ≤ 999 := (by have u0 := b16_; have u1 := d22_; have u2 := pvok_r o28_ 3 1 (lo := 0) (hi := 1000000) rfl; omega)
  have u32_ : Int32.toInt 5 = 5 := by decide
  have u33_ : Int32.toInt 1 = 1 := by decide
  have u34_ : Int32.toInt (1 + 1) = 2 := by decide
  obtain ⟨b35_, d36_⟩ := b27_
  subst d36_
  have e37_ : (((n3 * 3) + (M11_.1 3 4)) - (M11_.1 3 3)) = (((n3 * 3) + (M.1 3 4)) - (M.1 3 3)) := (show (((n3 * 3) + (M11_.1 3 4)) - (M11_.1 3 3)) = (((n3 * 3) + (M.1 3 4)) - (M.1 3 3)) from by rw [(g14_ 3 4 rfl), (g14_ 3 3 rfl)])
  refine pw_eqI e37_ ?_
  refine pw_blk hT 2 (S' := (167, [some (pvR 3), some (pvI 2), some (pvI 2), some (pvI n3), some (pvI 1), some (pvI 12), some (pvI (1 + 1))], [pvI ((((n3 * 3) + (M.1 3 4)) - (M.1 3 3)) * 2)], M26_)) rfl ⟨trivial, trivial, trivial⟩ ?_
  exact pw_ret hT rfl (r := some (pvI ((((n3 * 3) + (M.1 3 4)) - (M.1 3 3)) * 2))) (M' := M26_) ⟨rfl, rfl⟩ ⟨⟨_, rfl, trivial, rfl⟩, o28_, f30_, (by omega), (zTr_c (pvok_r hok 3 1 rfl).1 (zTr_c0 (pvok_r hok 3 1 rfl).1 (zTr_0 3 1 4 M) d8_) d23_)⟩
def fpL_eX0_run_3_5_2_x_0_5 : List (Nat × Nat × Nat) := [(0, 3, 2), (0, 4, 0)]
def fp_eX0_run_3_5_2_x_0_5 (q k : Nat) : Bool := pvfp fpL_eX0_run_3_5_2_x_0_5 q k
theorem fp_eX0_run_3_5_2_x_0_5_fp_eX0_note_3_x (a b : Nat) (h : fp_eX0_note_3_x a b = true) : fp_eX0_run_3_5_2_x_0_5 a b = true := pvfp_sub (l1 := fpL_eX0_note_3_x) (l2 := fpL_eX0_run_3_5_2_x_0_5) (by decide) a b h
theorem fp_eX0_run_3_5_2_x_0_5_fp_eX0_run_3_2_2_x_1_5 (a b : Nat) (h : fp_eX0_run_3_2_2_x_1_5 a b = true) : fp_eX0_run_3_5_2_x_0_5 a b = true := pvfp_sub (l1 := fpL_eX0_run_3_2_2_x_1_5) (l2 := fpL_eX0_run_3_5_2_x_0_5) (by decide) a b h
set_option maxHeartbeats 4000000 in
set_option maxRecDepth 10000 in
theorem se_X0_run_3_5_2_x_0_5 (M : pvM) (hok : pvOk M) (n3 : Int32) (hc3_1 : 0 ≤ Int32.toInt (M.1 3 1) ∧ Int32.toInt (M.1 3 1) ≤ 994) (hc3_2 : 5 ≤ Int32.toInt (M.1 3 2) ∧ Int32.toInt (M.1 3 2) ≤ 5) (d : Nat) (hd : 4 ≤ d) : PW 4 d (0, [some (pvR 3), some (pvI 5), some (pvI 2), some (pvI n3), some (pvI 0), none, none], [], M) (fun r X => (∃ x : Int32, r = some (pvI x) ∧ True ∧ x = (((((n3 - (M.1 3 4)) * 3) + (M.1 3 4)) - (M.1 3 3)) * 2)) ∧ pvOk X ∧ pvFr fp_eX0_run_3_5_2_x_0_5 M X ∧ Int32.toInt (X.1 3 1) ≤ Int32.toInt (M.1 3 1) + 5 ∧ zTr 3 1 4 (([60] : List Int32) ++ (([12] : List Int32) ++ (([11] : List Int32) ++ (([30] : List Int32) ++ ([10] : List Int32))))) M X) := by
  have hT : pvdom 4 = pvD_4 := rfl
  refine pw_blk hT 2 (S' := (4, [some (pvR 3), some (pvI 5), some (pvI 2), some (pvI n3), some (pvI 0), none, none], [pvI 40, pvI 0], M)) rfl ⟨trivial, trivial, trivial⟩ ?_
  refine pw_ic hT (c := 0 ≤ 40) rfl rfl (fun c1_ => ?_) (fun c1_ => absurd (by decide) c1_)
  refine pw_blk hT 2 (S' := (11, [some (pvR 3), some (pvI 5), some (pvI 2), some (pvI n3), some (pvI 0), none, none], [pvI 2, pvI 5], M)) rfl ⟨trivial, trivial, trivial⟩ ?_
  refine pw_callT hT (as := [pvI 5, pvI 2]) (lo1 := [some (pvI 5), some (pvI 2), none, none, none]) (d1 := d) (rest := []) rfl rfl rfl rfl rfl (fun h => absurd h (by decide)) (Nat.zero_le _) rfl rfl rfl (sf_X0_bodyFrom_5_2 M hok d) ?_
  refine pw_eqI (show ((pvstab 1041).getD (Int32.toNatClampNeg ((5 * 3) + 2)) 0) = 60 from by decide) ?_
  show PW 4 d (14, [some (pvR 3), some (pvI 5), some (pvI 2), some (pvI n3), some (pvI 0), none, none], [pvI 60], M) _
  refine pw_blk hT 7 (S' := (25, [some (pvR 3), some (pvI 5), some (pvI 2), some (pvI n3), some (pvI 0), some (pvI 60), some (pvI (0 + 1))], [pvI 60, pvR 3], M)) rfl ⟨trivial, trivial, trivial, trivial, trivial, trivial, trivial, trivial⟩ ?_
  refine pw_callVd hT (as := [pvR 3, pvI 60]) (lo1 := [some (pvR 3), some (pvI 60)]) (d1 := d) (rest := []) rfl rfl rfl rfl rfl (fun _ => rfl) (Nat.zero_le _) rfl rfl rfl (se_X0_note_3_x M hok 60 (zr_wide (show 60 ≤ Int32.toInt 60 ∧ Int32.toInt 60 ≤ 60 from (by decide)) (by decide) (by decide)) (zr_wide hc3_1 (by decide) (by decide)) d) (fun M11_ o13_ g14_ d9_ => ?_)
  have d7_ := d9_.1
  have d8_ := d9_.2
  have f15_ : pvFr fp_eX0_run_3_5_2_x_0_5 M M11_ := pvfr_t g14_ pvfr_0 fp_eX0_run_3_5_2_x_0_5_fp_eX0_note_3_x
  have b16_ : 0 ≤ Int32.toInt (M11_.1 3 1) ∧ Int32.toInt (M11_.1 3 1) ≤ 995 := (by have u0 := hc3_1; have u1 := d7_; have u2 := pvok_r o13_ 3 1 (lo := 0) (hi := 1000000) rfl; omega)
  refine pw_blk hT 1 (S' := (30, [some (pvR 3), some (pvI 5), some (pvI 2), some (pvI n3), some (pvI 0), some (pvI 60), some (pvI (0 + 1))], [pvI 60], M11_)) rfl ⟨trivial, trivial⟩ ?_
  refine pw_sw hT rfl rfl ?_
  refine And.intro (fun c17_ => absurd c17_ (by decide)) (fun c17_ => ?_)
  refine And.intro (fun c18_ => absurd c18_ (by decide)) (fun c18_ => ?_)
  refine And.intro (fun c19_ => absurd c19_ (by decide)) (fun c19_ => ?_)
  refine And.intro (fun c20_ => absurd c20_ (by decide)) (fun c20_ => ?_)
  refine And.intro (fun c21_ => absurd c21_ (by decide)) (fun c21_ => ?_)
  refine And.intro (fun c22_ => absurd c22_ (by decide)) (fun c22_ => ?_)
  refine And.intro (fun c23_ => absurd c23_ (by decide)) (fun c23_ => ?_)
  refine And.intro (fun c24_ => absurd c24_ (by decide)) (fun c24_ => ?_)
  refine And.intro (fun c25_ => ?_) (fun c25_ => absurd (by decide) c25_)
  show PW 4 d (239, [some (pvR 3), some (pvI 5), some (pvI 2), some (pvI n3), some (pvI 0), some (pvI 60), some (pvI (0 + 1))], [], M11_) _
  refine pw_blk hT 6 (S' := (247, [some (pvR 3), some (pvI 5), some (pvI 2), some (pvI n3), some (pvI 0), some (pvI 60), some (pvI (0 + 1))], [pvI (M11_.1 3 4), pvI n3, pvI 2, pvI 2, pvR 3], M11_)) rfl ⟨trivial, trivial, trivial, trivial, trivial, rfl, trivial⟩ ?_
  have e26_ : (M11_.1 3 4) = (M.1 3 4) := (g14_ 3 4 rfl)
  refine pw_eqI e26_ ?_
  refine pw_blk hT 2 (S' := (250, [some (pvR 3), some (pvI 5), some (pvI 2), some (pvI n3), some (pvI 0), some (pvI 60), some (pvI (0 + 1))], [pvI (0 + 1), pvI (n3 - (M.1 3 4)), pvI 2, pvI 2, pvR 3], M11_)) rfl ⟨trivial, trivial, trivial⟩ ?_
  have e27_ : (M11_.1 3 2) = (M.1 3 2) := (g14_ 3 2 rfl)
  have b28_ : 5 ≤ Int32.toInt (M11_.1 3 2) ∧ Int32.toInt (M11_.1 3 2) ≤ 5 := (by rw [e27_]; exact hc3_2)
  refine pw_callGd hT (as := [pvR 3, pvI 2, pvI 2, pvI (n3 - (M.1 3 4)), pvI (0 + 1)]) (lo1 := [some (pvR 3), some (pvI 2), some (pvI 2), some (pvI (n3 - (M.1 3 4))), some (pvI (0 + 1)), none, none]) (d1 := (d - 1)) (rest := []) rfl rfl rfl rfl rfl (fun h => absurd h (by decide)) (show 1 ≤ d by omega) rfl rfl rfl (se_X0_run_3_2_2_x_1_5 M11_ o13_ (n3 - (M.1 3 4)) b16_ b28_ (d - 1) (by omega)) (fun x32_ M33_ b34_ o35_ g36_ d31_ => ?_)
  have d29_ := d31_.1
  have d30_ := d31_.2
  have f37_ : pvFr fp_eX0_run_3_5_2_x_0_5 M M33_ := pvfr_t g36_ f15_ fp_eX0_run_3_5_2_x_0_5_fp_eX0_run_3_2_2_x_1_5
  have b38_ : 0 ≤ Int32.toInt (M33_.1 3 1) ∧ Int32.toInt (M33_.1 3 1) ≤ 999 := (by have u0 := b16_; have u1 := d29_; have u2 := pvok_r o35_ 3 1 (lo := 0) (hi := 1000000) rfl; omega)
  have u39_ : Int32.toInt 2 = 2 := by decide
  have u40_ : Int32.toInt (0 + 1) = 1 := by decide
  obtain ⟨b41_, d42_⟩ := b34_
  subst d42_
  have e43_ : (((((n3 - (M.1 3 4)) * 3) + (M11_.1 3 4)) - (M11_.1 3 3)) * 2) = (((((n3 - (M.1 3 4)) * 3) + (M.1 3 4)) - (M.1 3 3)) * 2) := (show (((((n3 - (M.1 3 4)) * 3) + (M11_.1 3 4)) - (M11_.1 3 3)) * 2) = (((((n3 - (M.1 3 4)) * 3) + (M.1 3 4)) - (M.1 3 3)) * 2) from by rw [(g14_ 3 4 rfl), (g14_ 3 3 rfl)])
  refine pw_eqI e43_ ?_
  exact pw_ret hT rfl (r := some (pvI (((((n3 - (M.1 3 4)) * 3) + (M.1 3 4)) - (M.1 3 3)) * 2))) (M' := M33_) ⟨rfl, rfl⟩ ⟨⟨_, rfl, trivial, rfl⟩, o35_, f37_, (by omega), (zTr_c (pvok_r hok 3 1 rfl).1 (zTr_c0 (pvok_r hok 3 1 rfl).1 (zTr_0 3 1 4 M) d8_) d30_)⟩
def fpL_eX0_run_3_3_0_x_1_6 : List (Nat × Nat × Nat) := [(0, 3, 2), (0, 4, 0)]
def fp_eX0_run_3_3_0_x_1_6 (q k : Nat) : Bool := pvfp fpL_eX0_run_3_3_0_x_1_6 q k
theorem fp_eX0_run_3_3_0_x_1_6_fp_eX0_note_3_x (a b : Nat) (h : fp_eX0_note_3_x a b = true) : fp_eX0_run_3_3_0_x_1_6 a b = true := pvfp_sub (l1 := fpL_eX0_note_3_x) (l2 := fpL_eX0_run_3_3_0_x_1_6) (by decide) a b h
set_option maxHeartbeats 4000000 in
set_option maxRecDepth 10000 in
theorem se_X0_run_3_3_0_x_1_6 (M : pvM) (hok : pvOk M) (n3 : Int32) (hc3_1 : 0 ≤ Int32.toInt (M.1 3 1) ∧ Int32.toInt (M.1 3 1) ≤ 998) (hc3_2 : 6 ≤ Int32.toInt (M.1 3 2) ∧ Int32.toInt (M.1 3 2) ≤ 6) (d : Nat) : PW 4 d (0, [some (pvR 3), some (pvI 3), some (pvI 0), some (pvI n3), some (pvI 1), none, none], [], M) (fun r X => (∃ x : Int32, r = some (pvI x) ∧ True ∧ x = (n3 + (M.1 3 4))) ∧ pvOk X ∧ pvFr fp_eX0_run_3_3_0_x_1_6 M X ∧ Int32.toInt (X.1 3 1) ≤ Int32.toInt (M.1 3 1) + 1 ∧ zTr 3 1 4 ([10] : List Int32) M X) := by
  have hT : pvdom 4 = pvD_4 := rfl
  refine pw_blk hT 2 (S' := (4, [some (pvR 3), some (pvI 3), some (pvI 0), some (pvI n3), some (pvI 1), none, none], [pvI 40, pvI 1], M)) rfl ⟨trivial, trivial, trivial⟩ ?_
  refine pw_ic hT (c := 1 ≤ 40) rfl rfl (fun c1_ => ?_) (fun c1_ => absurd (by decide) c1_)
  refine pw_blk hT 2 (S' := (11, [some (pvR 3), some (pvI 3), some (pvI 0), some (pvI n3), some (pvI 1), none, none], [pvI 0, pvI 3], M)) rfl ⟨trivial, trivial, trivial⟩ ?_
  refine pw_callT hT (as := [pvI 3, pvI 0]) (lo1 := [some (pvI 3), some (pvI 0), none, none, none]) (d1 := d) (rest := []) rfl rfl rfl rfl rfl (fun h => absurd h (by decide)) (Nat.zero_le _) rfl rfl rfl (sf_X0_bodyFrom_3_0 M hok d) ?_
  refine pw_eqI (show ((pvstab 1041).getD (Int32.toNatClampNeg ((0 * 3) + 0)) 0) = 10 from by decide) ?_
  show PW 4 d (14, [some (pvR 3), some (pvI 3), some (pvI 0), some (pvI n3), some (pvI 1), none, none], [pvI 10], M) _
  refine pw_blk hT 7 (S' := (25, [some (pvR 3), some (pvI 3), some (pvI 0), some (pvI n3), some (pvI 1), some (pvI 10), some (pvI (1 + 1))], [pvI 10, pvR 3], M)) rfl ⟨trivial, trivial, trivial, trivial, trivial, trivial, trivial, trivial⟩ ?_
  refine pw_callVd hT (as := [pvR 3, pvI 10]) (lo1 := [some (pvR 3), some (pvI 10)]) (d1 := d) (rest := []) rfl rfl rfl rfl rfl (fun _ => rfl) (Nat.zero_le _) rfl rfl rfl (se_X0_note_3_x M hok 10 (zr_wide (show 10 ≤ Int32.toInt 10 ∧ Int32.toInt 10 ≤ 10 from (by decide)) (by decide) (by decide)) (zr_wide hc3_1 (by decide) (by decide)) d) (fun M11_ o13_ g14_ d9_ => ?_)
  have d7_ := d9_.1
  have d8_ := d9_.2
  have f15_ : pvFr fp_eX0_run_3_3_0_x_1_6 M M11_ := pvfr_t g14_ pvfr_0 fp_eX0_run_3_3_0_x_1_6_fp_eX0_note_3_x
  have b16_ : 0 ≤ Int32.toInt (M11_.1 3 1) ∧ Int32.toInt (M11_.1 3 1) ≤ 999 := (by have u0 := hc3_1; have u1 := d7_; have u2 := pvok_r o13_ 3 1 (lo := 0) (hi := 1000000) rfl; omega)
  refine pw_blk hT 1 (S' := (30, [some (pvR 3), some (pvI 3), some (pvI 0), some (pvI n3), some (pvI 1), some (pvI 10), some (pvI (1 + 1))], [pvI 10], M11_)) rfl ⟨trivial, trivial⟩ ?_
  refine pw_sw hT rfl rfl ?_
  refine And.intro (fun c17_ => ?_) (fun c17_ => absurd (by decide) c17_)
  show PW 4 d (128, [some (pvR 3), some (pvI 3), some (pvI 0), some (pvI n3), some (pvI 1), some (pvI 10), some (pvI (1 + 1))], [], M11_) _
  refine pw_blk hT 3 (S' := (133, [some (pvR 3), some (pvI 3), some (pvI 0), some (pvI n3), some (pvI 1), some (pvI 10), some (pvI (1 + 1))], [pvI (M11_.1 3 4), pvI n3], M11_)) rfl ⟨trivial, trivial, rfl, trivial⟩ ?_
  have e18_ : (M11_.1 3 4) = (M.1 3 4) := (g14_ 3 4 rfl)
  refine pw_eqI e18_ ?_
  refine pw_blk hT 1 (S' := (134, [some (pvR 3), some (pvI 3), some (pvI 0), some (pvI n3), some (pvI 1), some (pvI 10), some (pvI (1 + 1))], [pvI (n3 + (M.1 3 4))], M11_)) rfl ⟨trivial, trivial⟩ ?_
  exact pw_ret hT rfl (r := some (pvI (n3 + (M.1 3 4)))) (M' := M11_) ⟨rfl, rfl⟩ ⟨⟨_, rfl, trivial, rfl⟩, o13_, f15_, (by omega), (zTr_c0 (pvok_r hok 3 1 rfl).1 (zTr_0 3 1 4 M) d8_)⟩
def fpL_eX0_run_3_6_0_x_0_6 : List (Nat × Nat × Nat) := [(0, 3, 2), (0, 4, 0)]
def fp_eX0_run_3_6_0_x_0_6 (q k : Nat) : Bool := pvfp fpL_eX0_run_3_6_0_x_0_6 q k
theorem fp_eX0_run_3_6_0_x_0_6_fp_eX0_note_3_x (a b : Nat) (h : fp_eX0_note_3_x a b = true) : fp_eX0_run_3_6_0_x_0_6 a b = true := pvfp_sub (l1 := fpL_eX0_note_3_x) (l2 := fpL_eX0_run_3_6_0_x_0_6) (by decide) a b h
theorem fp_eX0_run_3_6_0_x_0_6_fp_eX0_run_3_3_0_x_1_6 (a b : Nat) (h : fp_eX0_run_3_3_0_x_1_6 a b = true) : fp_eX0_run_3_6_0_x_0_6 a b = true := pvfp_sub (l1 := fpL_eX0_run_3_3_0_x_1_6) (l2 := fpL_eX0_run_3_6_0_x_0_6) (by decide) a b h
set_option maxHeartbeats 4000000 in
set_option maxRecDepth 10000 in
theorem se_X0_run_3_6_0_x_0_6 (M : pvM) (hok : pvOk M) (n3 : Int32) (hc3_1 : 0 ≤ Int32.toInt (M.1 3 1) ∧ Int32.toInt (M.1 3 1) ≤ 997) (hc3_2 : 6 ≤ Int32.toInt (M.1 3 2) ∧ Int32.toInt (M.1 3 2) ≤ 6) (d : Nat) (hd : 1 ≤ d) : PW 4 d (0, [some (pvR 3), some (pvI 6), some (pvI 0), some (pvI n3), some (pvI 0), none, none], [], M) (fun r X => (∃ x : Int32, r = some (pvI x) ∧ True ∧ x = ((n3 + (M.1 3 4)) ^^^ (M.1 3 3))) ∧ pvOk X ∧ pvFr fp_eX0_run_3_6_0_x_0_6 M X ∧ Int32.toInt (X.1 3 1) ≤ Int32.toInt (M.1 3 1) + 2 ∧ zTr 3 1 4 (([71] : List Int32) ++ ([10] : List Int32)) M X) := by
  have hT : pvdom 4 = pvD_4 := rfl
  refine pw_blk hT 2 (S' := (4, [some (pvR 3), some (pvI 6), some (pvI 0), some (pvI n3), some (pvI 0), none, none], [pvI 40, pvI 0], M)) rfl ⟨trivial, trivial, trivial⟩ ?_
  refine pw_ic hT (c := 0 ≤ 40) rfl rfl (fun c1_ => ?_) (fun c1_ => absurd (by decide) c1_)
  refine pw_blk hT 2 (S' := (11, [some (pvR 3), some (pvI 6), some (pvI 0), some (pvI n3), some (pvI 0), none, none], [pvI 0, pvI 6], M)) rfl ⟨trivial, trivial, trivial⟩ ?_
  refine pw_callT hT (as := [pvI 6, pvI 0]) (lo1 := [some (pvI 6), some (pvI 0), none, none, none]) (d1 := d) (rest := []) rfl rfl rfl rfl rfl (fun h => absurd h (by decide)) (Nat.zero_le _) rfl rfl rfl (sf_X0_bodyFrom_6_0 M hok d) ?_
  refine pw_eqI (show ((pvstab 1041).getD (Int32.toNatClampNeg ((6 * 3) + 0)) 0) = 71 from by decide) ?_
  show PW 4 d (14, [some (pvR 3), some (pvI 6), some (pvI 0), some (pvI n3), some (pvI 0), none, none], [pvI 71], M) _
  refine pw_blk hT 7 (S' := (25, [some (pvR 3), some (pvI 6), some (pvI 0), some (pvI n3), some (pvI 0), some (pvI 71), some (pvI (0 + 1))], [pvI 71, pvR 3], M)) rfl ⟨trivial, trivial, trivial, trivial, trivial, trivial, trivial, trivial⟩ ?_
  refine pw_callVd hT (as := [pvR 3, pvI 71]) (lo1 := [some (pvR 3), some (pvI 71)]) (d1 := d) (rest := []) rfl rfl rfl rfl rfl (fun _ => rfl) (Nat.zero_le _) rfl rfl rfl (se_X0_note_3_x M hok 71 (zr_wide (show 71 ≤ Int32.toInt 71 ∧ Int32.toInt 71 ≤ 71 from (by decide)) (by decide) (by decide)) (zr_wide hc3_1 (by decide) (by decide)) d) (fun M11_ o13_ g14_ d9_ => ?_)
  have d7_ := d9_.1
  have d8_ := d9_.2
  have f15_ : pvFr fp_eX0_run_3_6_0_x_0_6 M M11_ := pvfr_t g14_ pvfr_0 fp_eX0_run_3_6_0_x_0_6_fp_eX0_note_3_x
  have b16_ : 0 ≤ Int32.toInt (M11_.1 3 1) ∧ Int32.toInt (M11_.1 3 1) ≤ 998 := (by have u0 := hc3_1; have u1 := d7_; have u2 := pvok_r o13_ 3 1 (lo := 0) (hi := 1000000) rfl; omega)
  refine pw_blk hT 1 (S' := (30, [some (pvR 3), some (pvI 6), some (pvI 0), some (pvI n3), some (pvI 0), some (pvI 71), some (pvI (0 + 1))], [pvI 71], M11_)) rfl ⟨trivial, trivial⟩ ?_
  refine pw_sw hT rfl rfl ?_
  refine And.intro (fun c17_ => absurd c17_ (by decide)) (fun c17_ => ?_)
  refine And.intro (fun c18_ => absurd c18_ (by decide)) (fun c18_ => ?_)
  refine And.intro (fun c19_ => absurd c19_ (by decide)) (fun c19_ => ?_)
  refine And.intro (fun c20_ => absurd c20_ (by decide)) (fun c20_ => ?_)
  refine And.intro (fun c21_ => absurd c21_ (by decide)) (fun c21_ => ?_)
  refine And.intro (fun c22_ => absurd c22_ (by decide)) (fun c22_ => ?_)
  refine And.intro (fun c23_ => absurd c23_ (by decide)) (fun c23_ => ?_)
  refine And.intro (fun c24_ => absurd c24_ (by decide)) (fun c24_ => ?_)
  refine And.intro (fun c25_ => absurd c25_ (by decide)) (fun c25_ => ?_)
  refine And.intro (fun c26_ => absurd c26_ (by decide)) (fun c26_ => ?_)
  refine And.intro (fun c27_ => ?_) (fun c27_ => absurd (by decide) c27_)
  show PW 4 d (274, [some (pvR 3), some (pvI 6), some (pvI 0), some (pvI n3), some (pvI 0), some (pvI 71), some (pvI (0 + 1))], [], M11_) _
  refine pw_blk hT 5 (S' := (280, [some (pvR 3), some (pvI 6), some (pvI 0), some (pvI n3), some (pvI 0), some (pvI 71), some (pvI (0 + 1))], [pvI (0 + 1), pvI n3, pvI 0, pvI 3, pvR 3], M11_)) rfl ⟨trivial, trivial, trivial, trivial, trivial, trivial⟩ ?_
  have e28_ : (M11_.1 3 2) = (M.1 3 2) := (g14_ 3 2 rfl)
  have b29_ : 6 ≤ Int32.toInt (M11_.1 3 2) ∧ Int32.toInt (M11_.1 3 2) ≤ 6 := (by rw [e28_]; exact hc3_2)
  refine pw_callGd hT (as := [pvR 3, pvI 3, pvI 0, pvI n3, pvI (0 + 1)]) (lo1 := [some (pvR 3), some (pvI 3), some (pvI 0), some (pvI n3), some (pvI (0 + 1)), none, none]) (d1 := (d - 1)) (rest := []) rfl rfl rfl rfl rfl (fun h => absurd h (by decide)) (show 1 ≤ d by omega) rfl rfl rfl (se_X0_run_3_3_0_x_1_6 M11_ o13_ n3 b16_ b29_ (d - 1)) (fun x33_ M34_ b35_ o36_ g37_ d32_ => ?_)
  have d30_ := d32_.1
  have d31_ := d32_.2
  have f38_ : pvFr fp_eX0_run_3_6_0_x_0_6 M M34_ := pvfr_t g37_ f15_ fp_eX0_run_3_6_0_x_0_6_fp_eX0_run_3_3_0_x_1_6
  have b39_ : 0 ≤ Int32.toInt (M34_.1 3 1) ∧ Int32.toInt (M34_.1 3 1) ≤ 999 := (by have u0 := b16_; have u1 := d30_; have u2 := pvok_r o36_ 3 1 (lo := 0) (hi := 1000000) rfl; omega)
  have u40_ : Int32.toInt 3 = 3 := by decide
  have u41_ : Int32.toInt 0 = 0 := by decide
  have u42_ : Int32.toInt (0 + 1) = 1 := by decide
  obtain ⟨b43_, d44_⟩ := b35_
  subst d44_
  have e45_ : (n3 + (M11_.1 3 4)) = (n3 + (M.1 3 4)) := (show (n3 + (M11_.1 3 4)) = (n3 + (M.1 3 4)) from by rw [(g14_ 3 4 rfl)])
  refine pw_eqI e45_ ?_
  refine pw_blk hT 2 (S' := (287, [some (pvR 3), some (pvI 6), some (pvI 0), some (pvI n3), some (pvI 0), some (pvI 71), some (pvI (0 + 1))], [pvI (M34_.1 3 3), pvI (n3 + (M.1 3 4))], M34_)) rfl ⟨trivial, rfl, trivial⟩ ?_
  have e46_ : (M34_.1 3 3) = (M.1 3 3) := ((g37_ 3 3 rfl).trans (g14_ 3 3 rfl))
  refine pw_eqI e46_ ?_
  refine pw_blk hT 1 (S' := (288, [some (pvR 3), some (pvI 6), some (pvI 0), some (pvI n3), some (pvI 0), some (pvI 71), some (pvI (0 + 1))], [pvI ((n3 + (M.1 3 4)) ^^^ (M.1 3 3))], M34_)) rfl ⟨trivial, trivial⟩ ?_
  exact pw_ret hT rfl (r := some (pvI ((n3 + (M.1 3 4)) ^^^ (M.1 3 3)))) (M' := M34_) ⟨rfl, rfl⟩ ⟨⟨_, rfl, trivial, rfl⟩, o36_, f38_, (by omega), (zTr_c (pvok_r hok 3 1 rfl).1 (zTr_c0 (pvok_r hok 3 1 rfl).1 (zTr_0 3 1 4 M) d8_) d31_)⟩
def fpL_eX0_run_3_3_0_x_3_6 : List (Nat × Nat × Nat) := [(0, 3, 2), (0, 4, 0)]
def fp_eX0_run_3_3_0_x_3_6 (q k : Nat) : Bool := pvfp fpL_eX0_run_3_3_0_x_3_6 q k
theorem fp_eX0_run_3_3_0_x_3_6_fp_eX0_note_3_x (a b : Nat) (h : fp_eX0_note_3_x a b = true) : fp_eX0_run_3_3_0_x_3_6 a b = true := pvfp_sub (l1 := fpL_eX0_note_3_x) (l2 := fpL_eX0_run_3_3_0_x_3_6) (by decide) a b h
set_option maxHeartbeats 4000000 in
set_option maxRecDepth 10000 in
theorem se_X0_run_3_3_0_x_3_6 (M : pvM) (hok : pvOk M) (n3 : Int32) (hc3_1 : 0 ≤ Int32.toInt (M.1 3 1) ∧ Int32.toInt (M.1 3 1) ≤ 998) (hc3_2 : 6 ≤ Int32.toInt (M.1 3 2) ∧ Int32.toInt (M.1 3 2) ≤ 6) (d : Nat) : PW 4 d (0, [some (pvR 3), some (pvI 3), some (pvI 0), some (pvI n3), some (pvI 3), none, none], [], M) (fun r X => (∃ x : Int32, r = some (pvI x) ∧ True ∧ x = (n3 + (M.1 3 4))) ∧ pvOk X ∧ pvFr fp_eX0_run_3_3_0_x_3_6 M X ∧ Int32.toInt (X.1 3 1) ≤ Int32.toInt (M.1 3 1) + 1 ∧ zTr 3 1 4 ([10] : List Int32) M X) := by
  have hT : pvdom 4 = pvD_4 := rfl
  refine pw_blk hT 2 (S' := (4, [some (pvR 3), some (pvI 3), some (pvI 0), some (pvI n3), some (pvI 3), none, none], [pvI 40, pvI 3], M)) rfl ⟨trivial, trivial, trivial⟩ ?_
  refine pw_ic hT (c := 3 ≤ 40) rfl rfl (fun c1_ => ?_) (fun c1_ => absurd (by decide) c1_)
  refine pw_blk hT 2 (S' := (11, [some (pvR 3), some (pvI 3), some (pvI 0), some (pvI n3), some (pvI 3), none, none], [pvI 0, pvI 3], M)) rfl ⟨trivial, trivial, trivial⟩ ?_
  refine pw_callT hT (as := [pvI 3, pvI 0]) (lo1 := [some (pvI 3), some (pvI 0), none, none, none]) (d1 := d) (rest := []) rfl rfl rfl rfl rfl (fun h => absurd h (by decide)) (Nat.zero_le _) rfl rfl rfl (sf_X0_bodyFrom_3_0 M hok d) ?_
  refine pw_eqI (show ((pvstab 1041).getD (Int32.toNatClampNeg ((0 * 3) + 0)) 0) = 10 from by decide) ?_
  show PW 4 d (14, [some (pvR 3), some (pvI 3), some (pvI 0), some (pvI n3), some (pvI 3), none, none], [pvI 10], M) _
  refine pw_blk hT 7 (S' := (25, [some (pvR 3), some (pvI 3), some (pvI 0), some (pvI n3), some (pvI 3), some (pvI 10), some (pvI (3 + 1))], [pvI 10, pvR 3], M)) rfl ⟨trivial, trivial, trivial, trivial, trivial, trivial, trivial, trivial⟩ ?_
  refine pw_callVd hT (as := [pvR 3, pvI 10]) (lo1 := [some (pvR 3), some (pvI 10)]) (d1 := d) (rest := []) rfl rfl rfl rfl rfl (fun _ => rfl) (Nat.zero_le _) rfl rfl rfl (se_X0_note_3_x M hok 10 (zr_wide (show 10 ≤ Int32.toInt 10 ∧ Int32.toInt 10 ≤ 10 from (by decide)) (by decide) (by decide)) (zr_wide hc3_1 (by decide) (by decide)) d) (fun M11_ o13_ g14_ d9_ => ?_)
  have d7_ := d9_.1
  have d8_ := d9_.2
  have f15_ : pvFr fp_eX0_run_3_3_0_x_3_6 M M11_ := pvfr_t g14_ pvfr_0 fp_eX0_run_3_3_0_x_3_6_fp_eX0_note_3_x
  have b16_ : 0 ≤ Int32.toInt (M11_.1 3 1) ∧ Int32.toInt (M11_.1 3 1) ≤ 999 := (by have u0 := hc3_1; have u1 := d7_; have u2 := pvok_r o13_ 3 1 (lo := 0) (hi := 1000000) rfl; omega)
  refine pw_blk hT 1 (S' := (30, [some (pvR 3), some (pvI 3), some (pvI 0), some (pvI n3), some (pvI 3), some (pvI 10), some (pvI (3 + 1))], [pvI 10], M11_)) rfl ⟨trivial, trivial⟩ ?_
  refine pw_sw hT rfl rfl ?_
  refine And.intro (fun c17_ => ?_) (fun c17_ => absurd (by decide) c17_)
  show PW 4 d (128, [some (pvR 3), some (pvI 3), some (pvI 0), some (pvI n3), some (pvI 3), some (pvI 10), some (pvI (3 + 1))], [], M11_) _
  refine pw_blk hT 3 (S' := (133, [some (pvR 3), some (pvI 3), some (pvI 0), some (pvI n3), some (pvI 3), some (pvI 10), some (pvI (3 + 1))], [pvI (M11_.1 3 4), pvI n3], M11_)) rfl ⟨trivial, trivial, rfl, trivial⟩ ?_
  have e18_ : (M11_.1 3 4) = (M.1 3 4) := (g14_ 3 4 rfl)
  refine pw_eqI e18_ ?_
  refine pw_blk hT 1 (S' := (134, [some (pvR 3), some (pvI 3), some (pvI 0), some (pvI n3), some (pvI 3), some (pvI 10), some (pvI (3 + 1))], [pvI (n3 + (M.1 3 4))], M11_)) rfl ⟨trivial, trivial⟩ ?_
  exact pw_ret hT rfl (r := some (pvI (n3 + (M.1 3 4)))) (M' := M11_) ⟨rfl, rfl⟩ ⟨⟨_, rfl, trivial, rfl⟩, o13_, f15_, (by omega), (zTr_c0 (pvok_r hok 3 1 rfl).1 (zTr_0 3 1 4 M) d8_)⟩
def fpL_eX0_run_3_6_0_x_2_6 : List (Nat × Nat × Nat) := [(0, 3, 2), (0, 4, 0)]
def fp_eX0_run_3_6_0_x_2_6 (q k : Nat) : Bool := pvfp fpL_eX0_run_3_6_0_x_2_6 q k
theorem fp_eX0_run_3_6_0_x_2_6_fp_eX0_note_3_x (a b : Nat) (h : fp_eX0_note_3_x a b = true) : fp_eX0_run_3_6_0_x_2_6 a b = true := pvfp_sub (l1 := fpL_eX0_note_3_x) (l2 := fpL_eX0_run_3_6_0_x_2_6) (by decide) a b h
theorem fp_eX0_run_3_6_0_x_2_6_fp_eX0_run_3_3_0_x_3_6 (a b : Nat) (h : fp_eX0_run_3_3_0_x_3_6 a b = true) : fp_eX0_run_3_6_0_x_2_6 a b = true := pvfp_sub (l1 := fpL_eX0_run_3_3_0_x_3_6) (l2 := fpL_eX0_run_3_6_0_x_2_6) (by decide) a b h
set_option maxHeartbeats 4000000 in
set_option maxRecDepth 10000 in
theorem se_X0_run_3_6_0_x_2_6 (M : pvM) (hok : pvOk M) (n3 : Int32) (hc3_1 : 0 ≤ Int32.toInt (M.1 3 1) ∧ Int32.toInt (M.1 3 1) ≤ 997) (hc3_2 : 6 ≤ Int32.toInt (M.1 3 2) ∧ Int32.toInt (M.1 3 2) ≤ 6) (d : Nat) (hd : 1 ≤ d) : PW 4 d (0, [some (pvR 3), some (pvI 6), some (pvI 0), some (pvI n3), some (pvI 2), none, none], [], M) (fun r X => (∃ x : Int32, r = some (pvI x) ∧ True ∧ x = ((n3 + (M.1 3 4)) ^^^ (M.1 3 3))) ∧ pvOk X ∧ pvFr fp_eX0_run_3_6_0_x_2_6 M X ∧ Int32.toInt (X.1 3 1) ≤ Int32.toInt (M.1 3 1) + 2 ∧ zTr 3 1 4 (([71] : List Int32) ++ ([10] : List Int32)) M X) := by
  have hT : pvdom 4 = pvD_4 := rfl
  refine pw_blk hT 2 (S' := (4, [some (pvR 3), some (pvI 6), some (pvI 0), some (pvI n3), some (pvI 2), none, none], [pvI 40, pvI 2], M)) rfl ⟨trivial, trivial, trivial⟩ ?_
  refine pw_ic hT (c := 2 ≤ 40) rfl rfl (fun c1_ => ?_) (fun c1_ => absurd (by decide) c1_)
  refine pw_blk hT 2 (S' := (11, [some (pvR 3), some (pvI 6), some (pvI 0), some (pvI n3), some (pvI 2), none, none], [pvI 0, pvI 6], M)) rfl ⟨trivial, trivial, trivial⟩ ?_
  refine pw_callT hT (as := [pvI 6, pvI 0]) (lo1 := [some (pvI 6), some (pvI 0), none, none, none]) (d1 := d) (rest := []) rfl rfl rfl rfl rfl (fun h => absurd h (by decide)) (Nat.zero_le _) rfl rfl rfl (sf_X0_bodyFrom_6_0 M hok d) ?_
  refine pw_eqI (show ((pvstab 1041).getD (Int32.toNatClampNeg ((6 * 3) + 0)) 0) = 71 from by decide) ?_
  show PW 4 d (14, [some (pvR 3), some (pvI 6), some (pvI 0), some (pvI n3), some (pvI 2), none, none], [pvI 71], M) _
  refine pw_blk hT 7 (S' := (25, [some (pvR 3), some (pvI 6), some (pvI 0), some (pvI n3), some (pvI 2), some (pvI 71), some (pvI (2 + 1))], [pvI 71, pvR 3], M)) rfl ⟨trivial, trivial, trivial, trivial, trivial, trivial, trivial, trivial⟩ ?_
  refine pw_callVd hT (as := [pvR 3, pvI 71]) (lo1 := [some (pvR 3), some (pvI 71)]) (d1 := d) (rest := []) rfl rfl rfl rfl rfl (fun _ => rfl) (Nat.zero_le _) rfl rfl rfl (se_X0_note_3_x M hok 71 (zr_wide (show 71 ≤ Int32.toInt 71 ∧ Int32.toInt 71 ≤ 71 from (by decide)) (by decide) (by decide)) (zr_wide hc3_1 (by decide) (by decide)) d) (fun M11_ o13_ g14_ d9_ => ?_)
  have d7_ := d9_.1
  have d8_ := d9_.2
  have f15_ : pvFr fp_eX0_run_3_6_0_x_2_6 M M11_ := pvfr_t g14_ pvfr_0 fp_eX0_run_3_6_0_x_2_6_fp_eX0_note_3_x
  have b16_ : 0 ≤ Int32.toInt (M11_.1 3 1) ∧ Int32.toInt (M11_.1 3 1) ≤ 998 := (by have u0 := hc3_1; have u1 := d7_; have u2 := pvok_r o13_ 3 1 (lo := 0) (hi := 1000000) rfl; omega)
  refine pw_blk hT 1 (S' := (30, [some (pvR 3), some (pvI 6), some (pvI 0), some (pvI n3), some (pvI 2), some (pvI 71), some (pvI (2 + 1))], [pvI 71], M11_)) rfl ⟨trivial, trivial⟩ ?_
  refine pw_sw hT rfl rfl ?_
  refine And.intro (fun c17_ => absurd c17_ (by decide)) (fun c17_ => ?_)
  refine And.intro (fun c18_ => absurd c18_ (by decide)) (fun c18_ => ?_)
  refine And.intro (fun c19_ => absurd c19_ (by decide)) (fun c19_ => ?_)
  refine And.intro (fun c20_ => absurd c20_ (by decide)) (fun c20_ => ?_)
  refine And.intro (fun c21_ => absurd c21_ (by decide)) (fun c21_ => ?_)
  refine And.intro (fun c22_ => absurd c22_ (by decide)) (fun c22_ => ?_)
  refine And.intro (fun c23_ => absurd c23_ (by decide)) (fun c23_ => ?_)
  refine And.intro (fun c24_ => absurd c24_ (by decide)) (fun c24_ => ?_)
  refine And.intro (fun c25_ => absurd c25_ (by decide)) (fun c25_ => ?_)
  refine And.intro (fun c26_ => absurd c26_ (by decide)) (fun c26_ => ?_)
  refine And.intro (fun c27_ => ?_) (fun c27_ => absurd (by decide) c27_)
  show PW 4 d (274, [some (pvR 3), some (pvI 6), some (pvI 0), some (pvI n3), some (pvI 2), some (pvI 71), some (pvI (2 + 1))], [], M11_) _
  refine pw_blk hT 5 (S' := (280, [some (pvR 3), some (pvI 6), some (pvI 0), some (pvI n3), some (pvI 2), some (pvI 71), some (pvI (2 + 1))], [pvI (2 + 1), pvI n3, pvI 0, pvI 3, pvR 3], M11_)) rfl ⟨trivial, trivial, trivial, trivial, trivial, trivial⟩ ?_
  have e28_ : (M11_.1 3 2) = (M.1 3 2) := (g14_ 3 2 rfl)
  have b29_ : 6 ≤ Int32.toInt (M11_.1 3 2) ∧ Int32.toInt (M11_.1 3 2) ≤ 6 := (by rw [e28_]; exact hc3_2)
  refine pw_callGd hT (as := [pvR 3, pvI 3, pvI 0, pvI n3, pvI (2 + 1)]) (lo1 := [some (pvR 3), some (pvI 3), some (pvI 0), some (pvI n3), some (pvI (2 + 1)), none, none]) (d1 := (d - 1)) (rest := []) rfl rfl rfl rfl rfl (fun h => absurd h (by decide)) (show 1 ≤ d by omega) rfl rfl rfl (se_X0_run_3_3_0_x_3_6 M11_ o13_ n3 b16_ b29_ (d - 1)) (fun x33_ M34_ b35_ o36_ g37_ d32_ => ?_)
  have d30_ := d32_.1
  have d31_ := d32_.2
  have f38_ : pvFr fp_eX0_run_3_6_0_x_2_6 M M34_ := pvfr_t g37_ f15_ fp_eX0_run_3_6_0_x_2_6_fp_eX0_run_3_3_0_x_3_6
  have b39_ : 0 ≤ Int32.toInt (M34_.1 3 1) ∧ Int32.toInt (M34_.1 3 1) ≤ 999 := (by have u0 := b16_; have u1 := d30_; have u2 := pvok_r o36_ 3 1 (lo := 0) (hi := 1000000) rfl; omega)
  have u40_ : Int32.toInt 3 = 3 := by decide
  have u41_ : Int32.toInt 0 = 0 := by decide
  have u42_ : Int32.toInt (2 + 1) = 3 := by decide
  obtain ⟨b43_, d44_⟩ := b35_
  subst d44_
  have e45_ : (n3 + (M11_.1 3 4)) = (n3 + (M.1 3 4)) := (show (n3 + (M11_.1 3 4)) = (n3 + (M.1 3 4)) from by rw [(g14_ 3 4 rfl)])
  refine pw_eqI e45_ ?_
  refine pw_blk hT 2 (S' := (287, [some (pvR 3), some (pvI 6), some (pvI 0), some (pvI n3), some (pvI 2), some (pvI 71), some (pvI (2 + 1))], [pvI (M34_.1 3 3), pvI (n3 + (M.1 3 4))], M34_)) rfl ⟨trivial, rfl, trivial⟩ ?_
  have e46_ : (M34_.1 3 3) = (M.1 3 3) := ((g37_ 3 3 rfl).trans (g14_ 3 3 rfl))
  refine pw_eqI e46_ ?_
  refine pw_blk hT 1 (S' := (288, [some (pvR 3), some (pvI 6), some (pvI 0), some (pvI n3), some (pvI 2), some (pvI 71), some (pvI (2 + 1))], [pvI ((n3 + (M.1 3 4)) ^^^ (M.1 3 3))], M34_)) rfl ⟨trivial, trivial⟩ ?_
  exact pw_ret hT rfl (r := some (pvI ((n3 + (M.1 3 4)) ^^^ (M.1 3 3)))) (M' := M34_) ⟨rfl, rfl⟩ ⟨⟨_, rfl, trivial, rfl⟩, o36_, f38_, (by omega), (zTr_c (pvok_r hok 3 1 rfl).1 (zTr_c0 (pvok_r hok 3 1 rfl).1 (zTr_0 3 1 4 M) d8_) d31_)⟩
def fpL_eX0_run_3_3_1_x_1_6 : List (Nat × Nat × Nat) := [(0, 3, 2), (0, 4, 0)]
def fp_eX0_run_3_3_1_x_1_6 (q k : Nat) : Bool := pvfp fpL_eX0_run_3_3_1_x_1_6 q k
theorem fp_eX0_run_3_3_1_x_1_6_fp_eX0_note_3_x (a b : Nat) (h : fp_eX0_note_3_x a b = true) : fp_eX0_run_3_3_1_x_1_6 a b = true := pvfp_sub (l1 := fpL_eX0_note_3_x) (l2 := fpL_eX0_run_3_3_1_x_1_6) (by decide) a b h
theorem fp_eX0_run_3_3_1_x_1_6_fp_eX0_run_3_6_0_x_2_6 (a b : Nat) (h : fp_eX0_run_3_6_0_x_2_6 a b = true) : fp_eX0_run_3_3_1_x_1_6 a b = true := pvfp_sub (l1 := fpL_eX0_run_3_6_0_x_2_6) (l2 := fpL_eX0_run_3_3_1_x_1_6) (by decide) a b h
set_option maxHeartbeats 4000000 in
set_option maxRecDepth 10000 in
theorem se_X0_run_3_3_1_x_1_6 (M : pvM) (hok : pvOk M) (n3 : Int32) (hc3_1 : 0 ≤ Int32.toInt (M.1 3 1) ∧ Int32.toInt (M.1 3 1) ≤ 996) (hc3_2 : 6 ≤ Int32.toInt (M.1 3 2) ∧ Int32.toInt (M.1 3 2) ≤ 6) (d : Nat) (hd : 2 ≤ d) : PW 4 d (0, [some (pvR 3), some (pvI 3), some (pvI 1), some (pvI n3), some (pvI 1), none, none], [], M) (fun r X => (∃ x : Int32, r = some (pvI x) ∧ True ∧ x = (((n3 + (M.1 3 4)) ^^^ (M.1 3 3)) - (M.1 3 3))) ∧ pvOk X ∧ pvFr fp_eX0_run_3_3_1_x_1_6 M X ∧ Int32.toInt (X.1 3 1) ≤ Int32.toInt (M.1 3 1) + 3 ∧ zTr 3 1 4 (([11] : List Int32) ++ (([71] : List Int32) ++ ([10] : List Int32))) M X) := by
  have hT : pvdom 4 = pvD_4 := rfl
  refine pw_blk hT 2 (S' := (4, [some (pvR 3), some (pvI 3), some (pvI 1), some (pvI n3), some (pvI 1), none, none], [pvI 40, pvI 1], M)) rfl ⟨trivial, trivial, trivial⟩ ?_
  refine pw_ic hT (c := 1 ≤ 40) rfl rfl (fun c1_ => ?_) (fun c1_ => absurd (by decide) c1_)
  refine pw_blk hT 2 (S' := (11, [some (pvR 3), some (pvI 3), some (pvI 1), some (pvI n3), some (pvI 1), none, none], [pvI 1, pvI 3], M)) rfl ⟨trivial, trivial, trivial⟩ ?_
  refine pw_callT hT (as := [pvI 3, pvI 1]) (lo1 := [some (pvI 3), some (pvI 1), none, none, none]) (d1 := d) (rest := []) rfl rfl rfl rfl rfl (fun h => absurd h (by decide)) (Nat.zero_le _) rfl rfl rfl (sf_X0_bodyFrom_3_1 M hok d) ?_
  refine pw_eqI (show ((pvstab 1041).getD (Int32.toNatClampNeg ((0 * 3) + 1)) 0) = 11 from by decide) ?_
  show PW 4 d (14, [some (pvR 3), some (pvI 3), some (pvI 1), some (pvI n3), some (pvI 1), none, none], [pvI 11], M) _
  refine pw_blk hT 7 (S' := (25, [some (pvR 3), some (pvI 3), some (pvI 1), some (pvI n3), some (pvI 1), some (pvI 11), some (pvI (1 + 1))], [pvI 11, pvR 3], M)) rfl ⟨trivial, trivial, trivial, trivial, trivial, trivial, trivial, trivial⟩ ?_
  refine pw_callVd hT (as := [pvR 3, pvI 11]) (lo1 := [some (pvR 3), some (pvI 11)]) (d1 := d) (rest := []) rfl rfl rfl rfl rfl (fun _ => rfl) (Nat.zero_le _) rfl rfl rfl (se_X0_note_3_x M hok 11 (zr_wide (show 11 ≤ Int32.toInt 11 ∧ Int32.toInt 11 ≤ 11 from (by decide)) (by decide) (by decide)) (zr_wide hc3_1 (by decide) (by decide)) d) (fun M11_ o13_ g14_ d9_ => ?_)
  have d7_ := d9_.1
  have d8_ := d9_.2
  have f15_ : pvFr fp_eX0_run_3_3_1_x_1_6 M M11_ := pvfr_t g14_ pvfr_0 fp_eX0_run_3_3_1_x_1_6_fp_eX0_note_3_x
  have b16_ : 0 ≤ Int32.toInt (M11_.1 3 1) ∧ Int32.toInt (M11_.1 3 1) ≤ 997 := (by have u0 := hc3_1; have u1 := d7_; have u2 := pvok_r o13_ 3 1 (lo := 0) (hi := 1000000) rfl; omega)
  refine pw_blk hT 1 (S' := (30, [some (pvR 3), some (pvI 3), some (pvI 1), some (pvI n3), some (pvI 1), some (pvI 11), some (pvI (1 + 1))], [pvI 11], M11_)) rfl ⟨trivial, trivial⟩ ?_
  refine pw_sw hT rfl rfl ?_
  refine And.intro (fun c17_ => absurd c17_ (by decide)) (fun c17_ => ?_)
  refine And.intro (fun c18_ => ?_) (fun c18_ => absurd (by decide) c18_)
  show PW 4 d (135, [some (pvR 3), some (pvI 3), some (pvI 1), some (pvI n3), some (pvI 1), some (pvI 11), some (pvI (1 + 1))], [], M11_) _
  have e19_ : (M11_.1 3 2) = (M.1 3 2) := (g14_ 3 2 rfl)
  have b20_ : 6 ≤ Int32.toInt (M11_.1 3 2) ∧ Int32.toInt (M11_.1 3 2) ≤ 6 := (by rw [e19_]; exact hc3_2)
  refine pw_blk hT 3 (S' := (140, [some (pvR 3), some (pvI 3), some (pvI 1), some (pvI n3), some (pvI 1), some (pvI 11), some (pvI (1 + 1))], [pvI (M11_.1 3 2), pvR 3], M11_)) rfl ⟨trivial, trivial, rfl, trivial⟩ ?_
  refine pw_eqI ((zi_eq _ (6)).mpr (by have u0 := b20_; have u1 : Int32.toInt (6) = 6 := (by decide); omega)) ?_
  refine pw_blk hT 3 (S' := (144, [some (pvR 3), some (pvI 3), some (pvI 1), some (pvI n3), some (pvI 1), some (pvI 11), some (pvI (1 + 1))], [pvI (1 + 1), pvI n3, pvI 0, pvI 6, pvR 3], M11_)) rfl ⟨trivial, trivial, trivial, trivial⟩ ?_
  refine pw_callGd hT (as := [pvR 3, pvI 6, pvI 0, pvI n3, pvI (1 + 1)]) (lo1 := [some (pvR 3), some (pvI 6), some (pvI 0), some (pvI n3), some (pvI (1 + 1)), none, none]) (d1 := (d - 1)) (rest := []) rfl rfl rfl rfl rfl (fun h => absurd h (by decide)) (show 1 ≤ d by omega) rfl rfl rfl (se_X0_run_3_6_0_x_2_6 M11_ o13_ n3 b16_ b20_ (d - 1) (by omega)) (fun x24_ M25_ b26_ o27_ g28_ d23_ => ?_)
  have d21_ := d23_.1
  have d22_ := d23_.2
  have f29_ : pvFr fp_eX0_run_3_3_1_x_1_6 M M25_ := pvfr_t g28_ f15_ fp_eX0_run_3_3_1_x_1_6_fp_eX0_run_3_6_0_x_2_6
  have b30_ : 0 ≤ Int32.toInt (M25_.1 3 1) ∧ Int32.toInt (M25_.1 3 1) ≤ 999 := (by have u0 := b16_; have u1 := d21_; have u2 := pvok_r o27_ 3 1 (lo := 0) (hi := 1000000) rfl; omega)
  have u31_ : Int32.toInt 6 = 6 := by decide
  have u32_ : Int32.toInt 0 = 0 := by decide
  have u33_ : Int32.toInt (1 + 1) = 2 := by decide
  obtain ⟨b34_, d35_⟩ := b26_
  subst d35_
  have e36_ : ((n3 + (M11_.1 3 4)) ^^^ (M11_.1 3 3)) = ((n3 + (M.1 3 4)) ^^^ (M.1 3 3)) := (show ((n3 + (M11_.1 3 4)) ^^^ (M11_.1 3 3)) = ((n3 + (M.1 3 4)) ^^^ (M.1 3 3)) from by rw [(g14_ 3 4 rfl), (g14_ 3 3 rfl)])
  refine pw_eqI e36_ ?_
  refine pw_blk hT 2 (S' := (151, [some (pvR 3), some (pvI 3), some (pvI 1), some (pvI n3), some (pvI 1), some (pvI 11), some (pvI (1 + 1))], [pvI (M25_.1 3 3), pvI ((n3 + (M.1 3 4)) ^^^ (M.1 3 3))], M25_)) rfl ⟨trivial, rfl, trivial⟩ ?_
  have e37_ : (M25_.1 3 3) = (M.1 3 3) := ((g28_ 3 3 rfl).trans (g14_ 3 3 rfl))
  refine pw_eqI e37_ ?_
  refine pw_blk hT 1 (S' := (152, [some (pvR 3), some (pvI 3), some (pvI 1), some (pvI n3), some (pvI 1), some (pvI 11), some (pvI (1 + 1))], [pvI (((n3 + (M.1 3 4)) ^^^ (M.1 3 3)) - (M.1 3 3))], M25_)) rfl ⟨trivial, trivial⟩ ?_
  exact pw_ret hT rfl (r := some (pvI (((n3 + (M.1 3 4)) ^^^ (M.1 3 3)) - (M.1 3 3)))) (M' := M25_) ⟨rfl, rfl⟩ ⟨⟨_, rfl, trivial, rfl⟩, o27_, f29_, (by omega), (zTr_c (pvok_r hok 3 1 rfl).1 (zTr_c0 (pvok_r hok 3 1 rfl).1 (zTr_0 3 1 4 M) d8_) d22_)⟩
def fpL_eX0_run_3_6_1_x_0_6 : List (Nat × Nat × Nat) := [(0, 3, 2), (0, 4, 0)]
def fp_eX0_run_3_6_1_x_0_6 (q k : Nat) : Bool := pvfp fpL_eX0_run_3_6_1_x_0_6 q k
theorem fp_eX0_run_3_6_1_x_0_6_fp_eX0_note_3_x (a b : Nat) (h : fp_eX0_note_3_x a b = true) : fp_eX0_run_3_6_1_x_0_6 a b = true := pvfp_sub (l1 := fpL_eX0_note_3_x) (l2 := fpL_eX0_run_3_6_1_x_0_6) (by decide) a b h
theorem fp_eX0_run_3_6_1_x_0_6_fp_eX0_run_3_3_0_x_1_6 (a b : Nat) (h : fp_eX0_run_3_3_0_x_1_6 a b = true) : fp_eX0_run_3_6_1_x_0_6 a b = true := pvfp_sub (l1 := fpL_eX0_run_3_3_0_x_1_6) (l2 := fpL_eX0_run_3_6_1_x_0_6) (by decide) a b h
theorem fp_eX0_run_3_6_1_x_0_6_fp_eX0_run_3_3_1_x_1_6 (a b : Nat) (h : fp_eX0_run_3_3_1_x_1_6 a b = true) : fp_eX0_run_3_6_1_x_0_6 a b = true := pvfp_sub (l1 := fpL_eX0_run_3_3_1_x_1_6) (l2 := fpL_eX0_run_3_6_1_x_0_6) (by decide) a b h
set_option maxHeartbeats 4000000 in
set_option maxRecDepth 10000 in
theorem se_X0_run_3_6_1_x_0_6 (M : pvM) (hok : pvOk M) (n3 : Int32) (hc3_1 : 0 ≤ Int32.toInt (M.1 3 1) ∧ Int32.toInt (M.1 3 1) ≤ 994) (hc3_2 : 6 ≤ Int32.toInt (M.1 3 2) ∧ Int32.toInt (M.1 3 2) ≤ 6) (d : Nat) (hd : 3 ≤ d) : PW 4 d (0, [some (pvR 3), some (pvI 6), some (pvI 1), some (pvI n3), some (pvI 0), none, none], [], M) (fun r X => (∃ x : Int32, r = some (pvI x) ∧ True ∧ x = ((((n3 + (M.1 3 4)) ^^^ (M.1 3 3)) - (M.1 3 3)) + (2 + (M.1 3 4)))) ∧ pvOk X ∧ pvFr fp_eX0_run_3_6_1_x_0_6 M X ∧ Int32.toInt (X.1 3 1) ≤ Int32.toInt (M.1 3 1) + 5 ∧ zTr 3 1 4 (([70] : List Int32) ++ (([11] : List Int32) ++ (([71] : List Int32) ++ ([10] : List Int32))) ++ ([10] : List Int32)) M X) := by
  have hT : pvdom 4 = pvD_4 := rfl
  refine pw_blk hT 2 (S' := (4, [some (pvR 3), some (pvI 6), some (pvI 1), some (pvI n3), some (pvI 0), none, none], [pvI 40, pvI 0], M)) rfl ⟨trivial, trivial, trivial⟩ ?_
  refine pw_ic hT (c := 0 ≤ 40) rfl rfl (fun c1_ => ?_) (fun c1_ => absurd (by decide) c1_)
  refine pw_blk hT 2 (S' := (11, [some (pvR 3), some (pvI 6), some (pvI 1), some (pvI n3), some (pvI 0), none, none], [pvI 1, pvI 6], M)) rfl ⟨trivial, trivial, trivial⟩ ?_
  refine pw_callT hT (as := [pvI 6, pvI 1]) (lo1 := [some (pvI 6), some (pvI 1), none, none, none]) (d1 := d) (rest := []) rfl rfl rfl rfl rfl (fun h => absurd h (by decide)) (Nat.zero_le _) rfl rfl rfl (sf_X0_bodyFrom_6_1 M hok d) ?_
  refine pw_eqI (show ((pvstab 1041).getD (Int32.toNatClampNeg ((6 * 3) + 1)) 0) = 70 from by decide) ?_
  show PW 4 d (14, [some (pvR 3), some (pvI 6), some (pvI 1), some (pvI n3), some (pvI 0), none, none], [pvI 70], M) _
  refine pw_blk hT 7 (S' := (25, [some (pvR 3), some (pvI 6), some (pvI 1), some (pvI n3), some (pvI 0), some (pvI 70), some (pvI (0 + 1))], [pvI 70, pvR 3], M)) rfl ⟨trivial, trivial, trivial, trivial, trivial, trivial, trivial, trivial⟩ ?_
  refine pw_callVd hT (as := [pvR 3, pvI 70]) (lo1 := [some (pvR 3), some (pvI 70)]) (d1 := d) (rest := []) rfl rfl rfl rfl rfl (fun _ => rfl) (Nat.zero_le _) rfl rfl rfl (se_X0_note_3_x M hok 70 (zr_wide (show 70 ≤ Int32.toInt 70 ∧ Int32.toInt 70 ≤ 70 from (by decide)) (by decide) (by decide)) (zr_wide hc3_1 (by decide) (by decide)) d) (fun M11_ o13_ g14_ d9_ => ?_)
  have d7_ := d9_.1
  have d8_ := d9_.2
  have f15_ : pvFr fp_eX0_run_3_6_1_x_0_6 M M11_ := pvfr_t g14_ pvfr_0 fp_eX0_run_3_6_1_x_0_6_fp_eX0_note_3_x
  have b16_ : 0 ≤ Int32.toInt (M11_.1 3 1) ∧ Int32.toInt (M11_.1 3 1) ≤ 995 := (by have u0 := hc3_1; have u1 := d7_; have u2 := pvok_r o13_ 3 1 (lo := 0) (hi := 1000000) rfl; omega)
  refine pw_blk hT 1 (S' := (30, [some (pvR 3), some (pvI 6), some (pvI 1), some (pvI n3), some (pvI 0), some (pvI 70), some (pvI (0 + 1))], [pvI 70], M11_)) rfl ⟨trivial, trivial⟩ ?_
  refine pw_sw hT rfl rfl ?_
  refine And.intro (fun c17_ => absurd c17_ (by decide)) (fun c17_ => ?_)
  refine And.intro (fun c18_ => absurd c18_ (by decide)) (fun c18_ => ?_)
  refine And.intro (fun c19_ => absurd c19_ (by decide)) (fun c19_ => ?_)
  refine And.intro (fun c20_ => absurd c20_ (by decide)) (fun c20_ => ?_)
  refine And.intro (fun c21_ => absurd c21_ (by decide)) (fun c21_ => ?_)
  refine And.intro (fun c22_ => absurd c22_ (by decide)) (fun c22_ => ?_)
  refine And.intro (fun c23_ => absurd c23_ (by decide)) (fun c23_ => ?_)
  refine And.intro (fun c24_ => absurd c24_ (by decide)) (fun c24_ => ?_)
  refine And.intro (fun c25_ => absurd c25_ (by decide)) (fun c25_ => ?_)
  refine And.intro (fun c26_ => ?_) (fun c26_ => absurd (by decide) c26_)
  show PW 4 d (254, [some (pvR 3), some (pvI 6), some (pvI 1), some (pvI n3), some (pvI 0), some (pvI 70), some (pvI (0 + 1))], [], M11_) _
  refine pw_blk hT 5 (S' := (260, [some (pvR 3), some (pvI 6), some (pvI 1), some (pvI n3), some (pvI 0), some (pvI 70), some (pvI (0 + 1))], [pvI (0 + 1), pvI n3, pvI 1, pvI 3, pvR 3], M11_)) rfl ⟨trivial, trivial, trivial, trivial, trivial, trivial⟩ ?_
  have e27_ : (M11_.1 3 2) = (M.1 3 2) := (g14_ 3 2 rfl)
  have b28_ : 6 ≤ Int32.toInt (M11_.1 3 2) ∧ Int32.toInt (M11_.1 3 2) ≤ 6 := (by rw [e27_]; exact hc3_2)
  refine pw_callGd hT (as := [pvR 3, pvI 3, pvI 1, pvI n3, pvI (0 + 1)]) (lo1 := [some (pvR 3), some (pvI 3), some (pvI 1), some (pvI n3), some (pvI (0 + 1)), none, none]) (d1 := (d - 1)) (rest := []) rfl rfl rfl rfl rfl (fun h => absurd h (by decide)) (show 1 ≤ d by omega) rfl rfl rfl (se_X0_run_3_3_1_x_1_6 M11_ o13_ n3 (zr_wide b16_ (by decide) (by decide)) b28_ (d - 1) (by omega)) (fun x32_ M33_ b34_ o35_ g36_ d31_ => ?_)
  have d29_ := d31_.1
  have d30_ := d31_.2
  have f37_ : pvFr fp_eX0_run_3_6_1_x_0_6 M M33_ := pvfr_t g36_ f15_ fp_eX0_run_3_6_1_x_0_6_fp_eX0_run_3_3_1_x_1_6
  have b38_ : 0 ≤ Int32.toInt (M33_.1 3 1) ∧ Int32.toInt (M33_.1 3 1) ≤ 998 := (by have u0 := b16_; have u1 := d29_; have u2 := pvok_r o35_ 3 1 (lo := 0) (hi := 1000000) rfl; omega)
  have u39_ : Int32.toInt 3 = 3 := by decide
  have u40_ : Int32.toInt 1 = 1 := by decide
  have u41_ : Int32.toInt (0 + 1) = 1 := by decide
  obtain ⟨b42_, d43_⟩ := b34_
  subst d43_
  have e44_ : (((n3 + (M11_.1 3 4)) ^^^ (M11_.1 3 3)) - (M11_.1 3 3)) = (((n3 + (M.1 3 4)) ^^^ (M.1 3 3)) - (M.1 3 3)) := (show (((n3 + (M11_.1 3 4)) ^^^ (M11_.1 3 3)) - (M11_.1 3 3)) = (((n3 + (M.1 3 4)) ^^^ (M.1 3 3)) - (M.1 3 3)) from by rw [(g14_ 3 4 rfl), (g14_ 3 3 rfl)])
  refine pw_eqI e44_ ?_
  refine pw_blk hT 5 (S' := (269, [some (pvR 3), some (pvI 6), some (pvI 1), some (pvI n3), some (pvI 0), some (pvI 70), some (pvI (0 + 1))], [pvI (0 + 1), pvI 2, pvI 0, pvI 3, pvR 3, pvI (((n3 + (M.1 3 4)) ^^^ (M.1 3 3)) - (M.1 3 3))], M33_)) rfl ⟨trivial, trivial, trivial, trivial, trivial, trivial⟩ ?_
  have e45_ : (M33_.1 3 2) = (M11_.1 3 2) := (g36_ 3 2 rfl)
  have b46_ : 6 ≤ Int32.toInt (M33_.1 3 2) ∧ Int32.toInt (M33_.1 3 2) ≤ 6 := (by rw [e45_]; exact b28_)
  refine pw_callGd hT (as := [pvR 3, pvI 3, pvI 0, pvI 2, pvI (0 + 1)]) (lo1 := [some (pvR 3), some (pvI 3), some (pvI 0), some (pvI 2), some (pvI (0 + 1)), none, none]) (d1 := (d - 1)) (rest := [pvI (((n3 + (M.1 3 4)) ^^^ (M.1 3 3)) - (M.1 3 3))]) rfl rfl rfl rfl rfl (fun h => absurd h (by decide)) (show 1 ≤ d by omega) rfl rfl rfl (se_X0_run_3_3_0_x_1_6 M33_ o35_ 2 b38_ b46_ (d - 1)) (fun x50_ M51_ b52_ o53_ g54_ d49_ => ?_)
  have d47_ := d49_.1
  have d48_ := d49_.2
  have f55_ : pvFr fp_eX0_run_3_6_1_x_0_6 M M51_ := pvfr_t g54_ f37_ fp_eX0_run_3_6_1_x_0_6_fp_eX0_run_3_3_0_x_1_6
  have b56_ : 0 ≤ Int32.toInt (M51_.1 3 1) ∧ Int32.toInt (M51_.1 3 1) ≤ 999 := (by have u0 := b38_; have u1 := d47_; have u2 := pvok_r o53_ 3 1 (lo := 0) (hi := 1000000) rfl; omega)
  have u57_ : Int32.toInt 0 = 0 := by decide
  have u58_ : Int32.toInt 2 = 2 := by decide
  obtain ⟨b59_, d60_⟩ := b52_
  subst d60_
  have e61_ : (2 + (M33_.1 3 4)) = (2 + (M.1 3 4)) := (show (2 + (M33_.1 3 4)) = (2 + (M.1 3 4)) from by rw [((g36_ 3 4 rfl).trans (g14_ 3 4 rfl))])
  refine pw_eqI e61_ ?_
  refine pw_blk hT 1 (S' := (273, [some (pvR 3), some (pvI 6), some (pvI 1), some (pvI n3), some (pvI 0), some (pvI 70), some (pvI (0 + 1))], [pvI ((((n3 + (M.1 3 4)) ^^^ (M.1 3 3)) - (M.1 3 3)) + (2 + (M.1 3 4)))], M51_)) rfl ⟨trivial, trivial⟩ ?_
  exact pw_ret hT rfl (r := some (pvI ((((n3 + (M.1 3 4)) ^^^ (M.1 3 3)) - (M.1 3 3)) + (2 + (M.1 3 4))))) (M' := M51_) ⟨rfl, rfl⟩ ⟨⟨_, rfl, trivial, rfl⟩, o53_, f55_, (by omega), (zTr_c (pvok_r hok 3 1 rfl).1 (zTr_c (pvok_r hok 3 1 rfl).1 (zTr_c0 (pvok_r hok 3 1 rfl).1 (zTr_0 3 1 4 M) d8_) d30_) d48_)⟩
set_option maxHeartbeats 4000000 in
set_option maxRecDepth 10000 in
theorem se_X3_above_6 (M : pvM) (hok : pvOk M) (d : Nat) : PW 131 d (0, [some (pvI 6)], [], M) (fun r X => r = some (pvI (((pvstab 1040).getD (Int32.toNatClampNeg 6) 0))) ∧ X = M) := by
  have hT : pvdom 131 = pvD_131 := rfl
  refine pw_blk hT 1 (S' := (1, [some (pvI 6)], [pvI 6], M)) rfl ⟨trivial, trivial⟩ ?_
  refine pw_if hT (c := 6 < 0) rfl rfl (fun c1_ => absurd c1_ (by decide)) (fun c1_ => ?_)
  refine pw_blk hT 3 (S' := (9, [some (pvI 6)], [pvI (Int32.ofNat (pvstab 1040).length), pvI 6], M)) rfl ⟨trivial, trivial, (by decide), trivial⟩ ?_
  refine pw_ic hT (c := 6 < (Int32.ofNat (pvstab 1040).length)) rfl rfl (fun c2_ => ?_) (fun c2_ => absurd (by decide) c2_)
  refine pw_blk hT 3 (S' := (21, [some (pvI 6)], [pvI ((pvstab 1040).getD (Int32.toNatClampNeg 6) 0)], M)) rfl ⟨trivial, trivial, ⟨by decide, (zr_in (n := 7) (show 6 ≤ Int32.toInt 6 ∧ Int32.toInt 6 ≤ 6 from (by decide)) (by decide) (by decide))⟩, trivial⟩ ?_
  exact pw_ret hT rfl (r := some (pvI ((pvstab 1040).getD (Int32.toNatClampNeg 6) 0))) (M' := M) ⟨rfl, rfl⟩ ⟨rfl, rfl⟩
def fpL_eX0_run_3_3_0_x_5_6 : List (Nat × Nat × Nat) := [(0, 3, 2), (0, 4, 0)]
def fp_eX0_run_3_3_0_x_5_6 (q k : Nat) : Bool := pvfp fpL_eX0_run_3_3_0_x_5_6 q k
theorem fp_eX0_run_3_3_0_x_5_6_fp_eX0_note_3_x (a b : Nat) (h : fp_eX0_note_3_x a b = true) : fp_eX0_run_3_3_0_x_5_6 a b = true := pvfp_sub (l1 := fpL_eX0_note_3_x) (l2 := fpL_eX0_run_3_3_0_x_5_6) (by decide) a b h
set_option maxHeartbeats 4000000 in
set_option maxRecDepth 10000 in
theorem se_X0_run_3_3_0_x_5_6 (M : pvM) (hok : pvOk M) (n3 : Int32) (hc3_1 : 0 ≤ Int32.toInt (M.1 3 1) ∧ Int32.toInt (M.1 3 1) ≤ 998) (hc3_2 : 6 ≤ Int32.toInt (M.1 3 2) ∧ Int32.toInt (M.1 3 2) ≤ 6) (d : Nat) : PW 4 d (0, [some (pvR 3), some (pvI 3), some (pvI 0), some (pvI n3), some (pvI 5), none, none], [], M) (fun r X => (∃ x : Int32, r = some (pvI x) ∧ True ∧ x = (n3 + (M.1 3 4))) ∧ pvOk X ∧ pvFr fp_eX0_run_3_3_0_x_5_6 M X ∧ Int32.toInt (X.1 3 1) ≤ Int32.toInt (M.1 3 1) + 1 ∧ zTr 3 1 4 ([10] : List Int32) M X) := by
  have hT : pvdom 4 = pvD_4 := rfl
  refine pw_blk hT 2 (S' := (4, [some (pvR 3), some (pvI 3), some (pvI 0), some (pvI n3), some (pvI 5), none, none], [pvI 40, pvI 5], M)) rfl ⟨trivial, trivial, trivial⟩ ?_
  refine pw_ic hT (c := 5 ≤ 40) rfl rfl (fun c1_ => ?_) (fun c1_ => absurd (by decide) c1_)
  refine pw_blk hT 2 (S' := (11, [some (pvR 3), some (pvI 3), some (pvI 0), some (pvI n3), some (pvI 5), none, none], [pvI 0, pvI 3], M)) rfl ⟨trivial, trivial, trivial⟩ ?_
  refine pw_callT hT (as := [pvI 3, pvI 0]) (lo1 := [some (pvI 3), some (pvI 0), none, none, none]) (d1 := d) (rest := []) rfl rfl rfl rfl rfl (fun h => absurd h (by decide)) (Nat.zero_le _) rfl rfl rfl (sf_X0_bodyFrom_3_0 M hok d) ?_
  refine pw_eqI (show ((pvstab 1041).getD (Int32.toNatClampNeg ((0 * 3) + 0)) 0) = 10 from by decide) ?_
  show PW 4 d (14, [some (pvR 3), some (pvI 3), some (pvI 0), some (pvI n3), some (pvI 5), none, none], [pvI 10], M) _
  refine pw_blk hT 7 (S' := (25, [some (pvR 3), some (pvI 3), some (pvI 0), some (pvI n3), some (pvI 5), some (pvI 10), some (pvI (5 + 1))], [pvI 10, pvR 3], M)) rfl ⟨trivial, trivial, trivial, trivial, trivial, trivial, trivial, trivial⟩ ?_
  refine pw_callVd hT (as := [pvR 3, pvI 10]) (lo1 := [some (pvR 3), some (pvI 10)]) (d1 := d) (rest := []) rfl rfl rfl rfl rfl (fun _ => rfl) (Nat.zero_le _) rfl rfl rfl (se_X0_note_3_x M hok 10 (zr_wide (show 10 ≤ Int32.toInt 10 ∧ Int32.toInt 10 ≤ 10 from (by decide)) (by decide) (by decide)) (zr_wide hc3_1 (by decide) (by decide)) d) (fun M11_ o13_ g14_ d9_ => ?_)
  have d7_ := d9_.1
  have d8_ := d9_.2
  have f15_ : pvFr fp_eX0_run_3_3_0_x_5_6 M M11_ := pvfr_t g14_ pvfr_0 fp_eX0_run_3_3_0_x_5_6_fp_eX0_note_3_x
  have b16_ : 0 ≤ Int32.toInt (M11_.1 3 1) ∧ Int32.toInt (M11_.1 3 1) ≤ 999 := (by have u0 := hc3_1; have u1 := d7_; have u2 := pvok_r o13_ 3 1 (lo := 0) (hi := 1000000) rfl; omega)
  refine pw_blk hT 1 (S' := (30, [some (pvR 3), some (pvI 3), some (pvI 0), some (pvI n3), some (pvI 5), some (pvI 10), some (pvI (5 + 1))], [pvI 10], M11_)) rfl ⟨trivial, trivial⟩ ?_
  refine pw_sw hT rfl rfl ?_
  refine And.intro (fun c17_ => ?_) (fun c17_ => absurd (by decide) c17_)
  show PW 4 d (128, [some (pvR 3), some (pvI 3), some (pvI 0), some (pvI n3), some (pvI 5), some (pvI 10), some (pvI (5 + 1))], [], M11_) _
  refine pw_blk hT 3 (S' := (133, [some (pvR 3), some (pvI 3), some (pvI 0), some (pvI n3), some (pvI 5), some (pvI 10), some (pvI (5 + 1))], [pvI (M11_.1 3 4), pvI n3], M11_)) rfl ⟨trivial, trivial, rfl, trivial⟩ ?_
  have e18_ : (M11_.1 3 4) = (M.1 3 4) := (g14_ 3 4 rfl)
  refine pw_eqI e18_ ?_
  refine pw_blk hT 1 (S' := (134, [some (pvR 3), some (pvI 3), some (pvI 0), some (pvI n3), some (pvI 5), some (pvI 10), some (pvI (5 + 1))], [pvI (n3 + (M.1 3 4))], M11_)) rfl ⟨trivial, trivial⟩ ?_
  exact pw_ret hT rfl (r := some (pvI (n3 + (M.1 3 4)))) (M' := M11_) ⟨rfl, rfl⟩ ⟨⟨_, rfl, trivial, rfl⟩, o13_, f15_, (by omega), (zTr_c0 (pvok_r hok 3 1 rfl).1 (zTr_0 3 1 4 M) d8_)⟩
def fpL_eX0_run_3_6_0_x_4_6 : List (Nat × Nat × Nat) := [(0, 3, 2), (0, 4, 0)]
def fp_eX0_run_3_6_0_x_4_6 (q k : Nat) : Bool := pvfp fpL_eX0_run_3_6_0_x_4_6 q k
theorem fp_eX0_run_3_6_0_x_4_6_fp_eX0_note_3_x (a b : Nat) (h : fp_eX0_note_3_x a b = true) : fp_eX0_run_3_6_0_x_4_6 a b = true := pvfp_sub (l1 := fpL_eX0_note_3_x) (l2 := fpL_eX0_run_3_6_0_x_4_6) (by decide) a b h
theorem fp_eX0_run_3_6_0_x_4_6_fp_eX0_run_3_3_0_x_5_6 (a b : Nat) (h : fp_eX0_run_3_3_0_x_5_6 a b = true) : fp_eX0_run_3_6_0_x_4_6 a b = true := pvfp_sub (l1 := fpL_eX0_run_3_3_0_x_5_6) (l2 := fpL_eX0_run_3_6_0_x_4_6) (by decide) a b h
set_option maxHeartbeats 4000000 in
set_option maxRecDepth 10000 in
theorem se_X0_run_3_6_0_x_4_6 (M : pvM) (hok : pvOk M) (n3 : Int32) (hc3_1 : 0 ≤ Int32.toInt (M.1 3 1) ∧ Int32.toInt (M.1 3 1) ≤ 997) (hc3_2 : 6 ≤ Int32.toInt (M.1 3 2) ∧ Int32.toInt (M.1 3 2) ≤ 6) (d : Nat) (hd : 1 ≤ d) : PW 4 d (0, [some (pvR 3), some (pvI 6), some (pvI 0), some (pvI n3), some (pvI 4), none, none], [], M) (fun r X => (∃ x : Int32, r = some (pvI x) ∧ True ∧ x = ((n3 + (M.1 3 4)) ^^^ (M.1 3 3))) ∧ pvOk X ∧ pvFr fp_eX0_run_3_6_0_x_4_6 M X ∧ Int32.toInt (X.1 3 1) ≤ Int32.toInt (M.1 3 1) + 2 ∧ zTr 3 1 4 (([71] : List Int32) ++ ([10] : List Int32)) M X) := by
  have hT : pvdom 4 = pvD_4 := rfl
  refine pw_blk hT 2 (S' := (4, [some (pvR 3), some (pvI 6), some (pvI 0), some (pvI n3), some (pvI 4), none, none], [pvI 40, pvI 4], M)) rfl ⟨trivial, trivial, trivial⟩ ?_
  refine pw_ic hT (c := 4 ≤ 40) rfl rfl (fun c1_ => ?_) (fun c1_ => absurd (by decide) c1_)
  refine pw_blk hT 2 (S' := (11, [some (pvR 3), some (pvI 6), some (pvI 0), some (pvI n3), some (pvI 4), none, none], [pvI 0, pvI 6], M)) rfl ⟨trivial, trivial, trivial⟩ ?_
  refine pw_callT hT (as := [pvI 6, pvI 0]) (lo1 := [some (pvI 6), some (pvI 0), none, none, none]) (d1 := d) (rest := []) rfl rfl rfl rfl rfl (fun h => absurd h (by decide)) (Nat.zero_le _) rfl rfl rfl (sf_X0_bodyFrom_6_0 M hok d) ?_
  refine pw_eqI (show ((pvstab 1041).getD (Int32.toNatClampNeg ((6 * 3) + 0)) 0) = 71 from by decide) ?_
  show PW 4 d (14, [some (pvR 3), some (pvI 6), some (pvI 0), some (pvI n3), some (pvI 4), none, none], [pvI 71], M) _
  refine pw_blk hT 7 (S' := (25, [some (pvR 3), some (pvI 6), some (pvI 0), some (pvI n3), some (pvI 4), some (pvI 71), some (pvI (4 + 1))], [pvI 71, pvR 3], M)) rfl ⟨trivial, trivial, trivial, trivial, trivial, trivial, trivial, trivial⟩ ?_
  refine pw_callVd hT (as := [pvR 3, pvI 71]) (lo1 := [some (pvR 3), some (pvI 71)]) (d1 := d) (rest := []) rfl rfl rfl rfl rfl (fun _ => rfl) (Nat.zero_le _) rfl rfl rfl (se_X0_note_3_x M hok 71 (zr_wide (show 71 ≤ Int32.toInt 71 ∧ Int32.toInt 71 ≤ 71 from (by decide)) (by decide) (by decide)) (zr_wide hc3_1 (by decide) (by decide)) d) (fun M11_ o13_ g14_ d9_ => ?_)
  have d7_ := d9_.1
  have d8_ := d9_.2
  have f15_ : pvFr fp_eX0_run_3_6_0_x_4_6 M M11_ := pvfr_t g14_ pvfr_0 fp_eX0_run_3_6_0_x_4_6_fp_eX0_note_3_x
  have b16_ : 0 ≤ Int32.toInt (M11_.1 3 1) ∧ Int32.toInt (M11_.1 3 1) ≤ 998 := (by have u0 := hc3_1; have u1 := d7_; have u2 := pvok_r o13_ 3 1 (lo := 0) (hi := 1000000) rfl; omega)
  refine pw_blk hT 1 (S' := (30, [some (pvR 3), some (pvI 6), some (pvI 0), some (pvI n3), some (pvI 4), some (pvI 71), some (pvI (4 + 1))], [pvI 71], M11_)) rfl ⟨trivial, trivial⟩ ?_
  refine pw_sw hT rfl rfl ?_
  refine And.intro (fun c17_ => absurd c17_ (by decide)) (fun c17_ => ?_)
  refine And.intro (fun c18_ => absurd c18_ (by decide)) (fun c18_ => ?_)
  refine And.intro (fun c19_ => absurd c19_ (by decide)) (fun c19_ => ?_)
  refine And.intro (fun c20_ => absurd c20_ (by decide)) (fun c20_ => ?_)
  refine And.intro (fun c21_ => absurd c21_ (by decide)) (fun c21_ => ?_)
  refine And.intro (fun c22_ => absurd c22_ (by decide)) (fun c22_ => ?_)
  refine And.intro (fun c23_ => absurd c23_ (by decide)) (fun c23_ => ?_)
  refine And.intro (fun c24_ => absurd c24_ (by decide)) (fun c24_ => ?_)
  refine And.intro (fun c25_ => absurd c25_ (by decide)) (fun c25_ => ?_)
  refine And.intro (fun c26_ => absurd c26_ (by decide)) (fun c26_ => ?_)
  refine And.intro (fun c27_ => ?_) (fun c27_ => absurd (by decide) c27_)
  show PW 4 d (274, [some (pvR 3), some (pvI 6), some (pvI 0), some (pvI n3), some (pvI 4), some (pvI 71), some (pvI (4 + 1))], [], M11_) _
  refine pw_blk hT 5 (S' := (280, [some (pvR 3), some (pvI 6), some (pvI 0), some (pvI n3), some (pvI 4), some (pvI 71), some (pvI (4 + 1))], [pvI (4 + 1), pvI n3, pvI 0, pvI 3, pvR 3], M11_)) rfl ⟨trivial, trivial, trivial, trivial, trivial, trivial⟩ ?_
  have e28_ : (M11_.1 3 2) = (M.1 3 2) := (g14_ 3 2 rfl)
  have b29_ : 6 ≤ Int32.toInt (M11_.1 3 2) ∧ Int32.toInt (M11_.1 3 2) ≤ 6 := (by rw [e28_]; exact hc3_2)
  refine pw_callGd hT (as := [pvR 3, pvI 3, pvI 0, pvI n3, pvI (4 + 1)]) (lo1 := [some (pvR 3), some (pvI 3), some (pvI 0), some (pvI n3), some (pvI (4 + 1)), none, none]) (d1 := (d - 1)) (rest := []) rfl rfl rfl rfl rfl (fun h => absurd h (by decide)) (show 1 ≤ d by omega) rfl rfl rfl (se_X0_run_3_3_0_x_5_6 M11_ o13_ n3 b16_ b29_ (d - 1)) (fun x33_ M34_ b35_ o36_ g37_ d32_ => ?_)
  have d30_ := d32_.1
  have d31_ := d32_.2
  have f38_ : pvFr fp_eX0_run_3_6_0_x_4_6 M M34_ := pvfr_t g37_ f15_ fp_eX0_run_3_6_0_x_4_6_fp_eX0_run_3_3_0_x_5_6
  have b39_ : 0 ≤ Int32.toInt (M34_.1 3 1) ∧ Int32.toInt (M34_.1 3 1) ≤ 999 := (by have u0 := b16_; have u1 := d30_; have u2 := pvok_r o36_ 3 1 (lo := 0) (hi := 1000000) rfl; omega)
  have u40_ : Int32.toInt 3 = 3 := by decide
  have u41_ : Int32.toInt 0 = 0 := by decide
  have u42_ : Int32.toInt (4 + 1) = 5 := by decide
  obtain ⟨b43_, d44_⟩ := b35_
  subst d44_
  have e45_ : (n3 + (M11_.1 3 4)) = (n3 + (M.1 3 4)) := (show (n3 + (M11_.1 3 4)) = (n3 + (M.1 3 4)) from by rw [(g14_ 3 4 rfl)])
  refine pw_eqI e45_ ?_
  refine pw_blk hT 2 (S' := (287, [some (pvR 3), some (pvI 6), some (pvI 0), some (pvI n3), some (pvI 4), some (pvI 71), some (pvI (4 + 1))], [pvI (M34_.1 3 3), pvI (n3 + (M.1 3 4))], M34_)) rfl ⟨trivial, rfl, trivial⟩ ?_
  have e46_ : (M34_.1 3 3) = (M.1 3 3) := ((g37_ 3 3 rfl).trans (g14_ 3 3 rfl))
  refine pw_eqI e46_ ?_
  refine pw_blk hT 1 (S' := (288, [some (pvR 3), some (pvI 6), some (pvI 0), some (pvI n3), some (pvI 4), some (pvI 71), some (pvI (4 + 1))], [pvI ((n3 + (M.1 3 4)) ^^^ (M.1 3 3))], M34_)) rfl ⟨trivial, trivial⟩ ?_
  exact pw_ret hT rfl (r := some (pvI ((n3 + (M.1 3 4)) ^^^ (M.1 3 3)))) (M' := M34_) ⟨rfl, rfl⟩ ⟨⟨_, rfl, trivial, rfl⟩, o36_, f38_, (by omega), (zTr_c (pvok_r hok 3 1 rfl).1 (zTr_c0 (pvok_r hok 3 1 rfl).1 (zTr_0 3 1 4 M) d8_) d31_)⟩
def fpL_eX0_run_3_3_1_x_3_6 : List (Nat × Nat × Nat) := [(0, 3, 2), (0, 4, 0)]
def fp_eX0_run_3_3_1_x_3_6 (q k : Nat) : Bool := pvfp fpL_eX0_run_3_3_1_x_3_6 q k
theorem fp_eX0_run_3_3_1_x_3_6_fp_eX0_note_3_x (a b : Nat) (h : fp_eX0_note_3_x a b = true) : fp_eX0_run_3_3_1_x_3_6 a b = true := pvfp_sub (l1 := fpL_eX0_note_3_x) (l2 := fpL_eX0_run_3_3_1_x_3_6) (by decide) a b h
theorem fp_eX0_run_3_3_1_x_3_6_fp_eX0_run_3_6_0_x_4_6 (a b : Nat) (h : fp_eX0_run_3_6_0_x_4_6 a b = true) : fp_eX0_run_3_3_1_x_3_6 a b = true := pvfp_sub (l1 := fpL_eX0_run_3_6_0_x_4_6) (l2 := fpL_eX0_run_3_3_1_x_3_6) (by decide) a b h
set_option maxHeartbeats 4000000 in
set_option maxRecDepth 10000 in
theorem se_X0_run_3_3_1_x_3_6 (M : pvM) (hok : pvOk M) (n3 : Int32) (hc3_1 : 0 ≤ Int32.toInt (M.1 3 1) ∧ Int32.toInt (M.1 3 1) ≤ 996) (hc3_2 : 6 ≤ Int32.toInt (M.1 3 2) ∧ Int32.toInt (M.1 3 2) ≤ 6) (d : Nat) (hd : 2 ≤ d) : PW 4 d (0, [some (pvR 3), some (pvI 3), some (pvI 1), some (pvI n3), some (pvI 3), none, none], [], M) (fun r X => (∃ x : Int32, r = some (pvI x) ∧ True ∧ x = (((n3 + (M.1 3 4)) ^^^ (M.1 3 3)) - (M.1 3 3))) ∧ pvOk X ∧ pvFr fp_eX0_run_3_3_1_x_3_6 M X ∧ Int32.toInt (X.1 3 1) ≤ Int32.toInt (M.1 3 1) + 3 ∧ zTr 3 1 4 (([11] : List Int32) ++ (([71] : List Int32) ++ ([10] : List Int32))) M X) := by
  have hT : pvdom 4 = pvD_4 := rfl
  refine pw_blk hT 2 (S' := (4, [some (pvR 3), some (pvI 3), some (pvI 1), some (pvI n3), some (pvI 3), none, none], [pvI 40, pvI 3], M)) rfl ⟨trivial, trivial, trivial⟩ ?_
  refine pw_ic hT (c := 3 ≤ 40) rfl rfl (fun c1_ => ?_) (fun c1_ => absurd (by decide) c1_)
  refine pw_blk hT 2 (S' := (11, [some (pvR 3), some (pvI 3), some (pvI 1), some (pvI n3), some (pvI 3), none, none], [pvI 1, pvI 3], M)) rfl ⟨trivial, trivial, trivial⟩ ?_
  refine pw_callT hT (as := [pvI 3, pvI 1]) (lo1 := [some (pvI 3), some (pvI 1), none, none, none]) (d1 := d) (rest := []) rfl rfl rfl rfl rfl (fun h => absurd h (by decide)) (Nat.zero_le _) rfl rfl rfl (sf_X0_bodyFrom_3_1 M hok d) ?_
  refine pw_eqI (show ((pvstab 1041).getD (Int32.toNatClampNeg ((0 * 3) + 1)) 0) = 11 from by decide) ?_
  show PW 4 d (14, [some (pvR 3), some (pvI 3), some (pvI 1), some (pvI n3), some (pvI 3), none, none], [pvI 11], M) _
  refine pw_blk hT 7 (S' := (25, [some (pvR 3), some (pvI 3), some (pvI 1), some (pvI n3), some (pvI 3), some (pvI 11), some (pvI (3 + 1))], [pvI 11, pvR 3], M)) rfl ⟨trivial, trivial, trivial, trivial, trivial, trivial, trivial, trivial⟩ ?_
  refine pw_callVd hT (as := [pvR 3, pvI 11]) (lo1 := [some (pvR 3), some (pvI 11)]) (d1 := d) (rest := []) rfl rfl rfl rfl rfl (fun _ => rfl) (Nat.zero_le _) rfl rfl rfl (se_X0_note_3_x M hok 11 (zr_wide (show 11 ≤ Int32.toInt 11 ∧ Int32.toInt 11 ≤ 11 from (by decide)) (by decide) (by decide)) (zr_wide hc3_1 (by decide) (by decide)) d) (fun M11_ o13_ g14_ d9_ => ?_)
  have d7_ := d9_.1
  have d8_ := d9_.2
  have f15_ : pvFr fp_eX0_run_3_3_1_x_3_6 M M11_ := pvfr_t g14_ pvfr_0 fp_eX0_run_3_3_1_x_3_6_fp_eX0_note_3_x
  have b16_ : 0 ≤ Int32.toInt (M11_.1 3 1) ∧ Int32.toInt (M11_.1 3 1) ≤ 997 := (by have u0 := hc3_1; have u1 := d7_; have u2 := pvok_r o13_ 3 1 (lo := 0) (hi := 1000000) rfl; omega)
  refine pw_blk hT 1 (S' := (30, [some (pvR 3), some (pvI 3), some (pvI 1), some (pvI n3), some (pvI 3), some (pvI 11), some (pvI (3 + 1))], [pvI 11], M11_)) rfl ⟨trivial, trivial⟩ ?_
  refine pw_sw hT rfl rfl ?_
  refine And.intro (fun c17_ => absurd c17_ (by decide)) (fun c17_ => ?_)
  refine And.intro (fun c18_ => ?_) (fun c18_ => absurd (by decide) c18_)
  show PW 4 d (135, [some (pvR 3), some (pvI 3), some (pvI 1), some (pvI n3), some (pvI 3), some (pvI 11), some (pvI (3 + 1))], [], M11_) _
  have e19_ : (M11_.1 3 2) = (M.1 3 2) := (g14_ 3 2 rfl)
  have b20_ : 6 ≤ Int32.toInt (M11_.1 3 2) ∧ Int32.toInt (M11_.1 3 2) ≤ 6 := (by rw [e19_]; exact hc3_2)
  refine pw_blk hT 3 (S' := (140, [some (pvR 3), some (pvI 3), some (pvI 1), some (pvI n3), some (pvI 3), some (pvI 11), some (pvI (3 + 1))], [pvI (M11_.1 3 2), pvR 3], M11_)) rfl ⟨trivial, trivial, rfl, trivial⟩ ?_
  refine pw_eqI ((zi_eq _ (6)).mpr (by have u0 := b20_; have u1 : Int32.toInt (6) = 6 := (by decide); omega)) ?_
  refine pw_blk hT 3 (S' := (144, [some (pvR 3), some (pvI 3), some (pvI 1), some (pvI n3), some (pvI 3), some (pvI 11), some (pvI (3 + 1))], [pvI (3 + 1), pvI n3, pvI 0, pvI 6, pvR 3], M11_)) rfl ⟨trivial, trivial, trivial, trivial⟩ ?_
  refine pw_callGd hT (as := [pvR 3, pvI 6, pvI 0, pvI n3, pvI (3 + 1)]) (lo1 := [some (pvR 3), some (pvI 6), some (pvI 0), some (pvI n3), some (pvI (3 + 1)), none, none]) (d1 := (d - 1)) (rest := []) rfl rfl rfl rfl rfl (fun h => absurd h (by decide)) (show 1 ≤ d by omega) rfl rfl rfl (se_X0_run_3_6_0_x_4_6 M11_ o13_ n3 b16_ b20_ (d - 1) (by omega)) (fun x24_ M25_ b26_ o27_ g28_ d23_ => ?_)
  have d21_ := d23_.1
  have d22_ := d23_.2
  have f29_ : pvFr fp_eX0_run_3_3_1_x_3_6 M M25_ := pvfr_t g28_ f15_ fp_eX0_run_3_3_1_x_3_6_fp_eX0_run_3_6_0_x_4_6
  have b30_ : 0 ≤ Int32.toInt (M25_.1 3 1) ∧ Int32.toInt (M25_.1 3 1) ≤ 999 := (by have u0 := b16_; have u1 := d21_; have u2 := pvok_r o27_ 3 1 (lo := 0) (hi := 1000000) rfl; omega)
  have u31_ : Int32.toInt 6 = 6 := by decide
  have u32_ : Int32.toInt 0 = 0 := by decide
  have u33_ : Int32.toInt (3 + 1) = 4 := by decide
  obtain ⟨b34_, d35_⟩ := b26_
  subst d35_
  have e36_ : ((n3 + (M11_.1 3 4)) ^^^ (M11_.1 3 3)) = ((n3 + (M.1 3 4)) ^^^ (M.1 3 3)) := (show ((n3 + (M11_.1 3 4)) ^^^ (M11_.1 3 3)) = ((n3 + (M.1 3 4)) ^^^ (M.1 3 3)) from by rw [(g14_ 3 4 rfl), (g14_ 3 3 rfl)])
  refine pw_eqI e36_ ?_
  refine pw_blk hT 2 (S' := (151, [some (pvR 3), some (pvI 3), some (pvI 1), some (pvI n3), some (pvI 3), some (pvI 11), some (pvI (3 + 1))], [pvI (M25_.1 3 3), pvI ((n3 + (M.1 3 4)) ^^^ (M.1 3 3))], M25_)) rfl ⟨trivial, rfl, trivial⟩ ?_
  have e37_ : (M25_.1 3 3) = (M.1 3 3) := ((g28_ 3 3 rfl).trans (g14_ 3 3 rfl))
  refine pw_eqI e37_ ?_
  refine pw_blk hT 1 (S' := (152, [some (pvR 3), some (pvI 3), some (pvI 1), some (pvI n3), some (pvI 3), some (pvI 11), some (pvI (3 + 1))], [pvI (((n3 + (M.1 3 4)) ^^^ (M.1 3 3)) - (M.1 3 3))], M25_)) rfl ⟨trivial, trivial⟩ ?_
  exact pw_ret hT rfl (r := some (pvI (((n3 + (M.1 3 4)) ^^^ (M.1 3 3)) - (M.1 3 3)))) (M' := M25_) ⟨rfl, rfl⟩ ⟨⟨_, rfl, trivial, rfl⟩, o27_, f29_, (by omega), (zTr_c (pvok_r hok 3 1 rfl).1 (zTr_c0 (pvok_r hok 3 1 rfl).1 (zTr_0 3 1 4 M) d8_) d22_)⟩
def fpL_eX0_run_3_6_1_x_2_6 : List (Nat × Nat × Nat) := [(0, 3, 2), (0, 4, 0)]
def fp_eX0_run_3_6_1_x_2_6 (q k : Nat) : Bool := pvfp fpL_eX0_run_3_6_1_x_2_6 q k
theorem fp_eX0_run_3_6_1_x_2_6_fp_eX0_note_3_x (a b : Nat) (h : fp_eX0_note_3_x a b = true) : fp_eX0_run_3_6_1_x_2_6 a b = true := pvfp_sub (l1 := fpL_eX0_note_3_x) (l2 := fpL_eX0_run_3_6_1_x_2_6) (by decide) a b h
theorem fp_eX0_run_3_6_1_x_2_6_fp_eX0_run_3_3_0_x_3_6 (a b : Nat) (h : fp_eX0_run_3_3_0_x_3_6 a b = true) : fp_eX0_run_3_6_1_x_2_6 a b = true := pvfp_sub (l1 := fpL_eX0_run_3_3_0_x_3_6) (l2 := fpL_eX0_run_3_6_1_x_2_6) (by decide) a b h
theorem fp_eX0_run_3_6_1_x_2_6_fp_eX0_run_3_3_1_x_3_6 (a b : Nat) (h : fp_eX0_run_3_3_1_x_3_6 a b = true) : fp_eX0_run_3_6_1_x_2_6 a b = true := pvfp_sub (l1 := fpL_eX0_run_3_3_1_x_3_6) (l2 := fpL_eX0_run_3_6_1_x_2_6) (by decide) a b h
set_option maxHeartbeats 4000000 in
set_option maxRecDepth 10000 in
theorem se_X0_run_3_6_1_x_2_6 (M : pvM) (hok : pvOk M) (n3 : Int32) (hc3_1 : 0 ≤ Int32.toInt (M.1 3 1) ∧ Int32.toInt (M.1 3 1) ≤ 994) (hc3_2 : 6 ≤ Int32.toInt (M.1 3 2) ∧ Int32.toInt (M.1 3 2) ≤ 6) (d : Nat) (hd : 3 ≤ d) : PW 4 d (0, [some (pvR 3), some (pvI 6), some (pvI 1), some (pvI n3), some (pvI 2), none, none], [], M) (fun r X => (∃ x : Int32, r = some (pvI x) ∧ True ∧ x = ((((n3 + (M.1 3 4)) ^^^ (M.1 3 3)) - (M.1 3 3)) + (2 + (M.1 3 4)))) ∧ pvOk X ∧ pvFr fp_eX0_run_3_6_1_x_2_6 M X ∧ Int32.toInt (X.1 3 1) ≤ Int32.toInt (M.1 3 1) + 5 ∧ zTr 3 1 4 (([70] : List Int32) ++ (([11] : List Int32) ++ (([71] : List Int32) ++ ([10] : List Int32))) ++ ([10] : List Int32)) M X) := by
  have hT : pvdom 4 = pvD_4 := rfl
  refine pw_blk hT 2 (S' := (4, [some (pvR 3), some (pvI 6), some (pvI 1), some (pvI n3), some (pvI 2), none, none], [pvI 40, pvI 2], M)) rfl ⟨trivial, trivial, trivial⟩ ?_
  refine pw_ic hT (c := 2 ≤ 40) rfl rfl (fun c1_ => ?_) (fun c1_ => absurd (by decide) c1_)
  refine pw_blk hT 2 (S' := (11, [some (pvR 3), some (pvI 6), some (pvI 1), some (pvI n3), some (pvI 2), none, none], [pvI 1, pvI 6], M)) rfl ⟨trivial, trivial, trivial⟩ ?_
  refine pw_callT hT (as := [pvI 6, pvI 1]) (lo1 := [some (pvI 6), some (pvI 1), none, none, none]) (d1 := d) (rest := []) rfl rfl rfl rfl rfl (fun h => absurd h (by decide)) (Nat.zero_le _) rfl rfl rfl (sf_X0_bodyFrom_6_1 M hok d) ?_
  refine pw_eqI (show ((pvstab 1041).getD (Int32.toNatClampNeg ((6 * 3) + 1)) 0) = 70 from by decide) ?_
  show PW 4 d (14, [some (pvR 3), some (pvI 6), some (pvI 1), some (pvI n3), some (pvI 2), none, none], [pvI 70], M) _
  refine pw_blk hT 7 (S' := (25, [some (pvR 3), some (pvI 6), some (pvI 1), some (pvI n3), some (pvI 2), some (pvI 70), some (pvI (2 + 1))], [pvI 70, pvR 3], M)) rfl ⟨trivial, trivial, trivial, trivial, trivial, trivial, trivial, trivial⟩ ?_
  refine pw_callVd hT (as := [pvR 3, pvI 70]) (lo1 := [some (pvR 3), some (pvI 70)]) (d1 := d) (rest := []) rfl rfl rfl rfl rfl (fun _ => rfl) (Nat.zero_le _) rfl rfl rfl (se_X0_note_3_x M hok 70 (zr_wide (show 70 ≤ Int32.toInt 70 ∧ Int32.toInt 70 ≤ 70 from (by decide)) (by decide) (by decide)) (zr_wide hc3_1 (by decide) (by decide)) d) (fun M11_ o13_ g14_ d9_ => ?_)
  have d7_ := d9_.1
  have d8_ := d9_.2
  have f15_ : pvFr fp_eX0_run_3_6_1_x_2_6 M M11_ := pvfr_t g14_ pvfr_0 fp_eX0_run_3_6_1_x_2_6_fp_eX0_note_3_x
  have b16_ : 0 ≤ Int32.toInt (M11_.1 3 1) ∧ Int32.toInt (M11_.1 3 1) ≤ 995 := (by have u0 := hc3_1; have u1 := d7_; have u2 := pvok_r o13_ 3 1 (lo := 0) (hi := 1000000) rfl; omega)
  refine pw_blk hT 1 (S' := (30, [some (pvR 3), some (pvI 6), some (pvI 1), some (pvI n3), some (pvI 2), some (pvI 70), some (pvI (2 + 1))], [pvI 70], M11_)) rfl ⟨trivial, trivial⟩ ?_
  refine pw_sw hT rfl rfl ?_
  refine And.intro (fun c17_ => absurd c17_ (by decide)) (fun c17_ => ?_)
  refine And.intro (fun c18_ => absurd c18_ (by decide)) (fun c18_ => ?_)
  refine And.intro (fun c19_ => absurd c19_ (by decide)) (fun c19_ => ?_)
  refine And.intro (fun c20_ => absurd c20_ (by decide)) (fun c20_ => ?_)
  refine And.intro (fun c21_ => absurd c21_ (by decide)) (fun c21_ => ?_)
  refine And.intro (fun c22_ => absurd c22_ (by decide)) (fun c22_ => ?_)
  refine And.intro (fun c23_ => absurd c23_ (by decide)) (fun c23_ => ?_)
  refine And.intro (fun c24_ => absurd c24_ (by decide)) (fun c24_ => ?_)
  refine And.intro (fun c25_ => absurd c25_ (by decide)) (fun c25_ => ?_)
  refine And.intro (fun c26_ => ?_) (fun c26_ => absurd (by decide) c26_)
  show PW 4 d (254, [some (pvR 3), some (pvI 6), some (pvI 1), some (pvI n3), some (pvI 2), some (pvI 70), some (pvI (2 + 1))], [], M11_) _
  refine pw_blk hT 5 (S' := (260, [some (pvR 3), some (pvI 6), some (pvI 1), some (pvI n3), some (pvI 2), some (pvI 70), some (pvI (2 + 1))], [pvI (2 + 1), pvI n3, pvI 1, pvI 3, pvR 3], M11_)) rfl ⟨trivial, trivial, trivial, trivial, trivial, trivial⟩ ?_
  have e27_ : (M11_.1 3 2) = (M.1 3 2) := (g14_ 3 2 rfl)
  have b28_ : 6 ≤ Int32.toInt (M11_.1 3 2) ∧ Int32.toInt (M11_.1 3 2) ≤ 6 := (by rw [e27_]; exact hc3_2)
  refine pw_callGd hT (as := [pvR 3, pvI 3, pvI 1, pvI n3, pvI (2 + 1)]) (lo1 := [some (pvR 3), some (pvI 3), some (pvI 1), some (pvI n3), some (pvI (2 + 1)), none, none]) (d1 := (d - 1)) (rest := []) rfl rfl rfl rfl rfl (fun h => absurd h (by decide)) (show 1 ≤ d by omega) rfl rfl rfl (se_X0_run_3_3_1_x_3_6 M11_ o13_ n3 (zr_wide b16_ (by decide) (by decide)) b28_ (d - 1) (by omega)) (fun x32_ M33_ b34_ o35_ g36_ d31_ => ?_)
  have d29_ := d31_.1
  have d30_ := d31_.2
  have f37_ : pvFr fp_eX0_run_3_6_1_x_2_6 M M33_ := pvfr_t g36_ f15_ fp_eX0_run_3_6_1_x_2_6_fp_eX0_run_3_3_1_x_3_6
  have b38_ : 0 ≤ Int32.toInt (M33_.1 3 1) ∧ Int32.toInt (M33_.1 3 1) ≤ 998 := (by have u0 := b16_; have u1 := d29_; have u2 := pvok_r o35_ 3 1 (lo := 0) (hi := 1000000) rfl; omega)
  have u39_ : Int32.toInt 3 = 3 := by decide
  have u40_ : Int32.toInt 1 = 1 := by decide
  have u41_ : Int32.toInt (2 + 1) = 3 := by decide
  obtain ⟨b42_, d43_⟩ := b34_
  subst d43_
  have e44_ : (((n3 + (M11_.1 3 4)) ^^^ (M11_.1 3 3)) - (M11_.1 3 3)) = (((n3 + (M.1 3 4)) ^^^ (M.1 3 3)) - (M.1 3 3)) := (show (((n3 + (M11_.1 3 4)) ^^^ (M11_.1 3 3)) - (M11_.1 3 3)) = (((n3 + (M.1 3 4)) ^^^ (M.1 3 3)) - (M.1 3 3)) from by rw [(g14_ 3 4 rfl), (g14_ 3 3 rfl)])
  refine pw_eqI e44_ ?_
  refine pw_blk hT 5 (S' := (269, [some (pvR 3), some (pvI 6), some (pvI 1), some (pvI n3), some (pvI 2), some (pvI 70), some (pvI (2 + 1))], [pvI (2 + 1), pvI 2, pvI 0, pvI 3, pvR 3, pvI (((n3 + (M.1 3 4)) ^^^ (M.1 3 3)) - (M.1 3 3))], M33_)) rfl ⟨trivial, trivial, trivial, trivial, trivial, trivial⟩ ?_
  have e45_ : (M33_.1 3 2) = (M11_.1 3 2) := (g36_ 3 2 rfl)
  have b46_ : 6 ≤ Int32.toInt (M33_.1 3 2) ∧ Int32.toInt (M33_.1 3 2) ≤ 6 := (by rw [e45_]; exact b28_)
  refine pw_callGd hT (as := [pvR 3, pvI 3, pvI 0, pvI 2, pvI (2 + 1)]) (lo1 := [some (pvR 3), some (pvI 3), some (pvI 0), some (pvI 2), some (pvI (2 + 1)), none, none]) (d1 := (d - 1)) (rest := [pvI (((n3 + (M.1 3 4)) ^^^ (M.1 3 3)) - (M.1 3 3))]) rfl rfl rfl rfl rfl (fun h => absurd h (by decide)) (show 1 ≤ d by omega) rfl rfl rfl (se_X0_run_3_3_0_x_3_6 M33_ o35_ 2 b38_ b46_ (d - 1)) (fun x50_ M51_ b52_ o53_ g54_ d49_ => ?_)
  have d47_ := d49_.1
  have d48_ := d49_.2
  have f55_ : pvFr fp_eX0_run_3_6_1_x_2_6 M M51_ := pvfr_t g54_ f37_ fp_eX0_run_3_6_1_x_2_6_fp_eX0_run_3_3_0_x_3_6
  have b56_ : 0 ≤ Int32.toInt (M51_.1 3 1) ∧ Int32.toInt (M51_.1 3 1) ≤ 999 := (by have u0 := b38_; have u1 := d47_; have u2 := pvok_r o53_ 3 1 (lo := 0) (hi := 1000000) rfl; omega)
  have u57_ : Int32.toInt 0 = 0 := by decide
  have u58_ : Int32.toInt 2 = 2 := by decide
  obtain ⟨b59_, d60_⟩ := b52_
  subst d60_
  have e61_ : (2 + (M33_.1 3 4)) = (2 + (M.1 3 4)) := (show (2 + (M33_.1 3 4)) = (2 + (M.1 3 4)) from by rw [((g36_ 3 4 rfl).trans (g14_ 3 4 rfl))])
  refine pw_eqI e61_ ?_
  refine pw_blk hT 1 (S' := (273, [some (pvR 3), some (pvI 6), some (pvI 1), some (pvI n3), some (pvI 2), some (pvI 70), some (pvI (2 + 1))], [pvI ((((n3 + (M.1 3 4)) ^^^ (M.1 3 3)) - (M.1 3 3)) + (2 + (M.1 3 4)))], M51_)) rfl ⟨trivial, trivial⟩ ?_
  exact pw_ret hT rfl (r := some (pvI ((((n3 + (M.1 3 4)) ^^^ (M.1 3 3)) - (M.1 3 3)) + (2 + (M.1 3 4))))) (M' := M51_) ⟨rfl, rfl⟩ ⟨⟨_, rfl, trivial, rfl⟩, o53_, f55_, (by omega), (zTr_c (pvok_r hok 3 1 rfl).1 (zTr_c (pvok_r hok 3 1 rfl).1 (zTr_c0 (pvok_r hok 3 1 rfl).1 (zTr_0 3 1 4 M) d8_) d30_) d48_)⟩
