set_option maxHeartbeats 4000000 in
set_option maxRecDepth 10000 in
theorem se_X3_above_2 (M : pvM) (hok : pvOk M) (d : Nat) : PW 131 d (0, [some (pvI 2)], [], M) (fun r X => r = some (pvI (((pvstab 1040).getD (Int32.toNatClampNeg 2) 0))) ∧ X = M) := by
  have hT : pvdom 131 = pvD_131 := rfl
  refine pw_blk hT 1 (S' := (1, [some (pvI 2)], [pvI 2], M)) rfl ⟨trivial, trivial⟩ ?_
  refine pw_if hT (c := 2 < 0) rfl rfl (fun c1_ => absurd c1_ (by decide)) (fun c1_ => ?_)
  refine pw_blk hT 3 (S' := (9, [some (pvI 2)], [pvI (Int32.ofNat (pvstab 1040).length), pvI 2], M)) rfl ⟨trivial, trivial, (by decide), trivial⟩ ?_
  refine pw_ic hT (c := 2 < (Int32.ofNat (pvstab 1040).length)) rfl rfl (fun c2_ => ?_) (fun c2_ => absurd (by decide) c2_)
  refine pw_blk hT 3 (S' := (21, [some (pvI 2)], [pvI ((pvstab 1040).getD (Int32.toNatClampNeg 2) 0)], M)) rfl ⟨trivial, trivial, ⟨by decide, (zr_in (n := 7) (show 2 ≤ Int32.toInt 2 ∧ Int32.toInt 2 ≤ 2 from (by decide)) (by decide) (by decide))⟩, trivial⟩ ?_
  exact pw_ret hT rfl (r := some (pvI ((pvstab 1040).getD (Int32.toNatClampNeg 2) 0))) (M' := M) ⟨rfl, rfl⟩ ⟨rfl, rfl⟩
def fpL_eX0_run_3_0_0_x_2_2 : List (Nat × Nat × Nat) := [(0, 3, 2), (0, 4, 0)]
def fp_eX0_run_3_0_0_x_2_2 (q k : Nat) : Bool := pvfp fpL_eX0_run_3_0_0_x_2_2 q k
theorem fp_eX0_run_3_0_0_x_2_2_fp_eX0_note_3_x (a b : Nat) (h : fp_eX0_note_3_x a b = true) : fp_eX0_run_3_0_0_x_2_2 a b = true := pvfp_sub (l1 := fpL_eX0_note_3_x) (l2 := fpL_eX0_run_3_0_0_x_2_2) (by decide) a b h
set_option maxHeartbeats 4000000 in
set_option maxRecDepth 10000 in
theorem se_X0_run_3_0_0_x_2_2 (M : pvM) (hok : pvOk M) (n3 : Int32) (hc3_1 : 0 ≤ Int32.toInt (M.1 3 1) ∧ Int32.toInt (M.1 3 1) ≤ 998) (hc3_2 : 2 ≤ Int32.toInt (M.1 3 2) ∧ Int32.toInt (M.1 3 2) ≤ 2) (d : Nat) : PW 4 d (0, [some (pvR 3), some (pvI 0), some (pvI 0), some (pvI n3), some (pvI 2), none, none], [], M) (fun r X => (∃ x : Int32, r = some (pvI x) ∧ True ∧ x = (n3 + (M.1 3 4))) ∧ pvOk X ∧ pvFr fp_eX0_run_3_0_0_x_2_2 M X ∧ Int32.toInt (X.1 3 1) ≤ Int32.toInt (M.1 3 1) + 1 ∧ zTr 3 1 4 ([10] : List Int32) M X) := by
  have hT : pvdom 4 = pvD_4 := rfl
  refine pw_blk hT 2 (S' := (4, [some (pvR 3), some (pvI 0), some (pvI 0), some (pvI n3), some (pvI 2), none, none], [pvI 40, pvI 2], M)) rfl ⟨trivial, trivial, trivial⟩ ?_
  refine pw_ic hT (c := 2 ≤ 40) rfl rfl (fun c1_ => ?_) (fun c1_ => absurd (by decide) c1_)
  refine pw_blk hT 2 (S' := (11, [some (pvR 3), some (pvI 0), some (pvI 0), some (pvI n3), some (pvI 2), none, none], [pvI 0, pvI 0], M)) rfl ⟨trivial, trivial, trivial⟩ ?_
  refine pw_callT hT (as := [pvI 0, pvI 0]) (lo1 := [some (pvI 0), some (pvI 0), none, none, none]) (d1 := d) (rest := []) rfl rfl rfl rfl rfl (fun h => absurd h (by decide)) (Nat.zero_le _) rfl rfl rfl (sf_X0_bodyFrom_0_0 M hok d) ?_
  refine pw_eqI (show ((pvstab 1041).getD (Int32.toNatClampNeg ((0 * 3) + 0)) 0) = 10 from by decide) ?_
  show PW 4 d (14, [some (pvR 3), some (pvI 0), some (pvI 0), some (pvI n3), some (pvI 2), none, none], [pvI 10], M) _
  refine pw_blk hT 7 (S' := (25, [some (pvR 3), some (pvI 0), some (pvI 0), some (pvI n3), some (pvI 2), some (pvI 10), some (pvI (2 + 1))], [pvI 10, pvR 3], M)) rfl ⟨trivial, trivial, trivial, trivial, trivial, trivial, trivial, trivial⟩ ?_
  refine pw_callVd hT (as := [pvR 3, pvI 10]) (lo1 := [some (pvR 3), some (pvI 10)]) (d1 := d) (rest := []) rfl rfl rfl rfl rfl (fun _ => rfl) (Nat.zero_le _) rfl rfl rfl (se_X0_note_3_x M hok 10 (zr_wide (show 10 ≤ Int32.toInt 10 ∧ Int32.toInt 10 ≤ 10 from (by decide)) (by decide) (by decide)) (zr_wide hc3_1 (by decide) (by decide)) d) (fun M11_ o13_ g14_ d9_ => ?_)
  have d7_ := d9_.1
  have d8_ := d9_.2
  have f15_ : pvFr fp_eX0_run_3_0_0_x_2_2 M M11_ := pvfr_t g14_ pvfr_0 fp_eX0_run_3_0_0_x_2_2_fp_eX0_note_3_x
  have b16_ : 0 ≤ Int32.toInt (M11_.1 3 1) ∧ Int32.toInt (M11_.1 3 1) ≤ 999 := (by have u0 := hc3_1; have u1 := d7_; have u2 := pvok_r o13_ 3 1 (lo := 0) (hi := 1000000) rfl; omega)
  refine pw_blk hT 1 (S' := (30, [some (pvR 3), some (pvI 0), some (pvI 0), some (pvI n3), some (pvI 2), some (pvI 10), some (pvI (2 + 1))], [pvI 10], M11_)) rfl ⟨trivial, trivial⟩ ?_
  refine pw_sw hT rfl rfl ?_
  refine And.intro (fun c17_ => ?_) (fun c17_ => absurd (by decide) c17_)
  show PW 4 d (128, [some (pvR 3), some (pvI 0), some (pvI 0), some (pvI n3), some (pvI 2), some (pvI 10), some (pvI (2 + 1))], [], M11_) _
  refine pw_blk hT 3 (S' := (133, [some (pvR 3), some (pvI 0), some (pvI 0), some (pvI n3), some (pvI 2), some (pvI 10), some (pvI (2 + 1))], [pvI (M11_.1 3 4), pvI n3], M11_)) rfl ⟨trivial, trivial, rfl, trivial⟩ ?_
  have e18_ : (M11_.1 3 4) = (M.1 3 4) := (g14_ 3 4 rfl)
  refine pw_eqI e18_ ?_
  refine pw_blk hT 1 (S' := (134, [some (pvR 3), some (pvI 0), some (pvI 0), some (pvI n3), some (pvI 2), some (pvI 10), some (pvI (2 + 1))], [pvI (n3 + (M.1 3 4))], M11_)) rfl ⟨trivial, trivial⟩ ?_
  exact pw_ret hT rfl (r := some (pvI (n3 + (M.1 3 4)))) (M' := M11_) ⟨rfl, rfl⟩ ⟨⟨_, rfl, trivial, rfl⟩, o13_, f15_, (by omega), (zTr_c0 (pvok_r hok 3 1 rfl).1 (zTr_0 3 1 4 M) d8_)⟩
def fpL_eX0_run_3_2_0_x_1_2 : List (Nat × Nat × Nat) := [(0, 3, 2), (0, 4, 0)]
def fp_eX0_run_3_2_0_x_1_2 (q k : Nat) : Bool := pvfp fpL_eX0_run_3_2_0_x_1_2 q k
theorem fp_eX0_run_3_2_0_x_1_2_fp_eX0_note_3_x (a b : Nat) (h : fp_eX0_note_3_x a b = true) : fp_eX0_run_3_2_0_x_1_2 a b = true := pvfp_sub (l1 := fpL_eX0_note_3_x) (l2 := fpL_eX0_run_3_2_0_x_1_2) (by decide) a b h
theorem fp_eX0_run_3_2_0_x_1_2_fp_eX0_run_3_0_0_x_2_2 (a b : Nat) (h : fp_eX0_run_3_0_0_x_2_2 a b = true) : fp_eX0_run_3_2_0_x_1_2 a b = true := pvfp_sub (l1 := fpL_eX0_run_3_0_0_x_2_2) (l2 := fpL_eX0_run_3_2_0_x_1_2) (by decide) a b h
set_option maxHeartbeats 4000000 in
set_option maxRecDepth 10000 in
theorem se_X0_run_3_2_0_x_1_2 (M : pvM) (hok : pvOk M) (n3 : Int32) (hc3_1 : 0 ≤ Int32.toInt (M.1 3 1) ∧ Int32.toInt (M.1 3 1) ≤ 997) (hc3_2 : 2 ≤ Int32.toInt (M.1 3 2) ∧ Int32.toInt (M.1 3 2) ≤ 2) (d : Nat) (hd : 1 ≤ d) : PW 4 d (0, [some (pvR 3), some (pvI 2), some (pvI 0), some (pvI n3), some (pvI 1), none, none], [], M) (fun r X => (∃ x : Int32, r = some (pvI x) ∧ True ∧ x = ((n3 * 3) + (M.1 3 4))) ∧ pvOk X ∧ pvFr fp_eX0_run_3_2_0_x_1_2 M X ∧ Int32.toInt (X.1 3 1) ≤ Int32.toInt (M.1 3 1) + 2 ∧ zTr 3 1 4 (([30] : List Int32) ++ ([10] : List Int32)) M X) := by
  have hT : pvdom 4 = pvD_4 := rfl
  refine pw_blk hT 2 (S' := (4, [some (pvR 3), some (pvI 2), some (pvI 0), some (pvI n3), some (pvI 1), none, none], [pvI 40, pvI 1], M)) rfl ⟨trivial, trivial, trivial⟩ ?_
  refine pw_ic hT (c := 1 ≤ 40) rfl rfl (fun c1_ => ?_) (fun c1_ => absurd (by decide) c1_)
  refine pw_blk hT 2 (S' := (11, [some (pvR 3), some (pvI 2), some (pvI 0), some (pvI n3), some (pvI 1), none, none], [pvI 0, pvI 2], M)) rfl ⟨trivial, trivial, trivial⟩ ?_
  refine pw_callT hT (as := [pvI 2, pvI 0]) (lo1 := [some (pvI 2), some (pvI 0), none, none, none]) (d1 := d) (rest := []) rfl rfl rfl rfl rfl (fun h => absurd h (by decide)) (Nat.zero_le _) rfl rfl rfl (sf_X0_bodyFrom_2_0 M hok d) ?_
  refine pw_eqI (show ((pvstab 1041).getD (Int32.toNatClampNeg ((2 * 3) + 0)) 0) = 30 from by decide) ?_
  show PW 4 d (14, [some (pvR 3), some (pvI 2), some (pvI 0), some (pvI n3), some (pvI 1), none, none], [pvI 30], M) _
  refine pw_blk hT 7 (S' := (25, [some (pvR 3), some (pvI 2), some (pvI 0), some (pvI n3), some (pvI 1), some (pvI 30), some (pvI (1 + 1))], [pvI 30, pvR 3], M)) rfl ⟨trivial, trivial, trivial, trivial, trivial, trivial, trivial, trivial⟩ ?_
  refine pw_callVd hT (as := [pvR 3, pvI 30]) (lo1 := [some (pvR 3), some (pvI 30)]) (d1 := d) (rest := []) rfl rfl rfl rfl rfl (fun _ => rfl) (Nat.zero_le _) rfl rfl rfl (se_X0_note_3_x M hok 30 (zr_wide (show 30 ≤ Int32.toInt 30 ∧ Int32.toInt 30 ≤ 30 from (by decide)) (by decide) (by decide)) (zr_wide hc3_1 (by decide) (by decide)) d) (fun M11_ o13_ g14_ d9_ => ?_)
  have d7_ := d9_.1
  have d8_ := d9_.2
  have f15_ : pvFr fp_eX0_run_3_2_0_x_1_2 M M11_ := pvfr_t g14_ pvfr_0 fp_eX0_run_3_2_0_x_1_2_fp_eX0_note_3_x
  have b16_ : 0 ≤ Int32.toInt (M11_.1 3 1) ∧ Int32.toInt (M11_.1 3 1) ≤ 998 := (by have u0 := hc3_1; have u1 := d7_; have u2 := pvok_r o13_ 3 1 (lo := 0) (hi := 1000000) rfl; omega)
  refine pw_blk hT 1 (S' := (30, [some (pvR 3), some (pvI 2), some (pvI 0), some (pvI n3), some (pvI 1), some (pvI 30), some (pvI (1 + 1))], [pvI 30], M11_)) rfl ⟨trivial, trivial⟩ ?_
  refine pw_sw hT rfl rfl ?_
  refine And.intro (fun c17_ => absurd c17_ (by decide)) (fun c17_ => ?_)
  refine And.intro (fun c18_ => absurd c18_ (by decide)) (fun c18_ => ?_)
  refine And.intro (fun c19_ => absurd c19_ (by decide)) (fun c19_ => ?_)
  refine And.intro (fun c20_ => absurd c20_ (by decide)) (fun c20_ => ?_)
  refine And.intro (fun c21_ => ?_) (fun c21_ => absurd (by decide) c21_)
  show PW 4 d (181, [some (pvR 3), some (pvI 2), some (pvI 0), some (pvI n3), some (pvI 1), some (pvI 30), some (pvI (1 + 1))], [], M11_) _
  refine pw_blk hT 7 (S' := (189, [some (pvR 3), some (pvI 2), some (pvI 0), some (pvI n3), some (pvI 1), some (pvI 30), some (pvI (1 + 1))], [pvI (1 + 1), pvI (n3 * 3), pvI 0, pvI 0, pvR 3], M11_)) rfl ⟨trivial, trivial, trivial, trivial, trivial, trivial, trivial, trivial⟩ ?_
  have e22_ : (M11_.1 3 2) = (M.1 3 2) := (g14_ 3 2 rfl)
  have b23_ : 2 ≤ Int32.toInt (M11_.1 3 2) ∧ Int32.toInt (M11_.1 3 2) ≤ 2 := (by rw [e22_]; exact hc3_2)
  refine pw_callGd hT (as := [pvR 3, pvI 0, pvI 0, pvI (n3 * 3), pvI (1 + 1)]) (lo1 := [some (pvR 3), some (pvI 0), some (pvI 0), some (pvI (n3 * 3)), some (pvI (1 + 1)), none, none]) (d1 := (d - 1)) (rest := []) rfl rfl rfl rfl rfl (fun h => absurd h (by decide)) (show 1 ≤ d by omega) rfl rfl rfl (se_X0_run_3_0_0_x_2_2 M11_ o13_ (n3 * 3) b16_ b23_ (d - 1)) (fun x27_ M28_ b29_ o30_ g31_ d26_ => ?_)
  have d24_ := d26_.1
  have d25_ := d26_.2
  have f32_ : pvFr fp_eX0_run_3_2_0_x_1_2 M M28_ := pvfr_t g31_ f15_ fp_eX0_run_3_2_0_x_1_2_fp_eX0_run_3_0_0_x_2_2
  have b33_ : 0 ≤ Int32.toInt (M28_.1 3 1) ∧ Int32.toInt (M28_.1 3 1) ≤ 999 := (by have u0 := b16_; have u1 := d24_; have u2 := pvok_r o30_ 3 1 (lo := 0) (hi := 1000000) rfl; omega)
  have u34_ : Int32.toInt 0 = 0 := by decide
  have u35_ : Int32.toInt (1 + 1) = 2 := by decide
  obtain ⟨b36_, d37_⟩ := b29_
  subst d37_
  have e38_ : ((n3 * 3) + (M11_.1 3 4)) = ((n3 * 3) + (M.1 3 4)) := (show ((n3 * 3) + (M11_.1 3 4)) = ((n3 * 3) + (M.1 3 4)) from by rw [(g14_ 3 4 rfl)])
  refine pw_eqI e38_ ?_
  exact pw_ret hT rfl (r := some (pvI ((n3 * 3) + (M.1 3 4)))) (M' := M28_) ⟨rfl, rfl⟩ ⟨⟨_, rfl, trivial, rfl⟩, o30_, f32_, (by omega), (zTr_c (pvok_r hok 3 1 rfl).1 (zTr_c0 (pvok_r hok 3 1 rfl).1 (zTr_0 3 1 4 M) d8_) d25_)⟩
def fpL_eX0_run_3_2_1_x_0_2 : List (Nat × Nat × Nat) := [(0, 3, 2), (0, 4, 0)]
def fp_eX0_run_3_2_1_x_0_2 (q k : Nat) : Bool := pvfp fpL_eX0_run_3_2_1_x_0_2 q k
theorem fp_eX0_run_3_2_1_x_0_2_fp_eX0_note_3_x (a b : Nat) (h : fp_eX0_note_3_x a b = true) : fp_eX0_run_3_2_1_x_0_2 a b = true := pvfp_sub (l1 := fpL_eX0_note_3_x) (l2 := fpL_eX0_run_3_2_1_x_0_2) (by decide) a b h
theorem fp_eX0_run_3_2_1_x_0_2_fp_eX0_run_3_2_0_x_1_2 (a b : Nat) (h : fp_eX0_run_3_2_0_x_1_2 a b = true) : fp_eX0_run_3_2_1_x_0_2 a b = true := pvfp_sub (l1 := fpL_eX0_run_3_2_0_x_1_2) (l2 := fpL_eX0_run_3_2_1_x_0_2) (by decide) a b h
set_option maxHeartbeats 4000000 in
set_option maxRecDepth 10000 in
theorem se_X0_run_3_2_1_x_0_2 (M : pvM) (hok : pvOk M) (n3 : Int32) (hc3_1 : 0 ≤ Int32.toInt (M.1 3 1) ∧ Int32.toInt (M.1 3 1) ≤ 996) (hc3_2 : 2 ≤ Int32.toInt (M.1 3 2) ∧ Int32.toInt (M.1 3 2) ≤ 2) (d : Nat) (hd : 2 ≤ d) : PW 4 d (0, [some (pvR 3), some (pvI 2), some (pvI 1), some (pvI n3), some (pvI 0), none, none], [], M) (fun r X => (∃ x : Int32, r = some (pvI x) ∧ True ∧ x = (((n3 * 3) + (M.1 3 4)) - (M.1 3 3))) ∧ pvOk X ∧ pvFr fp_eX0_run_3_2_1_x_0_2 M X ∧ Int32.toInt (X.1 3 1) ≤ Int32.toInt (M.1 3 1) + 3 ∧ zTr 3 1 4 (([11] : List Int32) ++ (([30] : List Int32) ++ ([10] : List Int32))) M X) := by
  have hT : pvdom 4 = pvD_4 := rfl
  refine pw_blk hT 2 (S' := (4, [some (pvR 3), some (pvI 2), some (pvI 1), some (pvI n3), some (pvI 0), none, none], [pvI 40, pvI 0], M)) rfl ⟨trivial, trivial, trivial⟩ ?_
  refine pw_ic hT (c := 0 ≤ 40) rfl rfl (fun c1_ => ?_) (fun c1_ => absurd (by decide) c1_)
  refine pw_blk hT 2 (S' := (11, [some (pvR 3), some (pvI 2), some (pvI 1), some (pvI n3), some (pvI 0), none, none], [pvI 1, pvI 2], M)) rfl ⟨trivial, trivial, trivial⟩ ?_
  refine pw_callT hT (as := [pvI 2, pvI 1]) (lo1 := [some (pvI 2), some (pvI 1), none, none, none]) (d1 := d) (rest := []) rfl rfl rfl rfl rfl (fun h => absurd h (by decide)) (Nat.zero_le _) rfl rfl rfl (sf_X0_bodyFrom_2_1 M hok d) ?_
  refine pw_eqI (show ((pvstab 1041).getD (Int32.toNatClampNeg ((0 * 3) + 1)) 0) = 11 from by decide) ?_
  show PW 4 d (14, [some (pvR 3), some (pvI 2), some (pvI 1), some (pvI n3), some (pvI 0), none, none], [pvI 11], M) _
  refine pw_blk hT 7 (S' := (25, [some (pvR 3), some (pvI 2), some (pvI 1), some (pvI n3), some (pvI 0), some (pvI 11), some (pvI (0 + 1))], [pvI 11, pvR 3], M)) rfl ⟨trivial, trivial, trivial, trivial, trivial, trivial, trivial, trivial⟩ ?_
  refine pw_callVd hT (as := [pvR 3, pvI 11]) (lo1 := [some (pvR 3), some (pvI 11)]) (d1 := d) (rest := []) rfl rfl rfl rfl rfl (fun _ => rfl) (Nat.zero_le _) rfl rfl rfl (se_X0_note_3_x M hok 11 (zr_wide (show 11 ≤ Int32.toInt 11 ∧ Int32.toInt 11 ≤ 11 from (by decide)) (by decide) (by decide)) (zr_wide hc3_1 (by decide) (by decide)) d) (fun M11_ o13_ g14_ d9_ => ?_)
  have d7_ := d9_.1
  have d8_ := d9_.2
  have f15_ : pvFr fp_eX0_run_3_2_1_x_0_2 M M11_ := pvfr_t g14_ pvfr_0 fp_eX0_run_3_2_1_x_0_2_fp_eX0_note_3_x
  have b16_ : 0 ≤ Int32.toInt (M11_.1 3 1) ∧ Int32.toInt (M11_.1 3 1) ≤ 997 := (by have u0 := hc3_1; have u1 := d7_; have u2 := pvok_r o13_ 3 1 (lo := 0) (hi := 1000000) rfl; omega)
  refine pw_blk hT 1 (S' := (30, [some (pvR 3), some (pvI 2), some (pvI 1), some (pvI n3), some (pvI 0), some (pvI 11), some (pvI (0 + 1))], [pvI 11], M11_)) rfl ⟨trivial, trivial⟩ ?_
  refine pw_sw hT rfl rfl ?_
  refine And.intro (fun c17_ => absurd c17_ (by decide)) (fun c17_ => ?_)
  refine And.intro (fun c18_ => ?_) (fun c18_ => absurd (by decide) c18_)
  show PW 4 d (135, [some (pvR 3), some (pvI 2), some (pvI 1), some (pvI n3), some (pvI 0), some (pvI 11), some (pvI (0 + 1))], [], M11_) _
  have e19_ : (M11_.1 3 2) = (M.1 3 2) := (g14_ 3 2 rfl)
  have b20_ : 2 ≤ Int32.toInt (M11_.1 3 2) ∧ Int32.toInt (M11_.1 3 2) ≤ 2 := (by rw [e19_]; exact hc3_2)
  refine pw_blk hT 3 (S' := (140, [some (pvR 3), some (pvI 2), some (pvI 1), some (pvI n3), some (pvI 0), some (pvI 11), some (pvI (0 + 1))], [pvI (M11_.1 3 2), pvR 3], M11_)) rfl ⟨trivial, trivial, rfl, trivial⟩ ?_
  refine pw_eqI ((zi_eq _ (2)).mpr (by have u0 := b20_; have u1 : Int32.toInt (2) = 2 := (by decide); omega)) ?_
  refine pw_blk hT 3 (S' := (144, [some (pvR 3), some (pvI 2), some (pvI 1), some (pvI n3), some (pvI 0), some (pvI 11), some (pvI (0 + 1))], [pvI (0 + 1), pvI n3, pvI 0, pvI 2, pvR 3], M11_)) rfl ⟨trivial, trivial, trivial, trivial⟩ ?_
  refine pw_callGd hT (as := [pvR 3, pvI 2, pvI 0, pvI n3, pvI (0 + 1)]) (lo1 := [some (pvR 3), some (pvI 2), some (pvI 0), some (pvI n3), some (pvI (0 + 1)), none, none]) (d1 := (d - 1)) (rest := []) rfl rfl rfl rfl rfl (fun h => absurd h (by decide)) (show 1 ≤ d by omega) rfl rfl rfl (se_X0_run_3_2_0_x_1_2 M11_ o13_ n3 b16_ b20_ (d - 1) (by omega)) (fun x24_ M25_ b26_ o27_ g28_ d23_ => ?_)
  have d21_ := d23_.1
  have d22_ := d23_.2
  have f29_ : pvFr fp_eX0_run_3_2_1_x_0_2 M M25_ := pvfr_t g28_ f15_ fp_eX0_run_3_2_1_x_0_2_fp_eX0_run_3_2_0_x_1_2
  have b30_ : 0 ≤ Int32.toInt (M25_.1 3 1) ∧ Int32.toInt (M25_.1 3 1) ≤ 999 := (by have u0 := b16_; have u1 := d21_; have u2 := pvok_r o27_ 3 1 (lo := 0) (hi := 1000000) rfl; omega)
  have u31_ : Int32.toInt 2 = 2 := by decide
  have u32_ : Int32.toInt 0 = 0 := by decide
  have u33_ : Int32.toInt (0 + 1) = 1 := by decide
  obtain ⟨b34_, d35_⟩ := b26_
  subst d35_
  have e36_ : ((n3 * 3) + (M11_.1 3 4)) = ((n3 * 3) + (M.1 3 4)) := (show ((n3 * 3) + (M11_.1 3 4)) = ((n3 * 3) + (M.1 3 4)) from by rw [(g14_ 3 4 rfl)])
  refine pw_eqI e36_ ?_
  refine pw_blk hT 2 (S' := (151, [some (pvR 3), some (pvI 2), some (pvI 1), some (pvI n3), some (pvI 0), some (pvI 11), some (pvI (0 + 1))], [pvI (M25_.1 3 3), pvI ((n3 * 3) + (M.1 3 4))], M25_)) rfl ⟨trivial, rfl, trivial⟩ ?_
  have e37_ : (M25_.1 3 3) = (M.1 3 3) := ((g28_ 3 3 rfl).trans (g14_ 3 3 rfl))
  refine pw_eqI e37_ ?_
  refine pw_blk hT 1 (S' := (152, [some (pvR 3), some (pvI 2), some (pvI 1), some (pvI n3), some (pvI 0), some (pvI 11), some (pvI (0 + 1))], [pvI (((n3 * 3) + (M.1 3 4)) - (M.1 3 3))], M25_)) rfl ⟨trivial, trivial⟩ ?_
  exact pw_ret hT rfl (r := some (pvI (((n3 * 3) + (M.1 3 4)) - (M.1 3 3)))) (M' := M25_) ⟨rfl, rfl⟩ ⟨⟨_, rfl, trivial, rfl⟩, o27_, f29_, (by omega), (zTr_c (pvok_r hok 3 1 rfl).1 (zTr_c0 (pvok_r hok 3 1 rfl).1 (zTr_0 3 1 4 M) d8_) d22_)⟩
def fpL_eX0_run_3_0_0_x_3_2 : List (Nat × Nat × Nat) := [(0, 3, 2), (0, 4, 0)]
def fp_eX0_run_3_0_0_x_3_2 (q k : Nat) : Bool := pvfp fpL_eX0_run_3_0_0_x_3_2 q k
theorem fp_eX0_run_3_0_0_x_3_2_fp_eX0_note_3_x (a b : Nat) (h : fp_eX0_note_3_x a b = true) : fp_eX0_run_3_0_0_x_3_2 a b = true := pvfp_sub (l1 := fpL_eX0_note_3_x) (l2 := fpL_eX0_run_3_0_0_x_3_2) (by decide) a b h
set_option maxHeartbeats 4000000 in
set_option maxRecDepth 10000 in
theorem se_X0_run_3_0_0_x_3_2 (M : pvM) (hok : pvOk M) (n3 : Int32) (hc3_1 : 0 ≤ Int32.toInt (M.1 3 1) ∧ Int32.toInt (M.1 3 1) ≤ 998) (hc3_2 : 2 ≤ Int32.toInt (M.1 3 2) ∧ Int32.toInt (M.1 3 2) ≤ 2) (d : Nat) : PW 4 d (0, [some (pvR 3), some (pvI 0), some (pvI 0), some (pvI n3), some (pvI 3), none, none], [], M) (fun r X => (∃ x : Int32, r = some (pvI x) ∧ True ∧ x = (n3 + (M.1 3 4))) ∧ pvOk X ∧ pvFr fp_eX0_run_3_0_0_x_3_2 M X ∧ Int32.toInt (X.1 3 1) ≤ Int32.toInt (M.1 3 1) + 1 ∧ zTr 3 1 4 ([10] : List Int32) M X) := by
  have hT : pvdom 4 = pvD_4 := rfl
  refine pw_blk hT 2 (S' := (4, [some (pvR 3), some (pvI 0), some (pvI 0), some (pvI n3), some (pvI 3), none, none], [pvI 40, pvI 3], M)) rfl ⟨trivial, trivial, trivial⟩ ?_
  refine pw_ic hT (c := 3 ≤ 40) rfl rfl (fun c1_ => ?_) (fun c1_ => absurd (by decide) c1_)
  refine pw_blk hT 2 (S' := (11, [some (pvR 3), some (pvI 0), some (pvI 0), some (pvI n3), some (pvI 3), none, none], [pvI 0, pvI 0], M)) rfl ⟨trivial, trivial, trivial⟩ ?_
  refine pw_callT hT (as := [pvI 0, pvI 0]) (lo1 := [some (pvI 0), some (pvI 0), none, none, none]) (d1 := d) (rest := []) rfl rfl rfl rfl rfl (fun h => absurd h (by decide)) (Nat.zero_le _) rfl rfl rfl (sf_X0_bodyFrom_0_0 M hok d) ?_
  refine pw_eqI (show ((pvstab 1041).getD (Int32.toNatClampNeg ((0 * 3) + 0)) 0) = 10 from by decide) ?_
  show PW 4 d (14, [some (pvR 3), some (pvI 0), some (pvI 0), some (pvI n3), some (pvI 3), none, none], [pvI 10], M) _
  refine pw_blk hT 7 (S' := (25, [some (pvR 3), some (pvI 0), some (pvI 0), some (pvI n3), some (pvI 3), some (pvI 10), some (pvI (3 + 1))], [pvI 10, pvR 3], M)) rfl ⟨trivial, trivial, trivial, trivial, trivial, trivial, trivial, trivial⟩ ?_
  refine pw_callVd hT (as := [pvR 3, pvI 10]) (lo1 := [some (pvR 3), some (pvI 10)]) (d1 := d) (rest := []) rfl rfl rfl rfl rfl (fun _ => rfl) (Nat.zero_le _) rfl rfl rfl (se_X0_note_3_x M hok 10 (zr_wide (show 10 ≤ Int32.toInt 10 ∧ Int32.toInt 10 ≤ 10 from (by decide)) (by decide) (by decide)) (zr_wide hc3_1 (by decide) (by decide)) d) (fun M11_ o13_ g14_ d9_ => ?_)
  have d7_ := d9_.1
  have d8_ := d9_.2
  have f15_ : pvFr fp_eX0_run_3_0_0_x_3_2 M M11_ := pvfr_t g14_ pvfr_0 fp_eX0_run_3_0_0_x_3_2_fp_eX0_note_3_x
  have b16_ : 0 ≤ Int32.toInt (M11_.1 3 1) ∧ Int32.toInt (M11_.1 3 1) ≤ 999 := (by have u0 := hc3_1; have u1 := d7_; have u2 := pvok_r o13_ 3 1 (lo := 0) (hi := 1000000) rfl; omega)
  refine pw_blk hT 1 (S' := (30, [some (pvR 3), some (pvI 0), some (pvI 0), some (pvI n3), some (pvI 3), some (pvI 10), some (pvI (3 + 1))], [pvI 10], M11_)) rfl ⟨trivial, trivial⟩ ?_
  refine pw_sw hT rfl rfl ?_
  refine And.intro (fun c17_ => ?_) (fun c17_ => absurd (by decide) c17_)
  show PW 4 d (128, [some (pvR 3), some (pvI 0), some (pvI 0), some (pvI n3), some (pvI 3), some (pvI 10), some (pvI (3 + 1))], [], M11_) _
  refine pw_blk hT 3 (S' := (133, [some (pvR 3), some (pvI 0), some (pvI 0), some (pvI n3), some (pvI 3), some (pvI 10), some (pvI (3 + 1))], [pvI (M11_.1 3 4), pvI n3], M11_)) rfl ⟨trivial, trivial, rfl, trivial⟩ ?_
  have e18_ : (M11_.1 3 4) = (M.1 3 4) := (g14_ 3 4 rfl)
  refine pw_eqI e18_ ?_
  refine pw_blk hT 1 (S' := (134, [some (pvR 3), some (pvI 0), some (pvI 0), some (pvI n3), some (pvI 3), some (pvI 10), some (pvI (3 + 1))], [pvI (n3 + (M.1 3 4))], M11_)) rfl ⟨trivial, trivial⟩ ?_
  exact pw_ret hT rfl (r := some (pvI (n3 + (M.1 3 4)))) (M' := M11_) ⟨rfl, rfl⟩ ⟨⟨_, rfl, trivial, rfl⟩, o13_, f15_, (by omega), (zTr_c0 (pvok_r hok 3 1 rfl).1 (zTr_0 3 1 4 M) d8_)⟩
def fpL_eX0_run_3_2_0_x_2_2 : List (Nat × Nat × Nat) := [(0, 3, 2), (0, 4, 0)]
def fp_eX0_run_3_2_0_x_2_2 (q k : Nat) : Bool := pvfp fpL_eX0_run_3_2_0_x_2_2 q k
theorem fp_eX0_run_3_2_0_x_2_2_fp_eX0_note_3_x (a b : Nat) (h : fp_eX0_note_3_x a b = true) : fp_eX0_run_3_2_0_x_2_2 a b = true := pvfp_sub (l1 := fpL_eX0_note_3_x) (l2 := fpL_eX0_run_3_2_0_x_2_2) (by decide) a b h
theorem fp_eX0_run_3_2_0_x_2_2_fp_eX0_run_3_0_0_x_3_2 (a b : Nat) (h : fp_eX0_run_3_0_0_x_3_2 a b = true) : fp_eX0_run_3_2_0_x_2_2 a b = true := pvfp_sub (l1 := fpL_eX0_run_3_0_0_x_3_2) (l2 := fpL_eX0_run_3_2_0_x_2_2) (by decide) a b h
set_option maxHeartbeats 4000000 in
set_option maxRecDepth 10000 in
theorem se_X0_run_3_2_0_x_2_2 (M : pvM) (hok : pvOk M) (n3 : Int32) (hc3_1 : 0 ≤ Int32.toInt (M.1 3 1) ∧ Int32.toInt (M.1 3 1) ≤ 997) (hc3_2 : 2 ≤ Int32.toInt (M.1 3 2) ∧ Int32.toInt (M.1 3 2) ≤ 2) (d : Nat) (hd : 1 ≤ d) : PW 4 d (0, [some (pvR 3), some (pvI 2), some (pvI 0), some (pvI n3), some (pvI 2), none, none], [], M) (fun r X => (∃ x : Int32, r = some (pvI x) ∧ True ∧ x = ((n3 * 3) + (M.1 3 4))) ∧ pvOk X ∧ pvFr fp_eX0_run_3_2_0_x_2_2 M X ∧ Int32.toInt (X.1 3 1) ≤ Int32.toInt (M.1 3 1) + 2 ∧ zTr 3 1 4 (([30] : List Int32) ++ ([10] : List Int32)) M X) := by
  have hT : pvdom 4 = pvD_4 := rfl
  refine pw_blk hT 2 (S' := (4, [some (pvR 3), some (pvI 2), some (pvI 0), some (pvI n3), some (pvI 2), none, none], [pvI 40, pvI 2], M)) rfl ⟨trivial, trivial, trivial⟩ ?_
  refine pw_ic hT (c := 2 ≤ 40) rfl rfl (fun c1_ => ?_) (fun c1_ => absurd (by decide) c1_)
  refine pw_blk hT 2 (S' := (11, [some (pvR 3), some (pvI 2), some (pvI 0), some (pvI n3), some (pvI 2), none, none], [pvI 0, pvI 2], M)) rfl ⟨trivial, trivial, trivial⟩ ?_
  refine pw_callT hT (as := [pvI 2, pvI 0]) (lo1 := [some (pvI 2), some (pvI 0), none, none, none]) (d1 := d) (rest := []) rfl rfl rfl rfl rfl (fun h => absurd h (by decide)) (Nat.zero_le _) rfl rfl rfl (sf_X0_bodyFrom_2_0 M hok d) ?_
  refine pw_eqI (show ((pvstab 1041).getD (Int32.toNatClampNeg ((2 * 3) + 0)) 0) = 30 from by decide) ?_
  show PW 4 d (14, [some (pvR 3), some (pvI 2), some (pvI 0), some (pvI n3), some (pvI 2), none, none], [pvI 30], M) _
  refine pw_blk hT 7 (S' := (25, [some (pvR 3), some (pvI 2), some (pvI 0), some (pvI n3), some (pvI 2), some (pvI 30), some (pvI (2 + 1))], [pvI 30, pvR 3], M)) rfl ⟨trivial, trivial, trivial, trivial, trivial, trivial, trivial, trivial⟩ ?_
  refine pw_callVd hT (as := [pvR 3, pvI 30]) (lo1 := [some (pvR 3), some (pvI 30)]) (d1 := d) (rest := []) rfl rfl rfl rfl rfl (fun _ => rfl) (Nat.zero_le _) rfl rfl rfl (se_X0_note_3_x M hok 30 (zr_wide (show 30 ≤ Int32.toInt 30 ∧ Int32.toInt 30 ≤ 30 from (by decide)) (by decide) (by decide)) (zr_wide hc3_1 (by decide) (by decide)) d) (fun M11_ o13_ g14_ d9_ => ?_)
  have d7_ := d9_.1
  have d8_ := d9_.2
  have f15_ : pvFr fp_eX0_run_3_2_0_x_2_2 M M11_ := pvfr_t g14_ pvfr_0 fp_eX0_run_3_2_0_x_2_2_fp_eX0_note_3_x
  have b16_ : 0 ≤ Int32.toInt (M11_.1 3 1) ∧ Int32.toInt (M11_.1 3 1) ≤ 998 := (by have u0 := hc3_1; have u1 := d7_; have u2 := pvok_r o13_ 3 1 (lo := 0) (hi := 1000000) rfl; omega)
  refine pw_blk hT 1 (S' := (30, [some (pvR 3), some (pvI 2), some (pvI 0), some (pvI n3), some (pvI 2), some (pvI 30), some (pvI (2 + 1))], [pvI 30], M11_)) rfl ⟨trivial, trivial⟩ ?_
  refine pw_sw hT rfl rfl ?_
  refine And.intro (fun c17_ => absurd c17_ (by decide)) (fun c17_ => ?_)
  refine And.intro (fun c18_ => absurd c18_ (by decide)) (fun c18_ => ?_)
  refine And.intro (fun c19_ => absurd c19_ (by decide)) (fun c19_ => ?_)
  refine And.intro (fun c20_ => absurd c20_ (by decide)) (fun c20_ => ?_)
  refine And.intro (fun c21_ => ?_) (fun c21_ => absurd (by decide) c21_)
  show PW 4 d (181, [some (pvR 3), some (pvI 2), some (pvI 0), some (pvI n3), some (pvI 2), some (pvI 30), some (pvI (2 + 1))], [], M11_) _
  refine pw_blk hT 7 (S' := (189, [some (pvR 3), some (pvI 2), some (pvI 0), some (pvI n3), some (pvI 2), some (pvI 30), some (pvI (2 + 1))], [pvI (2 + 1), pvI (n3 * 3), pvI 0, pvI 0, pvR 3], M11_)) rfl ⟨trivial, trivial, trivial, trivial, trivial, trivial, trivial, trivial⟩ ?_
  have e22_ : (M11_.1 3 2) = (M.1 3 2) := (g14_ 3 2 rfl)
  have b23_ : 2 ≤ Int32.toInt (M11_.1 3 2) ∧ Int32.toInt (M11_.1 3 2) ≤ 2 := (by rw [e22_]; exact hc3_2)
  refine pw_callGd hT (as := [pvR 3, pvI 0, pvI 0, pvI (n3 * 3), pvI (2 + 1)]) (lo1 := [some (pvR 3), some (pvI 0), some (pvI 0), some (pvI (n3 * 3)), some (pvI (2 + 1)), none, none]) (d1 := (d - 1)) (rest := []) rfl rfl rfl rfl rfl (fun h => absurd h (by decide)) (show 1 ≤ d by omega) rfl rfl rfl (se_X0_run_3_0_0_x_3_2 M11_ o13_ (n3 * 3) b16_ b23_ (d - 1)) (fun x27_ M28_ b29_ o30_ g31_ d26_ => ?_)
  have d24_ := d26_.1
  have d25_ := d26_.2
  have f32_ : pvFr fp_eX0_run_3_2_0_x_2_2 M M28_ := pvfr_t g31_ f15_ fp_eX0_run_3_2_0_x_2_2_fp_eX0_run_3_0_0_x_3_2
  have b33_ : 0 ≤ Int32.toInt (M28_.1 3 1) ∧ Int32.toInt (M28_.1 3 1) ≤ 999 := (by have u0 := b16_; have u1 := d24_; have u2 := pvok_r o30_ 3 1 (lo := 0) (hi := 1000000) rfl; omega)
  have u34_ : Int32.toInt 0 = 0 := by decide
  have u35_ : Int32.toInt (2 + 1) = 3 := by decide
  obtain ⟨b36_, d37_⟩ := b29_
  subst d37_
  have e38_ : ((n3 * 3) + (M11_.1 3 4)) = ((n3 * 3) + (M.1 3 4)) := (show ((n3 * 3) + (M11_.1 3 4)) = ((n3 * 3) + (M.1 3 4)) from by rw [(g14_ 3 4 rfl)])
  refine pw_eqI e38_ ?_
  exact pw_ret hT rfl (r := some (pvI ((n3 * 3) + (M.1 3 4)))) (M' := M28_) ⟨rfl, rfl⟩ ⟨⟨_, rfl, trivial, rfl⟩, o30_, f32_, (by omega), (zTr_c (pvok_r hok 3 1 rfl).1 (zTr_c0 (pvok_r hok 3 1 rfl).1 (zTr_0 3 1 4 M) d8_) d25_)⟩
def fpL_eX0_run_3_2_1_x_1_2 : List (Nat × Nat × Nat) := [(0, 3, 2), (0, 4, 0)]
def fp_eX0_run_3_2_1_x_1_2 (q k : Nat) : Bool := pvfp fpL_eX0_run_3_2_1_x_1_2 q k
theorem fp_eX0_run_3_2_1_x_1_2_fp_eX0_note_3_x (a b : Nat) (h : fp_eX0_note_3_x a b = true) : fp_eX0_run_3_2_1_x_1_2 a b = true := pvfp_sub (l1 := fpL_eX0_note_3_x) (l2 := fpL_eX0_run_3_2_1_x_1_2) (by decide) a b h
theorem fp_eX0_run_3_2_1_x_1_2_fp_eX0_run_3_2_0_x_2_2 (a b : Nat) (h : fp_eX0_run_3_2_0_x_2_2 a b = true) : fp_eX0_run_3_2_1_x_1_2 a b = true := pvfp_sub (l1 := fpL_eX0_run_3_2_0_x_2_2) (l2 := fpL_eX0_run_3_2_1_x_1_2) (by decide) a b h
set_option maxHeartbeats 4000000 in
set_option maxRecDepth 10000 in
theorem se_X0_run_3_2_1_x_1_2 (M : pvM) (hok : pvOk M) (n3 : Int32) (hc3_1 : 0 ≤ Int32.toInt (M.1 3 1) ∧ Int32.toInt (M.1 3 1) ≤ 996) (hc3_2 : 2 ≤ Int32.toInt (M.1 3 2) ∧ Int32.toInt (M.1 3 2) ≤ 2) (d : Nat) (hd : 2 ≤ d) : PW 4 d (0, [some (pvR 3), some (pvI 2), some (pvI 1), some (pvI n3), some (pvI 1), none, none], [], M) (fun r X => (∃ x : Int32, r = some (pvI x) ∧ True ∧ x = (((n3 * 3) + (M.1 3 4)) - (M.1 3 3))) ∧ pvOk X ∧ pvFr fp_eX0_run_3_2_1_x_1_2 M X ∧ Int32.toInt (X.1 3 1) ≤ Int32.toInt (M.1 3 1) + 3 ∧ zTr 3 1 4 (([11] : List Int32) ++ (([30] : List Int32) ++ ([10] : List Int32))) M X) := by
  have hT : pvdom 4 = pvD_4 := rfl
  refine pw_blk hT 2 (S' := (4, [some (pvR 3), some (pvI 2), some (pvI 1), some (pvI n3), some (pvI 1), none, none], [pvI 40, pvI 1], M)) rfl ⟨trivial, trivial, trivial⟩ ?_
  refine pw_ic hT (c := 1 ≤ 40) rfl rfl (fun c1_ => ?_) (fun c1_ => absurd (by decide) c1_)
  refine pw_blk hT 2 (S' := (11, [some (pvR 3), some (pvI 2), some (pvI 1), some (pvI n3), some (pvI 1), none, none], [pvI 1, pvI 2], M)) rfl ⟨trivial, trivial, trivial⟩ ?_
  refine pw_callT hT (as := [pvI 2, pvI 1]) (lo1 := [some (pvI 2), some (pvI 1), none, none, none]) (d1 := d) (rest := []) rfl rfl rfl rfl rfl (fun h => absurd h (by decide)) (Nat.zero_le _) rfl rfl rfl (sf_X0_bodyFrom_2_1 M hok d) ?_
  refine pw_eqI (show ((pvstab 1041).getD (Int32.toNatClampNeg ((0 * 3) + 1)) 0) = 11 from by decide) ?_
  show PW 4 d (14, [some (pvR 3), some (pvI 2), some (pvI 1), some (pvI n3), some (pvI 1), none, none], [pvI 11], M) _
  refine pw_blk hT 7 (S' := (25, [some (pvR 3), some (pvI 2), some (pvI 1), some (pvI n3), some (pvI 1), some (pvI 11), some (pvI (1 + 1))], [pvI 11, pvR 3], M)) rfl ⟨trivial, trivial, trivial, trivial, trivial, trivial, trivial, trivial⟩ ?_
  refine pw_callVd hT (as := [pvR 3, pvI 11]) (lo1 := [some (pvR 3), some (pvI 11)]) (d1 := d) (rest := []) rfl rfl rfl rfl rfl (fun _ => rfl) (Nat.zero_le _) rfl rfl rfl (se_X0_note_3_x M hok 11 (zr_wide (show 11 ≤ Int32.toInt 11 ∧ Int32.toInt 11 ≤ 11 from (by decide)) (by decide) (by decide)) (zr_wide hc3_1 (by decide) (by decide)) d) (fun M11_ o13_ g14_ d9_ => ?_)
  have d7_ := d9_.1
  have d8_ := d9_.2
  have f15_ : pvFr fp_eX0_run_3_2_1_x_1_2 M M11_ := pvfr_t g14_ pvfr_0 fp_eX0_run_3_2_1_x_1_2_fp_eX0_note_3_x
  have b16_ : 0 ≤ Int32.toInt (M11_.1 3 1) ∧ Int32.toInt (M11_.1 3 1) ≤ 997 := (by have u0 := hc3_1; have u1 := d7_; have u2 := pvok_r o13_ 3 1 (lo := 0) (hi := 1000000) rfl; omega)
  refine pw_blk hT 1 (S' := (30, [some (pvR 3), some (pvI 2), some (pvI 1), some (pvI n3), some (pvI 1), some (pvI 11), some (pvI (1 + 1))], [pvI 11], M11_)) rfl ⟨trivial, trivial⟩ ?_
  refine pw_sw hT rfl rfl ?_
  refine And.intro (fun c17_ => absurd c17_ (by decide)) (fun c17_ => ?_)
  refine And.intro (fun c18_ => ?_) (fun c18_ => absurd (by decide) c18_)
  show PW 4 d (135, [some (pvR 3), some (pvI 2), some (pvI 1), some (pvI n3), some (pvI 1), some (pvI 11), some (pvI (1 + 1))], [], M11_) _
  have e19_ : (M11_.1 3 2) = (M.1 3 2) := (g14_ 3 2 rfl)
  have b20_ : 2 ≤ Int32.toInt (M11_.1 3 2) ∧ Int32.toInt (M11_.1 3 2) ≤ 2 := (by rw [e19_]; exact hc3_2)
  refine pw_blk hT 3 (S' := (140, [some (pvR 3), some (pvI 2), some (pvI 1), some (pvI n3), some (pvI 1), some (pvI 11), some (pvI (1 + 1))], [pvI (M11_.1 3 2), pvR 3], M11_)) rfl ⟨trivial, trivial, rfl, trivial⟩ ?_
  refine pw_eqI ((zi_eq _ (2)).mpr (by have u0 := b20_; have u1 : Int32.toInt (2) = 2 := (by decide); omega)) ?_
  refine pw_blk hT 3 (S' := (144, [some (pvR 3), some (pvI 2), some (pvI 1), some (pvI n3), some (pvI 1), some (pvI 11), some (pvI (1 + 1))], [pvI (1 + 1), pvI n3, pvI 0, pvI 2, pvR 3], M11_)) rfl ⟨trivial, trivial, trivial, trivial⟩ ?_
  refine pw_callGd hT (as := [pvR 3, pvI 2, pvI 0, pvI n3, pvI (1 + 1)]) (lo1 := [some (pvR 3), some (pvI 2), some (pvI 0), some (pvI n3), some (pvI (1 + 1)), none, none]) (d1 := (d - 1)) (rest := []) rfl rfl rfl rfl rfl (fun h => absurd h (by decide)) (show 1 ≤ d by omega) rfl rfl rfl (se_X0_run_3_2_0_x_2_2 M11_ o13_ n3 b16_ b20_ (d - 1) (by omega)) (fun x24_ M25_ b26_ o27_ g28_ d23_ => ?_)
  have d21_ := d23_.1
  have d22_ := d23_.2
  have f29_ : pvFr fp_eX0_run_3_2_1_x_1_2 M M25_ := pvfr_t g28_ f15_ fp_eX0_run_3_2_1_x_1_2_fp_eX0_run_3_2_0_x_2_2
  have b30_ : 0 ≤ Int32.toInt (M25_.1 3 1) ∧ Int32.toInt (M25_.1 3 1) ≤ 999 := (by have u0 := b16_; have u1 := d21_; have u2 := pvok_r o27_ 3 1 (lo := 0) (hi := 1000000) rfl; omega)
  have u31_ : Int32.toInt 2 = 2 := by decide
  have u32_ : Int32.toInt 0 = 0 := by decide
  have u33_ : Int32.toInt (1 + 1) = 2 := by decide
  obtain ⟨b34_, d35_⟩ := b26_
  subst d35_
  have e36_ : ((n3 * 3) + (M11_.1 3 4)) = ((n3 * 3) + (M.1 3 4)) := (show ((n3 * 3) + (M11_.1 3 4)) = ((n3 * 3) + (M.1 3 4)) from by rw [(g14_ 3 4 rfl)])
  refine pw_eqI e36_ ?_
  refine pw_blk hT 2 (S' := (151, [some (pvR 3), some (pvI 2), some (pvI 1), some (pvI n3), some (pvI 1), some (pvI 11), some (pvI (1 + 1))], [pvI (M25_.1 3 3), pvI ((n3 * 3) + (M.1 3 4))], M25_)) rfl ⟨trivial, rfl, trivial⟩ ?_
  have e37_ : (M25_.1 3 3) = (M.1 3 3) := ((g28_ 3 3 rfl).trans (g14_ 3 3 rfl))
  refine pw_eqI e37_ ?_
  refine pw_blk hT 1 (S' := (152, [some (pvR 3), some (pvI 2), some (pvI 1), some (pvI n3), some (pvI 1), some (pvI 11), some (pvI (1 + 1))], [pvI (((n3 * 3) + (M.1 3 4)) - (M.1 3 3))], M25_)) rfl ⟨trivial, trivial⟩ ?_
  exact pw_ret hT rfl (r := some (pvI (((n3 * 3) + (M.1 3 4)) - (M.1 3 3)))) (M' := M25_) ⟨rfl, rfl⟩ ⟨⟨_, rfl, trivial, rfl⟩, o27_, f29_, (by omega), (zTr_c (pvok_r hok 3 1 rfl).1 (zTr_c0 (pvok_r hok 3 1 rfl).1 (zTr_0 3 1 4 M) d8_) d22_)⟩
def fpL_eX0_run_3_2_2_x_0_2 : List (Nat × Nat × Nat) := [(0, 3, 2), (0, 4, 0)]
def fp_eX0_run_3_2_2_x_0_2 (q k : Nat) : Bool := pvfp fpL_eX0_run_3_2_2_x_0_2 q k
theorem fp_eX0_run_3_2_2_x_0_2_fp_eX0_note_3_x (a b : Nat) (h : fp_eX0_note_3_x a b = true) : fp_eX0_run_3_2_2_x_0_2 a b = true := pvfp_sub (l1 := fpL_eX0_note_3_x) (l2 := fpL_eX0_run_3_2_2_x_0_2) (by decide) a b h
theorem fp_eX0_run_3_2_2_x_0_2_fp_eX0_run_3_2_1_x_1_2 (a b : Nat) (h : fp_eX0_run_3_2_1_x_1_2 a b = true) : fp_eX0_run_3_2_2_x_0_2 a b = true := pvfp_sub (l1 := fpL_eX0_run_3_2_1_x_1_2) (l2 := fpL_eX0_run_3_2_2_x_0_2) (by decide) a b h
set_option maxHeartbeats 4000000 in
set_option maxRecDepth 10000 in
theorem se_X0_run_3_2_2_x_0_2 (M : pvM) (hok : pvOk M) (n3 : Int32) (hc3_1 : 0 ≤ Int32.toInt (M.1 3 1) ∧ Int32.toInt (M.1 3 1) ≤ 995) (hc3_2 : 2 ≤ Int32.toInt (M.1 3 2) ∧ Int32.toInt (M.1 3 2) ≤ 2) (d : Nat) (hd : 3 ≤ d) : PW 4 d (0, [some (pvR 3), some (pvI 2), some (pvI 2), some (pvI n3), some (pvI 0), none, none], [], M) (fun r X => (∃ x : Int32, r = some (pvI x) ∧ True ∧ x = ((((n3 * 3) + (M.1 3 4)) - (M.1 3 3)) * 2)) ∧ pvOk X ∧ pvFr fp_eX0_run_3_2_2_x_0_2 M X ∧ Int32.toInt (X.1 3 1) ≤ Int32.toInt (M.1 3 1) + 4 ∧ zTr 3 1 4 (([12] : List Int32) ++ (([11] : List Int32) ++ (([30] : List Int32) ++ ([10] : List Int32)))) M X) := by
  have hT : pvdom 4 = pvD_4 := rfl
  refine pw_blk hT 2 (S' := (4, [some (pvR 3), some (pvI 2), some (pvI 2), some (pvI n3), some (pvI 0), none, none], [pvI 40, pvI 0], M)) rfl ⟨trivial, trivial, trivial⟩ ?_
  refine pw_ic hT (c := 0 ≤ 40) rfl rfl (fun c1_ => ?_) (fun c1_ => absurd (by decide) c1_)
  refine pw_blk hT 2 (S' := (11, [some (pvR 3), some (pvI 2), some (pvI 2), some (pvI n3), some (pvI 0), none, none], [pvI 2, pvI 2], M)) rfl ⟨trivial, trivial, trivial⟩ ?_
  refine pw_callT hT (as := [pvI 2, pvI 2]) (lo1 := [some (pvI 2), some (pvI 2), none, none, none]) (d1 := d) (rest := []) rfl rfl rfl rfl rfl (fun h => absurd h (by decide)) (Nat.zero_le _) rfl rfl rfl (sf_X0_bodyFrom_2_2 M hok d) ?_
  refine pw_eqI (show ((pvstab 1041).getD (Int32.toNatClampNeg ((0 * 3) + 2)) 0) = 12 from by decide) ?_
  show PW 4 d (14, [some (pvR 3), some (pvI 2), some (pvI 2), some (pvI n3), some (pvI 0), none, none], [pvI 12], M) _
  refine pw_blk hT 7 (S' := (25, [some (pvR 3), some (pvI 2), some (pvI 2), some (pvI n3), some (pvI 0), some (pvI 12), some (pvI (0 + 1))], [pvI 12, pvR 3], M)) rfl ⟨trivial, trivial, trivial, trivial, trivial, trivial, trivial, trivial⟩ ?_
  refine pw_callVd hT (as := [pvR 3, pvI 12]) (lo1 := [some (pvR 3), some (pvI 12)]) (d1 := d) (rest := []) rfl rfl rfl rfl rfl (fun _ => rfl) (Nat.zero_le _) rfl rfl rfl (se_X0_note_3_x M hok 12 (zr_wide (show 12 ≤ Int32.toInt 12 ∧ Int32.toInt 12 ≤ 12 from (by decide)) (by decide) (by decide)) (zr_wide hc3_1 (by decide) (by decide)) d) (fun M11_ o13_ g14_ d9_ => ?_)
  have d7_ := d9_.1
  have d8_ := d9_.2
  have f15_ : pvFr fp_eX0_run_3_2_2_x_0_2 M M11_ := pvfr_t g14_ pvfr_0 fp_eX0_run_3_2_2_x_0_2_fp_eX0_note_3_x
  have b16_ : 0 ≤ Int32.toInt (M11_.1 3 1) ∧ Int32.toInt (M11_.1 3 1) ≤ 996 := (by have u0 := hc3_1; have u1 := d7_; have u2 := pvok_r o13_ 3 1 (lo := 0) (hi := 1000000) rfl; omega)
  refine pw_blk hT 1 (S' := (30, [some (pvR 3), some (pvI 2), some (pvI 2), some (pvI n3), some (pvI 0), some (pvI 12), some (pvI (0 + 1))], [pvI 12], M11_)) rfl ⟨trivial, trivial⟩ ?_
  refine pw_sw hT rfl rfl ?_
  refine And.intro (fun c17_ => absurd c17_ (by decide)) (fun c17_ => ?_)
  refine And.intro (fun c18_ => absurd c18_ (by decide)) (fun c18_ => ?_)
  refine And.intro (fun c19_ => ?_) (fun c19_ => absurd (by decide) c19_)
  show PW 4 d (153, [some (pvR 3), some (pvI 2), some (pvI 2), some (pvI n3), some (pvI 0), some (pvI 12), some (pvI (0 + 1))], [], M11_) _
  have e20_ : (M11_.1 3 2) = (M.1 3 2) := (g14_ 3 2 rfl)
  have b21_ : 2 ≤ Int32.toInt (M11_.1 3 2) ∧ Int32.toInt (M11_.1 3 2) ≤ 2 := (by rw [e20_]; exact hc3_2)
  refine pw_blk hT 3 (S' := (158, [some (pvR 3), some (pvI 2), some (pvI 2), some (pvI n3), some (pvI 0), some (pvI 12), some (pvI (0 + 1))], [pvI (M11_.1 3 2), pvR 3], M11_)) rfl ⟨trivial, trivial, rfl, trivial⟩ ?_
  refine pw_eqI ((zi_eq _ (2)).mpr (by have u0 := b21_; have u1 : Int32.toInt (2) = 2 := (by decide); omega)) ?_
  refine pw_blk hT 3 (S' := (162, [some (pvR 3), some (pvI 2), some (pvI 2), some (pvI n3), some (pvI 0), some (pvI 12), some (pvI (0 + 1))], [pvI (0 + 1), pvI n3, pvI 1, pvI 2, pvR 3], M11_)) rfl ⟨trivial, trivial, trivial, trivial⟩ ?_
  refine pw_callGd hT (as := [pvR 3, pvI 2, pvI 1, pvI n3, pvI (0 + 1)]) (lo1 := [some (pvR 3), some (pvI 2), some (pvI 1), some (pvI n3), some (pvI (0 + 1)), none, none]) (d1 := (d - 1)) (rest := []) rfl rfl rfl rfl rfl (fun h => absurd h (by decide)) (show 1 ≤ d by omega) rfl rfl rfl (se_X0_run_3_2_1_x_1_2 M11_ o13_ n3 b16_ b21_ (d - 1) (by omega)) (fun x25_ M26_ b27_ o28_ g29_ d24_ => ?_)
  have d22_ := d24_.1
  have d23_ := d24_.2
  have f30_ : pvFr fp_eX0_run_3_2_2_x_0_2 M M26_ := pvfr_t g29_ f15_ fp_eX0_run_3_2_2_x_0_2_fp_eX0_run_3_2_1_x_1_2
  have b31_ : 0 ≤ Int32.toInt (M26_.1 3 1) ∧ Int32.toInt (M26_.1 3 1) ≤ 999 := (by have u0 := b16_; have u1 := d22_; have u2 := pvok_r o28_ 3 1 (lo := 0) (hi := 1000000) rfl; omega)
  have u32_ : Int32.toInt 2 = 2 := by decide
  have u33_ : Int32.toInt 1 = 1 := by decide
  have u34_ : Int32.toInt (0 + 1) = 1 := by decide
  obtain ⟨b35_, d36_⟩ := b27_
  subst d36_
  have e37_ : (((n3 * 3) + (M11_.1 3 4)) - (M11_.1 3 3)) = (((n3 * 3) + (M.1 3 4)) - (M.1 3 3)) := (show (((n3 * 3) + (M11_.1 3 4)) - (M11_.1 3 3)) = (((n3 * 3) + (M.1 3 4)) - (M.1 3 3)) from by rw [(g14_ 3 4 rfl), (g14_ 3 3 rfl)])
  refine pw_eqI e37_ ?_
  refine pw_blk hT 2 (S' := (167, [some (pvR 3), some (pvI 2), some (pvI 2), some (pvI n3), some (pvI 0), some (pvI 12), some (pvI (0 + 1))], [pvI ((((n3 * 3) + (M.1 3 4)) - (M.1 3 3)) * 2)], M26_)) rfl ⟨trivial, trivial, trivial⟩ ?_
  exact pw_ret hT rfl (r := some (pvI ((((n3 * 3) + (M.1 3 4)) - (M.1 3 3)) * 2))) (M' := M26_) ⟨rfl, rfl⟩ ⟨⟨_, rfl, trivial, rfl⟩, o28_, f30_, (by omega), (zTr_c (pvok_r hok 3 1 rfl).1 (zTr_c0 (pvok_r hok 3 1 rfl).1 (zTr_0 3 1 4 M) d8_) d23_)⟩
set_option maxHeartbeats 4000000 in
set_option maxRecDepth 10000 in
theorem se_X3_above_3 (M : pvM) (hok : pvOk M) (d : Nat) : PW 131 d (0, [some (pvI 3)], [], M) (fun r X => r = some (pvI (((pvstab 1040).getD (Int32.toNatClampNeg 3) 0))) ∧ X = M) := by
  have hT : pvdom 131 = pvD_131 := rfl
  refine pw_blk hT 1 (S' := (1, [some (pvI 3)], [pvI 3], M)) rfl ⟨trivial, trivial⟩ ?_
  refine pw_if hT (c := 3 < 0) rfl rfl (fun c1_ => absurd c1_ (by decide)) (fun c1_ => ?_)
  refine pw_blk hT 3 (S' := (9, [some (pvI 3)], [pvI (Int32.ofNat (pvstab 1040).length), pvI 3], M)) rfl ⟨trivial, trivial, (by decide), trivial⟩ ?_
  refine pw_ic hT (c := 3 < (Int32.ofNat (pvstab 1040).length)) rfl rfl (fun c2_ => ?_) (fun c2_ => absurd (by decide) c2_)
  refine pw_blk hT 3 (S' := (21, [some (pvI 3)], [pvI ((pvstab 1040).getD (Int32.toNatClampNeg 3) 0)], M)) rfl ⟨trivial, trivial, ⟨by decide, (zr_in (n := 7) (show 3 ≤ Int32.toInt 3 ∧ Int32.toInt 3 ≤ 3 from (by decide)) (by decide) (by decide))⟩, trivial⟩ ?_
  exact pw_ret hT rfl (r := some (pvI ((pvstab 1040).getD (Int32.toNatClampNeg 3) 0))) (M' := M) ⟨rfl, rfl⟩ ⟨rfl, rfl⟩
def fpL_eX0_run_3_3_0_x_0_3 : List (Nat × Nat × Nat) := [(0, 3, 2), (0, 4, 0)]
def fp_eX0_run_3_3_0_x_0_3 (q k : Nat) : Bool := pvfp fpL_eX0_run_3_3_0_x_0_3 q k
theorem fp_eX0_run_3_3_0_x_0_3_fp_eX0_note_3_x (a b : Nat) (h : fp_eX0_note_3_x a b = true) : fp_eX0_run_3_3_0_x_0_3 a b = true := pvfp_sub (l1 := fpL_eX0_note_3_x) (l2 := fpL_eX0_run_3_3_0_x_0_3) (by decide) a b h
set_option maxHeartbeats 4000000 in
set_option maxRecDepth 10000 in
theorem se_X0_run_3_3_0_x_0_3 (M : pvM) (hok : pvOk M) (n3 : Int32) (hc3_1 : 0 ≤ Int32.toInt (M.1 3 1) ∧ Int32.toInt (M.1 3 1) ≤ 998) (hc3_2 : 3 ≤ Int32.toInt (M.1 3 2) ∧ Int32.toInt (M.1 3 2) ≤ 3) (d : Nat) : PW 4 d (0, [some (pvR 3), some (pvI 3), some (pvI 0), some (pvI n3), some (pvI 0), none, none], [], M) (fun r X => (∃ x : Int32, r = some (pvI x) ∧ True ∧ x = (n3 + (M.1 3 4))) ∧ pvOk X ∧ pvFr fp_eX0_run_3_3_0_x_0_3 M X ∧ Int32.toInt (X.1 3 1) ≤ Int32.toInt (M.1 3 1) + 1 ∧ zTr 3 1 4 ([10] : List Int32) M X) := by
  have hT : pvdom 4 = pvD_4 := rfl
  refine pw_blk hT 2 (S' := (4, [some (pvR 3), some (pvI 3), some (pvI 0), some (pvI n3), some (pvI 0), none, none], [pvI 40, pvI 0], M)) rfl ⟨trivial, trivial, trivial⟩ ?_
  refine pw_ic hT (c := 0 ≤ 40) rfl rfl (fun c1_ => ?_) (fun c1_ => absurd (by decide) c1_)
  refine pw_blk hT 2 (S' := (11, [some (pvR 3), some (pvI 3), some (pvI 0), some (pvI n3), some (pvI 0), none, none], [pvI 0, pvI 3], M)) rfl ⟨trivial, trivial, trivial⟩ ?_
  refine pw_callT hT (as := [pvI 3, pvI 0]) (lo1 := [some (pvI 3), some (pvI 0), none, none, none]) (d1 := d) (rest := []) rfl rfl rfl rfl rfl (fun h => absurd h (by decide)) (Nat.zero_le _) rfl rfl rfl (sf_X0_bodyFrom_3_0 M hok d) ?_
  refine pw_eqI (show ((pvstab 1041).getD (Int32.toNatClampNeg ((0 * 3) + 0)) 0) = 10 from by decide) ?_
  show PW 4 d (14, [some (pvR 3), some (pvI 3), some (pvI 0), some (pvI n3), some (pvI 0), none, none], [pvI 10], M) _
  refine pw_blk hT 7 (S' := (25, [some (pvR 3), some (pvI 3), some (pvI 0), some (pvI n3), some (pvI 0), some (pvI 10), some (pvI (0 + 1))], [pvI 10, pvR 3], M)) rfl ⟨trivial, trivial, trivial, trivial, trivial, trivial, trivial, trivial⟩ ?_
  refine pw_callVd hT (as := [pvR 3, pvI 10]) (lo1 := [some (pvR 3), some (pvI 10)]) (d1 := d) (rest := []) rfl rfl rfl rfl rfl (fun _ => rfl) (Nat.zero_le _) rfl rfl rfl (se_X0_note_3_x M hok 10 (zr_wide (show 10 ≤ Int32.toInt 10 ∧ Int32.toInt 10 ≤ 10 from (by decide)) (by decide) (by decide)) (zr_wide hc3_1 (by decide) (by decide)) d) (fun M11_ o13_ g14_ d9_ => ?_)
  have d7_ := d9_.1
  have d8_ := d9_.2
  have f15_ : pvFr fp_eX0_run_3_3_0_x_0_3 M M11_ := pvfr_t g14_ pvfr_0 fp_eX0_run_3_3_0_x_0_3_fp_eX0_note_3_x
  have b16_ : 0 ≤ Int32.toInt (M11_.1 3 1) ∧ Int32.toInt (M11_.1 3 1) ≤ 999 := (by have u0 := hc3_1; have u1 := d7_; have u2 := pvok_r o13_ 3 1 (lo := 0) (hi := 1000000) rfl; omega)
  refine pw_blk hT 1 (S' := (30, [some (pvR 3), some (pvI 3), some (pvI 0), some (pvI n3), some (pvI 0), some (pvI 10), some (pvI (0 + 1))], [pvI 10], M11_)) rfl ⟨trivial, trivial⟩ ?_
  refine pw_sw hT rfl rfl ?_
  refine And.intro (fun c17_ => ?_) (fun c17_ => absurd (by decide) c17_)
  show PW 4 d (128, [some (pvR 3), some (pvI 3), some (pvI 0), some (pvI n3), some (pvI 0), some (pvI 10), some (pvI (0 + 1))], [], M11_) _
  refine pw_blk hT 3 (S' := (133, [some (pvR 3), some (pvI 3), some (pvI 0), some (pvI n3), some (pvI 0), some (pvI 10), some (pvI (0 + 1))], [pvI (M11_.1 3 4), pvI n3], M11_)) rfl ⟨trivial, trivial, rfl, trivial⟩ ?_
  have e18_ : (M11_.1 3 4) = (M.1 3 4) := (g14_ 3 4 rfl)
  refine pw_eqI e18_ ?_
  refine pw_blk hT 1 (S' := (134, [some (pvR 3), some (pvI 3), some (pvI 0), some (pvI n3), some (pvI 0), some (pvI 10), some (pvI (0 + 1))], [pvI (n3 + (M.1 3 4))], M11_)) rfl ⟨trivial, trivial⟩ ?_
  exact pw_ret hT rfl (r := some (pvI (n3 + (M.1 3 4)))) (M' := M11_) ⟨rfl, rfl⟩ ⟨⟨_, rfl, trivial, rfl⟩, o13_, f15_, (by omega), (zTr_c0 (pvok_r hok 3 1 rfl).1 (zTr_0 3 1 4 M) d8_)⟩
def fpL_eX0_run_3_3_0_x_1_3 : List (Nat × Nat × Nat) := [(0, 3, 2), (0, 4, 0)]
def fp_eX0_run_3_3_0_x_1_3 (q k : Nat) : Bool := pvfp fpL_eX0_run_3_3_0_x_1_3 q k
theorem fp_eX0_run_3_3_0_x_1_3_fp_eX0_note_3_x (a b : Nat) (h : fp_eX0_note_3_x a b = true) : fp_eX0_run_3_3_0_x_1_3 a b = true := pvfp_sub (l1 := fpL_eX0_note_3_x) (l2 := fpL_eX0_run_3_3_0_x_1_3) (by decide) a b h
set_option maxHeartbeats 4000000 in
set_option maxRecDepth 10000 in
theorem se_X0_run_3_3_0_x_1_3 (M : pvM) (hok : pvOk M) (n3 : Int32) (hc3_1 : 0 ≤ Int32.toInt (M.1 3 1) ∧ Int32.toInt (M.1 3 1) ≤ 998) (hc3_2 : 3 ≤ Int32.toInt (M.1 3 2) ∧ Int32.toInt (M.1 3 2) ≤ 3) (d : Nat) : PW 4 d (0, [some (pvR 3), some (pvI 3), some (pvI 0), some (pvI n3), some (pvI 1), none, none], [], M) (fun r X => (∃ x : Int32, r = some (pvI x) ∧ True ∧ x = (n3 + (M.1 3 4))) ∧ pvOk X ∧ pvFr fp_eX0_run_3_3_0_x_1_3 M X ∧ Int32.toInt (X.1 3 1) ≤ Int32.toInt (M.1 3 1) + 1 ∧ zTr 3 1 4 ([10] : List Int32) M X) := by
  have hT : pvdom 4 = pvD_4 := rfl
  refine pw_blk hT 2 (S' := (4, [some (pvR 3), some (pvI 3), some (pvI 0), some (pvI n3), some (pvI 1), none, none], [pvI 40, pvI 1], M)) rfl ⟨trivial, trivial, trivial⟩ ?_
  refine pw_ic hT (c := 1 ≤ 40) rfl rfl (fun c1_ => ?_) (fun c1_ => absurd (by decide) c1_)
  refine pw_blk hT 2 (S' := (11, [some (pvR 3), some (pvI 3), some (pvI 0), some (pvI n3), some (pvI 1), none, none], [pvI 0, pvI 3], M)) rfl ⟨trivial, trivial, trivial⟩ ?_
  refine pw_callT hT (as := [pvI 3, pvI 0]) (lo1 := [some (pvI 3), some (pvI 0), none, none, none]) (d1 := d) (rest := []) rfl rfl rfl rfl rfl (fun h => absurd h (by decide)) (Nat.zero_le _) rfl rfl rfl (sf_X0_bodyFrom_3_0 M hok d) ?_
  refine pw_eqI (show ((pvstab 1041).getD (Int32.toNatClampNeg ((0 * 3) + 0)) 0) = 10 from by decide) ?_
  show PW 4 d (14, [some (pvR 3), some (pvI 3), some (pvI 0), some (pvI n3), some (pvI 1), none, none], [pvI 10], M) _
  refine pw_blk hT 7 (S' := (25, [some (pvR 3), some (pvI 3), some (pvI 0), some (pvI n3), some (pvI 1), some (pvI 10), some (pvI (1 + 1))], [pvI 10, pvR 3], M)) rfl ⟨trivial, trivial, trivial, trivial, trivial, trivial, trivial, trivial⟩ ?_
  refine pw_callVd hT (as := [pvR 3, pvI 10]) (lo1 := [some (pvR 3), some (pvI 10)]) (d1 := d) (rest := []) rfl rfl rfl rfl rfl (fun _ => rfl) (Nat.zero_le _) rfl rfl rfl (se_X0_note_3_x M hok 10 (zr_wide (show 10 ≤ Int32.toInt 10 ∧ Int32.toInt 10 ≤ 10 from (by decide)) (by decide) (by decide)) (zr_wide hc3_1 (by decide) (by decide)) d) (fun M11_ o13_ g14_ d9_ => ?_)
  have d7_ := d9_.1
  have d8_ := d9_.2
  have f15_ : pvFr fp_eX0_run_3_3_0_x_1_3 M M11_ := pvfr_t g14_ pvfr_0 fp_eX0_run_3_3_0_x_1_3_fp_eX0_note_3_x
  have b16_ : 0 ≤ Int32.toInt (M11_.1 3 1) ∧ Int32.toInt (M11_.1 3 1) ≤ 999 := (by have u0 := hc3_1; have u1 := d7_; have u2 := pvok_r o13_ 3 1 (lo := 0) (hi := 1000000) rfl; omega)
  refine pw_blk hT 1 (S' := (30, [some (pvR 3), some (pvI 3), some (pvI 0), some (pvI n3), some (pvI 1), some (pvI 10), some (pvI (1 + 1))], [pvI 10], M11_)) rfl ⟨trivial, trivial⟩ ?_
  refine pw_sw hT rfl rfl ?_
  refine And.intro (fun c17_ => ?_) (fun c17_ => absurd (by decide) c17_)
  show PW 4 d (128, [some (pvR 3), some (pvI 3), some (pvI 0), some (pvI n3), some (pvI 1), some (pvI 10), some (pvI (1 + 1))], [], M11_) _
  refine pw_blk hT 3 (S' := (133, [some (pvR 3), some (pvI 3), some (pvI 0), some (pvI n3), some (pvI 1), some (pvI 10), some (pvI (1 + 1))], [pvI (M11_.1 3 4), pvI n3], M11_)) rfl ⟨trivial, trivial, rfl, trivial⟩ ?_
  have e18_ : (M11_.1 3 4) = (M.1 3 4) := (g14_ 3 4 rfl)
  refine pw_eqI e18_ ?_
  refine pw_blk hT 1 (S' := (134, [some (pvR 3), some (pvI 3), some (pvI 0), some (pvI n3), some (pvI 1), some (pvI 10), some (pvI (1 + 1))], [pvI (n3 + (M.1 3 4))], M11_)) rfl ⟨trivial, trivial⟩ ?_
  exact pw_ret hT rfl (r := some (pvI (n3 + (M.1 3 4)))) (M' := M11_) ⟨rfl, rfl⟩ ⟨⟨_, rfl, trivial, rfl⟩, o13_, f15_, (by omega), (zTr_c0 (pvok_r hok 3 1 rfl).1 (zTr_0 3 1 4 M) d8_)⟩
def fpL_eX0_run_3_3_1_x_0_3 : List (Nat × Nat × Nat) := [(0, 3, 2), (0, 4, 0)]
def fp_eX0_run_3_3_1_x_0_3 (q k : Nat) : Bool := pvfp fpL_eX0_run_3_3_1_x_0_3 q k
theorem fp_eX0_run_3_3_1_x_0_3_fp_eX0_note_3_x (a b : Nat) (h : fp_eX0_note_3_x a b = true) : fp_eX0_run_3_3_1_x_0_3 a b = true := pvfp_sub (l1 := fpL_eX0_note_3_x) (l2 := fpL_eX0_run_3_3_1_x_0_3) (by decide) a b h
theorem fp_eX0_run_3_3_1_x_0_3_fp_eX0_run_3_3_0_x_1_3 (a b : Nat) (h : fp_eX0_run_3_3_0_x_1_3 a b = true) : fp_eX0_run_3_3_1_x_0_3 a b = true := pvfp_sub (l1 := fpL_eX0_run_3_3_0_x_1_3) (l2 := fpL_eX0_run_3_3_1_x_0_3) (by decide) a b h
set_option maxHeartbeats 4000000 in
set_option maxRecDepth 10000 in
theorem se_X0_run_3_3_1_x_0_3 (M : pvM) (hok : pvOk M) (n3 : Int32) (hc3_1 : 0 ≤ Int32.toInt (M.1 3 1) ∧ Int32.toInt (M.1 3 1) ≤ 997) (hc3_2 : 3 ≤ Int32.toInt (M.1 3 2) ∧ Int32.toInt (M.1 3 2) ≤ 3) (d : Nat) (hd : 1 ≤ d) : PW 4 d (0, [some (pvR 3), some (pvI 3), some (pvI 1), some (pvI n3), some (pvI 0), none, none], [], M) (fun r X => (∃ x : Int32, r = some (pvI x) ∧ True ∧ x = ((n3 + (M.1 3 4)) - (M.1 3 3))) ∧ pvOk X ∧ pvFr fp_eX0_run_3_3_1_x_0_3 M X ∧ Int32.toInt (X.1 3 1) ≤ Int32.toInt (M.1 3 1) + 2 ∧ zTr 3 1 4 (([11] : List Int32) ++ ([10] : List Int32)) M X) := by
  have hT : pvdom 4 = pvD_4 := rfl
  refine pw_blk hT 2 (S' := (4, [some (pvR 3), some (pvI 3), some (pvI 1), some (pvI n3), some (pvI 0), none, none], [pvI 40, pvI 0], M)) rfl ⟨trivial, trivial, trivial⟩ ?_
  refine pw_ic hT (c := 0 ≤ 40) rfl rfl (fun c1_ => ?_) (fun c1_ => absurd (by decide) c1_)
  refine pw_blk hT 2 (S' := (11, [some (pvR 3), some (pvI 3), some (pvI 1), some (pvI n3), some (pvI 0), none, none], [pvI 1, pvI 3], M)) rfl ⟨trivial, trivial, trivial⟩ ?_
  refine pw_callT hT (as := [pvI 3, pvI 1]) (lo1 := [some (pvI 3), some (pvI 1), none, none, none]) (d1 := d) (rest := []) rfl rfl rfl rfl rfl (fun h => absurd h (by decide)) (Nat.zero_le _) rfl rfl rfl (sf_X0_bodyFrom_3_1 M hok d) ?_
  refine pw_eqI (show ((pvstab 1041).getD (Int32.toNatClampNeg ((0 * 3) + 1)) 0) = 11 from by decide) ?_
  show PW 4 d (14, [some (pvR 3), some (pvI 3), some (pvI 1), some (pvI n3), some (pvI 0), none, none], [pvI 11], M) _
  refine pw_blk hT 7 (S' := (25, [some (pvR 3), some (pvI 3), some (pvI 1), some (pvI n3), some (pvI 0), some (pvI 11), some (pvI (0 + 1))], [pvI 11, pvR 3], M)) rfl ⟨trivial, trivial, trivial, trivial, trivial, trivial, trivial, trivial⟩ ?_
  refine pw_callVd hT (as := [pvR 3, pvI 11]) (lo1 := [some (pvR 3), some (pvI 11)]) (d1 := d) (rest := []) rfl rfl rfl rfl rfl (fun _ => rfl) (Nat.zero_le _) rfl rfl rfl (se_X0_note_3_x M hok 11 (zr_wide (show 11 ≤ Int32.toInt 11 ∧ Int32.toInt 11 ≤ 11 from (by decide)) (by decide) (by decide)) (zr_wide hc3_1 (by decide) (by decide)) d) (fun M11_ o13_ g14_ d9_ => ?_)
  have d7_ := d9_.1
  have d8_ := d9_.2
  have f15_ : pvFr fp_eX0_run_3_3_1_x_0_3 M M11_ := pvfr_t g14_ pvfr_0 fp_eX0_run_3_3_1_x_0_3_fp_eX0_note_3_x
  have b16_ : 0 ≤ Int32.toInt (M11_.1 3 1) ∧ Int32.toInt (M11_.1 3 1) ≤ 998 := (by have u0 := hc3_1; have u1 := d7_; have u2 := pvok_r o13_ 3 1 (lo := 0) (hi := 1000000) rfl; omega)
  refine pw_blk hT 1 (S' := (30, [some (pvR 3), some (pvI 3), some (pvI 1), some (pvI n3), some (pvI 0), some (pvI 11), some (pvI (0 + 1))], [pvI 11], M11_)) rfl ⟨trivial, trivial⟩ ?_
  refine pw_sw hT rfl rfl ?_
  refine And.intro (fun c17_ => absurd c17_ (by decide)) (fun c17_ => ?_)
  refine And.intro (fun c18_ => ?_) (fun c18_ => absurd (by decide) c18_)
  show PW 4 d (135, [some (pvR 3), some (pvI 3), some (pvI 1), some (pvI n3), some (pvI 0), some (pvI 11), some (pvI (0 + 1))], [], M11_) _
  have e19_ : (M11_.1 3 2) = (M.1 3 2) := (g14_ 3 2 rfl)
  have b20_ : 3 ≤ Int32.toInt (M11_.1 3 2) ∧ Int32.toInt (M11_.1 3 2) ≤ 3 := (by rw [e19_]; exact hc3_2)
  refine pw_blk hT 3 (S' := (140, [some (pvR 3), some (pvI 3), some (pvI 1), some (pvI n3), some (pvI 0), some (pvI 11), some (pvI (0 + 1))], [pvI (M11_.1 3 2), pvR 3], M11_)) rfl ⟨trivial, trivial, rfl, trivial⟩ ?_
  refine pw_eqI ((zi_eq _ (3)).mpr (by have u0 := b20_; have u1 : Int32.toInt (3) = 3 := (by decide); omega)) ?_
  refine pw_blk hT 3 (S' := (144, [some (pvR 3), some (pvI 3), some (pvI 1), some (pvI n3), some (pvI 0), some (pvI 11), some (pvI (0 + 1))], [pvI (0 + 1), pvI n3, pvI 0, pvI 3, pvR 3], M11_)) rfl ⟨trivial, trivial, trivial, trivial⟩ ?_
  refine pw_callGd hT (as := [pvR 3, pvI 3, pvI 0, pvI n3, pvI (0 + 1)]) (lo1 := [some (pvR 3), some (pvI 3), some (pvI 0), some (pvI n3), some (pvI (0 + 1)), none, none]) (d1 := (d - 1)) (rest := []) rfl rfl rfl rfl rfl (fun h => absurd h (by decide)) (show 1 ≤ d by omega) rfl rfl rfl (se_X0_run_3_3_0_x_1_3 M11_ o13_ n3 b16_ b20_ (d - 1)) (fun x24_ M25_ b26_ o27_ g28_ d23_ => ?_)
  have d21_ := d23_.1
  have d22_ := d23_.2
  have f29_ : pvFr fp_eX0_run_3_3_1_x_0_3 M M25_ := pvfr_t g28_ f15_ fp_eX0_run_3_3_1_x_0_3_fp_eX0_run_3_3_0_x_1_3
  have b30_ : 0 ≤ Int32.toInt (M25_.1 3 1) ∧ Int32.toInt (M25_.1 3 1) ≤ 999 := (by have u0 := b16_; have u1 := d21_; have u2 := pvok_r o27_ 3 1 (lo := 0) (hi := 1000000) rfl; omega)
  have u31_ : Int32.toInt 3 = 3 := by decide
  have u32_ : Int32.toInt 0 = 0 := by decide
  have u33_ : Int32.toInt (0 + 1) = 1 := by decide
  obtain ⟨b34_, d35_⟩ := b26_
  subst d35_
  have e36_ : (n3 + (M11_.1 3 4)) = (n3 + (M.1 3 4)) := (show (n3 + (M11_.1 3 4)) = (n3 + (M.1 3 4)) from by rw [(g14_ 3 4 rfl)])
  refine pw_eqI e36_ ?_
  refine pw_blk hT 2 (S' := (151, [some (pvR 3), some (pvI 3), some (pvI 1), some (pvI n3), some (pvI 0), some (pvI 11), some (pvI (0 + 1))], [pvI (M25_.1 3 3), pvI (n3 + (M.1 3 4))], M25_)) rfl ⟨trivial, rfl, trivial⟩ ?_
  have e37_ : (M25_.1 3 3) = (M.1 3 3) := ((g28_ 3 3 rfl).trans (g14_ 3 3 rfl))
  refine pw_eqI e37_ ?_
  refine pw_blk hT 1 (S' := (152, [some (pvR 3), some (pvI 3), some (pvI 1), some (pvI n3), some (pvI 0), some (pvI 11), some (pvI (0 + 1))], [pvI ((n3 + (M.1 3 4)) - (M.1 3 3))], M25_)) rfl ⟨trivial, trivial⟩ ?_
  exact pw_ret hT rfl (r := some (pvI ((n3 + (M.1 3 4)) - (M.1 3 3)))) (M' := M25_) ⟨rfl, rfl⟩ ⟨⟨_, rfl, trivial, rfl⟩, o27_, f29_, (by omega), (zTr_c (pvok_r hok 3 1 rfl).1 (zTr_c0 (pvok_r hok 3 1 rfl).1 (zTr_0 3 1 4 M) d8_) d22_)⟩
def fpL_eX0_run_3_3_0_x_3_3 : List (Nat × Nat × Nat) := [(0, 3, 2), (0, 4, 0)]
def fp_eX0_run_3_3_0_x_3_3 (q k : Nat) : Bool := pvfp fpL_eX0_run_3_3_0_x_3_3 q k
theorem fp_eX0_run_3_3_0_x_3_3_fp_eX0_note_3_x (a b : Nat) (h : fp_eX0_note_3_x a b = true) : fp_eX0_run_3_3_0_x_3_3 a b = true := pvfp_sub (l1 := fpL_eX0_note_3_x) (l2 := fpL_eX0_run_3_3_0_x_3_3) (by decide) a b h
set_option maxHeartbeats 4000000 in
set_option maxRecDepth 10000 in
theorem se_X0_run_3_3_0_x_3_3 (M : pvM) (hok : pvOk M) (n3 : Int32) (hc3_1 : 0 ≤ Int32.toInt (M.1 3 1) ∧ Int32.toInt (M.1 3 1) ≤ 998) (hc3_2 : 3 ≤ Int32.toInt (M.1 3 2) ∧ Int32.toInt (M.1 3 2) ≤ 3) (d : Nat) : PW 4 d (0, [some (pvR 3), some (pvI 3), some (pvI 0), some (pvI n3), some (pvI 3), none, none], [], M) (fun r X => (∃ x : Int32, r = some (pvI x) ∧ True ∧ x = (n3 + (M.1 3 4))) ∧ pvOk X ∧ pvFr fp_eX0_run_3_3_0_x_3_3 M X ∧ Int32.toInt (X.1 3 1) ≤ Int32.toInt (M.1 3 1) + 1 ∧ zTr 3 1 4 ([10] : List Int32) M X) := by
  have hT : pvdom 4 = pvD_4 := rfl
  refine pw_blk hT 2 (S' := (4, [some (pvR 3), some (pvI 3), some (pvI 0), some (pvI n3), some (pvI 3), none, none], [pvI 40, pvI 3], M)) rfl ⟨trivial, trivial, trivial⟩ ?_
  refine pw_ic hT (c := 3 ≤ 40) rfl rfl (fun c1_ => ?_) (fun c1_ => absurd (by decide) c1_)
  refine pw_blk hT 2 (S' := (11, [some (pvR 3), some (pvI 3), some (pvI 0), some (pvI n3), some (pvI 3), none, none], [pvI 0, pvI 3], M)) rfl ⟨trivial, trivial, trivial⟩ ?_
  refine pw_callT hT (as := [pvI 3, pvI 0]) (lo1 := [some (pvI 3), some (pvI 0), none, none, none]) (d1 := d) (rest := []) rfl rfl rfl rfl rfl (fun h => absurd h (by decide)) (Nat.zero_le _) rfl rfl rfl (sf_X0_bodyFrom_3_0 M hok d) ?_
  refine pw_eqI (show ((pvstab 1041).getD (Int32.toNatClampNeg ((0 * 3) + 0)) 0) = 10 from by decide) ?_
  show PW 4 d (14, [some (pvR 3), some (pvI 3), some (pvI 0), some (pvI n3), some (pvI 3), none, none], [pvI 10], M) _
  refine pw_blk hT 7 (S' := (25, [some (pvR 3), some (pvI 3), some (pvI 0), some (pvI n3), some (pvI 3), some (pvI 10), some (pvI (3 + 1))], [pvI 10, pvR 3], M)) rfl ⟨trivial, trivial, trivial, trivial, trivial, trivial, trivial, trivial⟩ ?_
  refine pw_callVd hT (as := [pvR 3, pvI 10]) (lo1 := [some (pvR 3), some (pvI 10)]) (d1 := d) (rest := []) rfl rfl rfl rfl rfl (fun _ => rfl) (Nat.zero_le _) rfl rfl rfl (se_X0_note_3_x M hok 10 (zr_wide (show 10 ≤ Int32.toInt 10 ∧ Int32.toInt 10 ≤ 10 from (by decide)) (by decide) (by decide)) (zr_wide hc3_1 (by decide) (by decide)) d) (fun M11_ o13_ g14_ d9_ => ?_)
  have d7_ := d9_.1
  have d8_ := d9_.2
  have f15_ : pvFr fp_eX0_run_3_3_0_x_3_3 M M11_ := pvfr_t g14_ pvfr_0 fp_eX0_run_3_3_0_x_3_3_fp_eX0_note_3_x
  have b16_ : 0 ≤ Int32.toInt (M11_.1 3 1) ∧ Int32.toInt (M11_.1 3 1) ≤ 999 := (by have u0 := hc3_1; have u1 := d7_; have u2 := pvok_r o13_ 3 1 (lo := 0) (hi := 1000000) rfl; omega)
  refine pw_blk hT 1 (S' := (30, [some (pvR 3), some (pvI 3), some (pvI 0), some (pvI n3), some (pvI 3), some (pvI 10), some (pvI (3 + 1))], [pvI 10], M11_)) rfl ⟨trivial, trivial⟩ ?_
  refine pw_sw hT rfl rfl ?_
  refine And.intro (fun c17_ => ?_) (fun c17_ => absurd (by decide) c17_)
  show PW 4 d (128, [some (pvR 3), some (pvI 3), some (pvI 0), some (pvI n3), some (pvI 3), some (pvI 10), some (pvI (3 + 1))], [], M11_) _
  refine pw_blk hT 3 (S' := (133, [some (pvR 3), some (pvI 3), some (pvI 0), some (pvI n3), some (pvI 3), some (pvI 10), some (pvI (3 + 1))], [pvI (M11_.1 3 4), pvI n3], M11_)) rfl ⟨trivial, trivial, rfl, trivial⟩ ?_
  have e18_ : (M11_.1 3 4) = (M.1 3 4) := (g14_ 3 4 rfl)
  refine pw_eqI e18_ ?_
  refine pw_blk hT 1 (S' := (134, [some (pvR 3), some (pvI 3), some (pvI 0), some (pvI n3), some (pvI 3), some (pvI 10), some (pvI (3 + 1))], [pvI (n3 + (M.1 3 4))], M11_)) rfl ⟨trivial, trivial⟩ ?_
  exact pw_ret hT rfl (r := some (pvI (n3 + (M.1 3 4)))) (M' := M11_) ⟨rfl, rfl⟩ ⟨⟨_, rfl, trivial, rfl⟩, o13_, f15_, (by omega), (zTr_c0 (pvok_r hok 3 1 rfl).1 (zTr_0 3 1 4 M) d8_)⟩
def fpL_eX0_run_3_3_1_x_2_3 : List (Nat × Nat × Nat) := [(0, 3, 2), (0, 4, 0)]
def fp_eX0_run_3_3_1_x_2_3 (q k : Nat) : Bool := pvfp fpL_eX0_run_3_3_1_x_2_3 q k
theorem fp_eX0_run_3_3_1_x_2_3_fp_eX0_note_3_x (a b : Nat) (h : fp_eX0_note_3_x a b = true) : fp_eX0_run_3_3_1_x_2_3 a b = true := pvfp_sub (l1 := fpL_eX0_note_3_x) (l2 := fpL_eX0_run_3_3_1_x_2_3) (by decide) a b h
theorem fp_eX0_run_3_3_1_x_2_3_fp_eX0_run_3_3_0_x_3_3 (a b : Nat) (h : fp_eX0_run_3_3_0_x_3_3 a b = true) : fp_eX0_run_3_3_1_x_2_3 a b = true := pvfp_sub (l1 := fpL_eX0_run_3_3_0_x_3_3) (l2 := fpL_eX0_run_3_3_1_x_2_3) (by decide) a b h
set_option maxHeartbeats 4000000 in
set_option maxRecDepth 10000 in
theorem se_X0_run_3_3_1_x_2_3 (M : pvM) (hok : pvOk M) (n3 : Int32) (hc3_1 : 0 ≤ Int32.toInt (M.1 3 1) ∧ Int32.toInt (M.1 3 1) ≤ 997) (hc3_2 : 3 ≤ Int32.toInt (M.1 3 2) ∧ Int32.toInt (M.1 3 2) ≤ 3) (d : Nat) (hd : 1 ≤ d) : PW 4 d (0, [some (pvR 3), some (pvI 3), some (pvI 1), some (pvI n3), some (pvI 2), none, none], [], M) (fun r X => (∃ x : Int32, r = some (pvI x) ∧ True ∧ x = ((n3 + (M.1 3 4)) - (M.1 3 3))) ∧ pvOk X ∧ pvFr fp_eX0_run_3_3_1_x_2_3 M X ∧ Int32.toInt (X.1 3 1) ≤ Int32.toInt (M.1 3 1) + 2 ∧ zTr 3 1 4 (([11] : List Int32) ++ ([10] : List Int32)) M X) := by
  have hT : pvdom 4 = pvD_4 := rfl
  refine pw_blk hT 2 (S' := (4, [some (pvR 3), some (pvI 3), some (pvI 1), some (pvI n3), some (pvI 2), none, none], [pvI 40, pvI 2], M)) rfl ⟨trivial, trivial, trivial⟩ ?_
  refine pw_ic hT (c := 2 ≤ 40) rfl rfl (fun c1_ => ?_) (fun c1_ => absurd (by decide) c1_)
  refine pw_blk hT 2 (S' := (11, [some (pvR 3), some (pvI 3), some (pvI 1), some (pvI n3), some (pvI 2), none, none], [pvI 1, pvI 3], M)) rfl ⟨trivial, trivial, trivial⟩ ?_
  refine pw_callT hT (as := [pvI 3, pvI 1]) (lo1 := [some (pvI 3), some (pvI 1), none, none, none]) (d1 := d) (rest := []) rfl rfl rfl rfl rfl (fun h => absurd h (by decide)) (Nat.zero_le _) rfl rfl rfl (sf_X0_bodyFrom_3_1 M hok d) ?_
  refine pw_eqI (show ((pvstab 1041).getD (Int32.toNatClampNeg ((0 * 3) + 1)) 0) = 11 from by decide) ?_
  show PW 4 d (14, [some (pvR 3), some (pvI 3), some (pvI 1), some (pvI n3), some (pvI 2), none, none], [pvI 11], M) _
  refine pw_blk hT 7 (S' := (25, [some (pvR 3), some (pvI 3), some (pvI 1), some (pvI n3), some (pvI 2), some (pvI 11), some (pvI (2 + 1))], [pvI 11, pvR 3], M)) rfl ⟨trivial, trivial, trivial, trivial, trivial, trivial, trivial, trivial⟩ ?_
  refine pw_callVd hT (as := [pvR 3, pvI 11]) (lo1 := [some (pvR 3), some (pvI 11)]) (d1 := d) (rest := []) rfl rfl rfl rfl rfl (fun _ => rfl) (Nat.zero_le _) rfl rfl rfl (se_X0_note_3_x M hok 11 (zr_wide (show 11 ≤ Int32.toInt 11 ∧ Int32.toInt 11 ≤ 11 from (by decide)) (by decide) (by decide)) (zr_wide hc3_1 (by decide) (by decide)) d) (fun M11_ o13_ g14_ d9_ => ?_)
  have d7_ := d9_.1
  have d8_ := d9_.2
  have f15_ : pvFr fp_eX0_run_3_3_1_x_2_3 M M11_ := pvfr_t g14_ pvfr_0 fp_eX0_run_3_3_1_x_2_3_fp_eX0_note_3_x
  have b16_ : 0 ≤ Int32.toInt (M11_.1 3 1) ∧ Int32.toInt (M11_.1 3 1) ≤ 998 := (by have u0 := hc3_1; have u1 := d7_; have u2 := pvok_r o13_ 3 1 (lo := 0) (hi := 1000000) rfl; omega)
  refine pw_blk hT 1 (S' := (30, [some (pvR 3), some (pvI 3), some (pvI 1), some (pvI n3), some (pvI 2), some (pvI 11), some (pvI (2 + 1))], [pvI 11], M11_)) rfl ⟨trivial, trivial⟩ ?_
  refine pw_sw hT rfl rfl ?_
  refine And.intro (fun c17_ => absurd c17_ (by decide)) (fun c17_ => ?_)
  refine And.intro (fun c18_ => ?_) (fun c18_ => absurd (by decide) c18_)
  show PW 4 d (135, [some (pvR 3), some (pvI 3), some (pvI 1), some (pvI n3), some (pvI 2), some (pvI 11), some (pvI (2 + 1))], [], M11_) _
  have e19_ : (M11_.1 3 2) = (M.1 3 2) := (g14_ 3 2 rfl)
  have b20_ : 3 ≤ Int32.toInt (M11_.1 3 2) ∧ Int32.toInt (M11_.1 3 2) ≤ 3 := (by rw [e19_]; exact hc3_2)
  refine pw_blk hT 3 (S' := (140, [some (pvR 3), some (pvI 3), some (pvI 1), some (pvI n3), some (pvI 2), some (pvI 11), some (pvI (2 + 1))], [pvI (M11_.1 3 2), pvR 3], M11_)) rfl ⟨trivial, trivial, rfl, trivial⟩ ?_
  refine pw_eqI ((zi_eq _ (3)).mpr (by have u0 := b20_; have u1 : Int32.toInt (3) = 3 := (by decide); omega)) ?_
  refine pw_blk hT 3 (S' := (144, [some (pvR 3), some (pvI 3), some (pvI 1), some (pvI n3), some (pvI 2), some (pvI 11), some (pvI (2 + 1))], [pvI (2 + 1), pvI n3, pvI 0, pvI 3, pvR 3], M11_)) rfl ⟨trivial, trivial, trivial, trivial⟩ ?_
  refine pw_callGd hT (as := [pvR 3, pvI 3, pvI 0, pvI n3, pvI (2 + 1)]) (lo1 := [some (pvR 3), some (pvI 3), some (pvI 0), some (pvI n3), some (pvI (2 + 1)), none, none]) (d1 := (d - 1)) (rest := []) rfl rfl rfl rfl rfl (fun h => absurd h (by decide)) (show 1 ≤ d by omega) rfl rfl rfl (se_X0_run_3_3_0_x_3_3 M11_ o13_ n3 b16_ b20_ (d - 1)) (fun x24_ M25_ b26_ o27_ g28_ d23_ => ?_)
  have d21_ := d23_.1
  have d22_ := d23_.2
  have f29_ : pvFr fp_eX0_run_3_3_1_x_2_3 M M25_ := pvfr_t g28_ f15_ fp_eX0_run_3_3_1_x_2_3_fp_eX0_run_3_3_0_x_3_3
  have b30_ : 0 ≤ Int32.toInt (M25_.1 3 1) ∧ Int32.toInt (M25_.1 3 1) ≤ 999 := (by have u0 := b16_; have u1 := d21_; have u2 := pvok_r o27_ 3 1 (lo := 0) (hi := 1000000) rfl; omega)
  have u31_ : Int32.toInt 3 = 3 := by decide
  have u32_ : Int32.toInt 0 = 0 := by decide
  have u33_ : Int32.toInt (2 + 1) = 3 := by decide
  obtain ⟨b34_, d35_⟩ := b26_
  subst d35_
  have e36_ : (n3 + (M11_.1 3 4)) = (n3 + (M.1 3 4)) := (show (n3 + (M11_.1 3 4)) = (n3 + (M.1 3 4)) from by rw [(g14_ 3 4 rfl)])
  refine pw_eqI e36_ ?_
  refine pw_blk hT 2 (S' := (151, [some (pvR 3), some (pvI 3), some (pvI 1), some (pvI n3), some (pvI 2), some (pvI 11), some (pvI (2 + 1))], [pvI (M25_.1 3 3), pvI (n3 + (M.1 3 4))], M25_)) rfl ⟨trivial, rfl, trivial⟩ ?_
  have e37_ : (M25_.1 3 3) = (M.1 3 3) := ((g28_ 3 3 rfl).trans (g14_ 3 3 rfl))
  refine pw_eqI e37_ ?_
  refine pw_blk hT 1 (S' := (152, [some (pvR 3), some (pvI 3), some (pvI 1), some (pvI n3), some (pvI 2), some (pvI 11), some (pvI (2 + 1))], [pvI ((n3 + (M.1 3 4)) - (M.1 3 3))], M25_)) rfl ⟨trivial, trivial⟩ ?_
  exact pw_ret hT rfl (r := some (pvI ((n3 + (M.1 3 4)) - (M.1 3 3)))) (M' := M25_) ⟨rfl, rfl⟩ ⟨⟨_, rfl, trivial, rfl⟩, o27_, f29_, (by omega), (zTr_c (pvok_r hok 3 1 rfl).1 (zTr_c0 (pvok_r hok 3 1 rfl).1 (zTr_0 3 1 4 M) d8_) d22_)⟩
def fpL_eX0_run_3_0_2_x_1_3 : List (Nat × Nat × Nat) := [(0, 3, 2), (0, 4, 0)]
def fp_eX0_run_3_0_2_x_1_3 (q k : Nat) : Bool := pvfp fpL_eX0_run_3_0_2_x_1_3 q k
theorem fp_eX0_run_3_0_2_x_1_3_fp_eX0_note_3_x (a b : Nat) (h : fp_eX0_note_3_x a b = true) : fp_eX0_run_3_0_2_x_1_3 a b = true := pvfp_sub (l1 := fpL_eX0_note_3_x) (l2 := fpL_eX0_run_3_0_2_x_1_3) (by decide) a b h
theorem fp_eX0_run_3_0_2_x_1_3_fp_eX0_run_3_3_1_x_2_3 (a b : Nat) (h : fp_eX0_run_3_3_1_x_2_3 a b = true) : fp_eX0_run_3_0_2_x_1_3 a b = true := pvfp_sub (l1 := fpL_eX0_run_3_3_1_x_2_3) (l2 := fpL_eX0_run_3_0_2_x_1_3) (by decide) a b h
set_option maxHeartbeats 4000000 in
set_option maxRecDepth 10000 in
theorem se_X0_run_3_0_2_x_1_3 (M : pvM) (hok : pvOk M) (n3 : Int32) (hc3_1 : 0 ≤ Int32.toInt (M.1 3 1) ∧ Int32.toInt (M.1 3 1) ≤ 996) (hc3_2 : 3 ≤ Int32.toInt (M.1 3 2) ∧ Int32.toInt (M.1 3 2) ≤ 3) (d : Nat) (hd : 2 ≤ d) : PW 4 d (0, [some (pvR 3), some (pvI 0), some (pvI 2), some (pvI n3), some (pvI 1), none, none], [], M) (fun r X => (∃ x : Int32, r = some (pvI x) ∧ True ∧ x = (((n3 + (M.1 3 4)) - (M.1 3 3)) * 2)) ∧ pvOk X ∧ pvFr fp_eX0_run_3_0_2_x_1_3 M X ∧ Int32.toInt (X.1 3 1) ≤ Int32.toInt (M.1 3 1) + 3 ∧ zTr 3 1 4 (([12] : List Int32) ++ (([11] : List Int32) ++ ([10] : List Int32))) M X) := by
  have hT : pvdom 4 = pvD_4 := rfl
  refine pw_blk hT 2 (S' := (4, [some (pvR 3), some (pvI 0), some (pvI 2), some (pvI n3), some (pvI 1), none, none], [pvI 40, pvI 1], M)) rfl ⟨trivial, trivial, trivial⟩ ?_
  refine pw_ic hT (c := 1 ≤ 40) rfl rfl (fun c1_ => ?_) (fun c1_ => absurd (by decide) c1_)
  refine pw_blk hT 2 (S' := (11, [some (pvR 3), some (pvI 0), some (pvI 2), some (pvI n3), some (pvI 1), none, none], [pvI 2, pvI 0], M)) rfl ⟨trivial, trivial, trivial⟩ ?_
  refine pw_callT hT (as := [pvI 0, pvI 2]) (lo1 := [some (pvI 0), some (pvI 2), none, none, none]) (d1 := d) (rest := []) rfl rfl rfl rfl rfl (fun h => absurd h (by decide)) (Nat.zero_le _) rfl rfl rfl (sf_X0_bodyFrom_0_2 M hok d) ?_
  refine pw_eqI (show ((pvstab 1041).getD (Int32.toNatClampNeg ((0 * 3) + 2)) 0) = 12 from by decide) ?_
  show PW 4 d (14, [some (pvR 3), some (pvI 0), some (pvI 2), some (pvI n3), some (pvI 1), none, none], [pvI 12], M) _
  refine pw_blk hT 7 (S' := (25, [some (pvR 3), some (pvI 0), some (pvI 2), some (pvI n3), some (pvI 1), some (pvI 12), some (pvI (1 + 1))], [pvI 12, pvR 3], M)) rfl ⟨trivial, trivial, trivial, trivial, trivial, trivial, trivial, trivial⟩ ?_
  refine pw_callVd hT (as := [pvR 3, pvI 12]) (lo1 := [some (pvR 3), some (pvI 12)]) (d1 := d) (rest := []) rfl rfl rfl rfl rfl (fun _ => rfl) (Nat.zero_le _) rfl rfl rfl (se_X0_note_3_x M hok 12 (zr_wide (show 12 ≤ Int32.toInt 12 ∧ Int32.toInt 12 ≤ 12 from (by decide)) (by decide) (by decide)) (zr_wide hc3_1 (by decide) (by decide)) d) (fun M11_ o13_ g14_ d9_ => ?_)
  have d7_ := d9_.1
  have d8_ := d9_.2
  have f15_ : pvFr fp_eX0_run_3_0_2_x_1_3 M M11_ := pvfr_t g14_ pvfr_0 fp_eX0_run_3_0_2_x_1_3_fp_eX0_note_3_x
  have b16_ : 0 ≤ Int32.toInt (M11_.1 3 1) ∧ Int32.toInt (M11_.1 3 1) ≤ 997 := (by have u0 := hc3_1; have u1 := d7_; have u2 := pvok_r o13_ 3 1 (lo := 0) (hi := 1000000) rfl; omega)
  refine pw_blk hT 1 (S' := (30, [some (pvR 3), some (pvI 0), some (pvI 2), some (pvI n3), some (pvI 1), some (pvI 12), some (pvI (1 + 1))], [pvI 12], M11_)) rfl ⟨trivial, trivial⟩ ?_
  refine pw_sw hT rfl rfl ?_
  refine And.intro (fun c17_ => absurd c17_ (by decide)) (fun c17_ => ?_)
  refine And.intro (fun c18_ => absurd c18_ (by decide)) (fun c18_ => ?_)
  refine And.intro (fun c19_ => ?_) (fun c19_ => absurd (by decide) c19_)
  show PW 4 d (153, [some (pvR 3), some (pvI 0), some (pvI 2), some (pvI n3), some (pvI 1), some (pvI 12), some (pvI (1 + 1))], [], M11_) _
  have e20_ : (M11_.1 3 2) = (M.1 3 2) := (g14_ 3 2 rfl)
  have b21_ : 3 ≤ Int32.toInt (M11_.1 3 2) ∧ Int32.toInt (M11_.1 3 2) ≤ 3 := (by rw [e20_]; exact hc3_2)
  refine pw_blk hT 3 (S' := (158, [some (pvR 3), some (pvI 0), some (pvI 2), some (pvI n3), some (pvI 1), some (pvI 12), some (pvI (1 + 1))], [pvI (M11_.1 3 2), pvR 3], M11_)) rfl ⟨trivial, trivial, rfl, trivial⟩ ?_
  refine pw_eqI ((zi_eq _ (3)).mpr (by have u0 := b21_; have u1 : Int32.toInt (3) = 3 := (by decide); omega)) ?_
  refine pw_blk hT 3 (S' := (162, [some (pvR 3), some (pvI 0), some (pvI 2), some (pvI n3), some (pvI 1), some (pvI 12), some (pvI (1 + 1))], [pvI (1 + 1), pvI n3, pvI 1, pvI 3, pvR 3], M11_)) rfl ⟨trivial, trivial, trivial, trivial⟩ ?_
  refine pw_callGd hT (as := [pvR 3, pvI 3, pvI 1, pvI n3, pvI (1 + 1)]) (lo1 := [some (pvR 3), some (pvI 3), some (pvI 1), some (pvI n3), some (pvI (1 + 1)), none, none]) (d1 := (d - 1)) (rest := []) rfl rfl rfl rfl rfl (fun h => absurd h (by decide)) (show 1 ≤ d by omega) rfl rfl rfl (se_X0_run_3_3_1_x_2_3 M11_ o13_ n3 b16_ b21_ (d - 1) (by omega)) (fun x25_ M26_ b27_ o28_ g29_ d24_ => ?_)
  have d22_ := d24_.1
  have d23_ := d24_.2
  have f30_ : pvFr fp_eX0_run_3_0_2_x_1_3 M M26_ := pvfr_t g29_ f15_ fp_eX0_run_3_0_2_x_1_3_fp_eX0_run_3_3_1_x_2_3
  have b31_ : 0 ≤ Int32.toInt (M26_.1 3 1) ∧ Int32.toInt (M26_.1 3 1) ≤ 999 := (by have u0 := b16_; have u1 := d22_; have u2 := pvok_r o28_ 3 1 (lo := 0) (hi := 1000000) rfl; omega)
  have u32_ : Int32.toInt 3 = 3 := by decide
  have u33_ : Int32.toInt 1 = 1 := by decide
  have u34_ : Int32.toInt (1 + 1) = 2 := by decide
  obtain ⟨b35_, d36_⟩ := b27_
  subst d36_
  have e37_ : ((n3 + (M11_.1 3 4)) - (M11_.1 3 3)) = ((n3 + (M.1 3 4)) - (M.1 3 3)) := (show ((n3 + (M11_.1 3 4)) - (M11_.1 3 3)) = ((n3 + (M.1 3 4)) - (M.1 3 3)) from by rw [(g14_ 3 4 rfl), (g14_ 3 3 rfl)])
  refine pw_eqI e37_ ?_
  refine pw_blk hT 2 (S' := (167, [some (pvR 3), some (pvI 0), some (pvI 2), some (pvI n3), some (pvI 1), some (pvI 12), some (pvI (1 + 1))], [pvI (((n3 + (M.1 3 4)) - (M.1 3 3)) * 2)], M26_)) rfl ⟨trivial, trivial, trivial⟩ ?_
  exact pw_ret hT rfl (r := some (pvI (((n3 + (M.1 3 4)) - (M.1 3 3)) * 2))) (M' := M26_) ⟨rfl, rfl⟩ ⟨⟨_, rfl, trivial, rfl⟩, o28_, f30_, (by omega), (zTr_c (pvok_r hok 3 1 rfl).1 (zTr_c0 (pvok_r hok 3 1 rfl).1 (zTr_0 3 1 4 M) d8_) d23_)⟩
def fpL_eX0_run_3_3_0_x_2_3 : List (Nat × Nat × Nat) := [(0, 3, 2), (0, 4, 0)]
def fp_eX0_run_3_3_0_x_2_3 (q k : Nat) : Bool := pvfp fpL_eX0_run_3_3_0_x_2_3 q k
theorem fp_eX0_run_3_3_0_x_2_3_fp_eX0_note_3_x (a b : Nat) (h : fp_eX0_note_3_x a b = true) : fp_eX0_run_3_3_0_x_2_3 a b = true := pvfp_sub (l1 := fpL_eX0_note_3_x) (l2 := fpL_eX0_run_3_3_0_x_2_3) (by decide) a b h
set_option maxHeartbeats 4000000 in
set_option maxRecDepth 10000 in
theorem se_X0_run_3_3_0_x_2_3 (M : pvM) (hok : pvOk M) (n3 : Int32) (hc3_1 : 0 ≤ Int32.toInt (M.1 3 1) ∧ Int32.toInt (M.1 3 1) ≤ 998) (hc3_2 : 3 ≤ Int32.toInt (M.1 3 2) ∧ Int32.toInt (M.1 3 2) ≤ 3) (d : Nat) : PW 4 d (0, [some (pvR 3), some (pvI 3), some (pvI 0), some (pvI n3), some (pvI 2), none, none], [], M) (fun r X => (∃ x : Int32, r = some (pvI x) ∧ True ∧ x = (n3 + (M.1 3 4))) ∧ pvOk X ∧ pvFr fp_eX0_run_3_3_0_x_2_3 M X ∧ Int32.toInt (X.1 3 1) ≤ Int32.toInt (M.1 3 1) + 1 ∧ zTr 3 1 4 ([10] : List Int32) M X) := by
  have hT : pvdom 4 = pvD_4 := rfl
  refine pw_blk hT 2 (S' := (4, [some (pvR 3), some (pvI 3), some (pvI 0), some (pvI n3), some (pvI 2), none, none], [pvI 40, pvI 2], M)) rfl ⟨trivial, trivial, trivial⟩ ?_
  refine pw_ic hT (c := 2 ≤ 40) rfl rfl (fun c1_ => ?_) (fun c1_ => absurd (by decide) c1_)
  refine pw_blk hT 2 (S' := (11, [some (pvR 3), some (pvI 3), some (pvI 0), some (pvI n3), some (pvI 2), none, none], [pvI 0, pvI 3], M)) rfl ⟨trivial, trivial, trivial⟩ ?_
  refine pw_callT hT (as := [pvI 3, pvI 0]) (lo1 := [some (pvI 3), some (pvI 0), none, none, none]) (d1 := d) (rest := []) rfl rfl rfl rfl rfl (fun h => absurd h (by decide)) (Nat.zero_le _) rfl rfl rfl (sf_X0_bodyFrom_3_0 M hok d) ?_
  refine pw_eqI (show ((pvstab 1041).getD (Int32.toNatClampNeg ((0 * 3) + 0)) 0) = 10 from by decide) ?_
  show PW 4 d (14, [some (pvR 3), some (pvI 3), some (pvI 0), some (pvI n3), some (pvI 2), none, none], [pvI 10], M) _
  refine pw_blk hT 7 (S' := (25, [some (pvR 3), some (pvI 3), some (pvI 0), some (pvI n3), some (pvI 2), some (pvI 10), some (pvI (2 + 1))], [pvI 10, pvR 3], M)) rfl ⟨trivial, trivial, trivial, trivial, trivial, trivial, trivial, trivial⟩ ?_
  refine pw_callVd hT (as := [pvR 3, pvI 10]) (lo1 := [some (pvR 3), some (pvI 10)]) (d1 := d) (rest := []) rfl rfl rfl rfl rfl (fun _ => rfl) (Nat.zero_le _) rfl rfl rfl (se_X0_note_3_x M hok 10 (zr_wide (show 10 ≤ Int32.toInt 10 ∧ Int32.toInt 10 ≤ 10 from (by decide)) (by decide) (by decide)) (zr_wide hc3_1 (by decide) (by decide)) d) (fun M11_ o13_ g14_ d9_ => ?_)
  have d7_ := d9_.1
  have d8_ := d9_.2
  have f15_ : pvFr fp_eX0_run_3_3_0_x_2_3 M M11_ := pvfr_t g14_ pvfr_0 fp_eX0_run_3_3_0_x_2_3_fp_eX0_note_3_x
  have b16_ : 0 ≤ Int32.toInt (M11_.1 3 1) ∧ Int32.toInt (M11_.1 3 1) ≤ 999 := (by have u0 := hc3_1; have u1 := d7_; have u2 := pvok_r o13_ 3 1 (lo := 0) (hi := 1000000) rfl; omega)
  refine pw_blk hT 1 (S' := (30, [some (pvR 3), some (pvI 3), some (pvI 0), some (pvI n3), some (pvI 2), some (pvI 10), some (pvI (2 + 1))], [pvI 10], M11_)) rfl ⟨trivial, trivial⟩ ?_
  refine pw_sw hT rfl rfl ?_
  refine And.intro (fun c17_ => ?_) (fun c17_ => absurd (by decide) c17_)
  show PW 4 d (128, [some (pvR 3), some (pvI 3), some (pvI 0), some (pvI n3), some (pvI 2), some (pvI 10), some (pvI (2 + 1))], [], M11_) _
  refine pw_blk hT 3 (S' := (133, [some (pvR 3), some (pvI 3), some (pvI 0), some (pvI n3), some (pvI 2), some (pvI 10), some (pvI (2 + 1))], [pvI (M11_.1 3 4), pvI n3], M11_)) rfl ⟨trivial, trivial, rfl, trivial⟩ ?_
  have e18_ : (M11_.1 3 4) = (M.1 3 4) := (g14_ 3 4 rfl)
  refine pw_eqI e18_ ?_
  refine pw_blk hT 1 (S' := (134, [some (pvR 3), some (pvI 3), some (pvI 0), some (pvI n3), some (pvI 2), some (pvI 10), some (pvI (2 + 1))], [pvI (n3 + (M.1 3 4))], M11_)) rfl ⟨trivial, trivial⟩ ?_
  exact pw_ret hT rfl (r := some (pvI (n3 + (M.1 3 4)))) (M' := M11_) ⟨rfl, rfl⟩ ⟨⟨_, rfl, trivial, rfl⟩, o13_, f15_, (by omega), (zTr_c0 (pvok_r hok 3 1 rfl).1 (zTr_0 3 1 4 M) d8_)⟩
def fpL_eX0_run_3_3_1_x_1_3 : List (Nat × Nat × Nat) := [(0, 3, 2), (0, 4, 0)]
def fp_eX0_run_3_3_1_x_1_3 (q k : Nat) : Bool := pvfp fpL_eX0_run_3_3_1_x_1_3 q k
theorem fp_eX0_run_3_3_1_x_1_3_fp_eX0_note_3_x (a b : Nat) (h : fp_eX0_note_3_x a b = true) : fp_eX0_run_3_3_1_x_1_3 a b = true := pvfp_sub (l1 := fpL_eX0_note_3_x) (l2 := fpL_eX0_run_3_3_1_x_1_3) (by decide) a b h
theorem fp_eX0_run_3_3_1_x_1_3_fp_eX0_run_3_3_0_x_2_3 (a b : Nat) (h : fp_eX0_run_3_3_0_x_2_3 a b = true) : fp_eX0_run_3_3_1_x_1_3 a b = true := pvfp_sub (l1 := fpL_eX0_run_3_3_0_x_2_3) (l2 := fpL_eX0_run_3_3_1_x_1_3) (by decide) a b h
set_option maxHeartbeats 4000000 in
set_option maxRecDepth 10000 in
theorem se_X0_run_3_3_1_x_1_3 (M : pvM) (hok : pvOk M) (n3 : Int32) (hc3_1 : 0 ≤ Int32.toInt (M.1 3 1) ∧ Int32.toInt (M.1 3 1) ≤ 997) (hc3_2 : 3 ≤ Int32.toInt (M.1 3 2) ∧ Int32.toInt (M.1 3 2) ≤ 3) (d : Nat) (hd : 1 ≤ d) : PW 4 d (0, [some (pvR 3), some (pvI 3), some (pvI 1), some (pvI n3), some (pvI 1), none, none], [], M) (fun r X => (∃ x : Int32, r = some (pvI x) ∧ True ∧ x = ((n3 + (M.1 3 4)) - (M.1 3 3))) ∧ pvOk X ∧ pvFr fp_eX0_run_3_3_1_x_1_3 M X ∧ Int32.toInt (X.1 3 1) ≤ Int32.toInt (M.1 3 1) + 2 ∧ zTr 3 1 4 (([11] : List Int32) ++ ([10] : List Int32)) M X) := by
  have hT : pvdom 4 = pvD_4 := rfl
  refine pw_blk hT 2 (S' := (4, [some (pvR 3), some (pvI 3), some (pvI 1), some (pvI n3), some (pvI 1), none, none], [pvI 40, pvI 1], M)) rfl ⟨trivial, trivial, trivial⟩ ?_
  refine pw_ic hT (c := 1 ≤ 40) rfl rfl (fun c1_ => ?_) (fun c1_ => absurd (by decide) c1_)
  refine pw_blk hT 2 (S' := (11, [some (pvR 3), some (pvI 3), some (pvI 1), some (pvI n3), some (pvI 1), none, none], [pvI 1, pvI 3], M)) rfl ⟨trivial, trivial, trivial⟩ ?_
  refine pw_callT hT (as := [pvI 3, pvI 1]) (lo1 := [some (pvI 3), some (pvI 1), none, none, none]) (d1 := d) (rest := []) rfl rfl rfl rfl rfl (fun h => absurd h (by decide)) (Nat.zero_le _) rfl rfl rfl (sf_X0_bodyFrom_3_1 M hok d) ?_
  refine pw_eqI (show ((pvstab 1041).getD (Int32.toNatClampNeg ((0 * 3) + 1)) 0) = 11 from by decide) ?_
  show PW 4 d (14, [some (pvR 3), some (pvI 3), some (pvI 1), some (pvI n3), some (pvI 1), none, none], [pvI 11], M) _
  refine pw_blk hT 7 (S' := (25, [some (pvR 3), some (pvI 3), some (pvI 1), some (pvI n3), some (pvI 1), some (pvI 11), some (pvI (1 + 1))], [pvI 11, pvR 3], M)) rfl ⟨trivial, trivial, trivial, trivial, trivial, trivial, trivial, trivial⟩ ?_
  refine pw_callVd hT (as := [pvR 3, pvI 11]) (lo1 := [some (pvR 3), some (pvI 11)]) (d1 := d) (rest := []) rfl rfl rfl rfl rfl (fun _ => rfl) (Nat.zero_le _) rfl rfl rfl (se_X0_note_3_x M hok 11 (zr_wide (show 11 ≤ Int32.toInt 11 ∧ Int32.toInt 11 ≤ 11 from (by decide)) (by decide) (by decide)) (zr_wide hc3_1 (by decide) (by decide)) d) (fun M11_ o13_ g14_ d9_ => ?_)
  have d7_ := d9_.1
  have d8_ := d9_.2
  have f15_ : pvFr fp_eX0_run_3_3_1_x_1_3 M M11_ := pvfr_t g14_ pvfr_0 fp_eX0_run_3_3_1_x_1_3_fp_eX0_note_3_x
  have b16_ : 0 ≤ Int32.toInt (M11_.1 3 1) ∧ Int32.toInt (M11_.1 3 1) ≤ 998 := (by have u0 := hc3_1; have u1 := d7_; have u2 := pvok_r o13_ 3 1 (lo := 0) (hi := 1000000) rfl; omega)
  refine pw_blk hT 1 (S' := (30, [some (pvR 3), some (pvI 3), some (pvI 1), some (pvI n3), some (pvI 1), some (pvI 11), some (pvI (1 + 1))], [pvI 11], M11_)) rfl ⟨trivial, trivial⟩ ?_
  refine pw_sw hT rfl rfl ?_
  refine And.intro (fun c17_ => absurd c17_ (by decide)) (fun c17_ => ?_)
  refine And.intro (fun c18_ => ?_) (fun c18_ => absurd (by decide) c18_)
  show PW 4 d (135, [some (pvR 3), some (pvI 3), some (pvI 1), some (pvI n3), some (pvI 1), some (pvI 11), some (pvI (1 + 1))], [], M11_) _
  have e19_ : (M11_.1 3 2) = (M.1 3 2) := (g14_ 3 2 rfl)
  have b20_ : 3 ≤ Int32.toInt (M11_.1 3 2) ∧ Int32.toInt (M11_.1 3 2) ≤ 3 := (by rw [e19_]; exact hc3_2)
  refine pw_blk hT 3 (S' := (140, [some (pvR 3), some (pvI 3), some (pvI 1), some (pvI n3), some (pvI 1), some (pvI 11), some (pvI (1 + 1))], [pvI (M11_.1 3 2), pvR 3], M11_)) rfl ⟨trivial, trivial, rfl, trivial⟩ ?_
  refine pw_eqI ((zi_eq _ (3)).mpr (by have u0 := b20_; have u1 : Int32.toInt (3) = 3 := (by decide); omega)) ?_
  refine pw_blk hT 3 (S' := (144, [some (pvR 3), some (pvI 3), some (pvI 1), some (pvI n3), some (pvI 1), some (pvI 11), some (pvI (1 + 1))], [pvI (1 + 1), pvI n3, pvI 0, pvI 3, pvR 3], M11_)) rfl ⟨trivial, trivial, trivial, trivial⟩ ?_
  refine pw_callGd hT (as := [pvR 3, pvI 3, pvI 0, pvI n3, pvI (1 + 1)]) (lo1 := [some (pvR 3), some (pvI 3), some (pvI 0), some (pvI n3), some (pvI (1 + 1)), none, none]) (d1 := (d - 1)) (rest := []) rfl rfl rfl rfl rfl (fun h => absurd h (by decide)) (show 1 ≤ d by omega) rfl rfl rfl (se_X0_run_3_3_0_x_2_3 M11_ o13_ n3 b16_ b20_ (d - 1)) (fun x24_ M25_ b26_ o27_ g28_ d23_ => ?_)
  have d21_ := d23_.1
  have d22_ := d23_.2
  have f29_ : pvFr fp_eX0_run_3_3_1_x_1_3 M M25_ := pvfr_t g28_ f15_ fp_eX0_run_3_3_1_x_1_3_fp_eX0_run_3_3_0_x_2_3
  have b30_ : 0 ≤ Int32.toInt (M25_.1 3 1) ∧ Int32.toInt (M25_.1 3 1) ≤ 999 := (by have u0 := b16_; have u1 := d21_; have u2 := pvok_r o27_ 3 1 (lo := 0) (hi := 1000000) rfl; omega)
  have u31_ : Int32.toInt 3 = 3 := by decide
  have u32_ : Int32.toInt 0 = 0 := by decide
  have u33_ : Int32.toInt (1 + 1) = 2 := by decide
  obtain ⟨b34_, d35_⟩ := b26_
  subst d35_
  have e36_ : (n3 + (M11_.1 3 4)) = (n3 + (M.1 3 4)) := (show (n3 + (M11_.1 3 4)) = (n3 + (M.1 3 4)) from by rw [(g14_ 3 4 rfl)])
  refine pw_eqI e36_ ?_
  refine pw_blk hT 2 (S' := (151, [some (pvR 3), some (pvI 3), some (pvI 1), some (pvI n3), some (pvI 1), some (pvI 11), some (pvI (1 + 1))], [pvI (M25_.1 3 3), pvI (n3 + (M.1 3 4))], M25_)) rfl ⟨trivial, rfl, trivial⟩ ?_
  have e37_ : (M25_.1 3 3) = (M.1 3 3) := ((g28_ 3 3 rfl).trans (g14_ 3 3 rfl))
  refine pw_eqI e37_ ?_
  refine pw_blk hT 1 (S' := (152, [some (pvR 3), some (pvI 3), some (pvI 1), some (pvI n3), some (pvI 1), some (pvI 11), some (pvI (1 + 1))], [pvI ((n3 + (M.1 3 4)) - (M.1 3 3))], M25_)) rfl ⟨trivial, trivial⟩ ?_
  exact pw_ret hT rfl (r := some (pvI ((n3 + (M.1 3 4)) - (M.1 3 3)))) (M' := M25_) ⟨rfl, rfl⟩ ⟨⟨_, rfl, trivial, rfl⟩, o27_, f29_, (by omega), (zTr_c (pvok_r hok 3 1 rfl).1 (zTr_c0 (pvok_r hok 3 1 rfl).1 (zTr_0 3 1 4 M) d8_) d22_)⟩
def fpL_eX0_run_3_3_2_x_0_3 : List (Nat × Nat × Nat) := [(0, 3, 2), (0, 4, 0)]
def fp_eX0_run_3_3_2_x_0_3 (q k : Nat) : Bool := pvfp fpL_eX0_run_3_3_2_x_0_3 q k
theorem fp_eX0_run_3_3_2_x_0_3_fp_eX0_note_3_x (a b : Nat) (h : fp_eX0_note_3_x a b = true) : fp_eX0_run_3_3_2_x_0_3 a b = true := pvfp_sub (l1 := fpL_eX0_note_3_x) (l2 := fpL_eX0_run_3_3_2_x_0_3) (by decide) a b h
theorem fp_eX0_run_3_3_2_x_0_3_fp_eX0_run_3_0_2_x_1_3 (a b : Nat) (h : fp_eX0_run_3_0_2_x_1_3 a b = true) : fp_eX0_run_3_3_2_x_0_3 a b = true := pvfp_sub (l1 := fpL_eX0_run_3_0_2_x_1_3) (l2 := fpL_eX0_run_3_3_2_x_0_3) (by decide) a b h
theorem fp_eX0_run_3_3_2_x_0_3_fp_eX0_run_3_3_1_x_1_3 (a b : Nat) (h : fp_eX0_run_3_3_1_x_1_3 a b = true) : fp_eX0_run_3_3_2_x_0_3 a b = true := pvfp_sub (l1 := fpL_eX0_run_3_3_1_x_1_3) (l2 := fpL_eX0_run_3_3_2_x_0_3) (by decide) a b h
set_option maxHeartbeats 4000000 in
set_option maxRecDepth 10000 in
theorem se_X0_run_3_3_2_x_0_3 (M : pvM) (hok : pvOk M) (n3 : Int32) (hc3_1 : 0 ≤ Int32.toInt (M.1 3 1) ∧ Int32.toInt (M.1 3 1) ≤ 993) (hc3_2 : 3 ≤ Int32.toInt (M.1 3 2) ∧ Int32.toInt (M.1 3 2) ≤ 3) (d : Nat) (hd : 3 ≤ d) : PW 4 d (0, [some (pvR 3), some (pvI 3), some (pvI 2), some (pvI n3), some (pvI 0), none, none], [], M) (fun r X => (∃ x : Int32, r = some (pvI x) ∧ True ∧ x = ((((n3 + (M.1 3 4)) - (M.1 3 3)) * 2) + ((1 + (M.1 3 4)) - (M.1 3 3)))) ∧ pvOk X ∧ pvFr fp_eX0_run_3_3_2_x_0_3 M X ∧ Int32.toInt (X.1 3 1) ≤ Int32.toInt (M.1 3 1) + 6 ∧ zTr 3 1 4 (([40] : List Int32) ++ (([12] : List Int32) ++ (([11] : List Int32) ++ ([10] : List Int32))) ++ (([11] : List Int32) ++ ([10] : List Int32))) M X) := by
  have hT : pvdom 4 = pvD_4 := rfl
  refine pw_blk hT 2 (S' := (4, [some (pvR 3), some (pvI 3), some (pvI 2), some (pvI n3), some (pvI 0), none, none], [pvI 40, pvI 0], M)) rfl ⟨trivial, trivial, trivial⟩ ?_
  refine pw_ic hT (c := 0 ≤ 40) rfl rfl (fun c1_ => ?_) (fun c1_ => absurd (by decide) c1_)
  refine pw_blk hT 2 (S' := (11, [some (pvR 3), some (pvI 3), some (pvI 2), some (pvI n3), some (pvI 0), none, none], [pvI 2, pvI 3], M)) rfl ⟨trivial, trivial, trivial⟩ ?_
  refine pw_callT hT (as := [pvI 3, pvI 2]) (lo1 := [some (pvI 3), some (pvI 2), none, none, none]) (d1 := d) (rest := []) rfl rfl rfl rfl rfl (fun h => absurd h (by decide)) (Nat.zero_le _) rfl rfl rfl (sf_X0_bodyFrom_3_2 M hok d) ?_
  refine pw_eqI (show ((pvstab 1041).getD (Int32.toNatClampNeg ((3 * 3) + 2)) 0) = 40 from by decide) ?_
  show PW 4 d (14, [some (pvR 3), some (pvI 3), some (pvI 2), some (pvI n3), some (pvI 0), none, none], [pvI 40], M) _
  refine pw_blk hT 7 (S' := (25, [some (pvR 3), some (pvI 3), some (pvI 2), some (pvI n3), some (pvI 0), some (pvI 40), some (pvI (0 + 1))], [pvI 40, pvR 3], M)) rfl ⟨trivial, trivial, trivial, trivial, trivial, trivial, trivial, trivial⟩ ?_
  refine pw_callVd hT (as := [pvR 3, pvI 40]) (lo1 := [some (pvR 3), some (pvI 40)]) (d1 := d) (rest := []) rfl rfl rfl rfl rfl (fun _ => rfl) (Nat.zero_le _) rfl rfl rfl (se_X0_note_3_x M hok 40 (zr_wide (show 40 ≤ Int32.toInt 40 ∧ Int32.toInt 40 ≤ 40 from (by decide)) (by decide) (by decide)) (zr_wide hc3_1 (by decide) (by decide)) d) (fun M11_ o13_ g14_ d9_ => ?_)
  have d7_ := d9_.1
  have d8_ := d9_.2
  have f15_ : pvFr fp_eX0_run_3_3_2_x_0_3 M M11_ := pvfr_t g14_ pvfr_0 fp_eX0_run_3_3_2_x_0_3_fp_eX0_note_3_x
  have b16_ : 0 ≤ Int32.toInt (M11_.1 3 1) ∧ Int32.toInt (M11_.1 3 1) ≤ 994 := (by have u0 := hc3_1; have u1 := d7_; have u2 := pvok_r o13_ 3 1 (lo := 0) (hi := 1000000) rfl; omega)
  refine pw_blk hT 1 (S' := (30, [some (pvR 3), some (pvI 3), some (pvI 2), some (pvI n3), some (pvI 0), some (pvI 40), some (pvI (0 + 1))], [pvI 40], M11_)) rfl ⟨trivial, trivial⟩ ?_
  refine pw_sw hT rfl rfl ?_
  refine And.intro (fun c17_ => absurd c17_ (by decide)) (fun c17_ => ?_)
  refine And.intro (fun c18_ => absurd c18_ (by decide)) (fun c18_ => ?_)
  refine And.intro (fun c19_ => absurd c19_ (by decide)) (fun c19_ => ?_)
  refine And.intro (fun c20_ => absurd c20_ (by decide)) (fun c20_ => ?_)
  refine And.intro (fun c21_ => absurd c21_ (by decide)) (fun c21_ => ?_)
  refine And.intro (fun c22_ => ?_) (fun c22_ => absurd (by decide) c22_)
  show PW 4 d (193, [some (pvR 3), some (pvI 3), some (pvI 2), some (pvI n3), some (pvI 0), some (pvI 40), some (pvI (0 + 1))], [], M11_) _
  refine pw_blk hT 5 (S' := (199, [some (pvR 3), some (pvI 3), some (pvI 2), some (pvI n3), some (pvI 0), some (pvI 40), some (pvI (0 + 1))], [pvI (0 + 1), pvI n3, pvI 2, pvI 0, pvR 3], M11_)) rfl ⟨trivial, trivial, trivial, trivial, trivial, trivial⟩ ?_
  have e23_ : (M11_.1 3 2) = (M.1 3 2) := (g14_ 3 2 rfl)
  have b24_ : 3 ≤ Int32.toInt (M11_.1 3 2) ∧ Int32.toInt (M11_.1 3 2) ≤ 3 := (by rw [e23_]; exact hc3_2)
  refine pw_callGd hT (as := [pvR 3, pvI 0, pvI 2, pvI n3, pvI (0 + 1)]) (lo1 := [some (pvR 3), some (pvI 0), some (pvI 2), some (pvI n3), some (pvI (0 + 1)), none, none]) (d1 := (d - 1)) (rest := []) rfl rfl rfl rfl rfl (fun h => absurd h (by decide)) (show 1 ≤ d by omega) rfl rfl rfl (se_X0_run_3_0_2_x_1_3 M11_ o13_ n3 (zr_wide b16_ (by decide) (by decide)) b24_ (d - 1) (by omega)) (fun x28_ M29_ b30_ o31_ g32_ d27_ => ?_)
  have d25_ := d27_.1
  have d26_ := d27_.2
  have f33_ : pvFr fp_eX0_run_3_3_2_x_0_3 M M29_ := pvfr_t g32_ f15_ fp_eX0_run_3_3_2_x_0_3_fp_eX0_run_3_0_2_x_1_3
  have b34_ : 0 ≤ Int32.toInt (M29_.1 3 1) ∧ Int32.toInt (M29_.1 3 1) ≤ 997 := (by have u0 := b16_; have u1 := d25_; have u2 := pvok_r o31_ 3 1 (lo := 0) (hi := 1000000) rfl; omega)
  have u35_ : Int32.toInt 0 = 0 := by decide
  have u36_ : Int32.toInt 2 = 2 := by decide
  have u37_ : Int32.toInt (0 + 1) = 1 := by decide
  obtain ⟨b38_, d39_⟩ := b30_
  subst d39_
  have e40_ : (((n3 + (M11_.1 3 4)) - (M11_.1 3 3)) * 2) = (((n3 + (M.1 3 4)) - (M.1 3 3)) * 2) := (show (((n3 + (M11_.1 3 4)) - (M11_.1 3 3)) * 2) = (((n3 + (M.1 3 4)) - (M.1 3 3)) * 2) from by rw [(g14_ 3 4 rfl), (g14_ 3 3 rfl)])
  refine pw_eqI e40_ ?_
  have e41_ : (M29_.1 3 2) = (M11_.1 3 2) := (g32_ 3 2 rfl)
  have b42_ : 3 ≤ Int32.toInt (M29_.1 3 2) ∧ Int32.toInt (M29_.1 3 2) ≤ 3 := (by rw [e41_]; exact b24_)
  refine pw_blk hT 3 (S' := (207, [some (pvR 3), some (pvI 3), some (pvI 2), some (pvI n3), some (pvI 0), some (pvI 40), some (pvI (0 + 1))], [pvI (M29_.1 3 2), pvR 3, pvI (((n3 + (M.1 3 4)) - (M.1 3 3)) * 2)], M29_)) rfl ⟨trivial, trivial, rfl, trivial⟩ ?_
  refine pw_eqI ((zi_eq _ (3)).mpr (by have u0 := b42_; have u1 : Int32.toInt (3) = 3 := (by decide); omega)) ?_
  refine pw_blk hT 3 (S' := (211, [some (pvR 3), some (pvI 3), some (pvI 2), some (pvI n3), some (pvI 0), some (pvI 40), some (pvI (0 + 1))], [pvI (0 + 1), pvI 1, pvI 1, pvI 3, pvR 3, pvI (((n3 + (M.1 3 4)) - (M.1 3 3)) * 2)], M29_)) rfl ⟨trivial, trivial, trivial, trivial⟩ ?_
  refine pw_callGd hT (as := [pvR 3, pvI 3, pvI 1, pvI 1, pvI (0 + 1)]) (lo1 := [some (pvR 3), some (pvI 3), some (pvI 1), some (pvI 1), some (pvI (0 + 1)), none, none]) (d1 := (d - 1)) (rest := [pvI (((n3 + (M.1 3 4)) - (M.1 3 3)) * 2)]) rfl rfl rfl rfl rfl (fun h => absurd h (by decide)) (show 1 ≤ d by omega) rfl rfl rfl (se_X0_run_3_3_1_x_1_3 M29_ o31_ 1 b34_ b42_ (d - 1) (by omega)) (fun x46_ M47_ b48_ o49_ g50_ d45_ => ?_)
  have d43_ := d45_.1
  have d44_ := d45_.2
  have f51_ : pvFr fp_eX0_run_3_3_2_x_0_3 M M47_ := pvfr_t g50_ f33_ fp_eX0_run_3_3_2_x_0_3_fp_eX0_run_3_3_1_x_1_3
  have b52_ : 0 ≤ Int32.toInt (M47_.1 3 1) ∧ Int32.toInt (M47_.1 3 1) ≤ 999 := (by have u0 := b34_; have u1 := d43_; have u2 := pvok_r o49_ 3 1 (lo := 0) (hi := 1000000) rfl; omega)
  have u53_ : Int32.toInt 3 = 3 := by decide
  have u54_ : Int32.toInt 1 = 1 := by decide
  obtain ⟨b55_, d56_⟩ := b48_
  subst d56_
  have e57_ : ((1 + (M29_.1 3 4)) - (M29_.1 3 3)) = ((1 + (M.1 3 4)) - (M.1 3 3)) := (show ((1 + (M29_.1 3 4)) - (M29_.1 3 3)) = ((1 + (M.1 3 4)) - (M.1 3 3)) from by rw [((g32_ 3 4 rfl).trans (g14_ 3 4 rfl)), ((g32_ 3 3 rfl).trans (g14_ 3 3 rfl))])
  refine pw_eqI e57_ ?_
  refine pw_blk hT 1 (S' := (215, [some (pvR 3), some (pvI 3), some (pvI 2), some (pvI n3), some (pvI 0), some (pvI 40), some (pvI (0 + 1))], [pvI ((((n3 + (M.1 3 4)) - (M.1 3 3)) * 2) + ((1 + (M.1 3 4)) - (M.1 3 3)))], M47_)) rfl ⟨trivial, trivial⟩ ?_
  exact pw_ret hT rfl (r := some (pvI ((((n3 + (M.1 3 4)) - (M.1 3 3)) * 2) + ((1 + (M.1 3 4)) - (M.1 3 3))))) (M' := M47_) ⟨rfl, rfl⟩ ⟨⟨_, rfl, trivial, rfl⟩, o49_, f51_, (by omega), (zTr_c (pvok_r hok 3 1 rfl).1 (zTr_c (pvok_r hok 3 1 rfl).1 (zTr_c0 (pvok_r hok 3 1 rfl).1 (zTr_0 3 1 4 M) d8_) d26_) d44_)⟩
def fpL_eX0_run_3_1_0_x_1_4 : List (Nat × Nat × Nat) := [(0, 3, 2), (0, 4, 0)]
def fp_eX0_run_3_1_0_x_1_4 (q k : Nat) : Bool := pvfp fpL_eX0_run_3_1_0_x_1_4 q k
theorem fp_eX0_run_3_1_0_x_1_4_fp_eX0_note_3_x (a b : Nat) (h : fp_eX0_note_3_x a b = true) : fp_eX0_run_3_1_0_x_1_4 a b = true := pvfp_sub (l1 := fpL_eX0_note_3_x) (l2 := fpL_eX0_run_3_1_0_x_1_4) (by decide) a b h
set_option maxHeartbeats 4000000 in
set_option maxRecDepth 10000 in
theorem se_X0_run_3_1_0_x_1_4 (M : pvM) (hok : pvOk M) (n3 : Int32) (hc3_1 : 0 ≤ Int32.toInt (M.1 3 1) ∧ Int32.toInt (M.1 3 1) ≤ 998) (hc3_2 : 4 ≤ Int32.toInt (M.1 3 2) ∧ Int32.toInt (M.1 3 2) ≤ 4) (d : Nat) : PW 4 d (0, [some (pvR 3), some (pvI 1), some (pvI 0), some (pvI n3), some (pvI 1), none, none], [], M) (fun r X => (∃ x : Int32, r = some (pvI x) ∧ True ∧ x = (n3 + (M.1 3 4))) ∧ pvOk X ∧ pvFr fp_eX0_run_3_1_0_x_1_4 M X ∧ Int32.toInt (X.1 3 1) ≤ Int32.toInt (M.1 3 1) + 1 ∧ zTr 3 1 4 ([10] : List Int32) M X) := by
  have hT : pvdom 4 = pvD_4 := rfl
  refine pw_blk hT 2 (S' := (4, [some (pvR 3), some (pvI 1), some (pvI 0), some (pvI n3), some (pvI 1), none, none], [pvI 40, pvI 1], M)) rfl ⟨trivial, trivial, trivial⟩ ?_
  refine pw_ic hT (c := 1 ≤ 40) rfl rfl (fun c1_ => ?_) (fun c1_ => absurd (by decide) c1_)
  refine pw_blk hT 2 (S' := (11, [some (pvR 3), some (pvI 1), some (pvI 0), some (pvI n3), some (pvI 1), none, none], [pvI 0, pvI 1], M)) rfl ⟨trivial, trivial, trivial⟩ ?_
  refine pw_callT hT (as := [pvI 1, pvI 0]) (lo1 := [some (pvI 1), some (pvI 0), none, none, none]) (d1 := d) (rest := []) rfl rfl rfl rfl rfl (fun h => absurd h (by decide)) (Nat.zero_le _) rfl rfl rfl (sf_X0_bodyFrom_1_0 M hok d) ?_
  refine pw_eqI (show ((pvstab 1041).getD (Int32.toNatClampNeg ((0 * 3) + 0)) 0) = 10 from by decide) ?_
  show PW 4 d (14, [some (pvR 3), some (pvI 1), some (pvI 0), some (pvI n3), some (pvI 1), none, none], [pvI 10], M) _
  refine pw_blk hT 7 (S' := (25, [some (pvR 3), some (pvI 1), some (pvI 0), some (pvI n3), some (pvI 1), some (pvI 10), some (pvI (1 + 1))], [pvI 10, pvR 3], M)) rfl ⟨trivial, trivial, trivial, trivial, trivial, trivial, trivial, trivial⟩ ?_
  refine pw_callVd hT (as := [pvR 3, pvI 10]) (lo1 := [some (pvR 3), some (pvI 10)]) (d1 := d) (rest := []) rfl rfl rfl rfl rfl (fun _ => rfl) (Nat.zero_le _) rfl rfl rfl (se_X0_note_3_x M hok 10 (zr_wide (show 10 ≤ Int32.toInt 10 ∧ Int32.toInt 10 ≤ 10 from (by decide)) (by decide) (by decide)) (zr_wide hc3_1 (by decide) (by decide)) d) (fun M11_ o13_ g14_ d9_ => ?_)
  have d7_ := d9_.1
  have d8_ := d9_.2
  have f15_ : pvFr fp_eX0_run_3_1_0_x_1_4 M M11_ := pvfr_t g14_ pvfr_0 fp_eX0_run_3_1_0_x_1_4_fp_eX0_note_3_x
  have b16_ : 0 ≤ Int32.toInt (M11_.1 3 1) ∧ Int32.toInt (M11_.1 3 1) ≤ 999 := (by have u0 := hc3_1; have u1 := d7_; have u2 := pvok_r o13_ 3 1 (lo := 0) (hi := 1000000) rfl; omega)
  refine pw_blk hT 1 (S' := (30, [some (pvR 3), some (pvI 1), some (pvI 0), some (pvI n3), some (pvI 1), some (pvI 10), some (pvI (1 + 1))], [pvI 10], M11_)) rfl ⟨trivial, trivial⟩ ?_
  refine pw_sw hT rfl rfl ?_
  refine And.intro (fun c17_ => ?_) (fun c17_ => absurd (by decide) c17_)
  show PW 4 d (128, [some (pvR 3), some (pvI 1), some (pvI 0), some (pvI n3), some (pvI 1), some (pvI 10), some (pvI (1 + 1))], [], M11_) _
  refine pw_blk hT 3 (S' := (133, [some (pvR 3), some (pvI 1), some (pvI 0), some (pvI n3), some (pvI 1), some (pvI 10), some (pvI (1 + 1))], [pvI (M11_.1 3 4), pvI n3], M11_)) rfl ⟨trivial, trivial, rfl, trivial⟩ ?_
  have e18_ : (M11_.1 3 4) = (M.1 3 4) := (g14_ 3 4 rfl)
  refine pw_eqI e18_ ?_
  refine pw_blk hT 1 (S' := (134, [some (pvR 3), some (pvI 1), some (pvI 0), some (pvI n3), some (pvI 1), some (pvI 10), some (pvI (1 + 1))], [pvI (n3 + (M.1 3 4))], M11_)) rfl ⟨trivial, trivial⟩ ?_
  exact pw_ret hT rfl (r := some (pvI (n3 + (M.1 3 4)))) (M' := M11_) ⟨rfl, rfl⟩ ⟨⟨_, rfl, trivial, rfl⟩, o13_, f15_, (by omega), (zTr_c0 (pvok_r hok 3 1 rfl).1 (zTr_0 3 1 4 M) d8_)⟩
