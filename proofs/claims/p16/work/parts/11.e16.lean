def fpL_eX0_run_3_4_0_x_0_4 : List (Nat × Nat × Nat) := [(0, 3, 2), (0, 4, 0)]
def fp_eX0_run_3_4_0_x_0_4 (q k : Nat) : Bool := pvfp fpL_eX0_run_3_4_0_x_0_4 q k
theorem fp_eX0_run_3_4_0_x_0_4_fp_eX0_note_3_x (a b : Nat) (h : fp_eX0_note_3_x a b = true) : fp_eX0_run_3_4_0_x_0_4 a b = true := pvfp_sub (l1 := fpL_eX0_note_3_x) (l2 := fpL_eX0_run_3_4_0_x_0_4) (by decide) a b h
theorem fp_eX0_run_3_4_0_x_0_4_fp_eX0_run_3_1_0_x_1_4 (a b : Nat) (h : fp_eX0_run_3_1_0_x_1_4 a b = true) : fp_eX0_run_3_4_0_x_0_4 a b = true := pvfp_sub (l1 := fpL_eX0_run_3_1_0_x_1_4) (l2 := fpL_eX0_run_3_4_0_x_0_4) (by decide) a b h
set_option maxHeartbeats 4000000 in
set_option maxRecDepth 10000 in
theorem se_X0_run_3_4_0_x_0_4 (M : pvM) (hok : pvOk M) (n3 : Int32) (hc3_1 : 0 ≤ Int32.toInt (M.1 3 1) ∧ Int32.toInt (M.1 3 1) ≤ 997) (hc3_2 : 4 ≤ Int32.toInt (M.1 3 2) ∧ Int32.toInt (M.1 3 2) ≤ 4) (d : Nat) (hd : 1 ≤ d) : PW 4 d (0, [some (pvR 3), some (pvI 4), some (pvI 0), some (pvI n3), some (pvI 0), none, none], [], M) (fun r X => (∃ x : Int32, r = some (pvI x) ∧ True ∧ x = (-(n3 + (M.1 3 4)))) ∧ pvOk X ∧ pvFr fp_eX0_run_3_4_0_x_0_4 M X ∧ Int32.toInt (X.1 3 1) ≤ Int32.toInt (M.1 3 1) + 2 ∧ zTr 3 1 4 (([50] : List Int32) ++ ([10] : List Int32)) M X) := by
  have hT : pvdom 4 = pvD_4 := rfl
  refine pw_blk hT 2 (S' := (4, [some (pvR 3), some (pvI 4), some (pvI 0), some (pvI n3), some (pvI 0), none, none], [pvI 40, pvI 0], M)) rfl ⟨trivial, trivial, trivial⟩ ?_
  refine pw_ic hT (c := 0 ≤ 40) rfl rfl (fun c1_ => ?_) (fun c1_ => absurd (by decide) c1_)
  refine pw_blk hT 2 (S' := (11, [some (pvR 3), some (pvI 4), some (pvI 0), some (pvI n3), some (pvI 0), none, none], [pvI 0, pvI 4], M)) rfl ⟨trivial, trivial, trivial⟩ ?_
  refine pw_callT hT (as := [pvI 4, pvI 0]) (lo1 := [some (pvI 4), some (pvI 0), none, none, none]) (d1 := d) (rest := []) rfl rfl rfl rfl rfl (fun h => absurd h (by decide)) (Nat.zero_le _) rfl rfl rfl (sf_X0_bodyFrom_4_0 M hok d) ?_
  refine pw_eqI (show ((pvstab 1041).getD (Int32.toNatClampNeg ((4 * 3) + 0)) 0) = 50 from by decide) ?_
  show PW 4 d (14, [some (pvR 3), some (pvI 4), some (pvI 0), some (pvI n3), some (pvI 0), none, none], [pvI 50], M) _
  refine pw_blk hT 7 (S' := (25, [some (pvR 3), some (pvI 4), some (pvI 0), some (pvI n3), some (pvI 0), some (pvI 50), some (pvI (0 + 1))], [pvI 50, pvR 3], M)) rfl ⟨trivial, trivial, trivial, trivial, trivial, trivial, trivial, trivial⟩ ?_
  refine pw_callVd hT (as := [pvR 3, pvI 50]) (lo1 := [some (pvR 3), some (pvI 50)]) (d1 := d) (rest := []) rfl rfl rfl rfl rfl (fun _ => rfl) (Nat.zero_le _) rfl rfl rfl (se_X0_note_3_x M hok 50 (zr_wide (show 50 ≤ Int32.toInt 50 ∧ Int32.toInt 50 ≤ 50 from (by decide)) (by decide) (by decide)) (zr_wide hc3_1 (by decide) (by decide)) d) (fun M11_ o13_ g14_ d9_ => ?_)
  have d7_ := d9_.1
  have d8_ := d9_.2
  have f15_ : pvFr fp_eX0_run_3_4_0_x_0_4 M M11_ := pvfr_t g14_ pvfr_0 fp_eX0_run_3_4_0_x_0_4_fp_eX0_note_3_x
  have b16_ : 0 ≤ Int32.toInt (M11_.1 3 1) ∧ Int32.toInt (M11_.1 3 1) ≤ 998 := (by have u0 := hc3_1; have u1 := d7_; have u2 := pvok_r o13_ 3 1 (lo := 0) (hi := 1000000) rfl; omega)
  refine pw_blk hT 1 (S' := (30, [some (pvR 3), some (pvI 4), some (pvI 0), some (pvI n3), some (pvI 0), some (pvI 50), some (pvI (0 + 1))], [pvI 50], M11_)) rfl ⟨trivial, trivial⟩ ?_
  refine pw_sw hT rfl rfl ?_
  refine And.intro (fun c17_ => absurd c17_ (by decide)) (fun c17_ => ?_)
  refine And.intro (fun c18_ => absurd c18_ (by decide)) (fun c18_ => ?_)
  refine And.intro (fun c19_ => absurd c19_ (by decide)) (fun c19_ => ?_)
  refine And.intro (fun c20_ => absurd c20_ (by decide)) (fun c20_ => ?_)
  refine And.intro (fun c21_ => absurd c21_ (by decide)) (fun c21_ => ?_)
  refine And.intro (fun c22_ => absurd c22_ (by decide)) (fun c22_ => ?_)
  refine And.intro (fun c23_ => ?_) (fun c23_ => absurd (by decide) c23_)
  show PW 4 d (216, [some (pvR 3), some (pvI 4), some (pvI 0), some (pvI n3), some (pvI 0), some (pvI 50), some (pvI (0 + 1))], [], M11_) _
  refine pw_blk hT 5 (S' := (222, [some (pvR 3), some (pvI 4), some (pvI 0), some (pvI n3), some (pvI 0), some (pvI 50), some (pvI (0 + 1))], [pvI (0 + 1), pvI n3, pvI 0, pvI 1, pvR 3], M11_)) rfl ⟨trivial, trivial, trivial, trivial, trivial, trivial⟩ ?_
  have e24_ : (M11_.1 3 2) = (M.1 3 2) := (g14_ 3 2 rfl)
  have b25_ : 4 ≤ Int32.toInt (M11_.1 3 2) ∧ Int32.toInt (M11_.1 3 2) ≤ 4 := (by rw [e24_]; exact hc3_2)
  refine pw_callGd hT (as := [pvR 3, pvI 1, pvI 0, pvI n3, pvI (0 + 1)]) (lo1 := [some (pvR 3), some (pvI 1), some (pvI 0), some (pvI n3), some (pvI (0 + 1)), none, none]) (d1 := (d - 1)) (rest := []) rfl rfl rfl rfl rfl (fun h => absurd h (by decide)) (show 1 ≤ d by omega) rfl rfl rfl (se_X0_run_3_1_0_x_1_4 M11_ o13_ n3 b16_ b25_ (d - 1)) (fun x29_ M30_ b31_ o32_ g33_ d28_ => ?_)
  have d26_ := d28_.1
  have d27_ := d28_.2
  have f34_ : pvFr fp_eX0_run_3_4_0_x_0_4 M M30_ := pvfr_t g33_ f15_ fp_eX0_run_3_4_0_x_0_4_fp_eX0_run_3_1_0_x_1_4
  have b35_ : 0 ≤ Int32.toInt (M30_.1 3 1) ∧ Int32.toInt (M30_.1 3 1) ≤ 999 := (by have u0 := b16_; have u1 := d26_; have u2 := pvok_r o32_ 3 1 (lo := 0) (hi := 1000000) rfl; omega)
  have u36_ : Int32.toInt 1 = 1 := by decide
  have u37_ : Int32.toInt 0 = 0 := by decide
  have u38_ : Int32.toInt (0 + 1) = 1 := by decide
  obtain ⟨b39_, d40_⟩ := b31_
  subst d40_
  have e41_ : (n3 + (M11_.1 3 4)) = (n3 + (M.1 3 4)) := (show (n3 + (M11_.1 3 4)) = (n3 + (M.1 3 4)) from by rw [(g14_ 3 4 rfl)])
  refine pw_eqI e41_ ?_
  refine pw_blk hT 1 (S' := (226, [some (pvR 3), some (pvI 4), some (pvI 0), some (pvI n3), some (pvI 0), some (pvI 50), some (pvI (0 + 1))], [pvI (-(n3 + (M.1 3 4)))], M30_)) rfl ⟨trivial, trivial⟩ ?_
  exact pw_ret hT rfl (r := some (pvI (-(n3 + (M.1 3 4))))) (M' := M30_) ⟨rfl, rfl⟩ ⟨⟨_, rfl, trivial, rfl⟩, o32_, f34_, (by omega), (zTr_c (pvok_r hok 3 1 rfl).1 (zTr_c0 (pvok_r hok 3 1 rfl).1 (zTr_0 3 1 4 M) d8_) d27_)⟩
def fpL_eX0_run_3_1_0_x_4_4 : List (Nat × Nat × Nat) := [(0, 3, 2), (0, 4, 0)]
def fp_eX0_run_3_1_0_x_4_4 (q k : Nat) : Bool := pvfp fpL_eX0_run_3_1_0_x_4_4 q k
theorem fp_eX0_run_3_1_0_x_4_4_fp_eX0_note_3_x (a b : Nat) (h : fp_eX0_note_3_x a b = true) : fp_eX0_run_3_1_0_x_4_4 a b = true := pvfp_sub (l1 := fpL_eX0_note_3_x) (l2 := fpL_eX0_run_3_1_0_x_4_4) (by decide) a b h
set_option maxHeartbeats 4000000 in
set_option maxRecDepth 10000 in
theorem se_X0_run_3_1_0_x_4_4 (M : pvM) (hok : pvOk M) (n3 : Int32) (hc3_1 : 0 ≤ Int32.toInt (M.1 3 1) ∧ Int32.toInt (M.1 3 1) ≤ 998) (hc3_2 : 4 ≤ Int32.toInt (M.1 3 2) ∧ Int32.toInt (M.1 3 2) ≤ 4) (d : Nat) : PW 4 d (0, [some (pvR 3), some (pvI 1), some (pvI 0), some (pvI n3), some (pvI 4), none, none], [], M) (fun r X => (∃ x : Int32, r = some (pvI x) ∧ True ∧ x = (n3 + (M.1 3 4))) ∧ pvOk X ∧ pvFr fp_eX0_run_3_1_0_x_4_4 M X ∧ Int32.toInt (X.1 3 1) ≤ Int32.toInt (M.1 3 1) + 1 ∧ zTr 3 1 4 ([10] : List Int32) M X) := by
  have hT : pvdom 4 = pvD_4 := rfl
  refine pw_blk hT 2 (S' := (4, [some (pvR 3), some (pvI 1), some (pvI 0), some (pvI n3), some (pvI 4), none, none], [pvI 40, pvI 4], M)) rfl ⟨trivial, trivial, trivial⟩ ?_
  refine pw_ic hT (c := 4 ≤ 40) rfl rfl (fun c1_ => ?_) (fun c1_ => absurd (by decide) c1_)
  refine pw_blk hT 2 (S' := (11, [some (pvR 3), some (pvI 1), some (pvI 0), some (pvI n3), some (pvI 4), none, none], [pvI 0, pvI 1], M)) rfl ⟨trivial, trivial, trivial⟩ ?_
  refine pw_callT hT (as := [pvI 1, pvI 0]) (lo1 := [some (pvI 1), some (pvI 0), none, none, none]) (d1 := d) (rest := []) rfl rfl rfl rfl rfl (fun h => absurd h (by decide)) (Nat.zero_le _) rfl rfl rfl (sf_X0_bodyFrom_1_0 M hok d) ?_
  refine pw_eqI (show ((pvstab 1041).getD (Int32.toNatClampNeg ((0 * 3) + 0)) 0) = 10 from by decide) ?_
  show PW 4 d (14, [some (pvR 3), some (pvI 1), some (pvI 0), some (pvI n3), some (pvI 4), none, none], [pvI 10], M) _
  refine pw_blk hT 7 (S' := (25, [some (pvR 3), some (pvI 1), some (pvI 0), some (pvI n3), some (pvI 4), some (pvI 10), some (pvI (4 + 1))], [pvI 10, pvR 3], M)) rfl ⟨trivial, trivial, trivial, trivial, trivial, trivial, trivial, trivial⟩ ?_
  refine pw_callVd hT (as := [pvR 3, pvI 10]) (lo1 := [some (pvR 3), some (pvI 10)]) (d1 := d) (rest := []) rfl rfl rfl rfl rfl (fun _ => rfl) (Nat.zero_le _) rfl rfl rfl (se_X0_note_3_x M hok 10 (zr_wide (show 10 ≤ Int32.toInt 10 ∧ Int32.toInt 10 ≤ 10 from (by decide)) (by decide) (by decide)) (zr_wide hc3_1 (by decide) (by decide)) d) (fun M11_ o13_ g14_ d9_ => ?_)
  have d7_ := d9_.1
  have d8_ := d9_.2
  have f15_ : pvFr fp_eX0_run_3_1_0_x_4_4 M M11_ := pvfr_t g14_ pvfr_0 fp_eX0_run_3_1_0_x_4_4_fp_eX0_note_3_x
  have b16_ : 0 ≤ Int32.toInt (M11_.1 3 1) ∧ Int32.toInt (M11_.1 3 1) ≤ 999 := (by have u0 := hc3_1; have u1 := d7_; have u2 := pvok_r o13_ 3 1 (lo := 0) (hi := 1000000) rfl; omega)
  refine pw_blk hT 1 (S' := (30, [some (pvR 3), some (pvI 1), some (pvI 0), some (pvI n3), some (pvI 4), some (pvI 10), some (pvI (4 + 1))], [pvI 10], M11_)) rfl ⟨trivial, trivial⟩ ?_
  refine pw_sw hT rfl rfl ?_
  refine And.intro (fun c17_ => ?_) (fun c17_ => absurd (by decide) c17_)
  show PW 4 d (128, [some (pvR 3), some (pvI 1), some (pvI 0), some (pvI n3), some (pvI 4), some (pvI 10), some (pvI (4 + 1))], [], M11_) _
  refine pw_blk hT 3 (S' := (133, [some (pvR 3), some (pvI 1), some (pvI 0), some (pvI n3), some (pvI 4), some (pvI 10), some (pvI (4 + 1))], [pvI (M11_.1 3 4), pvI n3], M11_)) rfl ⟨trivial, trivial, rfl, trivial⟩ ?_
  have e18_ : (M11_.1 3 4) = (M.1 3 4) := (g14_ 3 4 rfl)
  refine pw_eqI e18_ ?_
  refine pw_blk hT 1 (S' := (134, [some (pvR 3), some (pvI 1), some (pvI 0), some (pvI n3), some (pvI 4), some (pvI 10), some (pvI (4 + 1))], [pvI (n3 + (M.1 3 4))], M11_)) rfl ⟨trivial, trivial⟩ ?_
  exact pw_ret hT rfl (r := some (pvI (n3 + (M.1 3 4)))) (M' := M11_) ⟨rfl, rfl⟩ ⟨⟨_, rfl, trivial, rfl⟩, o13_, f15_, (by omega), (zTr_c0 (pvok_r hok 3 1 rfl).1 (zTr_0 3 1 4 M) d8_)⟩
def fpL_eX0_run_3_4_0_x_3_4 : List (Nat × Nat × Nat) := [(0, 3, 2), (0, 4, 0)]
def fp_eX0_run_3_4_0_x_3_4 (q k : Nat) : Bool := pvfp fpL_eX0_run_3_4_0_x_3_4 q k
theorem fp_eX0_run_3_4_0_x_3_4_fp_eX0_note_3_x (a b : Nat) (h : fp_eX0_note_3_x a b = true) : fp_eX0_run_3_4_0_x_3_4 a b = true := pvfp_sub (l1 := fpL_eX0_note_3_x) (l2 := fpL_eX0_run_3_4_0_x_3_4) (by decide) a b h
theorem fp_eX0_run_3_4_0_x_3_4_fp_eX0_run_3_1_0_x_4_4 (a b : Nat) (h : fp_eX0_run_3_1_0_x_4_4 a b = true) : fp_eX0_run_3_4_0_x_3_4 a b = true := pvfp_sub (l1 := fpL_eX0_run_3_1_0_x_4_4) (l2 := fpL_eX0_run_3_4_0_x_3_4) (by decide) a b h
set_option maxHeartbeats 4000000 in
set_option maxRecDepth 10000 in
theorem se_X0_run_3_4_0_x_3_4 (M : pvM) (hok : pvOk M) (n3 : Int32) (hc3_1 : 0 ≤ Int32.toInt (M.1 3 1) ∧ Int32.toInt (M.1 3 1) ≤ 997) (hc3_2 : 4 ≤ Int32.toInt (M.1 3 2) ∧ Int32.toInt (M.1 3 2) ≤ 4) (d : Nat) (hd : 1 ≤ d) : PW 4 d (0, [some (pvR 3), some (pvI 4), some (pvI 0), some (pvI n3), some (pvI 3), none, none], [], M) (fun r X => (∃ x : Int32, r = some (pvI x) ∧ True ∧ x = (-(n3 + (M.1 3 4)))) ∧ pvOk X ∧ pvFr fp_eX0_run_3_4_0_x_3_4 M X ∧ Int32.toInt (X.1 3 1) ≤ Int32.toInt (M.1 3 1) + 2 ∧ zTr 3 1 4 (([50] : List Int32) ++ ([10] : List Int32)) M X) := by
  have hT : pvdom 4 = pvD_4 := rfl
  refine pw_blk hT 2 (S' := (4, [some (pvR 3), some (pvI 4), some (pvI 0), some (pvI n3), some (pvI 3), none, none], [pvI 40, pvI 3], M)) rfl ⟨trivial, trivial, trivial⟩ ?_
  refine pw_ic hT (c := 3 ≤ 40) rfl rfl (fun c1_ => ?_) (fun c1_ => absurd (by decide) c1_)
  refine pw_blk hT 2 (S' := (11, [some (pvR 3), some (pvI 4), some (pvI 0), some (pvI n3), some (pvI 3), none, none], [pvI 0, pvI 4], M)) rfl ⟨trivial, trivial, trivial⟩ ?_
  refine pw_callT hT (as := [pvI 4, pvI 0]) (lo1 := [some (pvI 4), some (pvI 0), none, none, none]) (d1 := d) (rest := []) rfl rfl rfl rfl rfl (fun h => absurd h (by decide)) (Nat.zero_le _) rfl rfl rfl (sf_X0_bodyFrom_4_0 M hok d) ?_
  refine pw_eqI (show ((pvstab 1041).getD (Int32.toNatClampNeg ((4 * 3) + 0)) 0) = 50 from by decide) ?_
  show PW 4 d (14, [some (pvR 3), some (pvI 4), some (pvI 0), some (pvI n3), some (pvI 3), none, none], [pvI 50], M) _
  refine pw_blk hT 7 (S' := (25, [some (pvR 3), some (pvI 4), some (pvI 0), some (pvI n3), some (pvI 3), some (pvI 50), some (pvI (3 + 1))], [pvI 50, pvR 3], M)) rfl ⟨trivial, trivial, trivial, trivial, trivial, trivial, trivial, trivial⟩ ?_
  refine pw_callVd hT (as := [pvR 3, pvI 50]) (lo1 := [some (pvR 3), some (pvI 50)]) (d1 := d) (rest := []) rfl rfl rfl rfl rfl (fun _ => rfl) (Nat.zero_le _) rfl rfl rfl (se_X0_note_3_x M hok 50 (zr_wide (show 50 ≤ Int32.toInt 50 ∧ Int32.toInt 50 ≤ 50 from (by decide)) (by decide) (by decide)) (zr_wide hc3_1 (by decide) (by decide)) d) (fun M11_ o13_ g14_ d9_ => ?_)
  have d7_ := d9_.1
  have d8_ := d9_.2
  have f15_ : pvFr fp_eX0_run_3_4_0_x_3_4 M M11_ := pvfr_t g14_ pvfr_0 fp_eX0_run_3_4_0_x_3_4_fp_eX0_note_3_x
  have b16_ : 0 ≤ Int32.toInt (M11_.1 3 1) ∧ Int32.toInt (M11_.1 3 1) ≤ 998 := (by have u0 := hc3_1; have u1 := d7_; have u2 := pvok_r o13_ 3 1 (lo := 0) (hi := 1000000) rfl; omega)
  refine pw_blk hT 1 (S' := (30, [some (pvR 3), some (pvI 4), some (pvI 0), some (pvI n3), some (pvI 3), some (pvI 50), some (pvI (3 + 1))], [pvI 50], M11_)) rfl ⟨trivial, trivial⟩ ?_
  refine pw_sw hT rfl rfl ?_
  refine And.intro (fun c17_ => absurd c17_ (by decide)) (fun c17_ => ?_)
  refine And.intro (fun c18_ => absurd c18_ (by decide)) (fun c18_ => ?_)
  refine And.intro (fun c19_ => absurd c19_ (by decide)) (fun c19_ => ?_)
  refine And.intro (fun c20_ => absurd c20_ (by decide)) (fun c20_ => ?_)
  refine And.intro (fun c21_ => absurd c21_ (by decide)) (fun c21_ => ?_)
  refine And.intro (fun c22_ => absurd c22_ (by decide)) (fun c22_ => ?_)
  refine And.intro (fun c23_ => ?_) (fun c23_ => absurd (by decide) c23_)
  show PW 4 d (216, [some (pvR 3), some (pvI 4), some (pvI 0), some (pvI n3), some (pvI 3), some (pvI 50), some (pvI (3 + 1))], [], M11_) _
  refine pw_blk hT 5 (S' := (222, [some (pvR 3), some (pvI 4), some (pvI 0), some (pvI n3), some (pvI 3), some (pvI 50), some (pvI (3 + 1))], [pvI (3 + 1), pvI n3, pvI 0, pvI 1, pvR 3], M11_)) rfl ⟨trivial, trivial, trivial, trivial, trivial, trivial⟩ ?_
  have e24_ : (M11_.1 3 2) = (M.1 3 2) := (g14_ 3 2 rfl)
  have b25_ : 4 ≤ Int32.toInt (M11_.1 3 2) ∧ Int32.toInt (M11_.1 3 2) ≤ 4 := (by rw [e24_]; exact hc3_2)
  refine pw_callGd hT (as := [pvR 3, pvI 1, pvI 0, pvI n3, pvI (3 + 1)]) (lo1 := [some (pvR 3), some (pvI 1), some (pvI 0), some (pvI n3), some (pvI (3 + 1)), none, none]) (d1 := (d - 1)) (rest := []) rfl rfl rfl rfl rfl (fun h => absurd h (by decide)) (show 1 ≤ d by omega) rfl rfl rfl (se_X0_run_3_1_0_x_4_4 M11_ o13_ n3 b16_ b25_ (d - 1)) (fun x29_ M30_ b31_ o32_ g33_ d28_ => ?_)
  have d26_ := d28_.1
  have d27_ := d28_.2
  have f34_ : pvFr fp_eX0_run_3_4_0_x_3_4 M M30_ := pvfr_t g33_ f15_ fp_eX0_run_3_4_0_x_3_4_fp_eX0_run_3_1_0_x_4_4
  have b35_ : 0 ≤ Int32.toInt (M30_.1 3 1) ∧ Int32.toInt (M30_.1 3 1) ≤ 999 := (by have u0 := b16_; have u1 := d26_; have u2 := pvok_r o32_ 3 1 (lo := 0) (hi := 1000000) rfl; omega)
  have u36_ : Int32.toInt 1 = 1 := by decide
  have u37_ : Int32.toInt 0 = 0 := by decide
  have u38_ : Int32.toInt (3 + 1) = 4 := by decide
  obtain ⟨b39_, d40_⟩ := b31_
  subst d40_
  have e41_ : (n3 + (M11_.1 3 4)) = (n3 + (M.1 3 4)) := (show (n3 + (M11_.1 3 4)) = (n3 + (M.1 3 4)) from by rw [(g14_ 3 4 rfl)])
  refine pw_eqI e41_ ?_
  refine pw_blk hT 1 (S' := (226, [some (pvR 3), some (pvI 4), some (pvI 0), some (pvI n3), some (pvI 3), some (pvI 50), some (pvI (3 + 1))], [pvI (-(n3 + (M.1 3 4)))], M30_)) rfl ⟨trivial, trivial⟩ ?_
  exact pw_ret hT rfl (r := some (pvI (-(n3 + (M.1 3 4))))) (M' := M30_) ⟨rfl, rfl⟩ ⟨⟨_, rfl, trivial, rfl⟩, o32_, f34_, (by omega), (zTr_c (pvok_r hok 3 1 rfl).1 (zTr_c0 (pvok_r hok 3 1 rfl).1 (zTr_0 3 1 4 M) d8_) d27_)⟩
def fpL_eX0_run_3_0_1_x_2_4 : List (Nat × Nat × Nat) := [(0, 3, 2), (0, 4, 0)]
def fp_eX0_run_3_0_1_x_2_4 (q k : Nat) : Bool := pvfp fpL_eX0_run_3_0_1_x_2_4 q k
theorem fp_eX0_run_3_0_1_x_2_4_fp_eX0_note_3_x (a b : Nat) (h : fp_eX0_note_3_x a b = true) : fp_eX0_run_3_0_1_x_2_4 a b = true := pvfp_sub (l1 := fpL_eX0_note_3_x) (l2 := fpL_eX0_run_3_0_1_x_2_4) (by decide) a b h
theorem fp_eX0_run_3_0_1_x_2_4_fp_eX0_run_3_4_0_x_3_4 (a b : Nat) (h : fp_eX0_run_3_4_0_x_3_4 a b = true) : fp_eX0_run_3_0_1_x_2_4 a b = true := pvfp_sub (l1 := fpL_eX0_run_3_4_0_x_3_4) (l2 := fpL_eX0_run_3_0_1_x_2_4) (by decide) a b h
set_option maxHeartbeats 4000000 in
set_option maxRecDepth 10000 in
theorem se_X0_run_3_0_1_x_2_4 (M : pvM) (hok : pvOk M) (n3 : Int32) (hc3_1 : 0 ≤ Int32.toInt (M.1 3 1) ∧ Int32.toInt (M.1 3 1) ≤ 996) (hc3_2 : 4 ≤ Int32.toInt (M.1 3 2) ∧ Int32.toInt (M.1 3 2) ≤ 4) (d : Nat) (hd : 2 ≤ d) : PW 4 d (0, [some (pvR 3), some (pvI 0), some (pvI 1), some (pvI n3), some (pvI 2), none, none], [], M) (fun r X => (∃ x : Int32, r = some (pvI x) ∧ True ∧ x = ((-(n3 + (M.1 3 4))) - (M.1 3 3))) ∧ pvOk X ∧ pvFr fp_eX0_run_3_0_1_x_2_4 M X ∧ Int32.toInt (X.1 3 1) ≤ Int32.toInt (M.1 3 1) + 3 ∧ zTr 3 1 4 (([11] : List Int32) ++ (([50] : List Int32) ++ ([10] : List Int32))) M X) := by
  have hT : pvdom 4 = pvD_4 := rfl
  refine pw_blk hT 2 (S' := (4, [some (pvR 3), some (pvI 0), some (pvI 1), some (pvI n3), some (pvI 2), none, none], [pvI 40, pvI 2], M)) rfl ⟨trivial, trivial, trivial⟩ ?_
  refine pw_ic hT (c := 2 ≤ 40) rfl rfl (fun c1_ => ?_) (fun c1_ => absurd (by decide) c1_)
  refine pw_blk hT 2 (S' := (11, [some (pvR 3), some (pvI 0), some (pvI 1), some (pvI n3), some (pvI 2), none, none], [pvI 1, pvI 0], M)) rfl ⟨trivial, trivial, trivial⟩ ?_
  refine pw_callT hT (as := [pvI 0, pvI 1]) (lo1 := [some (pvI 0), some (pvI 1), none, none, none]) (d1 := d) (rest := []) rfl rfl rfl rfl rfl (fun h => absurd h (by decide)) (Nat.zero_le _) rfl rfl rfl (sf_X0_bodyFrom_0_1 M hok d) ?_
  refine pw_eqI (show ((pvstab 1041).getD (Int32.toNatClampNeg ((0 * 3) + 1)) 0) = 11 from by decide) ?_
  show PW 4 d (14, [some (pvR 3), some (pvI 0), some (pvI 1), some (pvI n3), some (pvI 2), none, none], [pvI 11], M) _
  refine pw_blk hT 7 (S' := (25, [some (pvR 3), some (pvI 0), some (pvI 1), some (pvI n3), some (pvI 2), some (pvI 11), some (pvI (2 + 1))], [pvI 11, pvR 3], M)) rfl ⟨trivial, trivial, trivial, trivial, trivial, trivial, trivial, trivial⟩ ?_
  refine pw_callVd hT (as := [pvR 3, pvI 11]) (lo1 := [some (pvR 3), some (pvI 11)]) (d1 := d) (rest := []) rfl rfl rfl rfl rfl (fun _ => rfl) (Nat.zero_le _) rfl rfl rfl (se_X0_note_3_x M hok 11 (zr_wide (show 11 ≤ Int32.toInt 11 ∧ Int32.toInt 11 ≤ 11 from (by decide)) (by decide) (by decide)) (zr_wide hc3_1 (by decide) (by decide)) d) (fun M11_ o13_ g14_ d9_ => ?_)
  have d7_ := d9_.1
  have d8_ := d9_.2
  have f15_ : pvFr fp_eX0_run_3_0_1_x_2_4 M M11_ := pvfr_t g14_ pvfr_0 fp_eX0_run_3_0_1_x_2_4_fp_eX0_note_3_x
  have b16_ : 0 ≤ Int32.toInt (M11_.1 3 1) ∧ Int32.toInt (M11_.1 3 1) ≤ 997 := (by have u0 := hc3_1; have u1 := d7_; have u2 := pvok_r o13_ 3 1 (lo := 0) (hi := 1000000) rfl; omega)
  refine pw_blk hT 1 (S' := (30, [some (pvR 3), some (pvI 0), some (pvI 1), some (pvI n3), some (pvI 2), some (pvI 11), some (pvI (2 + 1))], [pvI 11], M11_)) rfl ⟨trivial, trivial⟩ ?_
  refine pw_sw hT rfl rfl ?_
  refine And.intro (fun c17_ => absurd c17_ (by decide)) (fun c17_ => ?_)
  refine And.intro (fun c18_ => ?_) (fun c18_ => absurd (by decide) c18_)
  show PW 4 d (135, [some (pvR 3), some (pvI 0), some (pvI 1), some (pvI n3), some (pvI 2), some (pvI 11), some (pvI (2 + 1))], [], M11_) _
  have e19_ : (M11_.1 3 2) = (M.1 3 2) := (g14_ 3 2 rfl)
  have b20_ : 4 ≤ Int32.toInt (M11_.1 3 2) ∧ Int32.toInt (M11_.1 3 2) ≤ 4 := (by rw [e19_]; exact hc3_2)
  refine pw_blk hT 3 (S' := (140, [some (pvR 3), some (pvI 0), some (pvI 1), some (pvI n3), some (pvI 2), some (pvI 11), some (pvI (2 + 1))], [pvI (M11_.1 3 2), pvR 3], M11_)) rfl ⟨trivial, trivial, rfl, trivial⟩ ?_
  refine pw_eqI ((zi_eq _ (4)).mpr (by have u0 := b20_; have u1 : Int32.toInt (4) = 4 := (by decide); omega)) ?_
  refine pw_blk hT 3 (S' := (144, [some (pvR 3), some (pvI 0), some (pvI 1), some (pvI n3), some (pvI 2), some (pvI 11), some (pvI (2 + 1))], [pvI (2 + 1), pvI n3, pvI 0, pvI 4, pvR 3], M11_)) rfl ⟨trivial, trivial, trivial, trivial⟩ ?_
  refine pw_callGd hT (as := [pvR 3, pvI 4, pvI 0, pvI n3, pvI (2 + 1)]) (lo1 := [some (pvR 3), some (pvI 4), some (pvI 0), some (pvI n3), some (pvI (2 + 1)), none, none]) (d1 := (d - 1)) (rest := []) rfl rfl rfl rfl rfl (fun h => absurd h (by decide)) (show 1 ≤ d by omega) rfl rfl rfl (se_X0_run_3_4_0_x_3_4 M11_ o13_ n3 b16_ b20_ (d - 1) (by omega)) (fun x24_ M25_ b26_ o27_ g28_ d23_ => ?_)
  have d21_ := d23_.1
  have d22_ := d23_.2
  have f29_ : pvFr fp_eX0_run_3_0_1_x_2_4 M M25_ := pvfr_t g28_ f15_ fp_eX0_run_3_0_1_x_2_4_fp_eX0_run_3_4_0_x_3_4
  have b30_ : 0 ≤ Int32.toInt (M25_.1 3 1) ∧ Int32.toInt (M25_.1 3 1) ≤ 999 := (by have u0 := b16_; have u1 := d21_; have u2 := pvok_r o27_ 3 1 (lo := 0) (hi := 1000000) rfl; omega)
  have u31_ : Int32.toInt 4 = 4 := by decide
  have u32_ : Int32.toInt 0 = 0 := by decide
  have u33_ : Int32.toInt (2 + 1) = 3 := by decide
  obtain ⟨b34_, d35_⟩ := b26_
  subst d35_
  have e36_ : (-(n3 + (M11_.1 3 4))) = (-(n3 + (M.1 3 4))) := (show (-(n3 + (M11_.1 3 4))) = (-(n3 + (M.1 3 4))) from by rw [(g14_ 3 4 rfl)])
  refine pw_eqI e36_ ?_
  refine pw_blk hT 2 (S' := (151, [some (pvR 3), some (pvI 0), some (pvI 1), some (pvI n3), some (pvI 2), some (pvI 11), some (pvI (2 + 1))], [pvI (M25_.1 3 3), pvI (-(n3 + (M.1 3 4)))], M25_)) rfl ⟨trivial, rfl, trivial⟩ ?_
  have e37_ : (M25_.1 3 3) = (M.1 3 3) := ((g28_ 3 3 rfl).trans (g14_ 3 3 rfl))
  refine pw_eqI e37_ ?_
  refine pw_blk hT 1 (S' := (152, [some (pvR 3), some (pvI 0), some (pvI 1), some (pvI n3), some (pvI 2), some (pvI 11), some (pvI (2 + 1))], [pvI ((-(n3 + (M.1 3 4))) - (M.1 3 3))], M25_)) rfl ⟨trivial, trivial⟩ ?_
  exact pw_ret hT rfl (r := some (pvI ((-(n3 + (M.1 3 4))) - (M.1 3 3)))) (M' := M25_) ⟨rfl, rfl⟩ ⟨⟨_, rfl, trivial, rfl⟩, o27_, f29_, (by omega), (zTr_c (pvok_r hok 3 1 rfl).1 (zTr_c0 (pvok_r hok 3 1 rfl).1 (zTr_0 3 1 4 M) d8_) d22_)⟩
def fpL_eX0_run_3_1_1_x_1_4 : List (Nat × Nat × Nat) := [(0, 3, 2), (0, 4, 0)]
def fp_eX0_run_3_1_1_x_1_4 (q k : Nat) : Bool := pvfp fpL_eX0_run_3_1_1_x_1_4 q k
theorem fp_eX0_run_3_1_1_x_1_4_fp_eX0_note_3_x (a b : Nat) (h : fp_eX0_note_3_x a b = true) : fp_eX0_run_3_1_1_x_1_4 a b = true := pvfp_sub (l1 := fpL_eX0_note_3_x) (l2 := fpL_eX0_run_3_1_1_x_1_4) (by decide) a b h
theorem fp_eX0_run_3_1_1_x_1_4_fp_eX0_run_3_0_1_x_2_4 (a b : Nat) (h : fp_eX0_run_3_0_1_x_2_4 a b = true) : fp_eX0_run_3_1_1_x_1_4 a b = true := pvfp_sub (l1 := fpL_eX0_run_3_0_1_x_2_4) (l2 := fpL_eX0_run_3_1_1_x_1_4) (by decide) a b h
set_option maxHeartbeats 4000000 in
set_option maxRecDepth 10000 in
theorem se_X0_run_3_1_1_x_1_4 (M : pvM) (hok : pvOk M) (n3 : Int32) (hc3_1 : 0 ≤ Int32.toInt (M.1 3 1) ∧ Int32.toInt (M.1 3 1) ≤ 995) (hc3_2 : 4 ≤ Int32.toInt (M.1 3 2) ∧ Int32.toInt (M.1 3 2) ≤ 4) (d : Nat) (hd : 3 ≤ d) : PW 4 d (0, [some (pvR 3), some (pvI 1), some (pvI 1), some (pvI n3), some (pvI 1), none, none], [], M) (fun r X => (∃ x : Int32, r = some (pvI x) ∧ True ∧ x = (((-(n3 + (M.1 3 4))) - (M.1 3 3)) ^^^ 6)) ∧ pvOk X ∧ pvFr fp_eX0_run_3_1_1_x_1_4 M X ∧ Int32.toInt (X.1 3 1) ≤ Int32.toInt (M.1 3 1) + 4 ∧ zTr 3 1 4 (([20] : List Int32) ++ (([11] : List Int32) ++ (([50] : List Int32) ++ ([10] : List Int32)))) M X) := by
  have hT : pvdom 4 = pvD_4 := rfl
  refine pw_blk hT 2 (S' := (4, [some (pvR 3), some (pvI 1), some (pvI 1), some (pvI n3), some (pvI 1), none, none], [pvI 40, pvI 1], M)) rfl ⟨trivial, trivial, trivial⟩ ?_
  refine pw_ic hT (c := 1 ≤ 40) rfl rfl (fun c1_ => ?_) (fun c1_ => absurd (by decide) c1_)
  refine pw_blk hT 2 (S' := (11, [some (pvR 3), some (pvI 1), some (pvI 1), some (pvI n3), some (pvI 1), none, none], [pvI 1, pvI 1], M)) rfl ⟨trivial, trivial, trivial⟩ ?_
  refine pw_callT hT (as := [pvI 1, pvI 1]) (lo1 := [some (pvI 1), some (pvI 1), none, none, none]) (d1 := d) (rest := []) rfl rfl rfl rfl rfl (fun h => absurd h (by decide)) (Nat.zero_le _) rfl rfl rfl (sf_X0_bodyFrom_1_1 M hok d) ?_
  refine pw_eqI (show ((pvstab 1041).getD (Int32.toNatClampNeg ((1 * 3) + 1)) 0) = 20 from by decide) ?_
  show PW 4 d (14, [some (pvR 3), some (pvI 1), some (pvI 1), some (pvI n3), some (pvI 1), none, none], [pvI 20], M) _
  refine pw_blk hT 7 (S' := (25, [some (pvR 3), some (pvI 1), some (pvI 1), some (pvI n3), some (pvI 1), some (pvI 20), some (pvI (1 + 1))], [pvI 20, pvR 3], M)) rfl ⟨trivial, trivial, trivial, trivial, trivial, trivial, trivial, trivial⟩ ?_
  refine pw_callVd hT (as := [pvR 3, pvI 20]) (lo1 := [some (pvR 3), some (pvI 20)]) (d1 := d) (rest := []) rfl rfl rfl rfl rfl (fun _ => rfl) (Nat.zero_le _) rfl rfl rfl (se_X0_note_3_x M hok 20 (zr_wide (show 20 ≤ Int32.toInt 20 ∧ Int32.toInt 20 ≤ 20 from (by decide)) (by decide) (by decide)) (zr_wide hc3_1 (by decide) (by decide)) d) (fun M11_ o13_ g14_ d9_ => ?_)
  have d7_ := d9_.1
  have d8_ := d9_.2
  have f15_ : pvFr fp_eX0_run_3_1_1_x_1_4 M M11_ := pvfr_t g14_ pvfr_0 fp_eX0_run_3_1_1_x_1_4_fp_eX0_note_3_x
  have b16_ : 0 ≤ Int32.toInt (M11_.1 3 1) ∧ Int32.toInt (M11_.1 3 1) ≤ 996 := (by have u0 := hc3_1; have u1 := d7_; have u2 := pvok_r o13_ 3 1 (lo := 0) (hi := 1000000) rfl; omega)
  refine pw_blk hT 1 (S' := (30, [some (pvR 3), some (pvI 1), some (pvI 1), some (pvI n3), some (pvI 1), some (pvI 20), some (pvI (1 + 1))], [pvI 20], M11_)) rfl ⟨trivial, trivial⟩ ?_
  refine pw_sw hT rfl rfl ?_
  refine And.intro (fun c17_ => absurd c17_ (by decide)) (fun c17_ => ?_)
  refine And.intro (fun c18_ => absurd c18_ (by decide)) (fun c18_ => ?_)
  refine And.intro (fun c19_ => absurd c19_ (by decide)) (fun c19_ => ?_)
  refine And.intro (fun c20_ => ?_) (fun c20_ => absurd (by decide) c20_)
  show PW 4 d (168, [some (pvR 3), some (pvI 1), some (pvI 1), some (pvI n3), some (pvI 1), some (pvI 20), some (pvI (1 + 1))], [], M11_) _
  refine pw_blk hT 5 (S' := (174, [some (pvR 3), some (pvI 1), some (pvI 1), some (pvI n3), some (pvI 1), some (pvI 20), some (pvI (1 + 1))], [pvI (1 + 1), pvI n3, pvI 1, pvI 0, pvR 3], M11_)) rfl ⟨trivial, trivial, trivial, trivial, trivial, trivial⟩ ?_
  have e21_ : (M11_.1 3 2) = (M.1 3 2) := (g14_ 3 2 rfl)
  have b22_ : 4 ≤ Int32.toInt (M11_.1 3 2) ∧ Int32.toInt (M11_.1 3 2) ≤ 4 := (by rw [e21_]; exact hc3_2)
  refine pw_callGd hT (as := [pvR 3, pvI 0, pvI 1, pvI n3, pvI (1 + 1)]) (lo1 := [some (pvR 3), some (pvI 0), some (pvI 1), some (pvI n3), some (pvI (1 + 1)), none, none]) (d1 := (d - 1)) (rest := []) rfl rfl rfl rfl rfl (fun h => absurd h (by decide)) (show 1 ≤ d by omega) rfl rfl rfl (se_X0_run_3_0_1_x_2_4 M11_ o13_ n3 b16_ b22_ (d - 1) (by omega)) (fun x26_ M27_ b28_ o29_ g30_ d25_ => ?_)
  have d23_ := d25_.1
  have d24_ := d25_.2
  have f31_ : pvFr fp_eX0_run_3_1_1_x_1_4 M M27_ := pvfr_t g30_ f15_ fp_eX0_run_3_1_1_x_1_4_fp_eX0_run_3_0_1_x_2_4
  have b32_ : 0 ≤ Int32.toInt (M27_.1 3 1) ∧ Int32.toInt (M27_.1 3 1) ≤ 999 := (by have u0 := b16_; have u1 := d23_; have u2 := pvok_r o29_ 3 1 (lo := 0) (hi := 1000000) rfl; omega)
  have u33_ : Int32.toInt 0 = 0 := by decide
  have u34_ : Int32.toInt 1 = 1 := by decide
  have u35_ : Int32.toInt (1 + 1) = 2 := by decide
  obtain ⟨b36_, d37_⟩ := b28_
  subst d37_
  have e38_ : ((-(n3 + (M11_.1 3 4))) - (M11_.1 3 3)) = ((-(n3 + (M.1 3 4))) - (M.1 3 3)) := (show ((-(n3 + (M11_.1 3 4))) - (M11_.1 3 3)) = ((-(n3 + (M.1 3 4))) - (M.1 3 3)) from by rw [(g14_ 3 4 rfl), (g14_ 3 3 rfl)])
  refine pw_eqI e38_ ?_
  refine pw_blk hT 2 (S' := (180, [some (pvR 3), some (pvI 1), some (pvI 1), some (pvI n3), some (pvI 1), some (pvI 20), some (pvI (1 + 1))], [pvI (((-(n3 + (M.1 3 4))) - (M.1 3 3)) ^^^ 6)], M27_)) rfl ⟨trivial, trivial, trivial⟩ ?_
  exact pw_ret hT rfl (r := some (pvI (((-(n3 + (M.1 3 4))) - (M.1 3 3)) ^^^ 6))) (M' := M27_) ⟨rfl, rfl⟩ ⟨⟨_, rfl, trivial, rfl⟩, o29_, f31_, (by omega), (zTr_c (pvok_r hok 3 1 rfl).1 (zTr_c0 (pvok_r hok 3 1 rfl).1 (zTr_0 3 1 4 M) d8_) d24_)⟩
def fpL_eX0_run_3_4_1_x_0_4 : List (Nat × Nat × Nat) := [(0, 3, 2), (0, 4, 0)]
def fp_eX0_run_3_4_1_x_0_4 (q k : Nat) : Bool := pvfp fpL_eX0_run_3_4_1_x_0_4 q k
theorem fp_eX0_run_3_4_1_x_0_4_fp_eX0_note_3_x (a b : Nat) (h : fp_eX0_note_3_x a b = true) : fp_eX0_run_3_4_1_x_0_4 a b = true := pvfp_sub (l1 := fpL_eX0_note_3_x) (l2 := fpL_eX0_run_3_4_1_x_0_4) (by decide) a b h
theorem fp_eX0_run_3_4_1_x_0_4_fp_eX0_run_3_1_1_x_1_4 (a b : Nat) (h : fp_eX0_run_3_1_1_x_1_4 a b = true) : fp_eX0_run_3_4_1_x_0_4 a b = true := pvfp_sub (l1 := fpL_eX0_run_3_1_1_x_1_4) (l2 := fpL_eX0_run_3_4_1_x_0_4) (by decide) a b h
set_option maxHeartbeats 4000000 in
set_option maxRecDepth 10000 in
theorem se_X0_run_3_4_1_x_0_4 (M : pvM) (hok : pvOk M) (n3 : Int32) (hc3_1 : 0 ≤ Int32.toInt (M.1 3 1) ∧ Int32.toInt (M.1 3 1) ≤ 994) (hc3_2 : 4 ≤ Int32.toInt (M.1 3 2) ∧ Int32.toInt (M.1 3 2) ≤ 4) (d : Nat) (hd : 4 ≤ d) : PW 4 d (0, [some (pvR 3), some (pvI 4), some (pvI 1), some (pvI n3), some (pvI 0), none, none], [], M) (fun r X => (∃ x : Int32, r = some (pvI x) ∧ True ∧ x = (((-((n3 + 1) + (M.1 3 4))) - (M.1 3 3)) ^^^ 6)) ∧ pvOk X ∧ pvFr fp_eX0_run_3_4_1_x_0_4 M X ∧ Int32.toInt (X.1 3 1) ≤ Int32.toInt (M.1 3 1) + 5 ∧ zTr 3 1 4 (([51] : List Int32) ++ (([20] : List Int32) ++ (([11] : List Int32) ++ (([50] : List Int32) ++ ([10] : List Int32))))) M X) := by
  have hT : pvdom 4 = pvD_4 := rfl
  refine pw_blk hT 2 (S' := (4, [some (pvR 3), some (pvI 4), some (pvI 1), some (pvI n3), some (pvI 0), none, none], [pvI 40, pvI 0], M)) rfl ⟨trivial, trivial, trivial⟩ ?_
  refine pw_ic hT (c := 0 ≤ 40) rfl rfl (fun c1_ => ?_) (fun c1_ => absurd (by decide) c1_)
  refine pw_blk hT 2 (S' := (11, [some (pvR 3), some (pvI 4), some (pvI 1), some (pvI n3), some (pvI 0), none, none], [pvI 1, pvI 4], M)) rfl ⟨trivial, trivial, trivial⟩ ?_
  refine pw_callT hT (as := [pvI 4, pvI 1]) (lo1 := [some (pvI 4), some (pvI 1), none, none, none]) (d1 := d) (rest := []) rfl rfl rfl rfl rfl (fun h => absurd h (by decide)) (Nat.zero_le _) rfl rfl rfl (sf_X0_bodyFrom_4_1 M hok d) ?_
  refine pw_eqI (show ((pvstab 1041).getD (Int32.toNatClampNeg ((4 * 3) + 1)) 0) = 51 from by decide) ?_
  show PW 4 d (14, [some (pvR 3), some (pvI 4), some (pvI 1), some (pvI n3), some (pvI 0), none, none], [pvI 51], M) _
  refine pw_blk hT 7 (S' := (25, [some (pvR 3), some (pvI 4), some (pvI 1), some (pvI n3), some (pvI 0), some (pvI 51), some (pvI (0 + 1))], [pvI 51, pvR 3], M)) rfl ⟨trivial, trivial, trivial, trivial, trivial, trivial, trivial, trivial⟩ ?_
  refine pw_callVd hT (as := [pvR 3, pvI 51]) (lo1 := [some (pvR 3), some (pvI 51)]) (d1 := d) (rest := []) rfl rfl rfl rfl rfl (fun _ => rfl) (Nat.zero_le _) rfl rfl rfl (se_X0_note_3_x M hok 51 (zr_wide (show 51 ≤ Int32.toInt 51 ∧ Int32.toInt 51 ≤ 51 from (by decide)) (by decide) (by decide)) (zr_wide hc3_1 (by decide) (by decide)) d) (fun M11_ o13_ g14_ d9_ => ?_)
  have d7_ := d9_.1
  have d8_ := d9_.2
  have f15_ : pvFr fp_eX0_run_3_4_1_x_0_4 M M11_ := pvfr_t g14_ pvfr_0 fp_eX0_run_3_4_1_x_0_4_fp_eX0_note_3_x
  have b16_ : 0 ≤ Int32.toInt (M11_.1 3 1) ∧ Int32.toInt (M11_.1 3 1) ≤ 995 := (by have u0 := hc3_1; have u1 := d7_; have u2 := pvok_r o13_ 3 1 (lo := 0) (hi := 1000000) rfl; omega)
  refine pw_blk hT 1 (S' := (30, [some (pvR 3), some (pvI 4), some (pvI 1), some (pvI n3), some (pvI 0), some (pvI 51), some (pvI (0 + 1))], [pvI 51], M11_)) rfl ⟨trivial, trivial⟩ ?_
  refine pw_sw hT rfl rfl ?_
  refine And.intro (fun c17_ => absurd c17_ (by decide)) (fun c17_ => ?_)
  refine And.intro (fun c18_ => absurd c18_ (by decide)) (fun c18_ => ?_)
  refine And.intro (fun c19_ => absurd c19_ (by decide)) (fun c19_ => ?_)
  refine And.intro (fun c20_ => absurd c20_ (by decide)) (fun c20_ => ?_)
  refine And.intro (fun c21_ => absurd c21_ (by decide)) (fun c21_ => ?_)
  refine And.intro (fun c22_ => absurd c22_ (by decide)) (fun c22_ => ?_)
  refine And.intro (fun c23_ => absurd c23_ (by decide)) (fun c23_ => ?_)
  refine And.intro (fun c24_ => ?_) (fun c24_ => absurd (by decide) c24_)
  show PW 4 d (227, [some (pvR 3), some (pvI 4), some (pvI 1), some (pvI n3), some (pvI 0), some (pvI 51), some (pvI (0 + 1))], [], M11_) _
  refine pw_blk hT 7 (S' := (235, [some (pvR 3), some (pvI 4), some (pvI 1), some (pvI n3), some (pvI 0), some (pvI 51), some (pvI (0 + 1))], [pvI (0 + 1), pvI (n3 + 1), pvI 1, pvI 1, pvR 3], M11_)) rfl ⟨trivial, trivial, trivial, trivial, trivial, trivial, trivial, trivial⟩ ?_
  have e25_ : (M11_.1 3 2) = (M.1 3 2) := (g14_ 3 2 rfl)
  have b26_ : 4 ≤ Int32.toInt (M11_.1 3 2) ∧ Int32.toInt (M11_.1 3 2) ≤ 4 := (by rw [e25_]; exact hc3_2)
  refine pw_callGd hT (as := [pvR 3, pvI 1, pvI 1, pvI (n3 + 1), pvI (0 + 1)]) (lo1 := [some (pvR 3), some (pvI 1), some (pvI 1), some (pvI (n3 + 1)), some (pvI (0 + 1)), none, none]) (d1 := (d - 1)) (rest := []) rfl rfl rfl rfl rfl (fun h => absurd h (by decide)) (show 1 ≤ d by omega) rfl rfl rfl (se_X0_run_3_1_1_x_1_4 M11_ o13_ (n3 + 1) b16_ b26_ (d - 1) (by omega)) (fun x30_ M31_ b32_ o33_ g34_ d29_ => ?_)
  have d27_ := d29_.1
  have d28_ := d29_.2
  have f35_ : pvFr fp_eX0_run_3_4_1_x_0_4 M M31_ := pvfr_t g34_ f15_ fp_eX0_run_3_4_1_x_0_4_fp_eX0_run_3_1_1_x_1_4
  have b36_ : 0 ≤ Int32.toInt (M31_.1 3 1) ∧ Int32.toInt (M31_.1 3 1) ≤ 999 := (by have u0 := b16_; have u1 := d27_; have u2 := pvok_r o33_ 3 1 (lo := 0) (hi := 1000000) rfl; omega)
  have u37_ : Int32.toInt 1 = 1 := by decide
  have u38_ : Int32.toInt (0 + 1) = 1 := by decide
  obtain ⟨b39_, d40_⟩ := b32_
  subst d40_
  have e41_ : (((-((n3 + 1) + (M11_.1 3 4))) - (M11_.1 3 3)) ^^^ 6) = (((-((n3 + 1) + (M.1 3 4))) - (M.1 3 3)) ^^^ 6) := (show (((-((n3 + 1) + (M11_.1 3 4))) - (M11_.1 3 3)) ^^^ 6) = (((-((n3 + 1) + (M.1 3 4))) - (M.1 3 3)) ^^^ 6) from by rw [(g14_ 3 4 rfl), (g14_ 3 3 rfl)])
  refine pw_eqI e41_ ?_
  exact pw_ret hT rfl (r := some (pvI (((-((n3 + 1) + (M.1 3 4))) - (M.1 3 3)) ^^^ 6))) (M' := M31_) ⟨rfl, rfl⟩ ⟨⟨_, rfl, trivial, rfl⟩, o33_, f35_, (by omega), (zTr_c (pvok_r hok 3 1 rfl).1 (zTr_c0 (pvok_r hok 3 1 rfl).1 (zTr_0 3 1 4 M) d8_) d28_)⟩
set_option maxHeartbeats 4000000 in
set_option maxRecDepth 10000 in
theorem se_X3_above_4 (M : pvM) (hok : pvOk M) (d : Nat) : PW 131 d (0, [some (pvI 4)], [], M) (fun r X => r = some (pvI (((pvstab 1040).getD (Int32.toNatClampNeg 4) 0))) ∧ X = M) := by
  have hT : pvdom 131 = pvD_131 := rfl
  refine pw_blk hT 1 (S' := (1, [some (pvI 4)], [pvI 4], M)) rfl ⟨trivial, trivial⟩ ?_
  refine pw_if hT (c := 4 < 0) rfl rfl (fun c1_ => absurd c1_ (by decide)) (fun c1_ => ?_)
  refine pw_blk hT 3 (S' := (9, [some (pvI 4)], [pvI (Int32.ofNat (pvstab 1040).length), pvI 4], M)) rfl ⟨trivial, trivial, (by decide), trivial⟩ ?_
  refine pw_ic hT (c := 4 < (Int32.ofNat (pvstab 1040).length)) rfl rfl (fun c2_ => ?_) (fun c2_ => absurd (by decide) c2_)
  refine pw_blk hT 3 (S' := (21, [some (pvI 4)], [pvI ((pvstab 1040).getD (Int32.toNatClampNeg 4) 0)], M)) rfl ⟨trivial, trivial, ⟨by decide, (zr_in (n := 7) (show 4 ≤ Int32.toInt 4 ∧ Int32.toInt 4 ≤ 4 from (by decide)) (by decide) (by decide))⟩, trivial⟩ ?_
  exact pw_ret hT rfl (r := some (pvI ((pvstab 1040).getD (Int32.toNatClampNeg 4) 0))) (M' := M) ⟨rfl, rfl⟩ ⟨rfl, rfl⟩
def fpL_eX0_run_3_1_0_x_5_4 : List (Nat × Nat × Nat) := [(0, 3, 2), (0, 4, 0)]
def fp_eX0_run_3_1_0_x_5_4 (q k : Nat) : Bool := pvfp fpL_eX0_run_3_1_0_x_5_4 q k
theorem fp_eX0_run_3_1_0_x_5_4_fp_eX0_note_3_x (a b : Nat) (h : fp_eX0_note_3_x a b = true) : fp_eX0_run_3_1_0_x_5_4 a b = true := pvfp_sub (l1 := fpL_eX0_note_3_x) (l2 := fpL_eX0_run_3_1_0_x_5_4) (by decide) a b h
set_option maxHeartbeats 4000000 in
set_option maxRecDepth 10000 in
theorem se_X0_run_3_1_0_x_5_4 (M : pvM) (hok : pvOk M) (n3 : Int32) (hc3_1 : 0 ≤ Int32.toInt (M.1 3 1) ∧ Int32.toInt (M.1 3 1) ≤ 998) (hc3_2 : 4 ≤ Int32.toInt (M.1 3 2) ∧ Int32.toInt (M.1 3 2) ≤ 4) (d : Nat) : PW 4 d (0, [some (pvR 3), some (pvI 1), some (pvI 0), some (pvI n3), some (pvI 5), none, none], [], M) (fun r X => (∃ x : Int32, r = some (pvI x) ∧ True ∧ x = (n3 + (M.1 3 4))) ∧ pvOk X ∧ pvFr fp_eX0_run_3_1_0_x_5_4 M X ∧ Int32.toInt (X.1 3 1) ≤ Int32.toInt (M.1 3 1) + 1 ∧ zTr 3 1 4 ([10] : List Int32) M X) := by
  have hT : pvdom 4 = pvD_4 := rfl
  refine pw_blk hT 2 (S' := (4, [some (pvR 3), some (pvI 1), some (pvI 0), some (pvI n3), some (pvI 5), none, none], [pvI 40, pvI 5], M)) rfl ⟨trivial, trivial, trivial⟩ ?_
  refine pw_ic hT (c := 5 ≤ 40) rfl rfl (fun c1_ => ?_) (fun c1_ => absurd (by decide) c1_)
  refine pw_blk hT 2 (S' := (11, [some (pvR 3), some (pvI 1), some (pvI 0), some (pvI n3), some (pvI 5), none, none], [pvI 0, pvI 1], M)) rfl ⟨trivial, trivial, trivial⟩ ?_
  refine pw_callT hT (as := [pvI 1, pvI 0]) (lo1 := [some (pvI 1), some (pvI 0), none, none, none]) (d1 := d) (rest := []) rfl rfl rfl rfl rfl (fun h => absurd h (by decide)) (Nat.zero_le _) rfl rfl rfl (sf_X0_bodyFrom_1_0 M hok d) ?_
  refine pw_eqI (show ((pvstab 1041).getD (Int32.toNatClampNeg ((0 * 3) + 0)) 0) = 10 from by decide) ?_
  show PW 4 d (14, [some (pvR 3), some (pvI 1), some (pvI 0), some (pvI n3), some (pvI 5), none, none], [pvI 10], M) _
  refine pw_blk hT 7 (S' := (25, [some (pvR 3), some (pvI 1), some (pvI 0), some (pvI n3), some (pvI 5), some (pvI 10), some (pvI (5 + 1))], [pvI 10, pvR 3], M)) rfl ⟨trivial, trivial, trivial, trivial, trivial, trivial, trivial, trivial⟩ ?_
  refine pw_callVd hT (as := [pvR 3, pvI 10]) (lo1 := [some (pvR 3), some (pvI 10)]) (d1 := d) (rest := []) rfl rfl rfl rfl rfl (fun _ => rfl) (Nat.zero_le _) rfl rfl rfl (se_X0_note_3_x M hok 10 (zr_wide (show 10 ≤ Int32.toInt 10 ∧ Int32.toInt 10 ≤ 10 from (by decide)) (by decide) (by decide)) (zr_wide hc3_1 (by decide) (by decide)) d) (fun M11_ o13_ g14_ d9_ => ?_)
  have d7_ := d9_.1
  have d8_ := d9_.2
  have f15_ : pvFr fp_eX0_run_3_1_0_x_5_4 M M11_ := pvfr_t g14_ pvfr_0 fp_eX0_run_3_1_0_x_5_4_fp_eX0_note_3_x
  have b16_ : 0 ≤ Int32.toInt (M11_.1 3 1) ∧ Int32.toInt (M11_.1 3 1) ≤ 999 := (by have u0 := hc3_1; have u1 := d7_; have u2 := pvok_r o13_ 3 1 (lo := 0) (hi := 1000000) rfl; omega)
  refine pw_blk hT 1 (S' := (30, [some (pvR 3), some (pvI 1), some (pvI 0), some (pvI n3), some (pvI 5), some (pvI 10), some (pvI (5 + 1))], [pvI 10], M11_)) rfl ⟨trivial, trivial⟩ ?_
  refine pw_sw hT rfl rfl ?_
  refine And.intro (fun c17_ => ?_) (fun c17_ => absurd (by decide) c17_)
  show PW 4 d (128, [some (pvR 3), some (pvI 1), some (pvI 0), some (pvI n3), some (pvI 5), some (pvI 10), some (pvI (5 + 1))], [], M11_) _
  refine pw_blk hT 3 (S' := (133, [some (pvR 3), some (pvI 1), some (pvI 0), some (pvI n3), some (pvI 5), some (pvI 10), some (pvI (5 + 1))], [pvI (M11_.1 3 4), pvI n3], M11_)) rfl ⟨trivial, trivial, rfl, trivial⟩ ?_
  have e18_ : (M11_.1 3 4) = (M.1 3 4) := (g14_ 3 4 rfl)
  refine pw_eqI e18_ ?_
  refine pw_blk hT 1 (S' := (134, [some (pvR 3), some (pvI 1), some (pvI 0), some (pvI n3), some (pvI 5), some (pvI 10), some (pvI (5 + 1))], [pvI (n3 + (M.1 3 4))], M11_)) rfl ⟨trivial, trivial⟩ ?_
  exact pw_ret hT rfl (r := some (pvI (n3 + (M.1 3 4)))) (M' := M11_) ⟨rfl, rfl⟩ ⟨⟨_, rfl, trivial, rfl⟩, o13_, f15_, (by omega), (zTr_c0 (pvok_r hok 3 1 rfl).1 (zTr_0 3 1 4 M) d8_)⟩
def fpL_eX0_run_3_4_0_x_4_4 : List (Nat × Nat × Nat) := [(0, 3, 2), (0, 4, 0)]
def fp_eX0_run_3_4_0_x_4_4 (q k : Nat) : Bool := pvfp fpL_eX0_run_3_4_0_x_4_4 q k
theorem fp_eX0_run_3_4_0_x_4_4_fp_eX0_note_3_x (a b : Nat) (h : fp_eX0_note_3_x a b = true) : fp_eX0_run_3_4_0_x_4_4 a b = true := pvfp_sub (l1 := fpL_eX0_note_3_x) (l2 := fpL_eX0_run_3_4_0_x_4_4) (by decide) a b h
theorem fp_eX0_run_3_4_0_x_4_4_fp_eX0_run_3_1_0_x_5_4 (a b : Nat) (h : fp_eX0_run_3_1_0_x_5_4 a b = true) : fp_eX0_run_3_4_0_x_4_4 a b = true := pvfp_sub (l1 := fpL_eX0_run_3_1_0_x_5_4) (l2 := fpL_eX0_run_3_4_0_x_4_4) (by decide) a b h
set_option maxHeartbeats 4000000 in
set_option maxRecDepth 10000 in
theorem se_X0_run_3_4_0_x_4_4 (M : pvM) (hok : pvOk M) (n3 : Int32) (hc3_1 : 0 ≤ Int32.toInt (M.1 3 1) ∧ Int32.toInt (M.1 3 1) ≤ 997) (hc3_2 : 4 ≤ Int32.toInt (M.1 3 2) ∧ Int32.toInt (M.1 3 2) ≤ 4) (d : Nat) (hd : 1 ≤ d) : PW 4 d (0, [some (pvR 3), some (pvI 4), some (pvI 0), some (pvI n3), some (pvI 4), none, none], [], M) (fun r X => (∃ x : Int32, r = some (pvI x) ∧ True ∧ x = (-(n3 + (M.1 3 4)))) ∧ pvOk X ∧ pvFr fp_eX0_run_3_4_0_x_4_4 M X ∧ Int32.toInt (X.1 3 1) ≤ Int32.toInt (M.1 3 1) + 2 ∧ zTr 3 1 4 (([50] : List Int32) ++ ([10] : List Int32)) M X) := by
  have hT : pvdom 4 = pvD_4 := rfl
  refine pw_blk hT 2 (S' := (4, [some (pvR 3), some (pvI 4), some (pvI 0), some (pvI n3), some (pvI 4), none, none], [pvI 40, pvI 4], M)) rfl ⟨trivial, trivial, trivial⟩ ?_
  refine pw_ic hT (c := 4 ≤ 40) rfl rfl (fun c1_ => ?_) (fun c1_ => absurd (by decide) c1_)
  refine pw_blk hT 2 (S' := (11, [some (pvR 3), some (pvI 4), some (pvI 0), some (pvI n3), some (pvI 4), none, none], [pvI 0, pvI 4], M)) rfl ⟨trivial, trivial, trivial⟩ ?_
  refine pw_callT hT (as := [pvI 4, pvI 0]) (lo1 := [some (pvI 4), some (pvI 0), none, none, none]) (d1 := d) (rest := []) rfl rfl rfl rfl rfl (fun h => absurd h (by decide)) (Nat.zero_le _) rfl rfl rfl (sf_X0_bodyFrom_4_0 M hok d) ?_
  refine pw_eqI (show ((pvstab 1041).getD (Int32.toNatClampNeg ((4 * 3) + 0)) 0) = 50 from by decide) ?_
  show PW 4 d (14, [some (pvR 3), some (pvI 4), some (pvI 0), some (pvI n3), some (pvI 4), none, none], [pvI 50], M) _
  refine pw_blk hT 7 (S' := (25, [some (pvR 3), some (pvI 4), some (pvI 0), some (pvI n3), some (pvI 4), some (pvI 50), some (pvI (4 + 1))], [pvI 50, pvR 3], M)) rfl ⟨trivial, trivial, trivial, trivial, trivial, trivial, trivial, trivial⟩ ?_
  refine pw_callVd hT (as := [pvR 3, pvI 50]) (lo1 := [some (pvR 3), some (pvI 50)]) (d1 := d) (rest := []) rfl rfl rfl rfl rfl (fun _ => rfl) (Nat.zero_le _) rfl rfl rfl (se_X0_note_3_x M hok 50 (zr_wide (show 50 ≤ Int32.toInt 50 ∧ Int32.toInt 50 ≤ 50 from (by decide)) (by decide) (by decide)) (zr_wide hc3_1 (by decide) (by decide)) d) (fun M11_ o13_ g14_ d9_ => ?_)
  have d7_ := d9_.1
  have d8_ := d9_.2
  have f15_ : pvFr fp_eX0_run_3_4_0_x_4_4 M M11_ := pvfr_t g14_ pvfr_0 fp_eX0_run_3_4_0_x_4_4_fp_eX0_note_3_x
  have b16_ : 0 ≤ Int32.toInt (M11_.1 3 1) ∧ Int32.toInt (M11_.1 3 1) ≤ 998 := (by have u0 := hc3_1; have u1 := d7_; have u2 := pvok_r o13_ 3 1 (lo := 0) (hi := 1000000) rfl; omega)
  refine pw_blk hT 1 (S' := (30, [some (pvR 3), some (pvI 4), some (pvI 0), some (pvI n3), some (pvI 4), some (pvI 50), some (pvI (4 + 1))], [pvI 50], M11_)) rfl ⟨trivial, trivial⟩ ?_
  refine pw_sw hT rfl rfl ?_
  refine And.intro (fun c17_ => absurd c17_ (by decide)) (fun c17_ => ?_)
  refine And.intro (fun c18_ => absurd c18_ (by decide)) (fun c18_ => ?_)
  refine And.intro (fun c19_ => absurd c19_ (by decide)) (fun c19_ => ?_)
  refine And.intro (fun c20_ => absurd c20_ (by decide)) (fun c20_ => ?_)
  refine And.intro (fun c21_ => absurd c21_ (by decide)) (fun c21_ => ?_)
  refine And.intro (fun c22_ => absurd c22_ (by decide)) (fun c22_ => ?_)
  refine And.intro (fun c23_ => ?_) (fun c23_ => absurd (by decide) c23_)
  show PW 4 d (216, [some (pvR 3), some (pvI 4), some (pvI 0), some (pvI n3), some (pvI 4), some (pvI 50), some (pvI (4 + 1))], [], M11_) _
  refine pw_blk hT 5 (S' := (222, [some (pvR 3), some (pvI 4), some (pvI 0), some (pvI n3), some (pvI 4), some (pvI 50), some (pvI (4 + 1))], [pvI (4 + 1), pvI n3, pvI 0, pvI 1, pvR 3], M11_)) rfl ⟨trivial, trivial, trivial, trivial, trivial, trivial⟩ ?_
  have e24_ : (M11_.1 3 2) = (M.1 3 2) := (g14_ 3 2 rfl)
  have b25_ : 4 ≤ Int32.toInt (M11_.1 3 2) ∧ Int32.toInt (M11_.1 3 2) ≤ 4 := (by rw [e24_]; exact hc3_2)
  refine pw_callGd hT (as := [pvR 3, pvI 1, pvI 0, pvI n3, pvI (4 + 1)]) (lo1 := [some (pvR 3), some (pvI 1), some (pvI 0), some (pvI n3), some (pvI (4 + 1)), none, none]) (d1 := (d - 1)) (rest := []) rfl rfl rfl rfl rfl (fun h => absurd h (by decide)) (show 1 ≤ d by omega) rfl rfl rfl (se_X0_run_3_1_0_x_5_4 M11_ o13_ n3 b16_ b25_ (d - 1)) (fun x29_ M30_ b31_ o32_ g33_ d28_ => ?_)
  have d26_ := d28_.1
  have d27_ := d28_.2
  have f34_ : pvFr fp_eX0_run_3_4_0_x_4_4 M M30_ := pvfr_t g33_ f15_ fp_eX0_run_3_4_0_x_4_4_fp_eX0_run_3_1_0_x_5_4
  have b35_ : 0 ≤ Int32.toInt (M30_.1 3 1) ∧ Int32.toInt (M30_.1 3 1) ≤ 999 := (by have u0 := b16_; have u1 := d26_; have u2 := pvok_r o32_ 3 1 (lo := 0) (hi := 1000000) rfl; omega)
  have u36_ : Int32.toInt 1 = 1 := by decide
  have u37_ : Int32.toInt 0 = 0 := by decide
  have u38_ : Int32.toInt (4 + 1) = 5 := by decide
  obtain ⟨b39_, d40_⟩ := b31_
  subst d40_
  have e41_ : (n3 + (M11_.1 3 4)) = (n3 + (M.1 3 4)) := (show (n3 + (M11_.1 3 4)) = (n3 + (M.1 3 4)) from by rw [(g14_ 3 4 rfl)])
  refine pw_eqI e41_ ?_
  refine pw_blk hT 1 (S' := (226, [some (pvR 3), some (pvI 4), some (pvI 0), some (pvI n3), some (pvI 4), some (pvI 50), some (pvI (4 + 1))], [pvI (-(n3 + (M.1 3 4)))], M30_)) rfl ⟨trivial, trivial⟩ ?_
  exact pw_ret hT rfl (r := some (pvI (-(n3 + (M.1 3 4))))) (M' := M30_) ⟨rfl, rfl⟩ ⟨⟨_, rfl, trivial, rfl⟩, o32_, f34_, (by omega), (zTr_c (pvok_r hok 3 1 rfl).1 (zTr_c0 (pvok_r hok 3 1 rfl).1 (zTr_0 3 1 4 M) d8_) d27_)⟩
def fpL_eX0_run_3_0_1_x_3_4 : List (Nat × Nat × Nat) := [(0, 3, 2), (0, 4, 0)]
def fp_eX0_run_3_0_1_x_3_4 (q k : Nat) : Bool := pvfp fpL_eX0_run_3_0_1_x_3_4 q k
theorem fp_eX0_run_3_0_1_x_3_4_fp_eX0_note_3_x (a b : Nat) (h : fp_eX0_note_3_x a b = true) : fp_eX0_run_3_0_1_x_3_4 a b = true := pvfp_sub (l1 := fpL_eX0_note_3_x) (l2 := fpL_eX0_run_3_0_1_x_3_4) (by decide) a b h
theorem fp_eX0_run_3_0_1_x_3_4_fp_eX0_run_3_4_0_x_4_4 (a b : Nat) (h : fp_eX0_run_3_4_0_x_4_4 a b = true) : fp_eX0_run_3_0_1_x_3_4 a b = true := pvfp_sub (l1 := fpL_eX0_run_3_4_0_x_4_4) (l2 := fpL_eX0_run_3_0_1_x_3_4) (by decide) a b h
set_option maxHeartbeats 4000000 in
set_option maxRecDepth 10000 in
theorem se_X0_run_3_0_1_x_3_4 (M : pvM) (hok : pvOk M) (n3 : Int32) (hc3_1 : 0 ≤ Int32.toInt (M.1 3 1) ∧ Int32.toInt (M.1 3 1) ≤ 996) (hc3_2 : 4 ≤ Int32.toInt (M.1 3 2) ∧ Int32.toInt (M.1 3 2) ≤ 4) (d : Nat) (hd : 2 ≤ d) : PW 4 d (0, [some (pvR 3), some (pvI 0), some (pvI 1), some (pvI n3), some (pvI 3), none, none], [], M) (fun r X => (∃ x : Int32, r = some (pvI x) ∧ True ∧ x = ((-(n3 + (M.1 3 4))) - (M.1 3 3))) ∧ pvOk X ∧ pvFr fp_eX0_run_3_0_1_x_3_4 M X ∧ Int32.toInt (X.1 3 1) ≤ Int32.toInt (M.1 3 1) + 3 ∧ zTr 3 1 4 (([11] : List Int32) ++ (([50] : List Int32) ++ ([10] : List Int32))) M X) := by
  have hT : pvdom 4 = pvD_4 := rfl
  refine pw_blk hT 2 (S' := (4, [some (pvR 3), some (pvI 0), some (pvI 1), some (pvI n3), some (pvI 3), none, none], [pvI 40, pvI 3], M)) rfl ⟨trivial, trivial, trivial⟩ ?_
  refine pw_ic hT (c := 3 ≤ 40) rfl rfl (fun c1_ => ?_) (fun c1_ => absurd (by decide) c1_)
  refine pw_blk hT 2 (S' := (11, [some (pvR 3), some (pvI 0), some (pvI 1), some (pvI n3), some (pvI 3), none, none], [pvI 1, pvI 0], M)) rfl ⟨trivial, trivial, trivial⟩ ?_
  refine pw_callT hT (as := [pvI 0, pvI 1]) (lo1 := [some (pvI 0), some (pvI 1), none, none, none]) (d1 := d) (rest := []) rfl rfl rfl rfl rfl (fun h => absurd h (by decide)) (Nat.zero_le _) rfl rfl rfl (sf_X0_bodyFrom_0_1 M hok d) ?_
  refine pw_eqI (show ((pvstab 1041).getD (Int32.toNatClampNeg ((0 * 3) + 1)) 0) = 11 from by decide) ?_
  show PW 4 d (14, [some (pvR 3), some (pvI 0), some (pvI 1), some (pvI n3), some (pvI 3), none, none], [pvI 11], M) _
  refine pw_blk hT 7 (S' := (25, [some (pvR 3), some (pvI 0), some (pvI 1), some (pvI n3), some (pvI 3), some (pvI 11), some (pvI (3 + 1))], [pvI 11, pvR 3], M)) rfl ⟨trivial, trivial, trivial, trivial, trivial, trivial, trivial, trivial⟩ ?_
  refine pw_callVd hT (as := [pvR 3, pvI 11]) (lo1 := [some (pvR 3), some (pvI 11)]) (d1 := d) (rest := []) rfl rfl rfl rfl rfl (fun _ => rfl) (Nat.zero_le _) rfl rfl rfl (se_X0_note_3_x M hok 11 (zr_wide (show 11 ≤ Int32.toInt 11 ∧ Int32.toInt 11 ≤ 11 from (by decide)) (by decide) (by decide)) (zr_wide hc3_1 (by decide) (by decide)) d) (fun M11_ o13_ g14_ d9_ => ?_)
  have d7_ := d9_.1
  have d8_ := d9_.2
  have f15_ : pvFr fp_eX0_run_3_0_1_x_3_4 M M11_ := pvfr_t g14_ pvfr_0 fp_eX0_run_3_0_1_x_3_4_fp_eX0_note_3_x
  have b16_ : 0 ≤ Int32.toInt (M11_.1 3 1) ∧ Int32.toInt (M11_.1 3 1) ≤ 997 := (by have u0 := hc3_1; have u1 := d7_; have u2 := pvok_r o13_ 3 1 (lo := 0) (hi := 1000000) rfl; omega)
  refine pw_blk hT 1 (S' := (30, [some (pvR 3), some (pvI 0), some (pvI 1), some (pvI n3), some (pvI 3), some (pvI 11), some (pvI (3 + 1))], [pvI 11], M11_)) rfl ⟨trivial, trivial⟩ ?_
  refine pw_sw hT rfl rfl ?_
  refine And.intro (fun c17_ => absurd c17_ (by decide)) (fun c17_ => ?_)
  refine And.intro (fun c18_ => ?_) (fun c18_ => absurd (by decide) c18_)
  show PW 4 d (135, [some (pvR 3), some (pvI 0), some (pvI 1), some (pvI n3), some (pvI 3), some (pvI 11), some (pvI (3 + 1))], [], M11_) _
  have e19_ : (M11_.1 3 2) = (M.1 3 2) := (g14_ 3 2 rfl)
  have b20_ : 4 ≤ Int32.toInt (M11_.1 3 2) ∧ Int32.toInt (M11_.1 3 2) ≤ 4 := (by rw [e19_]; exact hc3_2)
  refine pw_blk hT 3 (S' := (140, [some (pvR 3), some (pvI 0), some (pvI 1), some (pvI n3), some (pvI 3), some (pvI 11), some (pvI (3 + 1))], [pvI (M11_.1 3 2), pvR 3], M11_)) rfl ⟨trivial, trivial, rfl, trivial⟩ ?_
  refine pw_eqI ((zi_eq _ (4)).mpr (by have u0 := b20_; have u1 : Int32.toInt (4) = 4 := (by decide); omega)) ?_
  refine pw_blk hT 3 (S' := (144, [some (pvR 3), some (pvI 0), some (pvI 1), some (pvI n3), some (pvI 3), some (pvI 11), some (pvI (3 + 1))], [pvI (3 + 1), pvI n3, pvI 0, pvI 4, pvR 3], M11_)) rfl ⟨trivial, trivial, trivial, trivial⟩ ?_
  refine pw_callGd hT (as := [pvR 3, pvI 4, pvI 0, pvI n3, pvI (3 + 1)]) (lo1 := [some (pvR 3), some (pvI 4), some (pvI 0), some (pvI n3), some (pvI (3 + 1)), none, none]) (d1 := (d - 1)) (rest := []) rfl rfl rfl rfl rfl (fun h => absurd h (by decide)) (show 1 ≤ d by omega) rfl rfl rfl (se_X0_run_3_4_0_x_4_4 M11_ o13_ n3 b16_ b20_ (d - 1) (by omega)) (fun x24_ M25_ b26_ o27_ g28_ d23_ => ?_)
  have d21_ := d23_.1
  have d22_ := d23_.2
  have f29_ : pvFr fp_eX0_run_3_0_1_x_3_4 M M25_ := pvfr_t g28_ f15_ fp_eX0_run_3_0_1_x_3_4_fp_eX0_run_3_4_0_x_4_4
  have b30_ : 0 ≤ Int32.toInt (M25_.1 3 1) ∧ Int32.toInt (M25_.1 3 1) ≤ 999 := (by have u0 := b16_; have u1 := d21_; have u2 := pvok_r o27_ 3 1 (lo := 0) (hi := 1000000) rfl; omega)
  have u31_ : Int32.toInt 4 = 4 := by decide
  have u32_ : Int32.toInt 0 = 0 := by decide
  have u33_ : Int32.toInt (3 + 1) = 4 := by decide
  obtain ⟨b34_, d35_⟩ := b26_
  subst d35_
  have e36_ : (-(n3 + (M11_.1 3 4))) = (-(n3 + (M.1 3 4))) := (show (-(n3 + (M11_.1 3 4))) = (-(n3 + (M.1 3 4))) from by rw [(g14_ 3 4 rfl)])
  refine pw_eqI e36_ ?_
  refine pw_blk hT 2 (S' := (151, [some (pvR 3), some (pvI 0), some (pvI 1), some (pvI n3), some (pvI 3), some (pvI 11), some (pvI (3 + 1))], [pvI (M25_.1 3 3), pvI (-(n3 + (M.1 3 4)))], M25_)) rfl ⟨trivial, rfl, trivial⟩ ?_
  have e37_ : (M25_.1 3 3) = (M.1 3 3) := ((g28_ 3 3 rfl).trans (g14_ 3 3 rfl))
  refine pw_eqI e37_ ?_
  refine pw_blk hT 1 (S' := (152, [some (pvR 3), some (pvI 0), some (pvI 1), some (pvI n3), some (pvI 3), some (pvI 11), some (pvI (3 + 1))], [pvI ((-(n3 + (M.1 3 4))) - (M.1 3 3))], M25_)) rfl ⟨trivial, trivial⟩ ?_
  exact pw_ret hT rfl (r := some (pvI ((-(n3 + (M.1 3 4))) - (M.1 3 3)))) (M' := M25_) ⟨rfl, rfl⟩ ⟨⟨_, rfl, trivial, rfl⟩, o27_, f29_, (by omega), (zTr_c (pvok_r hok 3 1 rfl).1 (zTr_c0 (pvok_r hok 3 1 rfl).1 (zTr_0 3 1 4 M) d8_) d22_)⟩
def fpL_eX0_run_3_1_1_x_2_4 : List (Nat × Nat × Nat) := [(0, 3, 2), (0, 4, 0)]
def fp_eX0_run_3_1_1_x_2_4 (q k : Nat) : Bool := pvfp fpL_eX0_run_3_1_1_x_2_4 q k
theorem fp_eX0_run_3_1_1_x_2_4_fp_eX0_note_3_x (a b : Nat) (h : fp_eX0_note_3_x a b = true) : fp_eX0_run_3_1_1_x_2_4 a b = true := pvfp_sub (l1 := fpL_eX0_note_3_x) (l2 := fpL_eX0_run_3_1_1_x_2_4) (by decide) a b h
theorem fp_eX0_run_3_1_1_x_2_4_fp_eX0_run_3_0_1_x_3_4 (a b : Nat) (h : fp_eX0_run_3_0_1_x_3_4 a b = true) : fp_eX0_run_3_1_1_x_2_4 a b = true := pvfp_sub (l1 := fpL_eX0_run_3_0_1_x_3_4) (l2 := fpL_eX0_run_3_1_1_x_2_4) (by decide) a b h
set_option maxHeartbeats 4000000 in
set_option maxRecDepth 10000 in
theorem se_X0_run_3_1_1_x_2_4 (M : pvM) (hok : pvOk M) (n3 : Int32) (hc3_1 : 0 ≤ Int32.toInt (M.1 3 1) ∧ Int32.toInt (M.1 3 1) ≤ 995) (hc3_2 : 4 ≤ Int32.toInt (M.1 3 2) ∧ Int32.toInt (M.1 3 2) ≤ 4) (d : Nat) (hd : 3 ≤ d) : PW 4 d (0, [some (pvR 3), some (pvI 1), some (pvI 1), some (pvI n3), some (pvI 2), none, none], [], M) (fun r X => (∃ x : Int32, r = some (pvI x) ∧ True ∧ x = (((-(n3 + (M.1 3 4))) - (M.1 3 3)) ^^^ 6)) ∧ pvOk X ∧ pvFr fp_eX0_run_3_1_1_x_2_4 M X ∧ Int32.toInt (X.1 3 1) ≤ Int32.toInt (M.1 3 1) + 4 ∧ zTr 3 1 4 (([20] : List Int32) ++ (([11] : List Int32) ++ (([50] : List Int32) ++ ([10] : List Int32)))) M X) := by
  have hT : pvdom 4 = pvD_4 := rfl
  refine pw_blk hT 2 (S' := (4, [some (pvR 3), some (pvI 1), some (pvI 1), some (pvI n3), some (pvI 2), none, none], [pvI 40, pvI 2], M)) rfl ⟨trivial, trivial, trivial⟩ ?_
  refine pw_ic hT (c := 2 ≤ 40) rfl rfl (fun c1_ => ?_) (fun c1_ => absurd (by decide) c1_)
  refine pw_blk hT 2 (S' := (11, [some (pvR 3), some (pvI 1), some (pvI 1), some (pvI n3), some (pvI 2), none, none], [pvI 1, pvI 1], M)) rfl ⟨trivial, trivial, trivial⟩ ?_
  refine pw_callT hT (as := [pvI 1, pvI 1]) (lo1 := [some (pvI 1), some (pvI 1), none, none, none]) (d1 := d) (rest := []) rfl rfl rfl rfl rfl (fun h => absurd h (by decide)) (Nat.zero_le _) rfl rfl rfl (sf_X0_bodyFrom_1_1 M hok d) ?_
  refine pw_eqI (show ((pvstab 1041).getD (Int32.toNatClampNeg ((1 * 3) + 1)) 0) = 20 from by decide) ?_
  show PW 4 d (14, [some (pvR 3), some (pvI 1), some (pvI 1), some (pvI n3), some (pvI 2), none, none], [pvI 20], M) _
  refine pw_blk hT 7 (S' := (25, [some (pvR 3), some (pvI 1), some (pvI 1), some (pvI n3), some (pvI 2), some (pvI 20), some (pvI (2 + 1))], [pvI 20, pvR 3], M)) rfl ⟨trivial, trivial, trivial, trivial, trivial, trivial, trivial, trivial⟩ ?_
  refine pw_callVd hT (as := [pvR 3, pvI 20]) (lo1 := [some (pvR 3), some (pvI 20)]) (d1 := d) (rest := []) rfl rfl rfl rfl rfl (fun _ => rfl) (Nat.zero_le _) rfl rfl rfl (se_X0_note_3_x M hok 20 (zr_wide (show 20 ≤ Int32.toInt 20 ∧ Int32.toInt 20 ≤ 20 from (by decide)) (by decide) (by decide)) (zr_wide hc3_1 (by decide) (by decide)) d) (fun M11_ o13_ g14_ d9_ => ?_)
  have d7_ := d9_.1
  have d8_ := d9_.2
  have f15_ : pvFr fp_eX0_run_3_1_1_x_2_4 M M11_ := pvfr_t g14_ pvfr_0 fp_eX0_run_3_1_1_x_2_4_fp_eX0_note_3_x
  have b16_ : 0 ≤ Int32.toInt (M11_.1 3 1) ∧ Int32.toInt (M11_.1 3 1) ≤ 996 := (by have u0 := hc3_1; have u1 := d7_; have u2 := pvok_r o13_ 3 1 (lo := 0) (hi := 1000000) rfl; omega)
  refine pw_blk hT 1 (S' := (30, [some (pvR 3), some (pvI 1), some (pvI 1), some (pvI n3), some (pvI 2), some (pvI 20), some (pvI (2 + 1))], [pvI 20], M11_)) rfl ⟨trivial, trivial⟩ ?_
  refine pw_sw hT rfl rfl ?_
  refine And.intro (fun c17_ => absurd c17_ (by decide)) (fun c17_ => ?_)
  refine And.intro (fun c18_ => absurd c18_ (by decide)) (fun c18_ => ?_)
  refine And.intro (fun c19_ => absurd c19_ (by decide)) (fun c19_ => ?_)
  refine And.intro (fun c20_ => ?_) (fun c20_ => absurd (by decide) c20_)
  show PW 4 d (168, [some (pvR 3), some (pvI 1), some (pvI 1), some (pvI n3), some (pvI 2), some (pvI 20), some (pvI (2 + 1))], [], M11_) _
  refine pw_blk hT 5 (S' := (174, [some (pvR 3), some (pvI 1), some (pvI 1), some (pvI n3), some (pvI 2), some (pvI 20), some (pvI (2 + 1))], [pvI (2 + 1), pvI n3, pvI 1, pvI 0, pvR 3], M11_)) rfl ⟨trivial, trivial, trivial, trivial, trivial, trivial⟩ ?_
  have e21_ : (M11_.1 3 2) = (M.1 3 2) := (g14_ 3 2 rfl)
  have b22_ : 4 ≤ Int32.toInt (M11_.1 3 2) ∧ Int32.toInt (M11_.1 3 2) ≤ 4 := (by rw [e21_]; exact hc3_2)
  refine pw_callGd hT (as := [pvR 3, pvI 0, pvI 1, pvI n3, pvI (2 + 1)]) (lo1 := [some (pvR 3), some (pvI 0), some (pvI 1), some (pvI n3), some (pvI (2 + 1)), none, none]) (d1 := (d - 1)) (rest := []) rfl rfl rfl rfl rfl (fun h => absurd h (by decide)) (show 1 ≤ d by omega) rfl rfl rfl (se_X0_run_3_0_1_x_3_4 M11_ o13_ n3 b16_ b22_ (d - 1) (by omega)) (fun x26_ M27_ b28_ o29_ g30_ d25_ => ?_)
  have d23_ := d25_.1
  have d24_ := d25_.2
  have f31_ : pvFr fp_eX0_run_3_1_1_x_2_4 M M27_ := pvfr_t g30_ f15_ fp_eX0_run_3_1_1_x_2_4_fp_eX0_run_3_0_1_x_3_4
  have b32_ : 0 ≤ Int32.toInt (M27_.1 3 1) ∧ Int32.toInt (M27_.1 3 1) ≤ 999 := (by have u0 := b16_; have u1 := d23_; have u2 := pvok_r o29_ 3 1 (lo := 0) (hi := 1000000) rfl; omega)
  have u33_ : Int32.toInt 0 = 0 := by decide
  have u34_ : Int32.toInt 1 = 1 := by decide
  have u35_ : Int32.toInt (2 + 1) = 3 := by decide
  obtain ⟨b36_, d37_⟩ := b28_
  subst d37_
  have e38_ : ((-(n3 + (M11_.1 3 4))) - (M11_.1 3 3)) = ((-(n3 + (M.1 3 4))) - (M.1 3 3)) := (show ((-(n3 + (M11_.1 3 4))) - (M11_.1 3 3)) = ((-(n3 + (M.1 3 4))) - (M.1 3 3)) from by rw [(g14_ 3 4 rfl), (g14_ 3 3 rfl)])
  refine pw_eqI e38_ ?_
  refine pw_blk hT 2 (S' := (180, [some (pvR 3), some (pvI 1), some (pvI 1), some (pvI n3), some (pvI 2), some (pvI 20), some (pvI (2 + 1))], [pvI (((-(n3 + (M.1 3 4))) - (M.1 3 3)) ^^^ 6)], M27_)) rfl ⟨trivial, trivial, trivial⟩ ?_
  exact pw_ret hT rfl (r := some (pvI (((-(n3 + (M.1 3 4))) - (M.1 3 3)) ^^^ 6))) (M' := M27_) ⟨rfl, rfl⟩ ⟨⟨_, rfl, trivial, rfl⟩, o29_, f31_, (by omega), (zTr_c (pvok_r hok 3 1 rfl).1 (zTr_c0 (pvok_r hok 3 1 rfl).1 (zTr_0 3 1 4 M) d8_) d24_)⟩
def fpL_eX0_run_3_4_1_x_1_4 : List (Nat × Nat × Nat) := [(0, 3, 2), (0, 4, 0)]
def fp_eX0_run_3_4_1_x_1_4 (q k : Nat) : Bool := pvfp fpL_eX0_run_3_4_1_x_1_4 q k
theorem fp_eX0_run_3_4_1_x_1_4_fp_eX0_note_3_x (a b : Nat) (h : fp_eX0_note_3_x a b = true) : fp_eX0_run_3_4_1_x_1_4 a b = true := pvfp_sub (l1 := fpL_eX0_note_3_x) (l2 := fpL_eX0_run_3_4_1_x_1_4) (by decide) a b h
theorem fp_eX0_run_3_4_1_x_1_4_fp_eX0_run_3_1_1_x_2_4 (a b : Nat) (h : fp_eX0_run_3_1_1_x_2_4 a b = true) : fp_eX0_run_3_4_1_x_1_4 a b = true := pvfp_sub (l1 := fpL_eX0_run_3_1_1_x_2_4) (l2 := fpL_eX0_run_3_4_1_x_1_4) (by decide) a b h
set_option maxHeartbeats 4000000 in
set_option maxRecDepth 10000 in
theorem se_X0_run_3_4_1_x_1_4 (M : pvM) (hok : pvOk M) (n3 : Int32) (hc3_1 : 0 ≤ Int32.toInt (M.1 3 1) ∧ Int32.toInt (M.1 3 1) ≤ 994) (hc3_2 : 4 ≤ Int32.toInt (M.1 3 2) ∧ Int32.toInt (M.1 3 2) ≤ 4) (d : Nat) (hd : 4 ≤ d) : PW 4 d (0, [some (pvR 3), some (pvI 4), some (pvI 1), some (pvI n3), some (pvI 1), none, none], [], M) (fun r X => (∃ x : Int32, r = some (pvI x) ∧ True ∧ x = (((-((n3 + 1) + (M.1 3 4))) - (M.1 3 3)) ^^^ 6)) ∧ pvOk X ∧ pvFr fp_eX0_run_3_4_1_x_1_4 M X ∧ Int32.toInt (X.1 3 1) ≤ Int32.toInt (M.1 3 1) + 5 ∧ zTr 3 1 4 (([51] : List Int32) ++ (([20] : List Int32) ++ (([11] : List Int32) ++ (([50] : List Int32) ++ ([10] : List Int32))))) M X) := by
  have hT : pvdom 4 = pvD_4 := rfl
  refine pw_blk hT 2 (S' := (4, [some (pvR 3), some (pvI 4), some (pvI 1), some (pvI n3), some (pvI 1), none, none], [pvI 40, pvI 1], M)) rfl ⟨trivial, trivial, trivial⟩ ?_
  refine pw_ic hT (c := 1 ≤ 40) rfl rfl (fun c1_ => ?_) (fun c1_ => absurd (by decide) c1_)
  refine pw_blk hT 2 (S' := (11, [some (pvR 3), some (pvI 4), some (pvI 1), some (pvI n3), some (pvI 1), none, none], [pvI 1, pvI 4], M)) rfl ⟨trivial, trivial, trivial⟩ ?_
  refine pw_callT hT (as := [pvI 4, pvI 1]) (lo1 := [some (pvI 4), some (pvI 1), none, none, none]) (d1 := d) (rest := []) rfl rfl rfl rfl rfl (fun h => absurd h (by decide)) (Nat.zero_le _) rfl rfl rfl (sf_X0_bodyFrom_4_1 M hok d) ?_
  refine pw_eqI (show ((pvstab 1041).getD (Int32.toNatClampNeg ((4 * 3) + 1)) 0) = 51 from by decide) ?_
  show PW 4 d (14, [some (pvR 3), some (pvI 4), some (pvI 1), some (pvI n3), some (pvI 1), none, none], [pvI 51], M) _
  refine pw_blk hT 7 (S' := (25, [some (pvR 3), some (pvI 4), some (pvI 1), some (pvI n3), some (pvI 1), some (pvI 51), some (pvI (1 + 1))], [pvI 51, pvR 3], M)) rfl ⟨trivial, trivial, trivial, trivial, trivial, trivial, trivial, trivial⟩ ?_
  refine pw_callVd hT (as := [pvR 3, pvI 51]) (lo1 := [some (pvR 3), some (pvI 51)]) (d1 := d) (rest := []) rfl rfl rfl rfl rfl (fun _ => rfl) (Nat.zero_le _) rfl rfl rfl (se_X0_note_3_x M hok 51 (zr_wide (show 51 ≤ Int32.toInt 51 ∧ Int32.toInt 51 ≤ 51 from (by decide)) (by decide) (by decide)) (zr_wide hc3_1 (by decide) (by decide)) d) (fun M11_ o13_ g14_ d9_ => ?_)
  have d7_ := d9_.1
  have d8_ := d9_.2
  have f15_ : pvFr fp_eX0_run_3_4_1_x_1_4 M M11_ := pvfr_t g14_ pvfr_0 fp_eX0_run_3_4_1_x_1_4_fp_eX0_note_3_x
  have b16_ : 0 ≤ Int32.toInt (M11_.1 3 1) ∧ Int32.toInt (M11_.1 3 1) ≤ 995 := (by have u0 := hc3_1; have u1 := d7_; have u2 := pvok_r o13_ 3 1 (lo := 0) (hi := 1000000) rfl; omega)
  refine pw_blk hT 1 (S' := (30, [some (pvR 3), some (pvI 4), some (pvI 1), some (pvI n3), some (pvI 1), some (pvI 51), some (pvI (1 + 1))], [pvI 51], M11_)) rfl ⟨trivial, trivial⟩ ?_
  refine pw_sw hT rfl rfl ?_
  refine And.intro (fun c17_ => absurd c17_ (by decide)) (fun c17_ => ?_)
  refine And.intro (fun c18_ => absurd c18_ (by decide)) (fun c18_ => ?_)
  refine And.intro (fun c19_ => absurd c19_ (by decide)) (fun c19_ => ?_)
  refine And.intro (fun c20_ => absurd c20_ (by decide)) (fun c20_ => ?_)
  refine And.intro (fun c21_ => absurd c21_ (by decide)) (fun c21_ => ?_)
  refine And.intro (fun c22_ => absurd c22_ (by decide)) (fun c22_ => ?_)
  refine And.intro (fun c23_ => absurd c23_ (by decide)) (fun c23_ => ?_)
  refine And.intro (fun c24_ => ?_) (fun c24_ => absurd (by decide) c24_)
  show PW 4 d (227, [some (pvR 3), some (pvI 4), some (pvI 1), some (pvI n3), some (pvI 1), some (pvI 51), some (pvI (1 + 1))], [], M11_) _
  refine pw_blk hT 7 (S' := (235, [some (pvR 3), some (pvI 4), some (pvI 1), some (pvI n3), some (pvI 1), some (pvI 51), some (pvI (1 + 1))], [pvI (1 + 1), pvI (n3 + 1), pvI 1, pvI 1, pvR 3], M11_)) rfl ⟨trivial, trivial, trivial, trivial, trivial, trivial, trivial, trivial⟩ ?_
  have e25_ : (M11_.1 3 2) = (M.1 3 2) := (g14_ 3 2 rfl)
  have b26_ : 4 ≤ Int32.toInt (M11_.1 3 2) ∧ Int32.toInt (M11_.1 3 2) ≤ 4 := (by rw [e25_]; exact hc3_2)
  refine pw_callGd hT (as := [pvR 3, pvI 1, pvI 1, pvI (n3 + 1), pvI (1 + 1)]) (lo1 := [some (pvR 3), some (pvI 1), some (pvI 1), some (pvI (n3 + 1)), some (pvI (1 + 1)), none, none]) (d1 := (d - 1)) (rest := []) rfl rfl rfl rfl rfl (fun h => absurd h (by decide)) (show 1 ≤ d by omega) rfl rfl rfl (se_X0_run_3_1_1_x_2_4 M11_ o13_ (n3 + 1) b16_ b26_ (d - 1) (by omega)) (fun x30_ M31_ b32_ o33_ g34_ d29_ => ?_)
  have d27_ := d29_.1
  have d28_ := d29_.2
  have f35_ : pvFr fp_eX0_run_3_4_1_x_1_4 M M31_ := pvfr_t g34_ f15_ fp_eX0_run_3_4_1_x_1_4_fp_eX0_run_3_1_1_x_2_4
  have b36_ : 0 ≤ Int32.toInt (M31_.1 3 1) ∧ Int32.toInt (M31_.1 3 1) ≤ 999 := (by have u0 := b16_; have u1 := d27_; have u2 := pvok_r o33_ 3 1 (lo := 0) (hi := 1000000) rfl; omega)
  have u37_ : Int32.toInt 1 = 1 := by decide
  have u38_ : Int32.toInt (1 + 1) = 2 := by decide
  obtain ⟨b39_, d40_⟩ := b32_
  subst d40_
  have e41_ : (((-((n3 + 1) + (M11_.1 3 4))) - (M11_.1 3 3)) ^^^ 6) = (((-((n3 + 1) + (M.1 3 4))) - (M.1 3 3)) ^^^ 6) := (show (((-((n3 + 1) + (M11_.1 3 4))) - (M11_.1 3 3)) ^^^ 6) = (((-((n3 + 1) + (M.1 3 4))) - (M.1 3 3)) ^^^ 6) from by rw [(g14_ 3 4 rfl), (g14_ 3 3 rfl)])
  refine pw_eqI e41_ ?_
  exact pw_ret hT rfl (r := some (pvI (((-((n3 + 1) + (M.1 3 4))) - (M.1 3 3)) ^^^ 6))) (M' := M31_) ⟨rfl, rfl⟩ ⟨⟨_, rfl, trivial, rfl⟩, o33_, f35_, (by omega), (zTr_c (pvok_r hok 3 1 rfl).1 (zTr_c0 (pvok_r hok 3 1 rfl).1 (zTr_0 3 1 4 M) d8_) d28_)⟩
def fpL_eX0_run_3_4_2_x_0_4 : List (Nat × Nat × Nat) := [(0, 3, 2), (0, 4, 0)]
def fp_eX0_run_3_4_2_x_0_4 (q k : Nat) : Bool := pvfp fpL_eX0_run_3_4_2_x_0_4 q k
theorem fp_eX0_run_3_4_2_x_0_4_fp_eX0_note_3_x (a b : Nat) (h : fp_eX0_note_3_x a b = true) : fp_eX0_run_3_4_2_x_0_4 a b = true := pvfp_sub (l1 := fpL_eX0_note_3_x) (l2 := fpL_eX0_run_3_4_2_x_0_4) (by decide) a b h
theorem fp_eX0_run_3_4_2_x_0_4_fp_eX0_run_3_4_1_x_1_4 (a b : Nat) (h : fp_eX0_run_3_4_1_x_1_4 a b = true) : fp_eX0_run_3_4_2_x_0_4 a b = true := pvfp_sub (l1 := fpL_eX0_run_3_4_1_x_1_4) (l2 := fpL_eX0_run_3_4_2_x_0_4) (by decide) a b h
set_option maxHeartbeats 4000000 in
set_option maxRecDepth 10000 in
theorem se_X0_run_3_4_2_x_0_4 (M : pvM) (hok : pvOk M) (n3 : Int32) (hc3_1 : 0 ≤ Int32.toInt (M.1 3 1) ∧ Int32.toInt (M.1 3 1) ≤ 993) (hc3_2 : 4 ≤ Int32.toInt (M.1 3 2) ∧ Int32.toInt (M.1 3 2) ≤ 4) (d : Nat) (hd : 5 ≤ d) : PW 4 d (0, [some (pvR 3), some (pvI 4), some (pvI 2), some (pvI n3), some (pvI 0), none, none], [], M) (fun r X => (∃ x : Int32, r = some (pvI x) ∧ True ∧ x = ((((-((n3 + 1) + (M.1 3 4))) - (M.1 3 3)) ^^^ 6) * 2)) ∧ pvOk X ∧ pvFr fp_eX0_run_3_4_2_x_0_4 M X ∧ Int32.toInt (X.1 3 1) ≤ Int32.toInt (M.1 3 1) + 6 ∧ zTr 3 1 4 (([12] : List Int32) ++ (([51] : List Int32) ++ (([20] : List Int32) ++ (([11] : List Int32) ++ (([50] : List Int32) ++ ([10] : List Int32)))))) M X) := by
  have hT : pvdom 4 = pvD_4 := rfl
  refine pw_blk hT 2 (S' := (4, [some (pvR 3), some (pvI 4), some (pvI 2), some (pvI n3), some (pvI 0), none, none], [pvI 40, pvI 0], M)) rfl ⟨trivial, trivial, trivial⟩ ?_
  refine pw_ic hT (c := 0 ≤ 40) rfl rfl (fun c1_ => ?_) (fun c1_ => absurd (by decide) c1_)
  refine pw_blk hT 2 (S' := (11, [some (pvR 3), some (pvI 4), some (pvI 2), some (pvI n3), some (pvI 0), none, none], [pvI 2, pvI 4], M)) rfl ⟨trivial, trivial, trivial⟩ ?_
  refine pw_callT hT (as := [pvI 4, pvI 2]) (lo1 := [some (pvI 4), some (pvI 2), none, none, none]) (d1 := d) (rest := []) rfl rfl rfl rfl rfl (fun h => absurd h (by decide)) (Nat.zero_le _) rfl rfl rfl (sf_X0_bodyFrom_4_2 M hok d) ?_
  refine pw_eqI (show ((pvstab 1041).getD (Int32.toNatClampNeg ((0 * 3) + 2)) 0) = 12 from by decide) ?_
  show PW 4 d (14, [some (pvR 3), some (pvI 4), some (pvI 2), some (pvI n3), some (pvI 0), none, none], [pvI 12], M) _
  refine pw_blk hT 7 (S' := (25, [some (pvR 3), some (pvI 4), some (pvI 2), some (pvI n3), some (pvI 0), some (pvI 12), some (pvI (0 + 1))], [pvI 12, pvR 3], M)) rfl ⟨trivial, trivial, trivial, trivial, trivial, trivial, trivial, trivial⟩ ?_
  refine pw_callVd hT (as := [pvR 3, pvI 12]) (lo1 := [some (pvR 3), some (pvI 12)]) (d1 := d) (rest := []) rfl rfl rfl rfl rfl (fun _ => rfl) (Nat.zero_le _) rfl rfl rfl (se_X0_note_3_x M hok 12 (zr_wide (show 12 ≤ Int32.toInt 12 ∧ Int32.toInt 12 ≤ 12 from (by decide)) (by decide) (by decide)) (zr_wide hc3_1 (by decide) (by decide)) d) (fun M11_ o13_ g14_ d9_ => ?_)
  have d7_ := d9_.1
  have d8_ := d9_.2
  have f15_ : pvFr fp_eX0_run_3_4_2_x_0_4 M M11_ := pvfr_t g14_ pvfr_0 fp_eX0_run_3_4_2_x_0_4_fp_eX0_note_3_x
  have b16_ : 0 ≤ Int32.toInt (M11_.1 3 1) ∧ Int32.toInt (M11_.1 3 1) ≤ 994 := (by have u0 := hc3_1; have u1 := d7_; have u2 := pvok_r o13_ 3 1 (lo := 0) (hi := 1000000) rfl; omega)
  refine pw_blk hT 1 (S' := (30, [some (pvR 3), some (pvI 4), some (pvI 2), some (pvI n3), some (pvI 0), some (pvI 12), some (pvI (0 + 1))], [pvI 12], M11_)) rfl ⟨trivial, trivial⟩ ?_
  refine pw_sw hT rfl rfl ?_
  refine And.intro (fun c17_ => absurd c17_ (by decide)) (fun c17_ => ?_)
  refine And.intro (fun c18_ => absurd c18_ (by decide)) (fun c18_ => ?_)
  refine And.intro (fun c19_ => ?_) (fun c19_ => absurd (by decide) c19_)
  show PW 4 d (153, [some (pvR 3), some (pvI 4), some (pvI 2), some (pvI n3), some (pvI 0), some (pvI 12), some (pvI (0 + 1))], [], M11_) _
  have e20_ : (M11_.1 3 2) = (M.1 3 2) := (g14_ 3 2 rfl)
  have b21_ : 4 ≤ Int32.toInt (M11_.1 3 2) ∧ Int32.toInt (M11_.1 3 2) ≤ 4 := (by rw [e20_]; exact hc3_2)
  refine pw_blk hT 3 (S' := (158, [some (pvR 3), some (pvI 4), some (pvI 2), some (pvI n3), some (pvI 0), some (pvI 12), some (pvI (0 + 1))], [pvI (M11_.1 3 2), pvR 3], M11_)) rfl ⟨trivial, trivial, rfl, trivial⟩ ?_
  refine pw_eqI ((zi_eq _ (4)).mpr (by have u0 := b21_; have u1 : Int32.toInt (4) = 4 := (by decide); omega)) ?_
  refine pw_blk hT 3 (S' := (162, [some (pvR 3), some (pvI 4), some (pvI 2), some (pvI n3), some (pvI 0), some (pvI 12), some (pvI (0 + 1))], [pvI (0 + 1), pvI n3, pvI 1, pvI 4, pvR 3], M11_)) rfl ⟨trivial, trivial, trivial, trivial⟩ ?_
  refine pw_callGd hT (as := [pvR 3, pvI 4, pvI 1, pvI n3, pvI (0 + 1)]) (lo1 := [some (pvR 3), some (pvI 4), some (pvI 1), some (pvI n3), some (pvI (0 + 1)), none, none]) (d1 := (d - 1)) (rest := []) rfl rfl rfl rfl rfl (fun h => absurd h (by decide)) (show 1 ≤ d by omega) rfl rfl rfl (se_X0_run_3_4_1_x_1_4 M11_ o13_ n3 b16_ b21_ (d - 1) (by omega)) (fun x25_ M26_ b27_ o28_ g29_ d24_ => ?_)
  have d22_ := d24_.1
  have d23_ := d24_.2
  have f30_ : pvFr fp_eX0_run_3_4_2_x_0_4 M M26_ := pvfr_t g29_ f15_ fp_eX0_run_3_4_2_x_0_4_fp_eX0_run_3_4_1_x_1_4
  have b31_ : 0 ≤ Int32.toInt (M26_.1 3 1) ∧ Int32.toInt (M26_.1 3 1) ≤ 999 := (by have u0 := b16_; have u1 := d22_; have u2 := pvok_r o28_ 3 1 (lo := 0) (hi := 1000000) rfl; omega)
  have u32_ : Int32.toInt 4 = 4 := by decide
  have u33_ : Int32.toInt 1 = 1 := by decide
  have u34_ : Int32.toInt (0 + 1) = 1 := by decide
  obtain ⟨b35_, d36_⟩ := b27_
  subst d36_
  have e37_ : (((-((n3 + 1) + (M11_.1 3 4))) - (M11_.1 3 3)) ^^^ 6) = (((-((n3 + 1) + (M.1 3 4))) - (M.1 3 3)) ^^^ 6) := (show (((-((n3 + 1) + (M11_.1 3 4))) - (M11_.1 3 3)) ^^^ 6) = (((-((n3 + 1) + (M.1 3 4))) - (M.1 3 3)) ^^^ 6) from by rw [(g14_ 3 4 rfl), (g14_ 3 3 rfl)])
  refine pw_eqI e37_ ?_
  refine pw_blk hT 2 (S' := (167, [some (pvR 3), some (pvI 4), some (pvI 2), some (pvI n3), some (pvI 0), some (pvI 12), some (pvI (0 + 1))], [pvI ((((-((n3 + 1) + (M.1 3 4))) - (M.1 3 3)) ^^^ 6) * 2)], M26_)) rfl ⟨trivial, trivial, trivial⟩ ?_
  exact pw_ret hT rfl (r := some (pvI ((((-((n3 + 1) + (M.1 3 4))) - (M.1 3 3)) ^^^ 6) * 2))) (M' := M26_) ⟨rfl, rfl⟩ ⟨⟨_, rfl, trivial, rfl⟩, o28_, f30_, (by omega), (zTr_c (pvok_r hok 3 1 rfl).1 (zTr_c0 (pvok_r hok 3 1 rfl).1 (zTr_0 3 1 4 M) d8_) d23_)⟩
set_option maxHeartbeats 4000000 in
set_option maxRecDepth 10000 in
theorem se_X3_above_5 (M : pvM) (hok : pvOk M) (d : Nat) : PW 131 d (0, [some (pvI 5)], [], M) (fun r X => r = some (pvI (((pvstab 1040).getD (Int32.toNatClampNeg 5) 0))) ∧ X = M) := by
  have hT : pvdom 131 = pvD_131 := rfl
  refine pw_blk hT 1 (S' := (1, [some (pvI 5)], [pvI 5], M)) rfl ⟨trivial, trivial⟩ ?_
  refine pw_if hT (c := 5 < 0) rfl rfl (fun c1_ => absurd c1_ (by decide)) (fun c1_ => ?_)
  refine pw_blk hT 3 (S' := (9, [some (pvI 5)], [pvI (Int32.ofNat (pvstab 1040).length), pvI 5], M)) rfl ⟨trivial, trivial, (by decide), trivial⟩ ?_
  refine pw_ic hT (c := 5 < (Int32.ofNat (pvstab 1040).length)) rfl rfl (fun c2_ => ?_) (fun c2_ => absurd (by decide) c2_)
  refine pw_blk hT 3 (S' := (21, [some (pvI 5)], [pvI ((pvstab 1040).getD (Int32.toNatClampNeg 5) 0)], M)) rfl ⟨trivial, trivial, ⟨by decide, (zr_in (n := 7) (show 5 ≤ Int32.toInt 5 ∧ Int32.toInt 5 ≤ 5 from (by decide)) (by decide) (by decide))⟩, trivial⟩ ?_
  exact pw_ret hT rfl (r := some (pvI ((pvstab 1040).getD (Int32.toNatClampNeg 5) 0))) (M' := M) ⟨rfl, rfl⟩ ⟨rfl, rfl⟩
def fpL_eX0_run_3_0_0_x_1_5 : List (Nat × Nat × Nat) := [(0, 3, 2), (0, 4, 0)]
def fp_eX0_run_3_0_0_x_1_5 (q k : Nat) : Bool := pvfp fpL_eX0_run_3_0_0_x_1_5 q k
theorem fp_eX0_run_3_0_0_x_1_5_fp_eX0_note_3_x (a b : Nat) (h : fp_eX0_note_3_x a b = true) : fp_eX0_run_3_0_0_x_1_5 a b = true := pvfp_sub (l1 := fpL_eX0_note_3_x) (l2 := fpL_eX0_run_3_0_0_x_1_5) (by decide) a b h
set_option maxHeartbeats 4000000 in
set_option maxRecDepth 10000 in
theorem se_X0_run_3_0_0_x_1_5 (M : pvM) (hok : pvOk M) (n3 : Int32) (hc3_1 : 0 ≤ Int32.toInt (M.1 3 1) ∧ Int32.toInt (M.1 3 1) ≤ 998) (hc3_2 : 5 ≤ Int32.toInt (M.1 3 2) ∧ Int32.toInt (M.1 3 2) ≤ 5) (d : Nat) : PW 4 d (0, [some (pvR 3), some (pvI 0), some (pvI 0), some (pvI n3), some (pvI 1), none, none], [], M) (fun r X => (∃ x : Int32, r = some (pvI x) ∧ True ∧ x = (n3 + (M.1 3 4))) ∧ pvOk X ∧ pvFr fp_eX0_run_3_0_0_x_1_5 M X ∧ Int32.toInt (X.1 3 1) ≤ Int32.toInt (M.1 3 1) + 1 ∧ zTr 3 1 4 ([10] : List Int32) M X) := by
  have hT : pvdom 4 = pvD_4 := rfl
  refine pw_blk hT 2 (S' := (4, [some (pvR 3), some (pvI 0), some (pvI 0), some (pvI n3), some (pvI 1), none, none], [pvI 40, pvI 1], M)) rfl ⟨trivial, trivial, trivial⟩ ?_
  refine pw_ic hT (c := 1 ≤ 40) rfl rfl (fun c1_ => ?_) (fun c1_ => absurd (by decide) c1_)
  refine pw_blk hT 2 (S' := (11, [some (pvR 3), some (pvI 0), some (pvI 0), some (pvI n3), some (pvI 1), none, none], [pvI 0, pvI 0], M)) rfl ⟨trivial, trivial, trivial⟩ ?_
  refine pw_callT hT (as := [pvI 0, pvI 0]) (lo1 := [some (pvI 0), some (pvI 0), none, none, none]) (d1 := d) (rest := []) rfl rfl rfl rfl rfl (fun h => absurd h (by decide)) (Nat.zero_le _) rfl rfl rfl (sf_X0_bodyFrom_0_0 M hok d) ?_
  refine pw_eqI (show ((pvstab 1041).getD (Int32.toNatClampNeg ((0 * 3) + 0)) 0) = 10 from by decide) ?_
  show PW 4 d (14, [some (pvR 3), some (pvI 0), some (pvI 0), some (pvI n3), some (pvI 1), none, none], [pvI 10], M) _
  refine pw_blk hT 7 (S' := (25, [some (pvR 3), some (pvI 0), some (pvI 0), some (pvI n3), some (pvI 1), some (pvI 10), some (pvI (1 + 1))], [pvI 10, pvR 3], M)) rfl ⟨trivial, trivial, trivial, trivial, trivial, trivial, trivial, trivial⟩ ?_
  refine pw_callVd hT (as := [pvR 3, pvI 10]) (lo1 := [some (pvR 3), some (pvI 10)]) (d1 := d) (rest := []) rfl rfl rfl rfl rfl (fun _ => rfl) (Nat.zero_le _) rfl rfl rfl (se_X0_note_3_x M hok 10 (zr_wide (show 10 ≤ Int32.toInt 10 ∧ Int32.toInt 10 ≤ 10 from (by decide)) (by decide) (by decide)) (zr_wide hc3_1 (by decide) (by decide)) d) (fun M11_ o13_ g14_ d9_ => ?_)
  have d7_ := d9_.1
  have d8_ := d9_.2
  have f15_ : pvFr fp_eX0_run_3_0_0_x_1_5 M M11_ := pvfr_t g14_ pvfr_0 fp_eX0_run_3_0_0_x_1_5_fp_eX0_note_3_x
  have b16_ : 0 ≤ Int32.toInt (M11_.1 3 1) ∧ Int32.toInt (M11_.1 3 1) ≤ 999 := (by have u0 := hc3_1; have u1 := d7_; have u2 := pvok_r o13_ 3 1 (lo := 0) (hi := 1000000) rfl; omega)
  refine pw_blk hT 1 (S' := (30, [some (pvR 3), some (pvI 0), some (pvI 0), some (pvI n3), some (pvI 1), some (pvI 10), some (pvI (1 + 1))], [pvI 10], M11_)) rfl ⟨trivial, trivial⟩ ?_
  refine pw_sw hT rfl rfl ?_
  refine And.intro (fun c17_ => ?_) (fun c17_ => absurd (by decide) c17_)
  show PW 4 d (128, [some (pvR 3), some (pvI 0), some (pvI 0), some (pvI n3), some (pvI 1), some (pvI 10), some (pvI (1 + 1))], [], M11_) _
  refine pw_blk hT 3 (S' := (133, [some (pvR 3), some (pvI 0), some (pvI 0), some (pvI n3), some (pvI 1), some (pvI 10), some (pvI (1 + 1))], [pvI (M11_.1 3 4), pvI n3], M11_)) rfl ⟨trivial, trivial, rfl, trivial⟩ ?_
  have e18_ : (M11_.1 3 4) = (M.1 3 4) := (g14_ 3 4 rfl)
  refine pw_eqI e18_ ?_
  refine pw_blk hT 1 (S' := (134, [some (pvR 3), some (pvI 0), some (pvI 0), some (pvI n3), some (pvI 1), some (pvI 10), some (pvI (1 + 1))], [pvI (n3 + (M.1 3 4))], M11_)) rfl ⟨trivial, trivial⟩ ?_
  exact pw_ret hT rfl (r := some (pvI (n3 + (M.1 3 4)))) (M' := M11_) ⟨rfl, rfl⟩ ⟨⟨_, rfl, trivial, rfl⟩, o13_, f15_, (by omega), (zTr_c0 (pvok_r hok 3 1 rfl).1 (zTr_0 3 1 4 M) d8_)⟩
def fpL_eX0_run_3_5_0_x_0_5 : List (Nat × Nat × Nat) := [(0, 3, 2), (0, 4, 0)]
def fp_eX0_run_3_5_0_x_0_5 (q k : Nat) : Bool := pvfp fpL_eX0_run_3_5_0_x_0_5 q k
theorem fp_eX0_run_3_5_0_x_0_5_fp_eX0_note_3_x (a b : Nat) (h : fp_eX0_note_3_x a b = true) : fp_eX0_run_3_5_0_x_0_5 a b = true := pvfp_sub (l1 := fpL_eX0_note_3_x) (l2 := fpL_eX0_run_3_5_0_x_0_5) (by decide) a b h
theorem fp_eX0_run_3_5_0_x_0_5_fp_eX0_run_3_0_0_x_1_5 (a b : Nat) (h : fp_eX0_run_3_0_0_x_1_5 a b = true) : fp_eX0_run_3_5_0_x_0_5 a b = true := pvfp_sub (l1 := fpL_eX0_run_3_0_0_x_1_5) (l2 := fpL_eX0_run_3_5_0_x_0_5) (by decide) a b h
set_option maxHeartbeats 4000000 in
set_option maxRecDepth 10000 in
theorem se_X0_run_3_5_0_x_0_5 (M : pvM) (hok : pvOk M) (n3 : Int32) (hc3_1 : 0 ≤ Int32.toInt (M.1 3 1) ∧ Int32.toInt (M.1 3 1) ≤ 997) (hc3_2 : 5 ≤ Int32.toInt (M.1 3 2) ∧ Int32.toInt (M.1 3 2) ≤ 5) (d : Nat) (hd : 1 ≤ d) : PW 4 d (0, [some (pvR 3), some (pvI 5), some (pvI 0), some (pvI n3), some (pvI 0), none, none], [], M) (fun r X => (∃ x : Int32, r = some (pvI x) ∧ True ∧ x = ((n3 * 3) + (M.1 3 4))) ∧ pvOk X ∧ pvFr fp_eX0_run_3_5_0_x_0_5 M X ∧ Int32.toInt (X.1 3 1) ≤ Int32.toInt (M.1 3 1) + 2 ∧ zTr 3 1 4 (([30] : List Int32) ++ ([10] : List Int32)) M X) := by
  have hT : pvdom 4 = pvD_4 := rfl
  refine pw_blk hT 2 (S' := (4, [some (pvR 3), some (pvI 5), some (pvI 0), some (pvI n3), some (pvI 0), none, none], [pvI 40, pvI 0], M)) rfl ⟨trivial, trivial, trivial⟩ ?_
  refine pw_ic hT (c := 0 ≤ 40) rfl rfl (fun c1_ => ?_) (fun c1_ => absurd (by decide) c1_)
  refine pw_blk hT 2 (S' := (11, [some (pvR 3), some (pvI 5), some (pvI 0), some (pvI n3), some (pvI 0), none, none], [pvI 0, pvI 5], M)) rfl ⟨trivial, trivial, trivial⟩ ?_
  refine pw_callT hT (as := [pvI 5, pvI 0]) (lo1 := [some (pvI 5), some (pvI 0), none, none, none]) (d1 := d) (rest := []) rfl rfl rfl rfl rfl (fun h => absurd h (by decide)) (Nat.zero_le _) rfl rfl rfl (sf_X0_bodyFrom_5_0 M hok d) ?_
  refine pw_eqI (show ((pvstab 1041).getD (Int32.toNatClampNeg ((2 * 3) + 0)) 0) = 30 from by decide) ?_
  show PW 4 d (14, [some (pvR 3), some (pvI 5), some (pvI 0), some (pvI n3), some (pvI 0), none, none], [pvI 30], M) _
  refine pw_blk hT 7 (S' := (25, [some (pvR 3), some (pvI 5), some (pvI 0), some (pvI n3), some (pvI 0), some (pvI 30), some (pvI (0 + 1))], [pvI 30, pvR 3], M)) rfl ⟨trivial, trivial, trivial, trivial, trivial, trivial, trivial, trivial⟩ ?_
  refine pw_callVd hT (as := [pvR 3, pvI 30]) (lo1 := [some (pvR 3), some (pvI 30)]) (d1 := d) (rest := []) rfl rfl rfl rfl rfl (fun _ => rfl) (Nat.zero_le _) rfl rfl rfl (se_X0_note_3_x M hok 30 (zr_wide (show 30 ≤ Int32.toInt 30 ∧ Int32.toInt 30 ≤ 30 from (by decide)) (by decide) (by decide)) (zr_wide hc3_1 (by decide) (by decide)) d) (fun M11_ o13_ g14_ d9_ => ?_)
  have d7_ := d9_.1
  have d8_ := d9_.2
  have f15_ : pvFr fp_eX0_run_3_5_0_x_0_5 M M11_ := pvfr_t g14_ pvfr_0 fp_eX0_run_3_5_0_x_0_5_fp_eX0_note_3_x
  have b16_ : 0 ≤ Int32.toInt (M11_.1 3 1) ∧ Int32.toInt (M11_.1 3 1) ≤ 998 := (by have u0 := hc3_1; have u1 := d7_; have u2 := pvok_r o13_ 3 1 (lo := 0) (hi := 1000000) rfl; omega)
  refine pw_blk hT 1 (S' := (30, [some (pvR 3), some (pvI 5), some (pvI 0), some (pvI n3), some (pvI 0), some (pvI 30), some (pvI (0 + 1))], [pvI 30], M11_)) rfl ⟨trivial, trivial⟩ ?_
  refine pw_sw hT rfl rfl ?_
  refine And.intro (fun c17_ => absurd c17_ (by decide)) (fun c17_ => ?_)
  refine And.intro (fun c18_ => absurd c18_ (by decide)) (fun c18_ => ?_)
  refine And.intro (fun c19_ => absurd c19_ (by decide)) (fun c19_ => ?_)
  refine And.intro (fun c20_ => absurd c20_ (by decide)) (fun c20_ => ?_)
  refine And.intro (fun c21_ => ?_) (fun c21_ => absurd (by decide) c21_)
  show PW 4 d (181, [some (pvR 3), some (pvI 5), some (pvI 0), some (pvI n3), some (pvI 0), some (pvI 30), some (pvI (0 + 1))], [], M11_) _
  refine pw_blk hT 7 (S' := (189, [some (pvR 3), some (pvI 5), some (pvI 0), some (pvI n3), some (pvI 0), some (pvI 30), some (pvI (0 + 1))], [pvI (0 + 1), pvI (n3 * 3), pvI 0, pvI 0, pvR 3], M11_)) rfl ⟨trivial, trivial, trivial, trivial, trivial, trivial, trivial, trivial⟩ ?_
  have e22_ : (M11_.1 3 2) = (M.1 3 2) := (g14_ 3 2 rfl)
  have b23_ : 5 ≤ Int32.toInt (M11_.1 3 2) ∧ Int32.toInt (M11_.1 3 2) ≤ 5 := (by rw [e22_]; exact hc3_2)
  refine pw_callGd hT (as := [pvR 3, pvI 0, pvI 0, pvI (n3 * 3), pvI (0 + 1)]) (lo1 := [some (pvR 3), some (pvI 0), some (pvI 0), some (pvI (n3 * 3)), some (pvI (0 + 1)), none, none]) (d1 := (d - 1)) (rest := []) rfl rfl rfl rfl rfl (fun h => absurd h (by decide)) (show 1 ≤ d by omega) rfl rfl rfl (se_X0_run_3_0_0_x_1_5 M11_ o13_ (n3 * 3) b16_ b23_ (d - 1)) (fun x27_ M28_ b29_ o30_ g31_ d26_ => ?_)
  have d24_ := d26_.1
  have d25_ := d26_.2
  have f32_ : pvFr fp_eX0_run_3_5_0_x_0_5 M M28_ := pvfr_t g31_ f15_ fp_eX0_run_3_5_0_x_0_5_fp_eX0_run_3_0_0_x_1_5
  have b33_ : 0 ≤ Int32.toInt (M28_.1 3 1) ∧ Int32.toInt (M28_.1 3 1) ≤ 999 := (by have u0 := b16_; have u1 := d24_; have u2 := pvok_r o30_ 3 1 (lo := 0) (hi := 1000000) rfl; omega)
  have u34_ : Int32.toInt 0 = 0 := by decide
  have u35_ : Int32.toInt (0 + 1) = 1 := by decide
  obtain ⟨b36_, d37_⟩ := b29_
  subst d37_
  have e38_ : ((n3 * 3) + (M11_.1 3 4)) = ((n3 * 3) + (M.1 3 4)) := (show ((n3 * 3) + (M11_.1 3 4)) = ((n3 * 3) + (M.1 3 4)) from by rw [(g14_ 3 4 rfl)])
  refine pw_eqI e38_ ?_
  exact pw_ret hT rfl (r := some (pvI ((n3 * 3) + (M.1 3 4)))) (M' := M28_) ⟨rfl, rfl⟩ ⟨⟨_, rfl, trivial, rfl⟩, o30_, f32_, (by omega), (zTr_c (pvok_r hok 3 1 rfl).1 (zTr_c0 (pvok_r hok 3 1 rfl).1 (zTr_0 3 1 4 M) d8_) d25_)⟩
def fpL_eX0_run_3_0_0_x_2_5 : List (Nat × Nat × Nat) := [(0, 3, 2), (0, 4, 0)]
def fp_eX0_run_3_0_0_x_2_5 (q k : Nat) : Bool := pvfp fpL_eX0_run_3_0_0_x_2_5 q k
theorem fp_eX0_run_3_0_0_x_2_5_fp_eX0_note_3_x (a b : Nat) (h : fp_eX0_note_3_x a b = true) : fp_eX0_run_3_0_0_x_2_5 a b = true := pvfp_sub (l1 := fpL_eX0_note_3_x) (l2 := fpL_eX0_run_3_0_0_x_2_5) (by decide) a b h
set_option maxHeartbeats 4000000 in
set_option maxRecDepth 10000 in
theorem se_X0_run_3_0_0_x_2_5 (M : pvM) (hok : pvOk M) (n3 : Int32) (hc3_1 : 0 ≤ Int32.toInt (M.1 3 1) ∧ Int32.toInt (M.1 3 1) ≤ 998) (hc3_2 : 5 ≤ Int32.toInt (M.1 3 2) ∧ Int32.toInt (M.1 3 2) ≤ 5) (d : Nat) : PW 4 d (0, [some (pvR 3), some (pvI 0), some (pvI 0), some (pvI n3), some (pvI 2), none, none], [], M) (fun r X => (∃ x : Int32, r = some (pvI x) ∧ True ∧ x = (n3 + (M.1 3 4))) ∧ pvOk X ∧ pvFr fp_eX0_run_3_0_0_x_2_5 M X ∧ Int32.toInt (X.1 3 1) ≤ Int32.toInt (M.1 3 1) + 1 ∧ zTr 3 1 4 ([10] : List Int32) M X) := by
  have hT : pvdom 4 = pvD_4 := rfl
  refine pw_blk hT 2 (S' := (4, [some (pvR 3), some (pvI 0), some (pvI 0), some (pvI n3), some (pvI 2), none, none], [pvI 40, pvI 2], M)) rfl ⟨trivial, trivial, trivial⟩ ?_
  refine pw_ic hT (c := 2 ≤ 40) rfl rfl (fun c1_ => ?_) (fun c1_ => absurd (by decide) c1_)
  refine pw_blk hT 2 (S' := (11, [some (pvR 3), some (pvI 0), some (pvI 0), some (pvI n3), some (pvI 2), none, none], [pvI 0, pvI 0], M)) rfl ⟨trivial, trivial, trivial⟩ ?_
  refine pw_callT hT (as := [pvI 0, pvI 0]) (lo1 := [some (pvI 0), some (pvI 0), none, none, none]) (d1 := d) (rest := []) rfl rfl rfl rfl rfl (fun h => absurd h (by decide)) (Nat.zero_le _) rfl rfl rfl (sf_X0_bodyFrom_0_0 M hok d) ?_
  refine pw_eqI (show ((pvstab 1041).getD (Int32.toNatClampNeg ((0 * 3) + 0)) 0) = 10 from by decide) ?_
  show PW 4 d (14, [some (pvR 3), some (pvI 0), some (pvI 0), some (pvI n3), some (pvI 2), none, none], [pvI 10], M) _
  refine pw_blk hT 7 (S' := (25, [some (pvR 3), some (pvI 0), some (pvI 0), some (pvI n3), some (pvI 2), some (pvI 10), some (pvI (2 + 1))], [pvI 10, pvR 3], M)) rfl ⟨trivial, trivial, trivial, trivial, trivial, trivial, trivial, trivial⟩ ?_
  refine pw_callVd hT (as := [pvR 3, pvI 10]) (lo1 := [some (pvR 3), some (pvI 10)]) (d1 := d) (rest := []) rfl rfl rfl rfl rfl (fun _ => rfl) (Nat.zero_le _) rfl rfl rfl (se_X0_note_3_x M hok 10 (zr_wide (show 10 ≤ Int32.toInt 10 ∧ Int32.toInt 10 ≤ 10 from (by decide)) (by decide) (by decide)) (zr_wide hc3_1 (by decide) (by decide)) d) (fun M11_ o13_ g14_ d9_ => ?_)
  have d7_ := d9_.1
  have d8_ := d9_.2
  have f15_ : pvFr fp_eX0_run_3_0_0_x_2_5 M M11_ := pvfr_t g14_ pvfr_0 fp_eX0_run_3_0_0_x_2_5_fp_eX0_note_3_x
  have b16_ : 0 ≤ Int32.toInt (M11_.1 3 1) ∧ Int32.toInt (M11_.1 3 1) ≤ 999 := (by have u0 := hc3_1; have u1 := d7_; have u2 := pvok_r o13_ 3 1 (lo := 0) (hi := 1000000) rfl; omega)
  refine pw_blk hT 1 (S' := (30, [some (pvR 3), some (pvI 0), some (pvI 0), some (pvI n3), some (pvI 2), some (pvI 10), some (pvI (2 + 1))], [pvI 10], M11_)) rfl ⟨trivial, trivial⟩ ?_
  refine pw_sw hT rfl rfl ?_
  refine And.intro (fun c17_ => ?_) (fun c17_ => absurd (by decide) c17_)
  show PW 4 d (128, [some (pvR 3), some (pvI 0), some (pvI 0), some (pvI n3), some (pvI 2), some (pvI 10), some (pvI (2 + 1))], [], M11_) _
  refine pw_blk hT 3 (S' := (133, [some (pvR 3), some (pvI 0), some (pvI 0), some (pvI n3), some (pvI 2), some (pvI 10), some (pvI (2 + 1))], [pvI (M11_.1 3 4), pvI n3], M11_)) rfl ⟨trivial, trivial, rfl, trivial⟩ ?_
  have e18_ : (M11_.1 3 4) = (M.1 3 4) := (g14_ 3 4 rfl)
  refine pw_eqI e18_ ?_
  refine pw_blk hT 1 (S' := (134, [some (pvR 3), some (pvI 0), some (pvI 0), some (pvI n3), some (pvI 2), some (pvI 10), some (pvI (2 + 1))], [pvI (n3 + (M.1 3 4))], M11_)) rfl ⟨trivial, trivial⟩ ?_
  exact pw_ret hT rfl (r := some (pvI (n3 + (M.1 3 4)))) (M' := M11_) ⟨rfl, rfl⟩ ⟨⟨_, rfl, trivial, rfl⟩, o13_, f15_, (by omega), (zTr_c0 (pvok_r hok 3 1 rfl).1 (zTr_0 3 1 4 M) d8_)⟩
def fpL_eX0_run_3_5_0_x_1_5 : List (Nat × Nat × Nat) := [(0, 3, 2), (0, 4, 0)]
def fp_eX0_run_3_5_0_x_1_5 (q k : Nat) : Bool := pvfp fpL_eX0_run_3_5_0_x_1_5 q k
theorem fp_eX0_run_3_5_0_x_1_5_fp_eX0_note_3_x (a b : Nat) (h : fp_eX0_note_3_x a b = true) : fp_eX0_run_3_5_0_x_1_5 a b = true := pvfp_sub (l1 := fpL_eX0_note_3_x) (l2 := fpL_eX0_run_3_5_0_x_1_5) (by decide) a b h
theorem fp_eX0_run_3_5_0_x_1_5_fp_eX0_run_3_0_0_x_2_5 (a b : Nat) (h : fp_eX0_run_3_0_0_x_2_5 a b = true) : fp_eX0_run_3_5_0_x_1_5 a b = true := pvfp_sub (l1 := fpL_eX0_run_3_0_0_x_2_5) (l2 := fpL_eX0_run_3_5_0_x_1_5) (by decide) a b h
set_option maxHeartbeats 4000000 in
set_option maxRecDepth 10000 in
theorem se_X0_run_3_5_0_x_1_5 (M : pvM) (hok : pvOk M) (n3 : Int32) (hc3_1 : 0 ≤ Int32.toInt (M.1 3 1) ∧ Int32.toInt (M.1 3 1) ≤ 997) (hc3_2 : 5 ≤ Int32.toInt (M.1 3 2) ∧ Int32.toInt (M.1 3 2) ≤ 5) (d : Nat) (hd : 1 ≤ d) : PW 4 d (0, [some (pvR 3), some (pvI 5), some (pvI 0), some (pvI n3), some (pvI 1), none, none], [], M) (fun r X => (∃ x : Int32, r = some (pvI x) ∧ True ∧ x = ((n3 * 3) + (M.1 3 4))) ∧ pvOk X ∧ pvFr fp_eX0_run_3_5_0_x_1_5 M X ∧ Int32.toInt (X.1 3 1) ≤ Int32.toInt (M.1 3 1) + 2 ∧ zTr 3 1 4 (([30] : List Int32) ++ ([10] : List Int32)) M X) := by
  have hT : pvdom 4 = pvD_4 := rfl
  refine pw_blk hT 2 (S' := (4, [some (pvR 3), some (pvI 5), some (pvI 0), some (pvI n3), some (pvI 1), none, none], [pvI 40, pvI 1], M)) rfl ⟨trivial, trivial, trivial⟩ ?_
  refine pw_ic hT (c := 1 ≤ 40) rfl rfl (fun c1_ => ?_) (fun c1_ => absurd (by decide) c1_)
  refine pw_blk hT 2 (S' := (11, [some (pvR 3), some (pvI 5), some (pvI 0), some (pvI n3), some (pvI 1), none, none], [pvI 0, pvI 5], M)) rfl ⟨trivial, trivial, trivial⟩ ?_
  refine pw_callT hT (as := [pvI 5, pvI 0]) (lo1 := [some (pvI 5), some (pvI 0), none, none, none]) (d1 := d) (rest := []) rfl rfl rfl rfl rfl (fun h => absurd h (by decide)) (Nat.zero_le _) rfl rfl rfl (sf_X0_bodyFrom_5_0 M hok d) ?_
  refine pw_eqI (show ((pvstab 1041).getD (Int32.toNatClampNeg ((2 * 3) + 0)) 0) = 30 from by decide) ?_
  show PW 4 d (14, [some (pvR 3), some (pvI 5), some (pvI 0), some (pvI n3), some (pvI 1), none, none], [pvI 30], M) _
  refine pw_blk hT 7 (S' := (25, [some (pvR 3), some (pvI 5), some (pvI 0), some (pvI n3), some (pvI 1), some (pvI 30), some (pvI (1 + 1))], [pvI 30, pvR 3], M)) rfl ⟨trivial, trivial, trivial, trivial, trivial, trivial, trivial, trivial⟩ ?_
  refine pw_callVd hT (as := [pvR 3, pvI 30]) (lo1 := [some (pvR 3), some (pvI 30)]) (d1 := d) (rest := []) rfl rfl rfl rfl rfl (fun _ => rfl) (Nat.zero_le _) rfl rfl rfl (se_X0_note_3_x M hok 30 (zr_wide (show 30 ≤ Int32.toInt 30 ∧ Int32.toInt 30 ≤ 30 from (by decide)) (by decide) (by decide)) (zr_wide hc3_1 (by decide) (by decide)) d) (fun M11_ o13_ g14_ d9_ => ?_)
  have d7_ := d9_.1
  have d8_ := d9_.2
  have f15_ : pvFr fp_eX0_run_3_5_0_x_1_5 M M11_ := pvfr_t g14_ pvfr_0 fp_eX0_run_3_5_0_x_1_5_fp_eX0_note_3_x
  have b16_ : 0 ≤ Int32.toInt (M11_.1 3 1) ∧ Int32.toInt (M11_.1 3 1) ≤ 998 := (by have u0 := hc3_1; have u1 := d7_; have u2 := pvok_r o13_ 3 1 (lo := 0) (hi := 1000000) rfl; omega)
  refine pw_blk hT 1 (S' := (30, [some (pvR 3), some (pvI 5), some (pvI 0), some (pvI n3), some (pvI 1), some (pvI 30), some (pvI (1 + 1))], [pvI 30], M11_)) rfl ⟨trivial, trivial⟩ ?_
  refine pw_sw hT rfl rfl ?_
  refine And.intro (fun c17_ => absurd c17_ (by decide)) (fun c17_ => ?_)
  refine And.intro (fun c18_ => absurd c18_ (by decide)) (fun c18_ => ?_)
  refine And.intro (fun c19_ => absurd c19_ (by decide)) (fun c19_ => ?_)
  refine And.intro (fun c20_ => absurd c20_ (by decide)) (fun c20_ => ?_)
  refine And.intro (fun c21_ => ?_) (fun c21_ => absurd (by decide) c21_)
  show PW 4 d (181, [some (pvR 3), some (pvI 5), some (pvI 0), some (pvI n3), some (pvI 1), some (pvI 30), some (pvI (1 + 1))], [], M11_) _
  refine pw_blk hT 7 (S' := (189, [some (pvR 3), some (pvI 5), some (pvI 0), some (pvI n3), some (pvI 1), some (pvI 30), some (pvI (1 + 1))], [pvI (1 + 1), pvI (n3 * 3), pvI 0, pvI 0, pvR 3], M11_)) rfl ⟨trivial, trivial, trivial, trivial, trivial, trivial, trivial, trivial⟩ ?_
  have e22_ : (M11_.1 3 2) = (M.1 3 2) := (g14_ 3 2 rfl)
  have b23_ : 5 ≤ Int32.toInt (M11_.1 3 2) ∧ Int32.toInt (M11_.1 3 2) ≤ 5 := (by rw [e22_]; exact hc3_2)
  refine pw_callGd hT (as := [pvR 3, pvI 0, pvI 0, pvI (n3 * 3), pvI (1 + 1)]) (lo1 := [some (pvR 3), some (pvI 0), some (pvI 0), some (pvI (n3 * 3)), some (pvI (1 + 1)), none, none]) (d1 := (d - 1)) (rest := []) rfl rfl rfl rfl rfl (fun h => absurd h (by decide)) (show 1 ≤ d by omega) rfl rfl rfl (se_X0_run_3_0_0_x_2_5 M11_ o13_ (n3 * 3) b16_ b23_ (d - 1)) (fun x27_ M28_ b29_ o30_ g31_ d26_ => ?_)
  have d24_ := d26_.1
  have d25_ := d26_.2
  have f32_ : pvFr fp_eX0_run_3_5_0_x_1_5 M M28_ := pvfr_t g31_ f15_ fp_eX0_run_3_5_0_x_1_5_fp_eX0_run_3_0_0_x_2_5
  have b33_ : 0 ≤ Int32.toInt (M28_.1 3 1) ∧ Int32.toInt (M28_.1 3 1) ≤ 999 := (by have u0 := b16_; have u1 := d24_; have u2 := pvok_r o30_ 3 1 (lo := 0) (hi := 1000000) rfl; omega)
  have u34_ : Int32.toInt 0 = 0 := by decide
  have u35_ : Int32.toInt (1 + 1) = 2 := by decide
  obtain ⟨b36_, d37_⟩ := b29_
  subst d37_
  have e38_ : ((n3 * 3) + (M11_.1 3 4)) = ((n3 * 3) + (M.1 3 4)) := (show ((n3 * 3) + (M11_.1 3 4)) = ((n3 * 3) + (M.1 3 4)) from by rw [(g14_ 3 4 rfl)])
  refine pw_eqI e38_ ?_
  exact pw_ret hT rfl (r := some (pvI ((n3 * 3) + (M.1 3 4)))) (M' := M28_) ⟨rfl, rfl⟩ ⟨⟨_, rfl, trivial, rfl⟩, o30_, f32_, (by omega), (zTr_c (pvok_r hok 3 1 rfl).1 (zTr_c0 (pvok_r hok 3 1 rfl).1 (zTr_0 3 1 4 M) d8_) d25_)⟩
def fpL_eX0_run_3_5_1_x_0_5 : List (Nat × Nat × Nat) := [(0, 3, 2), (0, 4, 0)]
def fp_eX0_run_3_5_1_x_0_5 (q k : Nat) : Bool := pvfp fpL_eX0_run_3_5_1_x_0_5 q k
theorem fp_eX0_run_3_5_1_x_0_5_fp_eX0_note_3_x (a b : Nat) (h : fp_eX0_note_3_x a b = true) : fp_eX0_run_3_5_1_x_0_5 a b = true := pvfp_sub (l1 := fpL_eX0_note_3_x) (l2 := fpL_eX0_run_3_5_1_x_0_5) (by decide) a b h
theorem fp_eX0_run_3_5_1_x_0_5_fp_eX0_run_3_5_0_x_1_5 (a b : Nat) (h : fp_eX0_run_3_5_0_x_1_5 a b = true) : fp_eX0_run_3_5_1_x_0_5 a b = true := pvfp_sub (l1 := fpL_eX0_run_3_5_0_x_1_5) (l2 := fpL_eX0_run_3_5_1_x_0_5) (by decide) a b h
set_option maxHeartbeats 4000000 in
set_option maxRecDepth 10000 in
theorem se_X0_run_3_5_1_x_0_5 (M : pvM) (hok : pvOk M) (n3 : Int32) (hc3_1 : 0 ≤ Int32.toInt (M.1 3 1) ∧ Int32.toInt (M.1 3 1) ≤ 996) (hc3_2 : 5 ≤ Int32.toInt (M.1 3 2) ∧ Int32.toInt (M.1 3 2) ≤ 5) (d : Nat) (hd : 2 ≤ d) : PW 4 d (0, [some (pvR 3), some (pvI 5), some (pvI 1), some (pvI n3), some (pvI 0), none, none], [], M) (fun r X => (∃ x : Int32, r = some (pvI x) ∧ True ∧ x = (((n3 * 3) + (M.1 3 4)) - (M.1 3 3))) ∧ pvOk X ∧ pvFr fp_eX0_run_3_5_1_x_0_5 M X ∧ Int32.toInt (X.1 3 1) ≤ Int32.toInt (M.1 3 1) + 3 ∧ zTr 3 1 4 (([11] : List Int32) ++ (([30] : List Int32) ++ ([10] : List Int32))) M X) := by
  have hT : pvdom 4 = pvD_4 := rfl
  refine pw_blk hT 2 (S' := (4, [some (pvR 3), some (pvI 5), some (pvI 1), some (pvI n3), some (pvI 0), none, none], [pvI 40, pvI 0], M)) rfl ⟨trivial, trivial, trivial⟩ ?_
  refine pw_ic hT (c := 0 ≤ 40) rfl rfl (fun c1_ => ?_) (fun c1_ => absurd (by decide) c1_)
  refine pw_blk hT 2 (S' := (11, [some (pvR 3), some (pvI 5), some (pvI 1), some (pvI n3), some (pvI 0), none, none], [pvI 1, pvI 5], M)) rfl ⟨trivial, trivial, trivial⟩ ?_
  refine pw_callT hT (as := [pvI 5, pvI 1]) (lo1 := [some (pvI 5), some (pvI 1), none, none, none]) (d1 := d) (rest := []) rfl rfl rfl rfl rfl (fun h => absurd h (by decide)) (Nat.zero_le _) rfl rfl rfl (sf_X0_bodyFrom_5_1 M hok d) ?_
  refine pw_eqI (show ((pvstab 1041).getD (Int32.toNatClampNeg ((0 * 3) + 1)) 0) = 11 from by decide) ?_
  show PW 4 d (14, [some (pvR 3), some (pvI 5), some (pvI 1), some (pvI n3), some (pvI 0), none, none], [pvI 11], M) _
  refine pw_blk hT 7 (S' := (25, [some (pvR 3), some (pvI 5), some (pvI 1), some (pvI n3), some (pvI 0), some (pvI 11), some (pvI (0 + 1))], [pvI 11, pvR 3], M)) rfl ⟨trivial, trivial, trivial, trivial, trivial, trivial, trivial, trivial⟩ ?_
  refine pw_callVd hT (as := [pvR 3, pvI 11]) (lo1 := [some (pvR 3), some (pvI 11)]) (d1 := d) (rest := []) rfl rfl rfl rfl rfl (fun _ => rfl) (Nat.zero_le _) rfl rfl rfl (se_X0_note_3_x M hok 11 (zr_wide (show 11 ≤ Int32.toInt 11 ∧ Int32.toInt 11 ≤ 11 from (by decide)) (by decide) (by decide)) (zr_wide hc3_1 (by decide) (by decide)) d) (fun M11_ o13_ g14_ d9_ => ?_)
  have d7_ := d9_.1
  have d8_ := d9_.2
  have f15_ : pvFr fp_eX0_run_3_5_1_x_0_5 M M11_ := pvfr_t g14_ pvfr_0 fp_eX0_run_3_5_1_x_0_5_fp_eX0_note_3_x
  have b16_ : 0 ≤ Int32.toInt (M11_.1 3 1) ∧ Int32.toInt (M11_.1 3 1) ≤ 997 := (by have u0 := hc3_1; have u1 := d7_; have u2 := pvok_r o13_ 3 1 (lo := 0) (hi := 1000000) rfl; omega)
  refine pw_blk hT 1 (S' := (30, [some (pvR 3), some (pvI 5), some (pvI 1), some (pvI n3), some (pvI 0), some (pvI 11), some (pvI (0 + 1))], [pvI 11], M11_)) rfl ⟨trivial, trivial⟩ ?_
  refine pw_sw hT rfl rfl ?_
  refine And.intro (fun c17_ => absurd c17_ (by decide)) (fun c17_ => ?_)
  refine And.intro (fun c18_ => ?_) (fun c18_ => absurd (by decide) c18_)
  show PW 4 d (135, [some (pvR 3), some (pvI 5), some (pvI 1), some (pvI n3), some (pvI 0), some (pvI 11), some (pvI (0 + 1))], [], M11_) _
  have e19_ : (M11_.1 3 2) = (M.1 3 2) := (g14_ 3 2 rfl)
  have b20_ : 5 ≤ Int32.toInt (M11_.1 3 2) ∧ Int32.toInt (M11_.1 3 2) ≤ 5 := (by rw [e19_]; exact hc3_2)
  refine pw_blk hT 3 (S' := (140, [some (pvR 3), some (pvI 5), some (pvI 1), some (pvI n3), some (pvI 0), some (pvI 11), some (pvI (0 + 1))], [pvI (M11_.1 3 2), pvR 3], M11_)) rfl ⟨trivial, trivial, rfl, trivial⟩ ?_
  refine pw_eqI ((zi_eq _ (5)).mpr (by have u0 := b20_; have u1 : Int32.toInt (5) = 5 := (by decide); omega)) ?_
  refine pw_blk hT 3 (S' := (144, [some (pvR 3), some (pvI 5), some (pvI 1), some (pvI n3), some (pvI 0), some (pvI 11), some (pvI (0 + 1))], [pvI (0 + 1), pvI n3, pvI 0, pvI 5, pvR 3], M11_)) rfl ⟨trivial, trivial, trivial, trivial⟩ ?_
  refine pw_callGd hT (as := [pvR 3, pvI 5, pvI 0, pvI n3, pvI (0 + 1)]) (lo1 := [some (pvR 3), some (pvI 5), some (pvI 0), some (pvI n3), some (pvI (0 + 1)), none, none]) (d1 := (d - 1)) (rest := []) rfl rfl rfl rfl rfl (fun h => absurd h (by decide)) (show 1 ≤ d by omega) rfl rfl rfl (se_X0_run_3_5_0_x_1_5 M11_ o13_ n3 b16_ b20_ (d - 1) (by omega)) (fun x24_ M25_ b26_ o27_ g28_ d23_ => ?_)
  have d21_ := d23_.1
  have d22_ := d23_.2
  have f29_ : pvFr fp_eX0_run_3_5_1_x_0_5 M M25_ := pvfr_t g28_ f15_ fp_eX0_run_3_5_1_x_0_5_fp_eX0_run_3_5_0_x_1_5
  have b30_ : 0 ≤ Int32.toInt (M25_.1 3 1) ∧ Int32.toInt (M25_.1 3 1) ≤ 999 := (by have u0 := b16_; have u1 := d21_; have u2 := pvok_r o27_ 3 1 (lo := 0) (hi := 1000000) rfl; omega)
  have u31_ : Int32.toInt 5 = 5 := by decide
  have u32_ : Int32.toInt 0 = 0 := by decide
  have u33_ : Int32.toInt (0 + 1) = 1 := by decide
  obtain ⟨b34_, d35_⟩ := b26_
  subst d35_
  have e36_ : ((n3 * 3) + (M11_.1 3 4)) = ((n3 * 3) + (M.1 3 4)) := (show ((n3 * 3) + (M11_.1 3 4)) = ((n3 * 3) + (M.1 3 4)) from by rw [(g14_ 3 4 rfl)])
  refine pw_eqI e36_ ?_
  refine pw_blk hT 2 (S' := (151, [some (pvR 3), some (pvI 5), some (pvI 1), some (pvI n3), some (pvI 0), some (pvI 11), some (pvI (0 + 1))], [pvI (M25_.1 3 3), pvI ((n3 * 3) + (M.1 3 4))], M25_)) rfl ⟨trivial, rfl, trivial⟩ ?_
  have e37_ : (M25_.1 3 3) = (M.1 3 3) := ((g28_ 3 3 rfl).trans (g14_ 3 3 rfl))
  refine pw_eqI e37_ ?_
  refine pw_blk hT 1 (S' := (152, [some (pvR 3), some (pvI 5), some (pvI 1), some (pvI n3), some (pvI 0), some (pvI 11), some (pvI (0 + 1))], [pvI (((n3 * 3) + (M.1 3 4)) - (M.1 3 3))], M25_)) rfl ⟨trivial, trivial⟩ ?_
  exact pw_ret hT rfl (r := some (pvI (((n3 * 3) + (M.1 3 4)) - (M.1 3 3)))) (M' := M25_) ⟨rfl, rfl⟩ ⟨⟨_, rfl, trivial, rfl⟩, o27_, f29_, (by omega), (zTr_c (pvok_r hok 3 1 rfl).1 (zTr_c0 (pvok_r hok 3 1 rfl).1 (zTr_0 3 1 4 M) d8_) d22_)⟩
