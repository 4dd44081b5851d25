def fpL_eX0_run_3_5_2_x_0_5 : List (Nat × Nat × Nat) := [(0, 3, 2), (0, 4, 0)]
def fp_eX0_run_3_5_2_x_0_5 (q k : Nat) : Bool := pvfp fpL_eX0_run_3_5_2_x_0_5 q k
theorem fp_eX0_run_3_5_2_x_0_5_fp_X0_note_3_x (a b : Nat) (h : fp_X0_note_3_x a b = true) : fp_eX0_run_3_5_2_x_0_5 a b = true := pvfp_sub (l1 := fpL_X0_note_3_x) (l2 := fpL_eX0_run_3_5_2_x_0_5) (by decide) a b h
theorem fp_eX0_run_3_5_2_x_0_5_fp_eX0_run_3_2_2_x_1_5 (a b : Nat) (h : fp_eX0_run_3_2_2_x_1_5 a b = true) : fp_eX0_run_3_5_2_x_0_5 a b = true := pvfp_sub (l1 := fpL_eX0_run_3_2_2_x_1_5) (l2 := fpL_eX0_run_3_5_2_x_0_5) (by decide) a b h
set_option maxHeartbeats 4000000 in
set_option maxRecDepth 10000 in
theorem se_X0_run_3_5_2_x_0_5 (M : pvM) (hok : pvOk M) (n3 : Int32) (hc3_1 : 0 ≤ Int32.toInt (M.1 3 1) ∧ Int32.toInt (M.1 3 1) ≤ 994) (hc3_2 : 5 ≤ Int32.toInt (M.1 3 2) ∧ Int32.toInt (M.1 3 2) ≤ 5) (d : Nat) (hd : 4 ≤ d) : PW 4 d (0, [some (pvR 3), some (pvI 5), some (pvI 2), some (pvI n3), some (pvI 0), none, none], [], M) (fun r X => (∃ x : Int32, r = some (pvI x) ∧ True ∧ x = (((((n3 - (M.1 3 4)) * 3) + (M.1 3 4)) - (M.1 3 3)) * 2)) ∧ pvOk X ∧ pvFr fp_eX0_run_3_5_2_x_0_5 M X ∧ Int32.toInt (X.1 3 1) ≤ Int32.toInt (M.1 3 1) + 5) := by
  have hT : pvdom 4 = pvD_4 := rfl
  refine pw_blk hT 2 (S' := (4, [some (pvR 3), some (pvI 5), some (pvI 2), some (pvI n3), some (pvI 0), none, none], [pvI 40, pvI 0], M)) rfl ⟨trivial, trivial, trivial⟩ ?_
  refine pw_ic hT (c := 0 ≤ 40) rfl rfl (fun c1_ => ?_) (fun c1_ => absurd (by decide) c1_)
  refine pw_blk hT 2 (S' := (11, [some (pvR 3), some (pvI 5), some (pvI 2), some (pvI n3), some (pvI 0), none, none], [pvI 2, pvI 5], M)) rfl ⟨trivial, trivial, trivial⟩ ?_
  refine pw_callT hT (as := [pvI 5, pvI 2]) (lo1 := [some (pvI 5), some (pvI 2), none, none, none]) (d1 := d) (rest := []) rfl rfl rfl rfl rfl (fun h => absurd h (by decide)) (Nat.zero_le _) rfl rfl rfl (sf_X0_bodyFrom_5_2 M hok d) ?_
  refine pw_eqI (show ((pvstab 1041).getD (Int32.toNatClampNeg ((5 * 3) + 2)) 0) = 60 from by decide) ?_
  show PW 4 d (14, [some (pvR 3), some (pvI 5), some (pvI 2), some (pvI n3), some (pvI 0), none, none], [pvI 60], M) _
  refine pw_blk hT 7 (S' := (25, [some (pvR 3), some (pvI 5), some (pvI 2), some (pvI n3), some (pvI 0), some (pvI 60), some (pvI (0 + 1))], [pvI 60, pvR 3], M)) rfl ⟨trivial, trivial, trivial, trivial, trivial, trivial, trivial, trivial⟩ ?_
  refine pw_callVd hT (as := [pvR 3, pvI 60]) (lo1 := [some (pvR 3), some (pvI 60)]) (d1 := d) (rest := []) rfl rfl rfl rfl rfl (fun _ => rfl) (Nat.zero_le _) rfl rfl rfl (sf_X0_note_3_x M hok 60 (zr_wide (show 60 ≤ Int32.toInt 60 ∧ Int32.toInt 60 ≤ 60 from (by decide)) (by decide) (by decide)) (zr_wide hc3_1 (by decide) (by decide)) d) (fun M9_ o11_ g12_ d7_ => ?_)
  have f13_ : pvFr fp_eX0_run_3_5_2_x_0_5 M M9_ := pvfr_t g12_ pvfr_0 fp_eX0_run_3_5_2_x_0_5_fp_X0_note_3_x
  have b14_ : 0 ≤ Int32.toInt (M9_.1 3 1) ∧ Int32.toInt (M9_.1 3 1) ≤ 995 := (by have u0 := hc3_1; have u1 := d7_; have u2 := pvok_r o11_ 3 1 (lo := 0) (hi := 1000000) rfl; omega)
  refine pw_blk hT 1 (S' := (30, [some (pvR 3), some (pvI 5), some (pvI 2), some (pvI n3), some (pvI 0), some (pvI 60), some (pvI (0 + 1))], [pvI 60], M9_)) rfl ⟨trivial, trivial⟩ ?_
  refine pw_sw hT rfl rfl ?_
  refine And.intro (fun c15_ => absurd c15_ (by decide)) (fun c15_ => ?_)
  refine And.intro (fun c16_ => absurd c16_ (by decide)) (fun c16_ => ?_)
  refine And.intro (fun c17_ => absurd c17_ (by decide)) (fun c17_ => ?_)
  refine And.intro (fun c18_ => absurd c18_ (by decide)) (fun c18_ => ?_)
  refine And.intro (fun c19_ => absurd c19_ (by decide)) (fun c19_ => ?_)
  refine And.intro (fun c20_ => absurd c20_ (by decide)) (fun c20_ => ?_)
  refine And.intro (fun c21_ => absurd c21_ (by decide)) (fun c21_ => ?_)
  refine And.intro (fun c22_ => absurd c22_ (by decide)) (fun c22_ => ?_)
  refine And.intro (fun c23_ => ?_) (fun c23_ => absurd (by decide) c23_)
  show PW 4 d (239, [some (pvR 3), some (pvI 5), some (pvI 2), some (pvI n3), some (pvI 0), some (pvI 60), some (pvI (0 + 1))], [], M9_) _
  refine pw_blk hT 6 (S' := (247, [some (pvR 3), some (pvI 5), some (pvI 2), some (pvI n3), some (pvI 0), some (pvI 60), some (pvI (0 + 1))], [pvI (M9_.1 3 4), pvI n3, pvI 2, pvI 2, pvR 3], M9_)) rfl ⟨trivial, trivial, trivial, trivial, trivial, rfl, trivial⟩ ?_
  have e24_ : (M9_.1 3 4) = (M.1 3 4) := (g12_ 3 4 rfl)
  refine pw_eqI e24_ ?_
  refine pw_blk hT 2 (S' := (250, [some (pvR 3), some (pvI 5), some (pvI 2), some (pvI n3), some (pvI 0), some (pvI 60), some (pvI (0 + 1))], [pvI (0 + 1), pvI (n3 - (M.1 3 4)), pvI 2, pvI 2, pvR 3], M9_)) rfl ⟨trivial, trivial, trivial⟩ ?_
  have e25_ : (M9_.1 3 2) = (M.1 3 2) := (g12_ 3 2 rfl)
  have b26_ : 5 ≤ Int32.toInt (M9_.1 3 2) ∧ Int32.toInt (M9_.1 3 2) ≤ 5 := (by rw [e25_]; exact hc3_2)
  refine pw_callGd hT (as := [pvR 3, pvI 2, pvI 2, pvI (n3 - (M.1 3 4)), pvI (0 + 1)]) (lo1 := [some (pvR 3), some (pvI 2), some (pvI 2), some (pvI (n3 - (M.1 3 4))), some (pvI (0 + 1)), none, none]) (d1 := (d - 1)) (rest := []) rfl rfl rfl rfl rfl (fun h => absurd h (by decide)) (show 1 ≤ d by omega) rfl rfl rfl (se_X0_run_3_2_2_x_1_5 M9_ o11_ (n3 - (M.1 3 4)) b14_ b26_ (d - 1) (by omega)) (fun x28_ M29_ b30_ o31_ g32_ d27_ => ?_)
  have f33_ : pvFr fp_eX0_run_3_5_2_x_0_5 M M29_ := pvfr_t g32_ f13_ fp_eX0_run_3_5_2_x_0_5_fp_eX0_run_3_2_2_x_1_5
  have b34_ : 0 ≤ Int32.toInt (M29_.1 3 1) ∧ Int32.toInt (M29_.1 3 1) ≤ 999 := (by have u0 := b14_; have u1 := d27_; have u2 := pvok_r o31_ 3 1 (lo := 0) (hi := 1000000) rfl; omega)
  have u35_ : Int32.toInt 2 = 2 := by decide
  have u36_ : Int32.toInt (0 + 1) = 1 := by decide
  obtain ⟨b37_, d38_⟩ := b30_
  subst d38_
  have e39_ : (((((n3 - (M.1 3 4)) * 3) + (M9_.1 3 4)) - (M9_.1 3 3)) * 2) = (((((n3 - (M.1 3 4)) * 3) + (M.1 3 4)) - (M.1 3 3)) * 2) := (show (((((n3 - (M.1 3 4)) * 3) + (M9_.1 3 4)) - (M9_.1 3 3)) * 2) = (((((n3 - (M.1 3 4)) * 3) + (M.1 3 4)) - (M.1 3 3)) * 2) from by rw [(g12_ 3 4 rfl), (g12_ 3 3 rfl)])
  refine pw_eqI e39_ ?_
  exact pw_ret hT rfl (r := some (pvI (((((n3 - (M.1 3 4)) * 3) + (M.1 3 4)) - (M.1 3 3)) * 2))) (M' := M29_) ⟨rfl, rfl⟩ ⟨⟨_, rfl, trivial, rfl⟩, o31_, f33_, (by omega)⟩
def fpL_eX0_run_3_3_0_x_1_6 : List (Nat × Nat × Nat) := [(0, 3, 2), (0, 4, 0)]
def fp_eX0_run_3_3_0_x_1_6 (q k : Nat) : Bool := pvfp fpL_eX0_run_3_3_0_x_1_6 q k
theorem fp_eX0_run_3_3_0_x_1_6_fp_X0_note_3_x (a b : Nat) (h : fp_X0_note_3_x a b = true) : fp_eX0_run_3_3_0_x_1_6 a b = true := pvfp_sub (l1 := fpL_X0_note_3_x) (l2 := fpL_eX0_run_3_3_0_x_1_6) (by decide) a b h
set_option maxHeartbeats 4000000 in
set_option maxRecDepth 10000 in
theorem se_X0_run_3_3_0_x_1_6 (M : pvM) (hok : pvOk M) (n3 : Int32) (hc3_1 : 0 ≤ Int32.toInt (M.1 3 1) ∧ Int32.toInt (M.1 3 1) ≤ 998) (hc3_2 : 6 ≤ Int32.toInt (M.1 3 2) ∧ Int32.toInt (M.1 3 2) ≤ 6) (d : Nat) : PW 4 d (0, [some (pvR 3), some (pvI 3), some (pvI 0), some (pvI n3), some (pvI 1), none, none], [], M) (fun r X => (∃ x : Int32, r = some (pvI x) ∧ True ∧ x = (n3 + (M.1 3 4))) ∧ pvOk X ∧ pvFr fp_eX0_run_3_3_0_x_1_6 M X ∧ Int32.toInt (X.1 3 1) ≤ Int32.toInt (M.1 3 1) + 1) := by
  have hT : pvdom 4 = pvD_4 := rfl
  refine pw_blk hT 2 (S' := (4, [some (pvR 3), some (pvI 3), some (pvI 0), some (pvI n3), some (pvI 1), none, none], [pvI 40, pvI 1], M)) rfl ⟨trivial, trivial, trivial⟩ ?_
  refine pw_ic hT (c := 1 ≤ 40) rfl rfl (fun c1_ => ?_) (fun c1_ => absurd (by decide) c1_)
  refine pw_blk hT 2 (S' := (11, [some (pvR 3), some (pvI 3), some (pvI 0), some (pvI n3), some (pvI 1), none, none], [pvI 0, pvI 3], M)) rfl ⟨trivial, trivial, trivial⟩ ?_
  refine pw_callT hT (as := [pvI 3, pvI 0]) (lo1 := [some (pvI 3), some (pvI 0), none, none, none]) (d1 := d) (rest := []) rfl rfl rfl rfl rfl (fun h => absurd h (by decide)) (Nat.zero_le _) rfl rfl rfl (sf_X0_bodyFrom_3_0 M hok d) ?_
  refine pw_eqI (show ((pvstab 1041).getD (Int32.toNatClampNeg ((0 * 3) + 0)) 0) = 10 from by decide) ?_
  show PW 4 d (14, [some (pvR 3), some (pvI 3), some (pvI 0), some (pvI n3), some (pvI 1), none, none], [pvI 10], M) _
  refine pw_blk hT 7 (S' := (25, [some (pvR 3), some (pvI 3), some (pvI 0), some (pvI n3), some (pvI 1), some (pvI 10), some (pvI (1 + 1))], [pvI 10, pvR 3], M)) rfl ⟨trivial, trivial, trivial, trivial, trivial, trivial, trivial, trivial⟩ ?_
  refine pw_callVd hT (as := [pvR 3, pvI 10]) (lo1 := [some (pvR 3), some (pvI 10)]) (d1 := d) (rest := []) rfl rfl rfl rfl rfl (fun _ => rfl) (Nat.zero_le _) rfl rfl rfl (sf_X0_note_3_x M hok 10 (zr_wide (show 10 ≤ Int32.toInt 10 ∧ Int32.toInt 10 ≤ 10 from (by decide)) (by decide) (by decide)) (zr_wide hc3_1 (by decide) (by decide)) d) (fun M9_ o11_ g12_ d7_ => ?_)
  have f13_ : pvFr fp_eX0_run_3_3_0_x_1_6 M M9_ := pvfr_t g12_ pvfr_0 fp_eX0_run_3_3_0_x_1_6_fp_X0_note_3_x
  have b14_ : 0 ≤ Int32.toInt (M9_.1 3 1) ∧ Int32.toInt (M9_.1 3 1) ≤ 999 := (by have u0 := hc3_1; have u1 := d7_; have u2 := pvok_r o11_ 3 1 (lo := 0) (hi := 1000000) rfl; omega)
  refine pw_blk hT 1 (S' := (30, [some (pvR 3), some (pvI 3), some (pvI 0), some (pvI n3), some (pvI 1), some (pvI 10), some (pvI (1 + 1))], [pvI 10], M9_)) rfl ⟨trivial, trivial⟩ ?_
  refine pw_sw hT rfl rfl ?_
  refine And.intro (fun c15_ => ?_) (fun c15_ => absurd (by decide) c15_)
  show PW 4 d (128, [some (pvR 3), some (pvI 3), some (pvI 0), some (pvI n3), some (pvI 1), some (pvI 10), some (pvI (1 + 1))], [], M9_) _
  refine pw_blk hT 3 (S' := (133, [some (pvR 3), some (pvI 3), some (pvI 0), some (pvI n3), some (pvI 1), some (pvI 10), some (pvI (1 + 1))], [pvI (M9_.1 3 4), pvI n3], M9_)) rfl ⟨trivial, trivial, rfl, trivial⟩ ?_
  have e16_ : (M9_.1 3 4) = (M.1 3 4) := (g12_ 3 4 rfl)
  refine pw_eqI e16_ ?_
  refine pw_blk hT 1 (S' := (134, [some (pvR 3), some (pvI 3), some (pvI 0), some (pvI n3), some (pvI 1), some (pvI 10), some (pvI (1 + 1))], [pvI (n3 + (M.1 3 4))], M9_)) rfl ⟨trivial, trivial⟩ ?_
  exact pw_ret hT rfl (r := some (pvI (n3 + (M.1 3 4)))) (M' := M9_) ⟨rfl, rfl⟩ ⟨⟨_, rfl, trivial, rfl⟩, o11_, f13_, (by omega)⟩
def fpL_eX0_run_3_6_0_x_0_6 : List (Nat × Nat × Nat) := [(0, 3, 2), (0, 4, 0)]
def fp_eX0_run_3_6_0_x_0_6 (q k : Nat) : Bool := pvfp fpL_eX0_run_3_6_0_x_0_6 q k
theorem fp_eX0_run_3_6_0_x_0_6_fp_X0_note_3_x (a b : Nat) (h : fp_X0_note_3_x a b = true) : fp_eX0_run_3_6_0_x_0_6 a b = true := pvfp_sub (l1 := fpL_X0_note_3_x) (l2 := fpL_eX0_run_3_6_0_x_0_6) (by decide) a b h
theorem fp_eX0_run_3_6_0_x_0_6_fp_eX0_run_3_3_0_x_1_6 (a b : Nat) (h : fp_eX0_run_3_3_0_x_1_6 a b = true) : fp_eX0_run_3_6_0_x_0_6 a b = true := pvfp_sub (l1 := fpL_eX0_run_3_3_0_x_1_6) (l2 := fpL_eX0_run_3_6_0_x_0_6) (by decide) a b h
set_option maxHeartbeats 4000000 in
set_option maxRecDepth 10000 in
theorem se_X0_run_3_6_0_x_0_6 (M : pvM) (hok : pvOk M) (n3 : Int32) (hc3_1 : 0 ≤ Int32.toInt (M.1 3 1) ∧ Int32.toInt (M.1 3 1) ≤ 997) (hc3_2 : 6 ≤ Int32.toInt (M.1 3 2) ∧ Int32.toInt (M.1 3 2) ≤ 6) (d : Nat) (hd : 1 ≤ d) : PW 4 d (0, [some (pvR 3), some (pvI 6), some (pvI 0), some (pvI n3), some (pvI 0), none, none], [], M) (fun r X => (∃ x : Int32, r = some (pvI x) ∧ True ∧ x = ((n3 + (M.1 3 4)) ^^^ (M.1 3 3))) ∧ pvOk X ∧ pvFr fp_eX0_run_3_6_0_x_0_6 M X ∧ Int32.toInt (X.1 3 1) ≤ Int32.toInt (M.1 3 1) + 2) := by
  have hT : pvdom 4 = pvD_4 := rfl
  refine pw_blk hT 2 (S' := (4, [some (pvR 3), some (pvI 6), some (pvI 0), some (pvI n3), some (pvI 0), none, none], [pvI 40, pvI 0], M)) rfl ⟨trivial, trivial, trivial⟩ ?_
  refine pw_ic hT (c := 0 ≤ 40) rfl rfl (fun c1_ => ?_) (fun c1_ => absurd (by decide) c1_)
  refine pw_blk hT 2 (S' := (11, [some (pvR 3), some (pvI 6), some (pvI 0), some (pvI n3), some (pvI 0), none, none], [pvI 0, pvI 6], M)) rfl ⟨trivial, trivial, trivial⟩ ?_
  refine pw_callT hT (as := [pvI 6, pvI 0]) (lo1 := [some (pvI 6), some (pvI 0), none, none, none]) (d1 := d) (rest := []) rfl rfl rfl rfl rfl (fun h => absurd h (by decide)) (Nat.zero_le _) rfl rfl rfl (sf_X0_bodyFrom_6_0 M hok d) ?_
  refine pw_eqI (show ((pvstab 1041).getD (Int32.toNatClampNeg ((6 * 3) + 0)) 0) = 71 from by decide) ?_
  show PW 4 d (14, [some (pvR 3), some (pvI 6), some (pvI 0), some (pvI n3), some (pvI 0), none, none], [pvI 71], M) _
  refine pw_blk hT 7 (S' := (25, [some (pvR 3), some (pvI 6), some (pvI 0), some (pvI n3), some (pvI 0), some (pvI 71), some (pvI (0 + 1))], [pvI 71, pvR 3], M)) rfl ⟨trivial, trivial, trivial, trivial, trivial, trivial, trivial, trivial⟩ ?_
  refine pw_callVd hT (as := [pvR 3, pvI 71]) (lo1 := [some (pvR 3), some (pvI 71)]) (d1 := d) (rest := []) rfl rfl rfl rfl rfl (fun _ => rfl) (Nat.zero_le _) rfl rfl rfl (sf_X0_note_3_x M hok 71 (zr_wide (show 71 ≤ Int32.toInt 71 ∧ Int32.toInt 71 ≤ 71 from (by decide)) (by decide) (by decide)) (zr_wide hc3_1 (by decide) (by decide)) d) (fun M9_ o11_ g12_ d7_ => ?_)
  have f13_ : pvFr fp_eX0_run_3_6_0_x_0_6 M M9_ := pvfr_t g12_ pvfr_0 fp_eX0_run_3_6_0_x_0_6_fp_X0_note_3_x
  have b14_ : 0 ≤ Int32.toInt (M9_.1 3 1) ∧ Int32.toInt (M9_.1 3 1) ≤ 998 := (by have u0 := hc3_1; have u1 := d7_; have u2 := pvok_r o11_ 3 1 (lo := 0) (hi := 1000000) rfl; omega)
  refine pw_blk hT 1 (S' := (30, [some (pvR 3), some (pvI 6), some (pvI 0), some (pvI n3), some (pvI 0), some (pvI 71), some (pvI (0 + 1))], [pvI 71], M9_)) rfl ⟨trivial, trivial⟩ ?_
  refine pw_sw hT rfl rfl ?_
  refine And.intro (fun c15_ => absurd c15_ (by decide)) (fun c15_ => ?_)
  refine And.intro (fun c16_ => absurd c16_ (by decide)) (fun c16_ => ?_)
  refine And.intro (fun c17_ => absurd c17_ (by decide)) (fun c17_ => ?_)
  refine And.intro (fun c18_ => absurd c18_ (by decide)) (fun c18_ => ?_)
  refine And.intro (fun c19_ => absurd c19_ (by decide)) (fun c19_ => ?_)
  refine And.intro (fun c20_ => absurd c20_ (by decide)) (fun c20_ => ?_)
  refine And.intro (fun c21_ => absurd c21_ (by decide)) (fun c21_ => ?_)
  refine And.intro (fun c22_ => absurd c22_ (by decide)) (fun c22_ => ?_)
  refine And.intro (fun c23_ => absurd c23_ (by decide)) (fun c23_ => ?_)
  refine And.intro (fun c24_ => absurd c24_ (by decide)) (fun c24_ => ?_)
  refine And.intro (fun c25_ => ?_) (fun c25_ => absurd (by decide) c25_)
  show PW 4 d (274, [some (pvR 3), some (pvI 6), some (pvI 0), some (pvI n3), some (pvI 0), some (pvI 71), some (pvI (0 + 1))], [], M9_) _
  refine pw_blk hT 5 (S' := (280, [some (pvR 3), some (pvI 6), some (pvI 0), some (pvI n3), some (pvI 0), some (pvI 71), some (pvI (0 + 1))], [pvI (0 + 1), pvI n3, pvI 0, pvI 3, pvR 3], M9_)) rfl ⟨trivial, trivial, trivial, trivial, trivial, trivial⟩ ?_
  have e26_ : (M9_.1 3 2) = (M.1 3 2) := (g12_ 3 2 rfl)
  have b27_ : 6 ≤ Int32.toInt (M9_.1 3 2) ∧ Int32.toInt (M9_.1 3 2) ≤ 6 := (by rw [e26_]; exact hc3_2)
  refine pw_callGd hT (as := [pvR 3, pvI 3, pvI 0, pvI n3, pvI (0 + 1)]) (lo1 := [some (pvR 3), some (pvI 3), some (pvI 0), some (pvI n3), some (pvI (0 + 1)), none, none]) (d1 := (d - 1)) (rest := []) rfl rfl rfl rfl rfl (fun h => absurd h (by decide)) (show 1 ≤ d by omega) rfl rfl rfl (se_X0_run_3_3_0_x_1_6 M9_ o11_ n3 b14_ b27_ (d - 1)) (fun x29_ M30_ b31_ o32_ g33_ d28_ => ?_)
  have f34_ : pvFr fp_eX0_run_3_6_0_x_0_6 M M30_ := pvfr_t g33_ f13_ fp_eX0_run_3_6_0_x_0_6_fp_eX0_run_3_3_0_x_1_6
  have b35_ : 0 ≤ Int32.toInt (M30_.1 3 1) ∧ Int32.toInt (M30_.1 3 1) ≤ 999 := (by have u0 := b14_; have u1 := d28_; have u2 := pvok_r o32_ 3 1 (lo := 0) (hi := 1000000) rfl; omega)
  have u36_ : Int32.toInt 3 = 3 := by decide
  have u37_ : Int32.toInt 0 = 0 := by decide
  have u38_ : Int32.toInt (0 + 1) = 1 := by decide
  obtain ⟨b39_, d40_⟩ := b31_
  subst d40_
  have e41_ : (n3 + (M9_.1 3 4)) = (n3 + (M.1 3 4)) := (show (n3 + (M9_.1 3 4)) = (n3 + (M.1 3 4)) from by rw [(g12_ 3 4 rfl)])
  refine pw_eqI e41_ ?_
  refine pw_blk hT 2 (S' := (287, [some (pvR 3), some (pvI 6), some (pvI 0), some (pvI n3), some (pvI 0), some (pvI 71), some (pvI (0 + 1))], [pvI (M30_.1 3 3), pvI (n3 + (M.1 3 4))], M30_)) rfl ⟨trivial, rfl, trivial⟩ ?_
  have e42_ : (M30_.1 3 3) = (M.1 3 3) := ((g33_ 3 3 rfl).trans (g12_ 3 3 rfl))
  refine pw_eqI e42_ ?_
  refine pw_blk hT 1 (S' := (288, [some (pvR 3), some (pvI 6), some (pvI 0), some (pvI n3), some (pvI 0), some (pvI 71), some (pvI (0 + 1))], [pvI ((n3 + (M.1 3 4)) ^^^ (M.1 3 3))], M30_)) rfl ⟨trivial, trivial⟩ ?_
  exact pw_ret hT rfl (r := some (pvI ((n3 + (M.1 3 4)) ^^^ (M.1 3 3)))) (M' := M30_) ⟨rfl, rfl⟩ ⟨⟨_, rfl, trivial, rfl⟩, o32_, f34_, (by omega)⟩
def fpL_eX0_run_3_3_0_x_3_6 : List (Nat × Nat × Nat) := [(0, 3, 2), (0, 4, 0)]
def fp_eX0_run_3_3_0_x_3_6 (q k : Nat) : Bool := pvfp fpL_eX0_run_3_3_0_x_3_6 q k
theorem fp_eX0_run_3_3_0_x_3_6_fp_X0_note_3_x (a b : Nat) (h : fp_X0_note_3_x a b = true) : fp_eX0_run_3_3_0_x_3_6 a b = true := pvfp_sub (l1 := fpL_X0_note_3_x) (l2 := fpL_eX0_run_3_3_0_x_3_6) (by decide) a b h
set_option maxHeartbeats 4000000 in
set_option maxRecDepth 10000 in
theorem se_X0_run_3_3_0_x_3_6 (M : pvM) (hok : pvOk M) (n3 : Int32) (hc3_1 : 0 ≤ Int32.toInt (M.1 3 1) ∧ Int32.toInt (M.1 3 1) ≤ 998) (hc3_2 : 6 ≤ Int32.toInt (M.1 3 2) ∧ Int32.toInt (M.1 3 2) ≤ 6) (d : Nat) : PW 4 d (0, [some (pvR 3), some (pvI 3), some (pvI 0), some (pvI n3), some (pvI 3), none, none], [], M) (fun r X => (∃ x : Int32, r = some (pvI x) ∧ True ∧ x = (n3 + (M.1 3 4))) ∧ pvOk X ∧ pvFr fp_eX0_run_3_3_0_x_3_6 M X ∧ Int32.toInt (X.1 3 1) ≤ Int32.toInt (M.1 3 1) + 1) := by
  have hT : pvdom 4 = pvD_4 := rfl
  refine pw_blk hT 2 (S' := (4, [some (pvR 3), some (pvI 3), some (pvI 0), some (pvI n3), some (pvI 3), none, none], [pvI 40, pvI 3], M)) rfl ⟨trivial, trivial, trivial⟩ ?_
  refine pw_ic hT (c := 3 ≤ 40) rfl rfl (fun c1_ => ?_) (fun c1_ => absurd (by decide) c1_)
  refine pw_blk hT 2 (S' := (11, [some (pvR 3), some (pvI 3), some (pvI 0), some (pvI n3), some (pvI 3), none, none], [pvI 0, pvI 3], M)) rfl ⟨trivial, trivial, trivial⟩ ?_
  refine pw_callT hT (as := [pvI 3, pvI 0]) (lo1 := [some (pvI 3), some (pvI 0), none, none, none]) (d1 := d) (rest := []) rfl rfl rfl rfl rfl (fun h => absurd h (by decide)) (Nat.zero_le _) rfl rfl rfl (sf_X0_bodyFrom_3_0 M hok d) ?_
  refine pw_eqI (show ((pvstab 1041).getD (Int32.toNatClampNeg ((0 * 3) + 0)) 0) = 10 from by decide) ?_
  show PW 4 d (14, [some (pvR 3), some (pvI 3), some (pvI 0), some (pvI n3), some (pvI 3), none, none], [pvI 10], M) _
  refine pw_blk hT 7 (S' := (25, [some (pvR 3), some (pvI 3), some (pvI 0), some (pvI n3), some (pvI 3), some (pvI 10), some (pvI (3 + 1))], [pvI 10, pvR 3], M)) rfl ⟨trivial, trivial, trivial, trivial, trivial, trivial, trivial, trivial⟩ ?_
  refine pw_callVd hT (as := [pvR 3, pvI 10]) (lo1 := [some (pvR 3), some (pvI 10)]) (d1 := d) (rest := []) rfl rfl rfl rfl rfl (fun _ => rfl) (Nat.zero_le _) rfl rfl rfl (sf_X0_note_3_x M hok 10 (zr_wide (show 10 ≤ Int32.toInt 10 ∧ Int32.toInt 10 ≤ 10 from (by decide)) (by decide) (by decide)) (zr_wide hc3_1 (by decide) (by decide)) d) (fun M9_ o11_ g12_ d7_ => ?_)
  have f13_ : pvFr fp_eX0_run_3_3_0_x_3_6 M M9_ := pvfr_t g12_ pvfr_0 fp_eX0_run_3_3_0_x_3_6_fp_X0_note_3_x
  have b14_ : 0 ≤ Int32.toInt (M9_.1 3 1) ∧ Int32.toInt (M9_.1 3 1) ≤ 999 := (by have u0 := hc3_1; have u1 := d7_; have u2 := pvok_r o11_ 3 1 (lo := 0) (hi := 1000000) rfl; omega)
  refine pw_blk hT 1 (S' := (30, [some (pvR 3), some (pvI 3), some (pvI 0), some (pvI n3), some (pvI 3), some (pvI 10), some (pvI (3 + 1))], [pvI 10], M9_)) rfl ⟨trivial, trivial⟩ ?_
  refine pw_sw hT rfl rfl ?_
  refine And.intro (fun c15_ => ?_) (fun c15_ => absurd (by decide) c15_)
  show PW 4 d (128, [some (pvR 3), some (pvI 3), some (pvI 0), some (pvI n3), some (pvI 3), some (pvI 10), some (pvI (3 + 1))], [], M9_) _
  refine pw_blk hT 3 (S' := (133, [some (pvR 3), some (pvI 3), some (pvI 0), some (pvI n3), some (pvI 3), some (pvI 10), some (pvI (3 + 1))], [pvI (M9_.1 3 4), pvI n3], M9_)) rfl ⟨trivial, trivial, rfl, trivial⟩ ?_
  have e16_ : (M9_.1 3 4) = (M.1 3 4) := (g12_ 3 4 rfl)
  refine pw_eqI e16_ ?_
  refine pw_blk hT 1 (S' := (134, [some (pvR 3), some (pvI 3), some (pvI 0), some (pvI n3), some (pvI 3), some (pvI 10), some (pvI (3 + 1))], [pvI (n3 + (M.1 3 4))], M9_)) rfl ⟨trivial, trivial⟩ ?_
  exact pw_ret hT rfl (r := some (pvI (n3 + (M.1 3 4)))) (M' := M9_) ⟨rfl, rfl⟩ ⟨⟨_, rfl, trivial, rfl⟩, o11_, f13_, (by omega)⟩
def fpL_eX0_run_3_6_0_x_2_6 : List (Nat × Nat × Nat) := [(0, 3, 2), (0, 4, 0)]
def fp_eX0_run_3_6_0_x_2_6 (q k : Nat) : Bool := pvfp fpL_eX0_run_3_6_0_x_2_6 q k
theorem fp_eX0_run_3_6_0_x_2_6_fp_X0_note_3_x (a b : Nat) (h : fp_X0_note_3_x a b = true) : fp_eX0_run_3_6_0_x_2_6 a b = true := pvfp_sub (l1 := fpL_X0_note_3_x) (l2 := fpL_eX0_run_3_6_0_x_2_6) (by decide) a b h
theorem fp_eX0_run_3_6_0_x_2_6_fp_eX0_run_3_3_0_x_3_6 (a b : Nat) (h : fp_eX0_run_3_3_0_x_3_6 a b = true) : fp_eX0_run_3_6_0_x_2_6 a b = true := pvfp_sub (l1 := fpL_eX0_run_3_3_0_x_3_6) (l2 := fpL_eX0_run_3_6_0_x_2_6) (by decide) a b h
set_option maxHeartbeats 4000000 in
set_option maxRecDepth 10000 in
theorem se_X0_run_3_6_0_x_2_6 (M : pvM) (hok : pvOk M) (n3 : Int32) (hc3_1 : 0 ≤ Int32.toInt (M.1 3 1) ∧ Int32.toInt (M.1 3 1) ≤ 997) (hc3_2 : 6 ≤ Int32.toInt (M.1 3 2) ∧ Int32.toInt (M.1 3 2) ≤ 6) (d : Nat) (hd : 1 ≤ d) : PW 4 d (0, [some (pvR 3), some (pvI 6), some (pvI 0), some (pvI n3), some (pvI 2), none, none], [], M) (fun r X => (∃ x : Int32, r = some (pvI x) ∧ True ∧ x = ((n3 + (M.1 3 4)) ^^^ (M.1 3 3))) ∧ pvOk X ∧ pvFr fp_eX0_run_3_6_0_x_2_6 M X ∧ Int32.toInt (X.1 3 1) ≤ Int32.toInt (M.1 3 1) + 2) := by
  have hT : pvdom 4 = pvD_4 := rfl
  refine pw_blk hT 2 (S' := (4, [some (pvR 3), some (pvI 6), some (pvI 0), some (pvI n3), some (pvI 2), none, none], [pvI 40, pvI 2], M)) rfl ⟨trivial, trivial, trivial⟩ ?_
  refine pw_ic hT (c := 2 ≤ 40) rfl rfl (fun c1_ => ?_) (fun c1_ => absurd (by decide) c1_)
  refine pw_blk hT 2 (S' := (11, [some (pvR 3), some (pvI 6), some (pvI 0), some (pvI n3), some (pvI 2), none, none], [pvI 0, pvI 6], M)) rfl ⟨trivial, trivial, trivial⟩ ?_
  refine pw_callT hT (as := [pvI 6, pvI 0]) (lo1 := [some (pvI 6), some (pvI 0), none, none, none]) (d1 := d) (rest := []) rfl rfl rfl rfl rfl (fun h => absurd h (by decide)) (Nat.zero_le _) rfl rfl rfl (sf_X0_bodyFrom_6_0 M hok d) ?_
  refine pw_eqI (show ((pvstab 1041).getD (Int32.toNatClampNeg ((6 * 3) + 0)) 0) = 71 from by decide) ?_
  show PW 4 d (14, [some (pvR 3), some (pvI 6), some (pvI 0), some (pvI n3), some (pvI 2), none, none], [pvI 71], M) _
  refine pw_blk hT 7 (S' := (25, [some (pvR 3), some (pvI 6), some (pvI 0), some (pvI n3), some (pvI 2), some (pvI 71), some (pvI (2 + 1))], [pvI 71, pvR 3], M)) rfl ⟨trivial, trivial, trivial, trivial, trivial, trivial, trivial, trivial⟩ ?_
  refine pw_callVd hT (as := [pvR 3, pvI 71]) (lo1 := [some (pvR 3), some (pvI 71)]) (d1 := d) (rest := []) rfl rfl rfl rfl rfl (fun _ => rfl) (Nat.zero_le _) rfl rfl rfl (sf_X0_note_3_x M hok 71 (zr_wide (show 71 ≤ Int32.toInt 71 ∧ Int32.toInt 71 ≤ 71 from (by decide)) (by decide) (by decide)) (zr_wide hc3_1 (by decide) (by decide)) d) (fun M9_ o11_ g12_ d7_ => ?_)
  have f13_ : pvFr fp_eX0_run_3_6_0_x_2_6 M M9_ := pvfr_t g12_ pvfr_0 fp_eX0_run_3_6_0_x_2_6_fp_X0_note_3_x
  have b14_ : 0 ≤ Int32.toInt (M9_.1 3 1) ∧ Int32.toInt (M9_.1 3 1) ≤ 998 := (by have u0 := hc3_1; have u1 := d7_; have u2 := pvok_r o11_ 3 1 (lo := 0) (hi := 1000000) rfl; omega)
  refine pw_blk hT 1 (S' := (30, [some (pvR 3), some (pvI 6), some (pvI 0), some (pvI n3), some (pvI 2), some (pvI 71), some (pvI (2 + 1))], [pvI 71], M9_)) rfl ⟨trivial, trivial⟩ ?_
  refine pw_sw hT rfl rfl ?_
  refine And.intro (fun c15_ => absurd c15_ (by decide)) (fun c15_ => ?_)
  refine And.intro (fun c16_ => absurd c16_ (by decide)) (fun c16_ => ?_)
  refine And.intro (fun c17_ => absurd c17_ (by decide)) (fun c17_ => ?_)
  refine And.intro (fun c18_ => absurd c18_ (by decide)) (fun c18_ => ?_)
  refine And.intro (fun c19_ => absurd c19_ (by decide)) (fun c19_ => ?_)
  refine And.intro (fun c20_ => absurd c20_ (by decide)) (fun c20_ => ?_)
  refine And.intro (fun c21_ => absurd c21_ (by decide)) (fun c21_ => ?_)
  refine And.intro (fun c22_ => absurd c22_ (by decide)) (fun c22_ => ?_)
  refine And.intro (fun c23_ => absurd c23_ (by decide)) (fun c23_ => ?_)
  refine And.intro (fun c24_ => absurd c24_ (by decide)) (fun c24_ => ?_)
  refine And.intro (fun c25_ => ?_) (fun c25_ => absurd (by decide) c25_)
  show PW 4 d (274, [some (pvR 3), some (pvI 6), some (pvI 0), some (pvI n3), some (pvI 2), some (pvI 71), some (pvI (2 + 1))], [], M9_) _
  refine pw_blk hT 5 (S' := (280, [some (pvR 3), some (pvI 6), some (pvI 0), some (pvI n3), some (pvI 2), some (pvI 71), some (pvI (2 + 1))], [pvI (2 + 1), pvI n3, pvI 0, pvI 3, pvR 3], M9_)) rfl ⟨trivial, trivial, trivial, trivial, trivial, trivial⟩ ?_
  have e26_ : (M9_.1 3 2) = (M.1 3 2) := (g12_ 3 2 rfl)
  have b27_ : 6 ≤ Int32.toInt (M9_.1 3 2) ∧ Int32.toInt (M9_.1 3 2) ≤ 6 := (by rw [e26_]; exact hc3_2)
  refine pw_callGd hT (as := [pvR 3, pvI 3, pvI 0, pvI n3, pvI (2 + 1)]) (lo1 := [some (pvR 3), some (pvI 3), some (pvI 0), some (pvI n3), some (pvI (2 + 1)), none, none]) (d1 := (d - 1)) (rest := []) rfl rfl rfl rfl rfl (fun h => absurd h (by decide)) (show 1 ≤ d by omega) rfl rfl rfl (se_X0_run_3_3_0_x_3_6 M9_ o11_ n3 b14_ b27_ (d - 1)) (fun x29_ M30_ b31_ o32_ g33_ d28_ => ?_)
  have f34_ : pvFr fp_eX0_run_3_6_0_x_2_6 M M30_ := pvfr_t g33_ f13_ fp_eX0_run_3_6_0_x_2_6_fp_eX0_run_3_3_0_x_3_6
  have b35_ : 0 ≤ Int32.toInt (M30_.1 3 1) ∧ Int32.toInt (M30_.1 3 1) ≤ 999 := (by have u0 := b14_; have u1 := d28_; have u2 := pvok_r o32_ 3 1 (lo := 0) (hi := 1000000) rfl; omega)
  have u36_ : Int32.toInt 3 = 3 := by decide
  have u37_ : Int32.toInt 0 = 0 := by decide
  have u38_ : Int32.toInt (2 + 1) = 3 := by decide
  obtain ⟨b39_, d40_⟩ := b31_
  subst d40_
  have e41_ : (n3 + (M9_.1 3 4)) = (n3 + (M.1 3 4)) := (show (n3 + (M9_.1 3 4)) = (n3 + (M.1 3 4)) from by rw [(g12_ 3 4 rfl)])
  refine pw_eqI e41_ ?_
  refine pw_blk hT 2 (S' := (287, [some (pvR 3), some (pvI 6), some (pvI 0), some (pvI n3), some (pvI 2), some (pvI 71), some (pvI (2 + 1))], [pvI (M30_.1 3 3), pvI (n3 + (M.1 3 4))], M30_)) rfl ⟨trivial, rfl, trivial⟩ ?_
  have e42_ : (M30_.1 3 3) = (M.1 3 3) := ((g33_ 3 3 rfl).trans (g12_ 3 3 rfl))
  refine pw_eqI e42_ ?_
  refine pw_blk hT 1 (S' := (288, [some (pvR 3), some (pvI 6), some (pvI 0), some (pvI n3), some (pvI 2), some (pvI 71), some (pvI (2 + 1))], [pvI ((n3 + (M.1 3 4)) ^^^ (M.1 3 3))], M30_)) rfl ⟨trivial, trivial⟩ ?_
  exact pw_ret hT rfl (r := some (pvI ((n3 + (M.1 3 4)) ^^^ (M.1 3 3)))) (M' := M30_) ⟨rfl, rfl⟩ ⟨⟨_, rfl, trivial, rfl⟩, o32_, f34_, (by omega)⟩
def fpL_eX0_run_3_3_1_x_1_6 : List (Nat × Nat × Nat) := [(0, 3, 2), (0, 4, 0)]
def fp_eX0_run_3_3_1_x_1_6 (q k : Nat) : Bool := pvfp fpL_eX0_run_3_3_1_x_1_6 q k
theorem fp_eX0_run_3_3_1_x_1_6_fp_X0_note_3_x (a b : Nat) (h : fp_X0_note_3_x a b = true) : fp_eX0_run_3_3_1_x_1_6 a b = true := pvfp_sub (l1 := fpL_X0_note_3_x) (l2 := fpL_eX0_run_3_3_1_x_1_6) (by decide) a b h
theorem fp_eX0_run_3_3_1_x_1_6_fp_eX0_run_3_6_0_x_2_6 (a b : Nat) (h : fp_eX0_run_3_6_0_x_2_6 a b = true) : fp_eX0_run_3_3_1_x_1_6 a b = true := pvfp_sub (l1 := fpL_eX0_run_3_6_0_x_2_6) (l2 := fpL_eX0_run_3_3_1_x_1_6) (by decide) a b h
set_option maxHeartbeats 4000000 in
set_option maxRecDepth 10000 in
theorem se_X0_run_3_3_1_x_1_6 (M : pvM) (hok : pvOk M) (n3 : Int32) (hc3_1 : 0 ≤ Int32.toInt (M.1 3 1) ∧ Int32.toInt (M.1 3 1) ≤ 996) (hc3_2 : 6 ≤ Int32.toInt (M.1 3 2) ∧ Int32.toInt (M.1 3 2) ≤ 6) (d : Nat) (hd : 2 ≤ d) : PW 4 d (0, [some (pvR 3), some (pvI 3), some (pvI 1), some (pvI n3), some (pvI 1), none, none], [], M) (fun r X => (∃ x : Int32, r = some (pvI x) ∧ True ∧ x = (((n3 + (M.1 3 4)) ^^^ (M.1 3 3)) - (M.1 3 3))) ∧ pvOk X ∧ pvFr fp_eX0_run_3_3_1_x_1_6 M X ∧ Int32.toInt (X.1 3 1) ≤ Int32.toInt (M.1 3 1) + 3) := by
  have hT : pvdom 4 = pvD_4 := rfl
  refine pw_blk hT 2 (S' := (4, [some (pvR 3), some (pvI 3), some (pvI 1), some (pvI n3), some (pvI 1), none, none], [pvI 40, pvI 1], M)) rfl ⟨trivial, trivial, trivial⟩ ?_
  refine pw_ic hT (c := 1 ≤ 40) rfl rfl (fun c1_ => ?_) (fun c1_ => absurd (by decide) c1_)
  refine pw_blk hT 2 (S' := (11, [some (pvR 3), some (pvI 3), some (pvI 1), some (pvI n3), some (pvI 1), none, none], [pvI 1, pvI 3], M)) rfl ⟨trivial, trivial, trivial⟩ ?_
  refine pw_callT hT (as := [pvI 3, pvI 1]) (lo1 := [some (pvI 3), some (pvI 1), none, none, none]) (d1 := d) (rest := []) rfl rfl rfl rfl rfl (fun h => absurd h (by decide)) (Nat.zero_le _) rfl rfl rfl (sf_X0_bodyFrom_3_1 M hok d) ?_
  refine pw_eqI (show ((pvstab 1041).getD (Int32.toNatClampNeg ((0 * 3) + 1)) 0) = 11 from by decide) ?_
  show PW 4 d (14, [some (pvR 3), some (pvI 3), some (pvI 1), some (pvI n3), some (pvI 1), none, none], [pvI 11], M) _
  refine pw_blk hT 7 (S' := (25, [some (pvR 3), some (pvI 3), some (pvI 1), some (pvI n3), some (pvI 1), some (pvI 11), some (pvI (1 + 1))], [pvI 11, pvR 3], M)) rfl ⟨trivial, trivial, trivial, trivial, trivial, trivial, trivial, trivial⟩ ?_
  refine pw_callVd hT (as := [pvR 3, pvI 11]) (lo1 := [some (pvR 3), some (pvI 11)]) (d1 := d) (rest := []) rfl rfl rfl rfl rfl (fun _ => rfl) (Nat.zero_le _) rfl rfl rfl (sf_X0_note_3_x M hok 11 (zr_wide (show 11 ≤ Int32.toInt 11 ∧ Int32.toInt 11 ≤ 11 from (by decide)) (by decide) (by decide)) (zr_wide hc3_1 (by decide) (by decide)) d) (fun M9_ o11_ g12_ d7_ => ?_)
  have f13_ : pvFr fp_eX0_run_3_3_1_x_1_6 M M9_ := pvfr_t g12_ pvfr_0 fp_eX0_run_3_3_1_x_1_6_fp_X0_note_3_x
  have b14_ : 0 ≤ Int32.toInt (M9_.1 3 1) ∧ Int32.toInt (M9_.1 3 1) ≤ 997 := (by have u0 := hc3_1; have u1 := d7_; have u2 := pvok_r o11_ 3 1 (lo := 0) (hi := 1000000) rfl; omega)
  refine pw_blk hT 1 (S' := (30, [some (pvR 3), some (pvI 3), some (pvI 1), some (pvI n3), some (pvI 1), some (pvI 11), some (pvI (1 + 1))], [pvI 11], M9_)) rfl ⟨trivial, trivial⟩ ?_
  refine pw_sw hT rfl rfl ?_
  refine And.intro (fun c15_ => absurd c15_ (by decide)) (fun c15_ => ?_)
  refine And.intro (fun c16_ => ?_) (fun c16_ => absurd (by decide) c16_)
  show PW 4 d (135, [some (pvR 3), some (pvI 3), some (pvI 1), some (pvI n3), some (pvI 1), some (pvI 11), some (pvI (1 + 1))], [], M9_) _
  have e17_ : (M9_.1 3 2) = (M.1 3 2) := (g12_ 3 2 rfl)
  have b18_ : 6 ≤ Int32.toInt (M9_.1 3 2) ∧ Int32.toInt (M9_.1 3 2) ≤ 6 := (by rw [e17_]; exact hc3_2)
  refine pw_blk hT 3 (S' := (140, [some (pvR 3), some (pvI 3), some (pvI 1), some (pvI n3), some (pvI 1), some (pvI 11), some (pvI (1 + 1))], [pvI (M9_.1 3 2), pvR 3], M9_)) rfl ⟨trivial, trivial, rfl, trivial⟩ ?_
  refine pw_eqI ((zi_eq _ (6)).mpr (by have u0 := b18_; have u1 : Int32.toInt (6) = 6 := (by decide); omega)) ?_
  refine pw_blk hT 3 (S' := (144, [some (pvR 3), some (pvI 3), some (pvI 1), some (pvI n3), some (pvI 1), some (pvI 11), some (pvI (1 + 1))], [pvI (1 + 1), pvI n3, pvI 0, pvI 6, pvR 3], M9_)) rfl ⟨trivial, trivial, trivial, trivial⟩ ?_
  refine pw_callGd hT (as := [pvR 3, pvI 6, pvI 0, pvI n3, pvI (1 + 1)]) (lo1 := [some (pvR 3), some (pvI 6), some (pvI 0), some (pvI n3), some (pvI (1 + 1)), none, none]) (d1 := (d - 1)) (rest := []) rfl rfl rfl rfl rfl (fun h => absurd h (by decide)) (show 1 ≤ d by omega) rfl rfl rfl (se_X0_run_3_6_0_x_2_6 M9_ o11_ n3 b14_ b18_ (d - 1) (by omega)) (fun x20_ M21_ b22_ o23_ g24_ d19_ => ?_)
  have f25_ : pvFr fp_eX0_run_3_3_1_x_1_6 M M21_ := pvfr_t g24_ f13_ fp_eX0_run_3_3_1_x_1_6_fp_eX0_run_3_6_0_x_2_6
  have b26_ : 0 ≤ Int32.toInt (M21_.1 3 1) ∧ Int32.toInt (M21_.1 3 1) ≤ 999 := (by have u0 := b14_; have u1 := d19_; have u2 := pvok_r o23_ 3 1 (lo := 0) (hi := 1000000) rfl; omega)
  have u27_ : Int32.toInt 6 = 6 := by decide
  have u28_ : Int32.toInt 0 = 0 := by decide
  have u29_ : Int32.toInt (1 + 1) = 2 := by decide
  obtain ⟨b30_, d31_⟩ := b22_
  subst d31_
  have e32_ : ((n3 + (M9_.1 3 4)) ^^^ (M9_.1 3 3)) = ((n3 + (M.1 3 4)) ^^^ (M.1 3 3)) := (show ((n3 + (M9_.1 3 4)) ^^^ (M9_.1 3 3)) = ((n3 + (M.1 3 4)) ^^^ (M.1 3 3)) from by rw [(g12_ 3 4 rfl), (g12_ 3 3 rfl)])
  refine pw_eqI e32_ ?_
  refine pw_blk hT 2 (S' := (151, [some (pvR 3), some (pvI 3), some (pvI 1), some (pvI n3), some (pvI 1), some (pvI 11), some (pvI (1 + 1))], [pvI (M21_.1 3 3), pvI ((n3 + (M.1 3 4)) ^^^ (M.1 3 3))], M21_)) rfl ⟨trivial, rfl, trivial⟩ ?_
  have e33_ : (M21_.1 3 3) = (M.1 3 3) := ((g24_ 3 3 rfl).trans (g12_ 3 3 rfl))
  refine pw_eqI e33_ ?_
  refine pw_blk hT 1 (S' := (152, [some (pvR 3), some (pvI 3), some (pvI 1), some (pvI n3), some (pvI 1), some (pvI 11), some (pvI (1 + 1))], [pvI (((n3 + (M.1 3 4)) ^^^ (M.1 3 3)) - (M.1 3 3))], M21_)) rfl ⟨trivial, trivial⟩ ?_
  exact pw_ret hT rfl (r := some (pvI (((n3 + (M.1 3 4)) ^^^ (M.1 3 3)) - (M.1 3 3)))) (M' := M21_) ⟨rfl, rfl⟩ ⟨⟨_, rfl, trivial, rfl⟩, o23_, f25_, (by omega)⟩
def fpL_eX0_run_3_6_1_x_0_6 : List (Nat × Nat × Nat) := [(0, 3, 2), (0, 4, 0)]
def fp_eX0_run_3_6_1_x_0_6 (q k : Nat) : Bool := pvfp fpL_eX0_run_3_6_1_x_0_6 q k
theorem fp_eX0_run_3_6_1_x_0_6_fp_X0_note_3_x (a b : Nat) (h : fp_X0_note_3_x a b = true) : fp_eX0_run_3_6_1_x_0_6 a b = true := pvfp_sub (l1 := fpL_X0_note_3_x) (l2 := fpL_eX0_run_3_6_1_x_0_6) (by decide) a b h
theorem fp_eX0_run_3_6_1_x_0_6_fp_eX0_run_3_3_0_x_1_6 (a b : Nat) (h : fp_eX0_run_3_3_0_x_1_6 a b = true) : fp_eX0_run_3_6_1_x_0_6 a b = true := pvfp_sub (l1 := fpL_eX0_run_3_3_0_x_1_6) (l2 := fpL_eX0_run_3_6_1_x_0_6) (by decide) a b h
theorem fp_eX0_run_3_6_1_x_0_6_fp_eX0_run_3_3_1_x_1_6 (a b : Nat) (h : fp_eX0_run_3_3_1_x_1_6 a b = true) : fp_eX0_run_3_6_1_x_0_6 a b = true := pvfp_sub (l1 := fpL_eX0_run_3_3_1_x_1_6) (l2 := fpL_eX0_run_3_6_1_x_0_6) (by decide) a b h
set_option maxHeartbeats 4000000 in
set_option maxRecDepth 10000 in
theorem se_X0_run_3_6_1_x_0_6 (M : pvM) (hok : pvOk M) (n3 : Int32) (hc3_1 : 0 ≤ Int32.toInt (M.1 3 1) ∧ Int32.toInt (M.1 3 1) ≤ 994) (hc3_2 : 6 ≤ Int32.toInt (M.1 3 2) ∧ Int32.toInt (M.1 3 2) ≤ 6) (d : Nat) (hd : 3 ≤ d) : PW 4 d (0, [some (pvR 3), some (pvI 6), some (pvI 1), some (pvI n3), some (pvI 0), none, none], [], M) (fun r X => (∃ x : Int32, r = some (pvI x) ∧ True ∧ x = ((((n3 + (M.1 3 4)) ^^^ (M.1 3 3)) - (M.1 3 3)) + (2 + (M.1 3 4)))) ∧ pvOk X ∧ pvFr fp_eX0_run_3_6_1_x_0_6 M X ∧ Int32.toInt (X.1 3 1) ≤ Int32.toInt (M.1 3 1) + 5) := by
  have hT : pvdom 4 = pvD_4 := rfl
  refine pw_blk hT 2 (S' := (4, [some (pvR 3), some (pvI 6), some (pvI 1), some (pvI n3), some (pvI 0), none, none], [pvI 40, pvI 0], M)) rfl ⟨trivial, trivial, trivial⟩ ?_
  refine pw_ic hT (c := 0 ≤ 40) rfl rfl (fun c1_ => ?_) (fun c1_ => absurd (by decide) c1_)
  refine pw_blk hT 2 (S' := (11, [some (pvR 3), some (pvI 6), some (pvI 1), some (pvI n3), some (pvI 0), none, none], [pvI 1, pvI 6], M)) rfl ⟨trivial, trivial, trivial⟩ ?_
  refine pw_callT hT (as := [pvI 6, pvI 1]) (lo1 := [some (pvI 6), some (pvI 1), none, none, none]) (d1 := d) (rest := []) rfl rfl rfl rfl rfl (fun h => absurd h (by decide)) (Nat.zero_le _) rfl rfl rfl (sf_X0_bodyFrom_6_1 M hok d) ?_
  refine pw_eqI (show ((pvstab 1041).getD (Int32.toNatClampNeg ((6 * 3) + 1)) 0) = 70 from by decide) ?_
  show PW 4 d (14, [some (pvR 3), some (pvI 6), some (pvI 1), some (pvI n3), some (pvI 0), none, none], [pvI 70], M) _
  refine pw_blk hT 7 (S' := (25, [some (pvR 3), some (pvI 6), some (pvI 1), some (pvI n3), some (pvI 0), some (pvI 70), some (pvI (0 + 1))], [pvI 70, pvR 3], M)) rfl ⟨trivial, trivial, trivial, trivial, trivial, trivial, trivial, trivial⟩ ?_
  refine pw_callVd hT (as := [pvR 3, pvI 70]) (lo1 := [some (pvR 3), some (pvI 70)]) (d1 := d) (rest := []) rfl rfl rfl rfl rfl (fun _ => rfl) (Nat.zero_le _) rfl rfl rfl (sf_X0_note_3_x M hok 70 (zr_wide (show 70 ≤ Int32.toInt 70 ∧ Int32.toInt 70 ≤ 70 from (by decide)) (by decide) (by decide)) (zr_wide hc3_1 (by decide) (by decide)) d) (fun M9_ o11_ g12_ d7_ => ?_)
  have f13_ : pvFr fp_eX0_run_3_6_1_x_0_6 M M9_ := pvfr_t g12_ pvfr_0 fp_eX0_run_3_6_1_x_0_6_fp_X0_note_3_x
  have b14_ : 0 ≤ Int32.toInt (M9_.1 3 1) ∧ Int32.toInt (M9_.1 3 1) ≤ 995 := (by have u0 := hc3_1; have u1 := d7_; have u2 := pvok_r o11_ 3 1 (lo := 0) (hi := 1000000) rfl; omega)
  refine pw_blk hT 1 (S' := (30, [some (pvR 3), some (pvI 6), some (pvI 1), some (pvI n3), some (pvI 0), some (pvI 70), some (pvI (0 + 1))], [pvI 70], M9_)) rfl ⟨trivial, trivial⟩ ?_
  refine pw_sw hT rfl rfl ?_
  refine And.intro (fun c15_ => absurd c15_ (by decide)) (fun c15_ => ?_)
  refine And.intro (fun c16_ => absurd c16_ (by decide)) (fun c16_ => ?_)
  refine And.intro (fun c17_ => absurd c17_ (by decide)) (fun c17_ => ?_)
  refine And.intro (fun c18_ => absurd c18_ (by decide)) (fun c18_ => ?_)
  refine And.intro (fun c19_ => absurd c19_ (by decide)) (fun c19_ => ?_)
  refine And.intro (fun c20_ => absurd c20_ (by decide)) (fun c20_ => ?_)
  refine And.intro (fun c21_ => absurd c21_ (by decide)) (fun c21_ => ?_)
  refine And.intro (fun c22_ => absurd c22_ (by decide)) (fun c22_ => ?_)
  refine And.intro (fun c23_ => absurd c23_ (by decide)) (fun c23_ => ?_)
  refine And.intro (fun c24_ => ?_) (fun c24_ => absurd (by decide) c24_)
  show PW 4 d (254, [some (pvR 3), some (pvI 6), some (pvI 1), some (pvI n3), some (pvI 0), some (pvI 70), some (pvI (0 + 1))], [], M9_) _
  refine pw_blk hT 5 (S' := (260, [some (pvR 3), some (pvI 6), some (pvI 1), some (pvI n3), some (pvI 0), some (pvI 70), some (pvI (0 + 1))], [pvI (0 + 1), pvI n3, pvI 1, pvI 3, pvR 3], M9_)) rfl ⟨trivial, trivial, trivial, trivial, trivial, trivial⟩ ?_
  have e25_ : (M9_.1 3 2) = (M.1 3 2) := (g12_ 3 2 rfl)
  have b26_ : 6 ≤ Int32.toInt (M9_.1 3 2) ∧ Int32.toInt (M9_.1 3 2) ≤ 6 := (by rw [e25_]; exact hc3_2)
  refine pw_callGd hT (as := [pvR 3, pvI 3, pvI 1, pvI n3, pvI (0 + 1)]) (lo1 := [some (pvR 3), some (pvI 3), some (pvI 1), some (pvI n3), some (pvI (0 + 1)), none, none]) (d1 := (d - 1)) (rest := []) rfl rfl rfl rfl rfl (fun h => absurd h (by decide)) (show 1 ≤ d by omega) rfl rfl rfl (se_X0_run_3_3_1_x_1_6 M9_ o11_ n3 (zr_wide b14_ (by decide) (by decide)) b26_ (d - 1) (by omega)) (fun x28_ M29_ b30_ o31_ g32_ d27_ => ?_)
  have f33_ : pvFr fp_eX0_run_3_6_1_x_0_6 M M29_ := pvfr_t g32_ f13_ fp_eX0_run_3_6_1_x_0_6_fp_eX0_run_3_3_1_x_1_6
  have b34_ : 0 ≤ Int32.toInt (M29_.1 3 1) ∧ Int32.toInt (M29_.1 3 1) ≤ 998 := (by have u0 := b14_; have u1 := d27_; have u2 := pvok_r o31_ 3 1 (lo := 0) (hi := 1000000) rfl; omega)
  have u35_ : Int32.toInt 3 = 3 := by decide
  have u36_ : Int32.toInt 1 = 1 := by decide
  have u37_ : Int32.toInt (0 + 1) = 1 := by decide
  obtain ⟨b38_, d39_⟩ := b30_
  subst d39_
  have e40_ : (((n3 + (M9_.1 3 4)) ^^^ (M9_.1 3 3)) - (M9_.1 3 3)) = (((n3 + (M.1 3 4)) ^^^ (M.1 3 3)) - (M.1 3 3)) := (show (((n3 + (M9_.1 3 4)) ^^^ (M9_.1 3 3)) - (M9_.1 3 3)) = (((n3 + (M.1 3 4)) ^^^ (M.1 3 3)) - (M.1 3 3)) from by rw [(g12_ 3 4 rfl), (g12_ 3 3 rfl)])
  refine pw_eqI e40_ ?_
  refine pw_blk hT 5 (S' := (269, [some (pvR 3), some (pvI 6), some (pvI 1), some (pvI n3), some (pvI 0), some (pvI 70), some (pvI (0 + 1))], [pvI (0 + 1), pvI 2, pvI 0, pvI 3, pvR 3, pvI (((n3 + (M.1 3 4)) ^^^ (M.1 3 3)) - (M.1 3 3))], M29_)) rfl ⟨trivial, trivial, trivial, trivial, trivial, trivial⟩ ?_
  have e41_ : (M29_.1 3 2) = (M9_.1 3 2) := (g32_ 3 2 rfl)
  have b42_ : 6 ≤ Int32.toInt (M29_.1 3 2) ∧ Int32.toInt (M29_.1 3 2) ≤ 6 := (by rw [e41_]; exact b26_)
  refine pw_callGd hT (as := [pvR 3, pvI 3, pvI 0, pvI 2, pvI (0 + 1)]) (lo1 := [some (pvR 3), some (pvI 3), some (pvI 0), some (pvI 2), some (pvI (0 + 1)), none, none]) (d1 := (d - 1)) (rest := [pvI (((n3 + (M.1 3 4)) ^^^ (M.1 3 3)) - (M.1 3 3))]) rfl rfl rfl rfl rfl (fun h => absurd h (by decide)) (show 1 ≤ d by omega) rfl rfl rfl (se_X0_run_3_3_0_x_1_6 M29_ o31_ 2 b34_ b42_ (d - 1)) (fun x44_ M45_ b46_ o47_ g48_ d43_ => ?_)
  have f49_ : pvFr fp_eX0_run_3_6_1_x_0_6 M M45_ := pvfr_t g48_ f33_ fp_eX0_run_3_6_1_x_0_6_fp_eX0_run_3_3_0_x_1_6
  have b50_ : 0 ≤ Int32.toInt (M45_.1 3 1) ∧ Int32.toInt (M45_.1 3 1) ≤ 999 := (by have u0 := b34_; have u1 := d43_; have u2 := pvok_r o47_ 3 1 (lo := 0) (hi := 1000000) rfl; omega)
  have u51_ : Int32.toInt 0 = 0 := by decide
  have u52_ : Int32.toInt 2 = 2 := by decide
  obtain ⟨b53_, d54_⟩ := b46_
  subst d54_
  have e55_ : (2 + (M29_.1 3 4)) = (2 + (M.1 3 4)) := (show (2 + (M29_.1 3 4)) = (2 + (M.1 3 4)) from by rw [((g32_ 3 4 rfl).trans (g12_ 3 4 rfl))])
  refine pw_eqI e55_ ?_
  refine pw_blk hT 1 (S' := (273, [some (pvR 3), some (pvI 6), some (pvI 1), some (pvI n3), some (pvI 0), some (pvI 70), some (pvI (0 + 1))], [pvI ((((n3 + (M.1 3 4)) ^^^ (M.1 3 3)) - (M.1 3 3)) + (2 + (M.1 3 4)))], M45_)) rfl ⟨trivial, trivial⟩ ?_
  exact pw_ret hT rfl (r := some (pvI ((((n3 + (M.1 3 4)) ^^^ (M.1 3 3)) - (M.1 3 3)) + (2 + (M.1 3 4))))) (M' := M45_) ⟨rfl, rfl⟩ ⟨⟨_, rfl, trivial, rfl⟩, o47_, f49_, (by omega)⟩
set_option maxHeartbeats 4000000 in
set_option maxRecDepth 10000 in
theorem se_X3_above_6 (M : pvM) (hok : pvOk M) (d : Nat) : PW 131 d (0, [some (pvI 6)], [], M) (fun r X => r = some (pvI (((pvstab 1040).getD (Int32.toNatClampNeg 6) 0))) ∧ X = M) := by
  have hT : pvdom 131 = pvD_131 := rfl
  refine pw_blk hT 1 (S' := (1, [some (pvI 6)], [pvI 6], M)) rfl ⟨trivial, trivial⟩ ?_
  refine pw_if hT (c := 6 < 0) rfl rfl (fun c1_ => absurd c1_ (by decide)) (fun c1_ => ?_)
  refine pw_blk hT 3 (S' := (9, [some (pvI 6)], [pvI (Int32.ofNat (pvstab 1040).length), pvI 6], M)) rfl ⟨trivial, trivial, (by decide), trivial⟩ ?_
  refine pw_ic hT (c := 6 < (Int32.ofNat (pvstab 1040).length)) rfl rfl (fun c2_ => ?_) (fun c2_ => absurd (by decide) c2_)
  refine pw_blk hT 3 (S' := (21, [some (pvI 6)], [pvI ((pvstab 1040).getD (Int32.toNatClampNeg 6) 0)], M)) rfl ⟨trivial, trivial, ⟨by decide, (zr_in (n := 7) (show 6 ≤ Int32.toInt 6 ∧ Int32.toInt 6 ≤ 6 from (by decide)) (by decide) (by decide))⟩, trivial⟩ ?_
  exact pw_ret hT rfl (r := some (pvI ((pvstab 1040).getD (Int32.toNatClampNeg 6) 0))) (M' := M) ⟨rfl, rfl⟩ ⟨rfl, rfl⟩
def fpL_eX0_run_3_3_0_x_5_6 : List (Nat × Nat × Nat) := [(0, 3, 2), (0, 4, 0)]
def fp_eX0_run_3_3_0_x_5_6 (q k : Nat) : Bool := pvfp fpL_eX0_run_3_3_0_x_5_6 q k
theorem fp_eX0_run_3_3_0_x_5_6_fp_X0_note_3_x (a b : Nat) (h : fp_X0_note_3_x a b = true) : fp_eX0_run_3_3_0_x_5_6 a b = true := pvfp_sub (l1 := fpL_X0_note_3_x) (l2 := fpL_eX0_run_3_3_0_x_5_6) (by decide) a b h
set_option maxHeartbeats 4000000 in
set_option maxRecDepth 10000 in
theorem se_X0_run_3_3_0_x_5_6 (M : pvM) (hok : pvOk M) (n3 : Int32) (hc3_1 : 0 ≤ Int32.toInt (M.1 3 1) ∧ Int32.toInt (M.1 3 1) ≤ 998) (hc3_2 : 6 ≤ Int32.toInt (M.1 3 2) ∧ Int32.toInt (M.1 3 2) ≤ 6) (d : Nat) : PW 4 d (0, [some (pvR 3), some (pvI 3), some (pvI 0), some (pvI n3), some (pvI 5), none, none], [], M) (fun r X => (∃ x : Int32, r = some (pvI x) ∧ True ∧ x = (n3 + (M.1 3 4))) ∧ pvOk X ∧ pvFr fp_eX0_run_3_3_0_x_5_6 M X ∧ Int32.toInt (X.1 3 1) ≤ Int32.toInt (M.1 3 1) + 1) := by
  have hT : pvdom 4 = pvD_4 := rfl
  refine pw_blk hT 2 (S' := (4, [some (pvR 3), some (pvI 3), some (pvI 0), some (pvI n3), some (pvI 5), none, none], [pvI 40, pvI 5], M)) rfl ⟨trivial, trivial, trivial⟩ ?_
  refine pw_ic hT (c := 5 ≤ 40) rfl rfl (fun c1_ => ?_) (fun c1_ => absurd (by decide) c1_)
  refine pw_blk hT 2 (S' := (11, [some (pvR 3), some (pvI 3), some (pvI 0), some (pvI n3), some (pvI 5), none, none], [pvI 0, pvI 3], M)) rfl ⟨trivial, trivial, trivial⟩ ?_
  refine pw_callT hT (as := [pvI 3, pvI 0]) (lo1 := [some (pvI 3), some (pvI 0), none, none, none]) (d1 := d) (rest := []) rfl rfl rfl rfl rfl (fun h => absurd h (by decide)) (Nat.zero_le _) rfl rfl rfl (sf_X0_bodyFrom_3_0 M hok d) ?_
  refine pw_eqI (show ((pvstab 1041).getD (Int32.toNatClampNeg ((0 * 3) + 0)) 0) = 10 from by decide) ?_
  show PW 4 d (14, [some (pvR 3), some (pvI 3), some (pvI 0), some (pvI n3), some (pvI 5), none, none], [pvI 10], M) _
  refine pw_blk hT 7 (S' := (25, [some (pvR 3), some (pvI 3), some (pvI 0), some (pvI n3), some (pvI 5), some (pvI 10), some (pvI (5 + 1))], [pvI 10, pvR 3], M)) rfl ⟨trivial, trivial, trivial, trivial, trivial, trivial, trivial, trivial⟩ ?_
  refine pw_callVd hT (as := [pvR 3, pvI 10]) (lo1 := [some (pvR 3), some (pvI 10)]) (d1 := d) (rest := []) rfl rfl rfl rfl rfl (fun _ => rfl) (Nat.zero_le _) rfl rfl rfl (sf_X0_note_3_x M hok 10 (zr_wide (show 10 ≤ Int32.toInt 10 ∧ Int32.toInt 10 ≤ 10 from (by decide)) (by decide) (by decide)) (zr_wide hc3_1 (by decide) (by decide)) d) (fun M9_ o11_ g12_ d7_ => ?_)
  have f13_ : pvFr fp_eX0_run_3_3_0_x_5_6 M M9_ := pvfr_t g12_ pvfr_0 fp_eX0_run_3_3_0_x_5_6_fp_X0_note_3_x
  have b14_ : 0 ≤ Int32.toInt (M9_.1 3 1) ∧ Int32.toInt (M9_.1 3 1) ≤ 999 := (by have u0 := hc3_1; have u1 := d7_; have u2 := pvok_r o11_ 3 1 (lo := 0) (hi := 1000000) rfl; omega)
  refine pw_blk hT 1 (S' := (30, [some (pvR 3), some (pvI 3), some (pvI 0), some (pvI n3), some (pvI 5), some (pvI 10), some (pvI (5 + 1))], [pvI 10], M9_)) rfl ⟨trivial, trivial⟩ ?_
  refine pw_sw hT rfl rfl ?_
  refine And.intro (fun c15_ => ?_) (fun c15_ => absurd (by decide) c15_)
  show PW 4 d (128, [some (pvR 3), some (pvI 3), some (pvI 0), some (pvI n3), some (pvI 5), some (pvI 10), some (pvI (5 + 1))], [], M9_) _
  refine pw_blk hT 3 (S' := (133, [some (pvR 3), some (pvI 3), some (pvI 0), some (pvI n3), some (pvI 5), some (pvI 10), some (pvI (5 + 1))], [pvI (M9_.1 3 4), pvI n3], M9_)) rfl ⟨trivial, trivial, rfl, trivial⟩ ?_
  have e16_ : (M9_.1 3 4) = (M.1 3 4) := (g12_ 3 4 rfl)
  refine pw_eqI e16_ ?_
  refine pw_blk hT 1 (S' := (134, [some (pvR 3), some (pvI 3), some (pvI 0), some (pvI n3), some (pvI 5), some (pvI 10), some (pvI (5 + 1))], [pvI (n3 + (M.1 3 4))], M9_)) rfl ⟨trivial, trivial⟩ ?_
  exact pw_ret hT rfl (r := some (pvI (n3 + (M.1 3 4)))) (M' := M9_) ⟨rfl, rfl⟩ ⟨⟨_, rfl, trivial, rfl⟩, o11_, f13_, (by omega)⟩
def fpL_eX0_run_3_6_0_x_4_6 : List (Nat × Nat × Nat) := [(0, 3, 2), (0, 4, 0)]
def fp_eX0_run_3_6_0_x_4_6 (q k : Nat) : Bool := pvfp fpL_eX0_run_3_6_0_x_4_6 q k
theorem fp_eX0_run_3_6_0_x_4_6_fp_X0_note_3_x (a b : Nat) (h : fp_X0_note_3_x a b = true) : fp_eX0_run_3_6_0_x_4_6 a b = true := pvfp_sub (l1 := fpL_X0_note_3_x) (l2 := fpL_eX0_run_3_6_0_x_4_6) (by decide) a b h
theorem fp_eX0_run_3_6_0_x_4_6_fp_eX0_run_3_3_0_x_5_6 (a b : Nat) (h : fp_eX0_run_3_3_0_x_5_6 a b = true) : fp_eX0_run_3_6_0_x_4_6 a b = true := pvfp_sub (l1 := fpL_eX0_run_3_3_0_x_5_6) (l2 := fpL_eX0_run_3_6_0_x_4_6) (by decide) a b h
set_option maxHeartbeats 4000000 in
set_option maxRecDepth 10000 in
theorem se_X0_run_3_6_0_x_4_6 (M : pvM) (hok : pvOk M) (n3 : Int32) (hc3_1 : 0 ≤ Int32.toInt (M.1 3 1) ∧ Int32.toInt (M.1 3 1) ≤ 997) (hc3_2 : 6 ≤ Int32.toInt (M.1 3 2) ∧ Int32.toInt (M.1 3 2) ≤ 6) (d : Nat) (hd : 1 ≤ d) : PW 4 d (0, [some (pvR 3), some (pvI 6), some (pvI 0), some (pvI n3), some (pvI 4), none, none], [], M) (fun r X => (∃ x : Int32, r = some (pvI x) ∧ True ∧ x = ((n3 + (M.1 3 4)) ^^^ (M.1 3 3))) ∧ pvOk X ∧ pvFr fp_eX0_run_3_6_0_x_4_6 M X ∧ Int32.toInt (X.1 3 1) ≤ Int32.toInt (M.1 3 1) + 2) := by
  have hT : pvdom 4 = pvD_4 := rfl
  refine pw_blk hT 2 (S' := (4, [some (pvR 3), some (pvI 6), some (pvI 0), some (pvI n3), some (pvI 4), none, none], [pvI 40, pvI 4], M)) rfl ⟨trivial, trivial, trivial⟩ ?_
  refine pw_ic hT (c := 4 ≤ 40) rfl rfl (fun c1_ => ?_) (fun c1_ => absurd (by decide) c1_)
  refine pw_blk hT 2 (S' := (11, [some (pvR 3), some (pvI 6), some (pvI 0), some (pvI n3), some (pvI 4), none, none], [pvI 0, pvI 6], M)) rfl ⟨trivial, trivial, trivial⟩ ?_
  refine pw_callT hT (as := [pvI 6, pvI 0]) (lo1 := [some (pvI 6), some (pvI 0), none, none, none]) (d1 := d) (rest := []) rfl rfl rfl rfl rfl (fun h => absurd h (by decide)) (Nat.zero_le _) rfl rfl rfl (sf_X0_bodyFrom_6_0 M hok d) ?_
  refine pw_eqI (show ((pvstab 1041).getD (Int32.toNatClampNeg ((6 * 3) + 0)) 0) = 71 from by decide) ?_
  show PW 4 d (14, [some (pvR 3), some (pvI 6), some (pvI 0), some (pvI n3), some (pvI 4), none, none], [pvI 71], M) _
  refine pw_blk hT 7 (S' := (25, [some (pvR 3), some (pvI 6), some (pvI 0), some (pvI n3), some (pvI 4), some (pvI 71), some (pvI (4 + 1))], [pvI 71, pvR 3], M)) rfl ⟨trivial, trivial, trivial, trivial, trivial, trivial, trivial, trivial⟩ ?_
  refine pw_callVd hT (as := [pvR 3, pvI 71]) (lo1 := [some (pvR 3), some (pvI 71)]) (d1 := d) (rest := []) rfl rfl rfl rfl rfl (fun _ => rfl) (Nat.zero_le _) rfl rfl rfl (sf_X0_note_3_x M hok 71 (zr_wide (show 71 ≤ Int32.toInt 71 ∧ Int32.toInt 71 ≤ 71 from (by decide)) (by decide) (by decide)) (zr_wide hc3_1 (by decide) (by decide)) d) (fun M9_ o11_ g12_ d7_ => ?_)
  have f13_ : pvFr fp_eX0_run_3_6_0_x_4_6 M M9_ := pvfr_t g12_ pvfr_0 fp_eX0_run_3_6_0_x_4_6_fp_X0_note_3_x
  have b14_ : 0 ≤ Int32.toInt (M9_.1 3 1) ∧ Int32.toInt (M9_.1 3 1) ≤ 998 := (by have u0 := hc3_1; have u1 := d7_; have u2 := pvok_r o11_ 3 1 (lo := 0) (hi := 1000000) rfl; omega)
  refine pw_blk hT 1 (S' := (30, [some (pvR 3), some (pvI 6), some (pvI 0), some (pvI n3), some (pvI 4), some (pvI 71), some (pvI (4 + 1))], [pvI 71], M9_)) rfl ⟨trivial, trivial⟩ ?_
  refine pw_sw hT rfl rfl ?_
  refine And.intro (fun c15_ => absurd c15_ (by decide)) (fun c15_ => ?_)
  refine And.intro (fun c16_ => absurd c16_ (by decide)) (fun c16_ => ?_)
  refine And.intro (fun c17_ => absurd c17_ (by decide)) (fun c17_ => ?_)
  refine And.intro (fun c18_ => absurd c18_ (by decide)) (fun c18_ => ?_)
  refine And.intro (fun c19_ => absurd c19_ (by decide)) (fun c19_ => ?_)
  refine And.intro (fun c20_ => absurd c20_ (by decide)) (fun c20_ => ?_)
  refine And.intro (fun c21_ => absurd c21_ (by decide)) (fun c21_ => ?_)
  refine And.intro (fun c22_ => absurd c22_ (by decide)) (fun c22_ => ?_)
  refine And.intro (fun c23_ => absurd c23_ (by decide)) (fun c23_ => ?_)
  refine And.intro (fun c24_ => absurd c24_ (by decide)) (fun c24_ => ?_)
  refine And.intro (fun c25_ => ?_) (fun c25_ => absurd (by decide) c25_)
  show PW 4 d (274, [some (pvR 3), some (pvI 6), some (pvI 0), some (pvI n3), some (pvI 4), some (pvI 71), some (pvI (4 + 1))], [], M9_) _
  refine pw_blk hT 5 (S' := (280, [some (pvR 3), some (pvI 6), some (pvI 0), some (pvI n3), some (pvI 4), some (pvI 71), some (pvI (4 + 1))], [pvI (4 + 1), pvI n3, pvI 0, pvI 3, pvR 3], M9_)) rfl ⟨trivial, trivial, trivial, trivial, trivial, trivial⟩ ?_
  have e26_ : (M9_.1 3 2) = (M.1 3 2) := (g12_ 3 2 rfl)
  have b27_ : 6 ≤ Int32.toInt (M9_.1 3 2) ∧ Int32.toInt (M9_.1 3 2) ≤ 6 := (by rw [e26_]; exact hc3_2)
  refine pw_callGd hT (as := [pvR 3, pvI 3, pvI 0, pvI n3, pvI (4 + 1)]) (lo1 := [some (pvR 3), some (pvI 3), some (pvI 0), some (pvI n3), some (pvI (4 + 1)), none, none]) (d1 := (d - 1)) (rest := []) rfl rfl rfl rfl rfl (fun h => absurd h (by decide)) (show 1 ≤ d by omega) rfl rfl rfl (se_X0_run_3_3_0_x_5_6 M9_ o11_ n3 b14_ b27_ (d - 1)) (fun x29_ M30_ b31_ o32_ g33_ d28_ => ?_)
  have f34_ : pvFr fp_eX0_run_3_6_0_x_4_6 M M30_ := pvfr_t g33_ f13_ fp_eX0_run_3_6_0_x_4_6_fp_eX0_run_3_3_0_x_5_6
  have b35_ : 0 ≤ Int32.toInt (M30_.1 3 1) ∧ Int32.toInt (M30_.1 3 1) ≤ 999 := (by have u0 := b14_; have u1 := d28_; have u2 := pvok_r o32_ 3 1 (lo := 0) (hi := 1000000) rfl; omega)
  have u36_ : Int32.toInt 3 = 3 := by decide
  have u37_ : Int32.toInt 0 = 0 := by decide
  have u38_ : Int32.toInt (4 + 1) = 5 := by decide
  obtain ⟨b39_, d40_⟩ := b31_
  subst d40_
  have e41_ : (n3 + (M9_.1 3 4)) = (n3 + (M.1 3 4)) := (show (n3 + (M9_.1 3 4)) = (n3 + (M.1 3 4)) from by rw [(g12_ 3 4 rfl)])
  refine pw_eqI e41_ ?_
  refine pw_blk hT 2 (S' := (287, [some (pvR 3), some (pvI 6), some (pvI 0), some (pvI n3), some (pvI 4), some (pvI 71), some (pvI (4 + 1))], [pvI (M30_.1 3 3), pvI (n3 + (M.1 3 4))], M30_)) rfl ⟨trivial, rfl, trivial⟩ ?_
  have e42_ : (M30_.1 3 3) = (M.1 3 3) := ((g33_ 3 3 rfl).trans (g12_ 3 3 rfl))
  refine pw_eqI e42_ ?_
  refine pw_blk hT 1 (S' := (288, [some (pvR 3), some (pvI 6), some (pvI 0), some (pvI n3), some (pvI 4), some (pvI 71), some (pvI (4 + 1))], [pvI ((n3 + (M.1 3 4)) ^^^ (M.1 3 3))], M30_)) rfl ⟨trivial, trivial⟩ ?_
  exact pw_ret hT rfl (r := some (pvI ((n3 + (M.1 3 4)) ^^^ (M.1 3 3)))) (M' := M30_) ⟨rfl, rfl⟩ ⟨⟨_, rfl, trivial, rfl⟩, o32_, f34_, (by omega)⟩
def fpL_eX0_run_3_3_1_x_3_6 : List (Nat × Nat × Nat) := [(0, 3, 2), (0, 4, 0)]
def fp_eX0_run_3_3_1_x_3_6 (q k : Nat) : Bool := pvfp fpL_eX0_run_3_3_1_x_3_6 q k
theorem fp_eX0_run_3_3_1_x_3_6_fp_X0_note_3_x (a b : Nat) (h : fp_X0_note_3_x a b = true) : fp_eX0_run_3_3_1_x_3_6 a b = true := pvfp_sub (l1 := fpL_X0_note_3_x) (l2 := fpL_eX0_run_3_3_1_x_3_6) (by decide) a b h
theorem fp_eX0_run_3_3_1_x_3_6_fp_eX0_run_3_6_0_x_4_6 (a b : Nat) (h : fp_eX0_run_3_6_0_x_4_6 a b = true) : fp_eX0_run_3_3_1_x_3_6 a b = true := pvfp_sub (l1 := fpL_eX0_run_3_6_0_x_4_6) (l2 := fpL_eX0_run_3_3_1_x_3_6) (by decide) a b h
set_option maxHeartbeats 4000000 in
set_option maxRecDepth 10000 in
theorem se_X0_run_3_3_1_x_3_6 (M : pvM) (hok : pvOk M) (n3 : Int32) (hc3_1 : 0 ≤ Int32.toInt (M.1 3 1) ∧ Int32.toInt (M.1 3 1) ≤ 996) (hc3_2 : 6 ≤ Int32.toInt (M.1 3 2) ∧ Int32.toInt (M.1 3 2) ≤ 6) (d : Nat) (hd : 2 ≤ d) : PW 4 d (0, [some (pvR 3), some (pvI 3), some (pvI 1), some (pvI n3), some (pvI 3), none, none], [], M) (fun r X => (∃ x : Int32, r = some (pvI x) ∧ True ∧ x = (((n3 + (M.1 3 4)) ^^^ (M.1 3 3)) - (M.1 3 3))) ∧ pvOk X ∧ pvFr fp_eX0_run_3_3_1_x_3_6 M X ∧ Int32.toInt (X.1 3 1) ≤ Int32.toInt (M.1 3 1) + 3) := by
  have hT : pvdom 4 = pvD_4 := rfl
  refine pw_blk hT 2 (S' := (4, [some (pvR 3), some (pvI 3), some (pvI 1), some (pvI n3), some (pvI 3), none, none], [pvI 40, pvI 3], M)) rfl ⟨trivial, trivial, trivial⟩ ?_
  refine pw_ic hT (c := 3 ≤ 40) rfl rfl (fun c1_ => ?_) (fun c1_ => absurd (by decide) c1_)
  refine pw_blk hT 2 (S' := (11, [some (pvR 3), some (pvI 3), some (pvI 1), some (pvI n3), some (pvI 3), none, none], [pvI 1, pvI 3], M)) rfl ⟨trivial, trivial, trivial⟩ ?_
  refine pw_callT hT (as := [pvI 3, pvI 1]) (lo1 := [some (pvI 3), some (pvI 1), none, none, none]) (d1 := d) (rest := []) rfl rfl rfl rfl rfl (fun h => absurd h (by decide)) (Nat.zero_le _) rfl rfl rfl (sf_X0_bodyFrom_3_1 M hok d) ?_
  refine pw_eqI (show ((pvstab 1041).getD (Int32.toNatClampNeg ((0 * 3) + 1)) 0) = 11 from by decide) ?_
  show PW 4 d (14, [some (pvR 3), some (pvI 3), some (pvI 1), some (pvI n3), some (pvI 3), none, none], [pvI 11], M) _
  refine pw_blk hT 7 (S' := (25, [some (pvR 3), some (pvI 3), some (pvI 1), some (pvI n3), some (pvI 3), some (pvI 11), some (pvI (3 + 1))], [pvI 11, pvR 3], M)) rfl ⟨trivial, trivial, trivial, trivial, trivial, trivial, trivial, trivial⟩ ?_
  refine pw_callVd hT (as := [pvR 3, pvI 11]) (lo1 := [some (pvR 3), some (pvI 11)]) (d1 := d) (rest := []) rfl rfl rfl rfl rfl (fun _ => rfl) (Nat.zero_le _) rfl rfl rfl (sf_X0_note_3_x M hok 11 (zr_wide (show 11 ≤ Int32.toInt 11 ∧ Int32.toInt 11 ≤ 11 from (by decide)) (by decide) (by decide)) (zr_wide hc3_1 (by decide) (by decide)) d) (fun M9_ o11_ g12_ d7_ => ?_)
  have f13_ : pvFr fp_eX0_run_3_3_1_x_3_6 M M9_ := pvfr_t g12_ pvfr_0 fp_eX0_run_3_3_1_x_3_6_fp_X0_note_3_x
  have b14_ : 0 ≤ Int32.toInt (M9_.1 3 1) ∧ Int32.toInt (M9_.1 3 1) ≤ 997 := (by have u0 := hc3_1; have u1 := d7_; have u2 := pvok_r o11_ 3 1 (lo := 0) (hi := 1000000) rfl; omega)
  refine pw_blk hT 1 (S' := (30, [some (pvR 3), some (pvI 3), some (pvI 1), some (pvI n3), some (pvI 3), some (pvI 11), some (pvI (3 + 1))], [pvI 11], M9_)) rfl ⟨trivial, trivial⟩ ?_
  refine pw_sw hT rfl rfl ?_
  refine And.intro (fun c15_ => absurd c15_ (by decide)) (fun c15_ => ?_)
  refine And.intro (fun c16_ => ?_) (fun c16_ => absurd (by decide) c16_)
  show PW 4 d (135, [some (pvR 3), some (pvI 3), some (pvI 1), some (pvI n3), some (pvI 3), some (pvI 11), some (pvI (3 + 1))], [], M9_) _
  have e17_ : (M9_.1 3 2) = (M.1 3 2) := (g12_ 3 2 rfl)
  have b18_ : 6 ≤ Int32.toInt (M9_.1 3 2) ∧ Int32.toInt (M9_.1 3 2) ≤ 6 := (by rw [e17_]; exact hc3_2)
  refine pw_blk hT 3 (S' := (140, [some (pvR 3), some (pvI 3), some (pvI 1), some (pvI n3), some (pvI 3), some (pvI 11), some (pvI (3 + 1))], [pvI (M9_.1 3 2), pvR 3], M9_)) rfl ⟨trivial, trivial, rfl, trivial⟩ ?_
  refine pw_eqI ((zi_eq _ (6)).mpr (by have u0 := b18_; have u1 : Int32.toInt (6) = 6 := (by decide); omega)) ?_
  refine pw_blk hT 3 (S' := (144, [some (pvR 3), some (pvI 3), some (pvI 1), some (pvI n3), some (pvI 3), some (pvI 11), some (pvI (3 + 1))], [pvI (3 + 1), pvI n3, pvI 0, pvI 6, pvR 3], M9_)) rfl ⟨trivial, trivial, trivial, trivial⟩ ?_
  refine pw_callGd hT (as := [pvR 3, pvI 6, pvI 0, pvI n3, pvI (3 + 1)]) (lo1 := [some (pvR 3), some (pvI 6), some (pvI 0), some (pvI n3), some (pvI (3 + 1)), none, none]) (d1 := (d - 1)) (rest := []) rfl rfl rfl rfl rfl (fun h => absurd h (by decide)) (show 1 ≤ d by omega) rfl rfl rfl (se_X0_run_3_6_0_x_4_6 M9_ o11_ n3 b14_ b18_ (d - 1) (by omega)) (fun x20_ M21_ b22_ o23_ g24_ d19_ => ?_)
  have f25_ : pvFr fp_eX0_run_3_3_1_x_3_6 M M21_ := pvfr_t g24_ f13_ fp_eX0_run_3_3_1_x_3_6_fp_eX0_run_3_6_0_x_4_6
  have b26_ : 0 ≤ Int32.toInt (M21_.1 3 1) ∧ Int32.toInt (M21_.1 3 1) ≤ 999 := (by have u0 := b14_; have u1 := d19_; have u2 := pvok_r o23_ 3 1 (lo := 0) (hi := 1000000) rfl; omega)
  have u27_ : Int32.toInt 6 = 6 := by decide
  have u28_ : Int32.toInt 0 = 0 := by decide
  have u29_ : Int32.toInt (3 + 1) = 4 := by decide
  obtain ⟨b30_, d31_⟩ := b22_
  subst d31_
  have e32_ : ((n3 + (M9_.1 3 4)) ^^^ (M9_.1 3 3)) = ((n3 + (M.1 3 4)) ^^^ (M.1 3 3)) := (show ((n3 + (M9_.1 3 4)) ^^^ (M9_.1 3 3)) = ((n3 + (M.1 3 4)) ^^^ (M.1 3 3)) from by rw [(g12_ 3 4 rfl), (g12_ 3 3 rfl)])
  refine pw_eqI e32_ ?_
  refine pw_blk hT 2 (S' := (151, [some (pvR 3), some (pvI 3), some (pvI 1), some (pvI n3), some (pvI 3), some (pvI 11), some (pvI (3 + 1))], [pvI (M21_.1 3 3), pvI ((n3 + (M.1 3 4)) ^^^ (M.1 3 3))], M21_)) rfl ⟨trivial, rfl, trivial⟩ ?_
  have e33_ : (M21_.1 3 3) = (M.1 3 3) := ((g24_ 3 3 rfl).trans (g12_ 3 3 rfl))
  refine pw_eqI e33_ ?_
  refine pw_blk hT 1 (S' := (152, [some (pvR 3), some (pvI 3), some (pvI 1), some (pvI n3), some (pvI 3), some (pvI 11), some (pvI (3 + 1))], [pvI (((n3 + (M.1 3 4)) ^^^ (M.1 3 3)) - (M.1 3 3))], M21_)) rfl ⟨trivial, trivial⟩ ?_
  exact pw_ret hT rfl (r := some (pvI (((n3 + (M.1 3 4)) ^^^ (M.1 3 3)) - (M.1 3 3)))) (M' := M21_) ⟨rfl, rfl⟩ ⟨⟨_, rfl, trivial, rfl⟩, o23_, f25_, (by omega)⟩
def fpL_eX0_run_3_6_1_x_2_6 : List (Nat × Nat × Nat) := [(0, 3, 2), (0, 4, 0)]
def fp_eX0_run_3_6_1_x_2_6 (q k : Nat) : Bool := pvfp fpL_eX0_run_3_6_1_x_2_6 q k
theorem fp_eX0_run_3_6_1_x_2_6_fp_X0_note_3_x (a b : Nat) (h : fp_X0_note_3_x a b = true) : fp_eX0_run_3_6_1_x_2_6 a b = true := pvfp_sub (l1 := fpL_X0_note_3_x) (l2 := fpL_eX0_run_3_6_1_x_2_6) (by decide) a b h
theorem fp_eX0_run_3_6_1_x_2_6_fp_eX0_run_3_3_0_x_3_6 (a b : Nat) (h : fp_eX0_run_3_3_0_x_3_6 a b = true) : fp_eX0_run_3_6_1_x_2_6 a b = true := pvfp_sub (l1 := fpL_eX0_run_3_3_0_x_3_6) (l2 := fpL_eX0_run_3_6_1_x_2_6) (by decide) a b h
theorem fp_eX0_run_3_6_1_x_2_6_fp_eX0_run_3_3_1_x_3_6 (a b : Nat) (h : fp_eX0_run_3_3_1_x_3_6 a b = true) : fp_eX0_run_3_6_1_x_2_6 a b = true := pvfp_sub (l1 := fpL_eX0_run_3_3_1_x_3_6) (l2 := fpL_eX0_run_3_6_1_x_2_6) (by decide) a b h
set_option maxHeartbeats 4000000 in
set_option maxRecDepth 10000 in
theorem se_X0_run_3_6_1_x_2_6 (M : pvM) (hok : pvOk M) (n3 : Int32) (hc3_1 : 0 ≤ Int32.toInt (M.1 3 1) ∧ Int32.toInt (M.1 3 1) ≤ 994) (hc3_2 : 6 ≤ Int32.toInt (M.1 3 2) ∧ Int32.toInt (M.1 3 2) ≤ 6) (d : Nat) (hd : 3 ≤ d) : PW 4 d (0, [some (pvR 3), some (pvI 6), some (pvI 1), some (pvI n3), some (pvI 2), none, none], [], M) (fun r X => (∃ x : Int32, r = some (pvI x) ∧ True ∧ x = ((((n3 + (M.1 3 4)) ^^^ (M.1 3 3)) - (M.1 3 3)) + (2 + (M.1 3 4)))) ∧ pvOk X ∧ pvFr fp_eX0_run_3_6_1_x_2_6 M X ∧ Int32.toInt (X.1 3 1) ≤ Int32.toInt (M.1 3 1) + 5) := by
  have hT : pvdom 4 = pvD_4 := rfl
  refine pw_blk hT 2 (S' := (4, [some (pvR 3), some (pvI 6), some (pvI 1), some (pvI n3), some (pvI 2), none, none], [pvI 40, pvI 2], M)) rfl ⟨trivial, trivial, trivial⟩ ?_
  refine pw_ic hT (c := 2 ≤ 40) rfl rfl (fun c1_ => ?_) (fun c1_ => absurd (by decide) c1_)
  refine pw_blk hT 2 (S' := (11, [some (pvR 3), some (pvI 6), some (pvI 1), some (pvI n3), some (pvI 2), none, none], [pvI 1, pvI 6], M)) rfl ⟨trivial, trivial, trivial⟩ ?_
  refine pw_callT hT (as := [pvI 6, pvI 1]) (lo1 := [some (pvI 6), some (pvI 1), none, none, none]) (d1 := d) (rest := []) rfl rfl rfl rfl rfl (fun h => absurd h (by decide)) (Nat.zero_le _) rfl rfl rfl (sf_X0_bodyFrom_6_1 M hok d) ?_
  refine pw_eqI (show ((pvstab 1041).getD (Int32.toNatClampNeg ((6 * 3) + 1)) 0) = 70 from by decide) ?_
  show PW 4 d (14, [some (pvR 3), some (pvI 6), some (pvI 1), some (pvI n3), some (pvI 2), none, none], [pvI 70], M) _
  refine pw_blk hT 7 (S' := (25, [some (pvR 3), some (pvI 6), some (pvI 1), some (pvI n3), some (pvI 2), some (pvI 70), some (pvI (2 + 1))], [pvI 70, pvR 3], M)) rfl ⟨trivial, trivial, trivial, trivial, trivial, trivial, trivial, trivial⟩ ?_
  refine pw_callVd hT (as := [pvR 3, pvI 70]) (lo1 := [some (pvR 3), some (pvI 70)]) (d1 := d) (rest := []) rfl rfl rfl rfl rfl (fun _ => rfl) (Nat.zero_le _) rfl rfl rfl (sf_X0_note_3_x M hok 70 (zr_wide (show 70 ≤ Int32.toInt 70 ∧ Int32.toInt 70 ≤ 70 from (by decide)) (by decide) (by decide)) (zr_wide hc3_1 (by decide) (by decide)) d) (fun M9_ o11_ g12_ d7_ => ?_)
  have f13_ : pvFr fp_eX0_run_3_6_1_x_2_6 M M9_ := pvfr_t g12_ pvfr_0 fp_eX0_run_3_6_1_x_2_6_fp_X0_note_3_x
  have b14_ : 0 ≤ Int32.toInt (M9_.1 3 1) ∧ Int32.toInt (M9_.1 3 1) ≤ 995 := (by have u0 := hc3_1; have u1 := d7_; have u2 := pvok_r o11_ 3 1 (lo := 0) (hi := 1000000) rfl; omega)
  refine pw_blk hT 1 (S' := (30, [some (pvR 3), some (pvI 6), some (pvI 1), some (pvI n3), some (pvI 2), some (pvI 70), some (pvI (2 + 1))], [pvI 70], M9_)) rfl ⟨trivial, trivial⟩ ?_
  refine pw_sw hT rfl rfl ?_
  refine And.intro (fun c15_ => absurd c15_ (by decide)) (fun c15_ => ?_)
  refine And.intro (fun c16_ => absurd c16_ (by decide)) (fun c16_ => ?_)
  refine And.intro (fun c17_ => absurd c17_ (by decide)) (fun c17_ => ?_)
  refine And.intro (fun c18_ => absurd c18_ (by decide)) (fun c18_ => ?_)
  refine And.intro (fun c19_ => absurd c19_ (by decide)) (fun c19_ => ?_)
  refine And.intro (fun c20_ => absurd c20_ (by decide)) (fun c20_ => ?_)
  refine And.intro (fun c21_ => absurd c21_ (by decide)) (fun c21_ => ?_)
  refine And.intro (fun c22_ => absurd c22_ (by decide)) (fun c22_ => ?_)
  refine And.intro (fun c23_ => absurd c23_ (by decide)) (fun c23_ => ?_)
  refine And.intro (fun c24_ => ?_) (fun c24_ => absurd (by decide) c24_)
  show PW 4 d (254, [some (pvR 3), some (pvI 6), some (pvI 1), some (pvI n3), some (pvI 2), some (pvI 70), some (pvI (2 + 1))], [], M9_) _
  refine pw_blk hT 5 (S' := (260, [some (pvR 3), some (pvI 6), some (pvI 1), some (pvI n3), some (pvI 2), some (pvI 70), some (pvI (2 + 1))], [pvI (2 + 1), pvI n3, pvI 1, pvI 3, pvR 3], M9_)) rfl ⟨trivial, trivial, trivial, trivial, trivial, trivial⟩ ?_
  have e25_ : (M9_.1 3 2) = (M.1 3 2) := (g12_ 3 2 rfl)
  have b26_ : 6 ≤ Int32.toInt (M9_.1 3 2) ∧ Int32.toInt (M9_.1 3 2) ≤ 6 := (by rw [e25_]; exact hc3_2)
  refine pw_callGd hT (as := [pvR 3, pvI 3, pvI 1, pvI n3, pvI (2 + 1)]) (lo1 := [some (pvR 3), some (pvI 3), some (pvI 1), some (pvI n3), some (pvI (2 + 1)), none, none]) (d1 := (d - 1)) (rest := []) rfl rfl rfl rfl rfl (fun h => absurd h (by decide)) (show 1 ≤ d by omega) rfl rfl rfl (se_X0_run_3_3_1_x_3_6 M9_ o11_ n3 (zr_wide b14_ (by decide) (by decide)) b26_ (d - 1) (by omega)) (fun x28_ M29_ b30_ o31_ g32_ d27_ => ?_)
  have f33_ : pvFr fp_eX0_run_3_6_1_x_2_6 M M29_ := pvfr_t g32_ f13_ fp_eX0_run_3_6_1_x_2_6_fp_eX0_run_3_3_1_x_3_6
  have b34_ : 0 ≤ Int32.toInt (M29_.1 3 1) ∧ Int32.toInt (M29_.1 3 1) ≤ 998 := (by have u0 := b14_; have u1 := d27_; have u2 := pvok_r o31_ 3 1 (lo := 0) (hi := 1000000) rfl; omega)
  have u35_ : Int32.toInt 3 = 3 := by decide
  have u36_ : Int32.toInt 1 = 1 := by decide
  have u37_ : Int32.toInt (2 + 1) = 3 := by decide
  obtain ⟨b38_, d39_⟩ := b30_
  subst d39_
  have e40_ : (((n3 + (M9_.1 3 4)) ^^^ (M9_.1 3 3)) - (M9_.1 3 3)) = (((n3 + (M.1 3 4)) ^^^ (M.1 3 3)) - (M.1 3 3)) := (show (((n3 + (M9_.1 3 4)) ^^^ (M9_.1 3 3)) - (M9_.1 3 3)) = (((n3 + (M.1 3 4)) ^^^ (M.1 3 3)) - (M.1 3 3)) from by rw [(g12_ 3 4 rfl), (g12_ 3 3 rfl)])
  refine pw_eqI e40_ ?_
  refine pw_blk hT 5 (S' := (269, [some (pvR 3), some (pvI 6), some (pvI 1), some (pvI n3), some (pvI 2), some (pvI 70), some (pvI (2 + 1))], [pvI (2 + 1), pvI 2, pvI 0, pvI 3, pvR 3, pvI (((n3 + (M.1 3 4)) ^^^ (M.1 3 3)) - (M.1 3 3))], M29_)) rfl ⟨trivial, trivial, trivial, trivial, trivial, trivial⟩ ?_
  have e41_ : (M29_.1 3 2) = (M9_.1 3 2) := (g32_ 3 2 rfl)
  have b42_ : 6 ≤ Int32.toInt (M29_.1 3 2) ∧ Int32.toInt (M29_.1 3 2) ≤ 6 := (by rw [e41_]; exact b26_)
  refine pw_callGd hT (as := [pvR 3, pvI 3, pvI 0, pvI 2, pvI (2 + 1)]) (lo1 := [some (pvR 3), some (pvI 3), some (pvI 0), some (pvI 2), some (pvI (2 + 1)), none, none]) (d1 := (d - 1)) (rest := [pvI (((n3 + (M.1 3 4)) ^^^ (M.1 3 3)) - (M.1 3 3))]) rfl rfl rfl rfl rfl (fun h => absurd h (by decide)) (show 1 ≤ d by omega) rfl rfl rfl (se_X0_run_3_3_0_x_3_6 M29_ o31_ 2 b34_ b42_ (d - 1)) (fun x44_ M45_ b46_ o47_ g48_ d43_ => ?_)
  have f49_ : pvFr fp_eX0_run_3_6_1_x_2_6 M M45_ := pvfr_t g48_ f33_ fp_eX0_run_3_6_1_x_2_6_fp_eX0_run_3_3_0_x_3_6
  have b50_ : 0 ≤ Int32.toInt (M45_.1 3 1) ∧ Int32.toInt (M45_.1 3 1) ≤ 999 := (by have u0 := b34_; have u1 := d43_; have u2 := pvok_r o47_ 3 1 (lo := 0) (hi := 1000000) rfl; omega)
  have u51_ : Int32.toInt 0 = 0 := by decide
  have u52_ : Int32.toInt 2 = 2 := by decide
  obtain ⟨b53_, d54_⟩ := b46_
  subst d54_
  have e55_ : (2 + (M29_.1 3 4)) = (2 + (M.1 3 4)) := (show (2 + (M29_.1 3 4)) = (2 + (M.1 3 4)) from by rw [((g32_ 3 4 rfl).trans (g12_ 3 4 rfl))])
  refine pw_eqI e55_ ?_
  refine pw_blk hT 1 (S' := (273, [some (pvR 3), some (pvI 6), some (pvI 1), some (pvI n3), some (pvI 2), some (pvI 70), some (pvI (2 + 1))], [pvI ((((n3 + (M.1 3 4)) ^^^ (M.1 3 3)) - (M.1 3 3)) + (2 + (M.1 3 4)))], M45_)) rfl ⟨trivial, trivial⟩ ?_
  exact pw_ret hT rfl (r := some (pvI ((((n3 + (M.1 3 4)) ^^^ (M.1 3 3)) - (M.1 3 3)) + (2 + (M.1 3 4))))) (M' := M45_) ⟨rfl, rfl⟩ ⟨⟨_, rfl, trivial, rfl⟩, o47_, f49_, (by omega)⟩
def fpL_eX0_run_3_0_2_x_1_6 : List (Nat × Nat × Nat) := [(0, 3, 2), (0, 4, 0)]
def fp_eX0_run_3_0_2_x_1_6 (q k : Nat) : Bool := pvfp fpL_eX0_run_3_0_2_x_1_6 q k
theorem fp_eX0_run_3_0_2_x_1_6_fp_X0_note_3_x (a b : Nat) (h : fp_X0_note_3_x a b = true) : fp_eX0_run_3_0_2_x_1_6 a b = true := pvfp_sub (l1 := fpL_X0_note_3_x) (l2 := fpL_eX0_run_3_0_2_x_1_6) (by decide) a b h
theorem fp_eX0_run_3_0_2_x_1_6_fp_eX0_run_3_6_1_x_2_6 (a b : Nat) (h : fp_eX0_run_3_6_1_x_2_6 a b = true) : fp_eX0_run_3_0_2_x_1_6 a b = true := pvfp_sub (l1 := fpL_eX0_run_3_6_1_x_2_6) (l2 := fpL_eX0_run_3_0_2_x_1_6) (by decide) a b h
set_option maxHeartbeats 4000000 in
set_option maxRecDepth 10000 in
theorem se_X0_run_3_0_2_x_1_6 (M : pvM) (hok : pvOk M) (n3 : Int32) (hc3_1 : 0 ≤ Int32.toInt (M.1 3 1) ∧ Int32.toInt (M.1 3 1) ≤ 993) (hc3_2 : 6 ≤ Int32.toInt (M.1 3 2) ∧ Int32.toInt (M.1 3 2) ≤ 6) (d : Nat) (hd : 4 ≤ d) : PW 4 d (0, [some (pvR 3), some (pvI 0), some (pvI 2), some (pvI n3), some (pvI 1), none, none], [], M) (fun r X => (∃ x : Int32, r = some (pvI x) ∧ True ∧ x = (((((n3 + (M.1 3 4)) ^^^ (M.1 3 3)) - (M.1 3 3)) + (2 + (M.1 3 4))) * 2)) ∧ pvOk X ∧ pvFr fp_eX0_run_3_0_2_x_1_6 M X ∧ Int32.toInt (X.1 3 1) ≤ Int32.toInt (M.1 3 1) + 6) := by
  have hT : pvdom 4 = pvD_4 := rfl
  refine pw_blk hT 2 (S' := (4, [some (pvR 3), some (pvI 0), some (pvI 2), some (pvI n3), some (pvI 1), none, none], [pvI 40, pvI 1], M)) rfl ⟨trivial, trivial, trivial⟩ ?_
  refine pw_ic hT (c := 1 ≤ 40) rfl rfl (fun c1_ => ?_) (fun c1_ => absurd (by decide) c1_)
  refine pw_blk hT 2 (S' := (11, [some (pvR 3), some (pvI 0), some (pvI 2), some (pvI n3), some (pvI 1), none, none], [pvI 2, pvI 0], M)) rfl ⟨trivial, trivial, trivial⟩ ?_
  refine pw_callT hT (as := [pvI 0, pvI 2]) (lo1 := [some (pvI 0), some (pvI 2), none, none, none]) (d1 := d) (rest := []) rfl rfl rfl rfl rfl (fun h => absurd h (by decide)) (Nat.zero_le _) rfl rfl rfl (sf_X0_bodyFrom_0_2 M hok d) ?_
  refine pw_eqI (show ((pvstab 1041).getD (Int32.toNatClampNeg ((0 * 3) + 2)) 0) = 12 from by decide) ?_
  show PW 4 d (14, [some (pvR 3), some (pvI 0), some (pvI 2), some (pvI n3), some (pvI 1), none, none], [pvI 12], M) _
  refine pw_blk hT 7 (S' := (25, [some (pvR 3), some (pvI 0), some (pvI 2), some (pvI n3), some (pvI 1), some (pvI 12), some (pvI (1 + 1))], [pvI 12, pvR 3], M)) rfl ⟨trivial, trivial, trivial, trivial, trivial, trivial, trivial, trivial⟩ ?_
  refine pw_callVd hT (as := [pvR 3, pvI 12]) (lo1 := [some (pvR 3), some (pvI 12)]) (d1 := d) (rest := []) rfl rfl rfl rfl rfl (fun _ => rfl) (Nat.zero_le _) rfl rfl rfl (sf_X0_note_3_x M hok 12 (zr_wide (show 12 ≤ Int32.toInt 12 ∧ Int32.toInt 12 ≤ 12 from (by decide)) (by decide) (by decide)) (zr_wide hc3_1 (by decide) (by decide)) d) (fun M9_ o11_ g12_ d7_ => ?_)
  have f13_ : pvFr fp_eX0_run_3_0_2_x_1_6 M M9_ := pvfr_t g12_ pvfr_0 fp_eX0_run_3_0_2_x_1_6_fp_X0_note_3_x
  have b14_ : 0 ≤ Int32.toInt (M9_.1 3 1) ∧ Int32.toInt (M9_.1 3 1) ≤ 994 := (by have u0 := hc3_1; have u1 := d7_; have u2 := pvok_r o11_ 3 1 (lo := 0) (hi := 1000000) rfl; omega)
  refine pw_blk hT 1 (S' := (30, [some (pvR 3), some (pvI 0), some (pvI 2), some (pvI n3), some (pvI 1), some (pvI 12), some (pvI (1 + 1))], [pvI 12], M9_)) rfl ⟨trivial, trivial⟩ ?_
  refine pw_sw hT rfl rfl ?_
  refine And.intro (fun c15_ => absurd c15_ (by decide)) (fun c15_ => ?_)
  refine And.intro (fun c16_ => absurd c16_ (by decide)) (fun c16_ => ?_)
  refine And.intro (fun c17_ => ?_) (fun c17_ => absurd (by decide) c17_)
  show PW 4 d (153, [some (pvR 3), some (pvI 0), some (pvI 2), some (pvI n3), some (pvI 1), some (pvI 12), some (pvI (1 + 1))], [], M9_) _
  have e18_ : (M9_.1 3 2) = (M.1 3 2) := (g12_ 3 2 rfl)
  have b19_ : 6 ≤ Int32.toInt (M9_.1 3 2) ∧ Int32.toInt (M9_.1 3 2) ≤ 6 := (by rw [e18_]; exact hc3_2)
  refine pw_blk hT 3 (S' := (158, [some (pvR 3), some (pvI 0), some (pvI 2), some (pvI n3), some (pvI 1), some (pvI 12), some (pvI (1 + 1))], [pvI (M9_.1 3 2), pvR 3], M9_)) rfl ⟨trivial, trivial, rfl, trivial⟩ ?_
  refine pw_eqI ((zi_eq _ (6)).mpr (by have u0 := b19_; have u1 : Int32.toInt (6) = 6 := (by decide); omega)) ?_
  refine pw_blk hT 3 (S' := (162, [some (pvR 3), some (pvI 0), some (pvI 2), some (pvI n3), some (pvI 1), some (pvI 12), some (pvI (1 + 1))], [pvI (1 + 1), pvI n3, pvI 1, pvI 6, pvR 3], M9_)) rfl ⟨trivial, trivial, trivial, trivial⟩ ?_
  refine pw_callGd hT (as := [pvR 3, pvI 6, pvI 1, pvI n3, pvI (1 + 1)]) (lo1 := [some (pvR 3), some (pvI 6), some (pvI 1), some (pvI n3), some (pvI (1 + 1)), none, none]) (d1 := (d - 1)) (rest := []) rfl rfl rfl rfl rfl (fun h => absurd h (by decide)) (show 1 ≤ d by omega) rfl rfl rfl (se_X0_run_3_6_1_x_2_6 M9_ o11_ n3 b14_ b19_ (d - 1) (by omega)) (fun x21_ M22_ b23_ o24_ g25_ d20_ => ?_)
  have f26_ : pvFr fp_eX0_run_3_0_2_x_1_6 M M22_ := pvfr_t g25_ f13_ fp_eX0_run_3_0_2_x_1_6_fp_eX0_run_3_6_1_x_2_6
  have b27_ : 0 ≤ Int32.toInt (M22_.1 3 1) ∧ Int32.toInt (M22_.1 3 1) ≤ 999 := (by have u0 := b14_; have u1 := d20_; have u2 := pvok_r o24_ 3 1 (lo := 0) (hi := 1000000) rfl; omega)
  have u28_ : Int32.toInt 6 = 6 := by decide
  have u29_ : Int32.toInt 1 = 1 := by decide
  have u30_ : Int32.toInt (1 + 1) = 2 := by decide
  obtain ⟨b31_, d32_⟩ := b23_
  subst d32_
  have e33_ : ((((n3 + (M9_.1 3 4)) ^^^ (M9_.1 3 3)) - (M9_.1 3 3)) + (2 + (M9_.1 3 4))) = ((((n3 + (M.1 3 4)) ^^^ (M.1 3 3)) - (M.1 3 3)) + (2 + (M.1 3 4))) := (show ((((n3 + (M9_.1 3 4)) ^^^ (M9_.1 3 3)) - (M9_.1 3 3)) + (2 + (M9_.1 3 4))) = ((((n3 + (M.1 3 4)) ^^^ (M.1 3 3)) - (M.1 3 3)) + (2 + (M.1 3 4))) from by rw [(g12_ 3 4 rfl), (g12_ 3 3 rfl)])
  refine pw_eqI e33_ ?_
  refine pw_blk hT 2 (S' := (167, [some (pvR 3), some (pvI 0), some (pvI 2), some (pvI n3), some (pvI 1), some (pvI 12), some (pvI (1 + 1))], [pvI (((((n3 + (M.1 3 4)) ^^^ (M.1 3 3)) - (M.1 3 3)) + (2 + (M.1 3 4))) * 2)], M22_)) rfl ⟨trivial, trivial, trivial⟩ ?_
  exact pw_ret hT rfl (r := some (pvI (((((n3 + (M.1 3 4)) ^^^ (M.1 3 3)) - (M.1 3 3)) + (2 + (M.1 3 4))) * 2))) (M' := M22_) ⟨rfl, rfl⟩ ⟨⟨_, rfl, trivial, rfl⟩, o24_, f26_, (by omega)⟩
def fpL_eX0_run_3_3_0_x_4_6 : List (Nat × Nat × Nat) := [(0, 3, 2), (0, 4, 0)]
def fp_eX0_run_3_3_0_x_4_6 (q k : Nat) : Bool := pvfp fpL_eX0_run_3_3_0_x_4_6 q k
theorem fp_eX0_run_3_3_0_x_4_6_fp_X0_note_3_x (a b : Nat) (h : fp_X0_note_3_x a b = true) : fp_eX0_run_3_3_0_x_4_6 a b = true := pvfp_sub (l1 := fpL_X0_note_3_x) (l2 := fpL_eX0_run_3_3_0_x_4_6) (by decide) a b h
set_option maxHeartbeats 4000000 in
set_option maxRecDepth 10000 in
theorem se_X0_run_3_3_0_x_4_6 (M : pvM) (hok : pvOk M) (n3 : Int32) (hc3_1 : 0 ≤ Int32.toInt (M.1 3 1) ∧ Int32.toInt (M.1 3 1) ≤ 998) (hc3_2 : 6 ≤ Int32.toInt (M.1 3 2) ∧ Int32.toInt (M.1 3 2) ≤ 6) (d : Nat) : PW 4 d (0, [some (pvR 3), some (pvI 3), some (pvI 0), some (pvI n3), some (pvI 4), none, none], [], M) (fun r X => (∃ x : Int32, r = some (pvI x) ∧ True ∧ x = (n3 + (M.1 3 4))) ∧ pvOk X ∧ pvFr fp_eX0_run_3_3_0_x_4_6 M X ∧ Int32.toInt (X.1 3 1) ≤ Int32.toInt (M.1 3 1) + 1) := by
  have hT : pvdom 4 = pvD_4 := rfl
  refine pw_blk hT 2 (S' := (4, [some (pvR 3), some (pvI 3), some (pvI 0), some (pvI n3), some (pvI 4), none, none], [pvI 40, pvI 4], M)) rfl ⟨trivial, trivial, trivial⟩ ?_
  refine pw_ic hT (c := 4 ≤ 40) rfl rfl (fun c1_ => ?_) (fun c1_ => absurd (by decide) c1_)
  refine pw_blk hT 2 (S' := (11, [some (pvR 3), some (pvI 3), some (pvI 0), some (pvI n3), some (pvI 4), none, none], [pvI 0, pvI 3], M)) rfl ⟨trivial, trivial, trivial⟩ ?_
  refine pw_callT hT (as := [pvI 3, pvI 0]) (lo1 := [some (pvI 3), some (pvI 0), none, none, none]) (d1 := d) (rest := []) rfl rfl rfl rfl rfl (fun h => absurd h (by decide)) (Nat.zero_le _) rfl rfl rfl (sf_X0_bodyFrom_3_0 M hok d) ?_
  refine pw_eqI (show ((pvstab 1041).getD (Int32.toNatClampNeg ((0 * 3) + 0)) 0) = 10 from by decide) ?_
  show PW 4 d (14, [some (pvR 3), some (pvI 3), some (pvI 0), some (pvI n3), some (pvI 4), none, none], [pvI 10], M) _
  refine pw_blk hT 7 (S' := (25, [some (pvR 3), some (pvI 3), some (pvI 0), some (pvI n3), some (pvI 4), some (pvI 10), some (pvI (4 + 1))], [pvI 10, pvR 3], M)) rfl ⟨trivial, trivial, trivial, trivial, trivial, trivial, trivial, trivial⟩ ?_
  refine pw_callVd hT (as := [pvR 3, pvI 10]) (lo1 := [some (pvR 3), some (pvI 10)]) (d1 := d) (rest := []) rfl rfl rfl rfl rfl (fun _ => rfl) (Nat.zero_le _) rfl rfl rfl (sf_X0_note_3_x M hok 10 (zr_wide (show 10 ≤ Int32.toInt 10 ∧ Int32.toInt 10 ≤ 10 from (by decide)) (by decide) (by decide)) (zr_wide hc3_1 (by decide) (by decide)) d) (fun M9_ o11_ g12_ d7_ => ?_)
  have f13_ : pvFr fp_eX0_run_3_3_0_x_4_6 M M9_ := pvfr_t g12_ pvfr_0 fp_eX0_run_3_3_0_x_4_6_fp_X0_note_3_x
  have b14_ : 0 ≤ Int32.toInt (M9_.1 3 1) ∧ Int32.toInt (M9_.1 3 1) ≤ 999 := (by have u0 := hc3_1; have u1 := d7_; have u2 := pvok_r o11_ 3 1 (lo := 0) (hi := 1000000) rfl; omega)
  refine pw_blk hT 1 (S' := (30, [some (pvR 3), some (pvI 3), some (pvI 0), some (pvI n3), some (pvI 4), some (pvI 10), some (pvI (4 + 1))], [pvI 10], M9_)) rfl ⟨trivial, trivial⟩ ?_
  refine pw_sw hT rfl rfl ?_
  refine And.intro (fun c15_ => ?_) (fun c15_ => absurd (by decide) c15_)
  show PW 4 d (128, [some (pvR 3), some (pvI 3), some (pvI 0), some (pvI n3), some (pvI 4), some (pvI 10), some (pvI (4 + 1))], [], M9_) _
  refine pw_blk hT 3 (S' := (133, [some (pvR 3), some (pvI 3), some (pvI 0), some (pvI n3), some (pvI 4), some (pvI 10), some (pvI (4 + 1))], [pvI (M9_.1 3 4), pvI n3], M9_)) rfl ⟨trivial, trivial, rfl, trivial⟩ ?_
  have e16_ : (M9_.1 3 4) = (M.1 3 4) := (g12_ 3 4 rfl)
  refine pw_eqI e16_ ?_
  refine pw_blk hT 1 (S' := (134, [some (pvR 3), some (pvI 3), some (pvI 0), some (pvI n3), some (pvI 4), some (pvI 10), some (pvI (4 + 1))], [pvI (n3 + (M.1 3 4))], M9_)) rfl ⟨trivial, trivial⟩ ?_
  exact pw_ret hT rfl (r := some (pvI (n3 + (M.1 3 4)))) (M' := M9_) ⟨rfl, rfl⟩ ⟨⟨_, rfl, trivial, rfl⟩, o11_, f13_, (by omega)⟩
def fpL_eX0_run_3_6_0_x_3_6 : List (Nat × Nat × Nat) := [(0, 3, 2), (0, 4, 0)]
def fp_eX0_run_3_6_0_x_3_6 (q k : Nat) : Bool := pvfp fpL_eX0_run_3_6_0_x_3_6 q k
theorem fp_eX0_run_3_6_0_x_3_6_fp_X0_note_3_x (a b : Nat) (h : fp_X0_note_3_x a b = true) : fp_eX0_run_3_6_0_x_3_6 a b = true := pvfp_sub (l1 := fpL_X0_note_3_x) (l2 := fpL_eX0_run_3_6_0_x_3_6) (by decide) a b h
theorem fp_eX0_run_3_6_0_x_3_6_fp_eX0_run_3_3_0_x_4_6 (a b : Nat) (h : fp_eX0_run_3_3_0_x_4_6 a b = true) : fp_eX0_run_3_6_0_x_3_6 a b = true := pvfp_sub (l1 := fpL_eX0_run_3_3_0_x_4_6) (l2 := fpL_eX0_run_3_6_0_x_3_6) (by decide) a b h
set_option maxHeartbeats 4000000 in
set_option maxRecDepth 10000 in
theorem se_X0_run_3_6_0_x_3_6 (M : pvM) (hok : pvOk M) (n3 : Int32) (hc3_1 : 0 ≤ Int32.toInt (M.1 3 1) ∧ Int32.toInt (M.1 3 1) ≤ 997) (hc3_2 : 6 ≤ Int32.toInt (M.1 3 2) ∧ Int32.toInt (M.1 3 2) ≤ 6) (d : Nat) (hd : 1 ≤ d) : PW 4 d (0, [some (pvR 3), some (pvI 6), some (pvI 0), some (pvI n3), some (pvI 3), none, none], [], M) (fun r X => (∃ x : Int32, r = some (pvI x) ∧ True ∧ x = ((n3 + (M.1 3 4)) ^^^ (M.1 3 3))) ∧ pvOk X ∧ pvFr fp_eX0_run_3_6_0_x_3_6 M X ∧ Int32.toInt (X.1 3 1) ≤ Int32.toInt (M.1 3 1) + 2) := by
  have hT : pvdom 4 = pvD_4 := rfl
  refine pw_blk hT 2 (S' := (4, [some (pvR 3), some (pvI 6), some (pvI 0), some (pvI n3), some (pvI 3), none, none], [pvI 40, pvI 3], M)) rfl ⟨trivial, trivial, trivial⟩ ?_
  refine pw_ic hT (c := 3 ≤ 40) rfl rfl (fun c1_ => ?_) (fun c1_ => absurd (by decide) c1_)
  refine pw_blk hT 2 (S' := (11, [some (pvR 3), some (pvI 6), some (pvI 0), some (pvI n3), some (pvI 3), none, none], [pvI 0, pvI 6], M)) rfl ⟨trivial, trivial, trivial⟩ ?_
  refine pw_callT hT (as := [pvI 6, pvI 0]) (lo1 := [some (pvI 6), some (pvI 0), none, none, none]) (d1 := d) (rest := []) rfl rfl rfl rfl rfl (fun h => absurd h (by decide)) (Nat.zero_le _) rfl rfl rfl (sf_X0_bodyFrom_6_0 M hok d) ?_
  refine pw_eqI (show ((pvstab 1041).getD (Int32.toNatClampNeg ((6 * 3) + 0)) 0) = 71 from by decide) ?_
  show PW 4 d (14, [some (pvR 3), some (pvI 6), some (pvI 0), some (pvI n3), some (pvI 3), none, none], [pvI 71], M) _
  refine pw_blk hT 7 (S' := (25, [some (pvR 3), some (pvI 6), some (pvI 0), some (pvI n3), some (pvI 3), some (pvI 71), some (pvI (3 + 1))], [pvI 71, pvR 3], M)) rfl ⟨trivial, trivial, trivial, trivial, trivial, trivial, trivial, trivial⟩ ?_
  refine pw_callVd hT (as := [pvR 3, pvI 71]) (lo1 := [some (pvR 3), some (pvI 71)]) (d1 := d) (rest := []) rfl rfl rfl rfl rfl (fun _ => rfl) (Nat.zero_le _) rfl rfl rfl (sf_X0_note_3_x M hok 71 (zr_wide (show 71 ≤ Int32.toInt 71 ∧ Int32.toInt 71 ≤ 71 from (by decide)) (by decide) (by decide)) (zr_wide hc3_1 (by decide) (by decide)) d) (fun M9_ o11_ g12_ d7_ => ?_)
  have f13_ : pvFr fp_eX0_run_3_6_0_x_3_6 M M9_ := pvfr_t g12_ pvfr_0 fp_eX0_run_3_6_0_x_3_6_fp_X0_note_3_x
  have b14_ : 0 ≤ Int32.toInt (M9_.1 3 1) ∧ Int32.toInt (M9_.1 3 1) ≤ 998 := (by have u0 := hc3_1; have u1 := d7_; have u2 := pvok_r o11_ 3 1 (lo := 0) (hi := 1000000) rfl; omega)
  refine pw_blk hT 1 (S' := (30, [some (pvR 3), some (pvI 6), some (pvI 0), some (pvI n3), some (pvI 3), some (pvI 71), some (pvI (3 + 1))], [pvI 71], M9_)) rfl ⟨trivial, trivial⟩ ?_
  refine pw_sw hT rfl rfl ?_
  refine And.intro (fun c15_ => absurd c15_ (by decide)) (fun c15_ => ?_)
  refine And.intro (fun c16_ => absurd c16_ (by decide)) (fun c16_ => ?_)
  refine And.intro (fun c17_ => absurd c17_ (by decide)) (fun c17_ => ?_)
  refine And.intro (fun c18_ => absurd c18_ (by decide)) (fun c18_ => ?_)
  refine And.intro (fun c19_ => absurd c19_ (by decide)) (fun c19_ => ?_)
  refine And.intro (fun c20_ => absurd c20_ (by decide)) (fun c20_ => ?_)
  refine And.intro (fun c21_ => absurd c21_ (by decide)) (fun c21_ => ?_)
  refine And.intro (fun c22_ => absurd c22_ (by decide)) (fun c22_ => ?_)
  refine And.intro (fun c23_ => absurd c23_ (by decide)) (fun c23_ => ?_)
  refine And.intro (fun c24_ => absurd c24_ (by decide)) (fun c24_ => ?_)
  refine And.intro (fun c25_ => ?_) (fun c25_ => absurd (by decide) c25_)
  show PW 4 d (274, [some (pvR 3), some (pvI 6), some (pvI 0), some (pvI n3), some (pvI 3), some (pvI 71), some (pvI (3 + 1))], [], M9_) _
  refine pw_blk hT 5 (S' := (280, [some (pvR 3), some (pvI 6), some (pvI 0), some (pvI n3), some (pvI 3), some (pvI 71), some (pvI (3 + 1))], [pvI (3 + 1), pvI n3, pvI 0, pvI 3, pvR 3], M9_)) rfl ⟨trivial, trivial, trivial, trivial, trivial, trivial⟩ ?_
  have e26_ : (M9_.1 3 2) = (M.1 3 2) := (g12_ 3 2 rfl)
  have b27_ : 6 ≤ Int32.toInt (M9_.1 3 2) ∧ Int32.toInt (M9_.1 3 2) ≤ 6 := (by rw [e26_]; exact hc3_2)
  refine pw_callGd hT (as := [pvR 3, pvI 3, pvI 0, pvI n3, pvI (3 + 1)]) (lo1 := [some (pvR 3), some (pvI 3), some (pvI 0), some (pvI n3), some (pvI (3 + 1)), none, none]) (d1 := (d - 1)) (rest := []) rfl rfl rfl rfl rfl (fun h => absurd h (by decide)) (show 1 ≤ d by omega) rfl rfl rfl (se_X0_run_3_3_0_x_4_6 M9_ o11_ n3 b14_ b27_ (d - 1)) (fun x29_ M30_ b31_ o32_ g33_ d28_ => ?_)
  have f34_ : pvFr fp_eX0_run_3_6_0_x_3_6 M M30_ := pvfr_t g33_ f13_ fp_eX0_run_3_6_0_x_3_6_fp_eX0_run_3_3_0_x_4_6
  have b35_ : 0 ≤ Int32.toInt (M30_.1 3 1) ∧ Int32.toInt (M30_.1 3 1) ≤ 999 := (by have u0 := b14_; have u1 := d28_; have u2 := pvok_r o32_ 3 1 (lo := 0) (hi := 1000000) rfl; omega)
  have u36_ : Int32.toInt 3 = 3 := by decide
  have u37_ : Int32.toInt 0 = 0 := by decide
  have u38_ : Int32.toInt (3 + 1) = 4 := by decide
  obtain ⟨b39_, d40_⟩ := b31_
  subst d40_
  have e41_ : (n3 + (M9_.1 3 4)) = (n3 + (M.1 3 4)) := (show (n3 + (M9_.1 3 4)) = (n3 + (M.1 3 4)) from by rw [(g12_ 3 4 rfl)])
  refine pw_eqI e41_ ?_
  refine pw_blk hT 2 (S' := (287, [some (pvR 3), some (pvI 6), some (pvI 0), some (pvI n3), some (pvI 3), some (pvI 71), some (pvI (3 + 1))], [pvI (M30_.1 3 3), pvI (n3 + (M.1 3 4))], M30_)) rfl ⟨trivial, rfl, trivial⟩ ?_
  have e42_ : (M30_.1 3 3) = (M.1 3 3) := ((g33_ 3 3 rfl).trans (g12_ 3 3 rfl))
  refine pw_eqI e42_ ?_
  refine pw_blk hT 1 (S' := (288, [some (pvR 3), some (pvI 6), some (pvI 0), some (pvI n3), some (pvI 3), some (pvI 71), some (pvI (3 + 1))], [pvI ((n3 + (M.1 3 4)) ^^^ (M.1 3 3))], M30_)) rfl ⟨trivial, trivial⟩ ?_
  exact pw_ret hT rfl (r := some (pvI ((n3 + (M.1 3 4)) ^^^ (M.1 3 3)))) (M' := M30_) ⟨rfl, rfl⟩ ⟨⟨_, rfl, trivial, rfl⟩, o32_, f34_, (by omega)⟩
def fpL_eX0_run_3_3_1_x_2_6 : List (Nat × Nat × Nat) := [(0, 3, 2), (0, 4, 0)]
def fp_eX0_run_3_3_1_x_2_6 (q k : Nat) : Bool := pvfp fpL_eX0_run_3_3_1_x_2_6 q k
theorem fp_eX0_run_3_3_1_x_2_6_fp_X0_note_3_x (a b : Nat) (h : fp_X0_note_3_x a b = true) : fp_eX0_run_3_3_1_x_2_6 a b = true := pvfp_sub (l1 := fpL_X0_note_3_x) (l2 := fpL_eX0_run_3_3_1_x_2_6) (by decide) a b h
theorem fp_eX0_run_3_3_1_x_2_6_fp_eX0_run_3_6_0_x_3_6 (a b : Nat) (h : fp_eX0_run_3_6_0_x_3_6 a b = true) : fp_eX0_run_3_3_1_x_2_6 a b = true := pvfp_sub (l1 := fpL_eX0_run_3_6_0_x_3_6) (l2 := fpL_eX0_run_3_3_1_x_2_6) (by decide) a b h
set_option maxHeartbeats 4000000 in
set_option maxRecDepth 10000 in
theorem se_X0_run_3_3_1_x_2_6 (M : pvM) (hok : pvOk M) (n3 : Int32) (hc3_1 : 0 ≤ Int32.toInt (M.1 3 1) ∧ Int32.toInt (M.1 3 1) ≤ 996) (hc3_2 : 6 ≤ Int32.toInt (M.1 3 2) ∧ Int32.toInt (M.1 3 2) ≤ 6) (d : Nat) (hd : 2 ≤ d) : PW 4 d (0, [some (pvR 3), some (pvI 3), some (pvI 1), some (pvI n3), some (pvI 2), none, none], [], M) (fun r X => (∃ x : Int32, r = some (pvI x) ∧ True ∧ x = (((n3 + (M.1 3 4)) ^^^ (M.1 3 3)) - (M.1 3 3))) ∧ pvOk X ∧ pvFr fp_eX0_run_3_3_1_x_2_6 M X ∧ Int32.toInt (X.1 3 1) ≤ Int32.toInt (M.1 3 1) + 3) := by
  have hT : pvdom 4 = pvD_4 := rfl
  refine pw_blk hT 2 (S' := (4, [some (pvR 3), some (pvI 3), some (pvI 1), some (pvI n3), some (pvI 2), none, none], [pvI 40, pvI 2], M)) rfl ⟨trivial, trivial, trivial⟩ ?_
  refine pw_ic hT (c := 2 ≤ 40) rfl rfl (fun c1_ => ?_) (fun c1_ => absurd (by decide) c1_)
  refine pw_blk hT 2 (S' := (11, [some (pvR 3), some (pvI 3), some (pvI 1), some (pvI n3), some (pvI 2), none, none], [pvI 1, pvI 3], M)) rfl ⟨trivial, trivial, trivial⟩ ?_
  refine pw_callT hT (as := [pvI 3, pvI 1]) (lo1 := [some (pvI 3), some (pvI 1), none, none, none]) (d1 := d) (rest := []) rfl rfl rfl rfl rfl (fun h => absurd h (by decide)) (Nat.zero_le _) rfl rfl rfl (sf_X0_bodyFrom_3_1 M hok d) ?_
  refine pw_eqI (show ((pvstab 1041).getD (Int32.toNatClampNeg ((0 * 3) + 1)) 0) = 11 from by decide) ?_
  show PW 4 d (14, [some (pvR 3), some (pvI 3), some (pvI 1), some (pvI n3), some (pvI 2), none, none], [pvI 11], M) _
  refine pw_blk hT 7 (S' := (25, [some (pvR 3), some (pvI 3), some (pvI 1), some (pvI n3), some (pvI 2), some (pvI 11), some (pvI (2 + 1))], [pvI 11, pvR 3], M)) rfl ⟨trivial, trivial, trivial, trivial, trivial, trivial, trivial, trivial⟩ ?_
  refine pw_callVd hT (as := [pvR 3, pvI 11]) (lo1 := [some (pvR 3), some (pvI 11)]) (d1 := d) (rest := []) rfl rfl rfl rfl rfl (fun _ => rfl) (Nat.zero_le _) rfl rfl rfl (sf_X0_note_3_x M hok 11 (zr_wide (show 11 ≤ Int32.toInt 11 ∧ Int32.toInt 11 ≤ 11 from (by decide)) (by decide) (by decide)) (zr_wide hc3_1 (by decide) (by decide)) d) (fun M9_ o11_ g12_ d7_ => ?_)
  have f13_ : pvFr fp_eX0_run_3_3_1_x_2_6 M M9_ := pvfr_t g12_ pvfr_0 fp_eX0_run_3_3_1_x_2_6_fp_X0_note_3_x
  have b14_ : 0 ≤ Int32.toInt (M9_.1 3 1) ∧ Int32.toInt (M9_.1 3 1) ≤ 997 := (by have u0 := hc3_1; have u1 := d7_; have u2 := pvok_r o11_ 3 1 (lo := 0) (hi := 1000000) rfl; omega)
  refine pw_blk hT 1 (S' := (30, [some (pvR 3), some (pvI 3), some (pvI 1), some (pvI n3), some (pvI 2), some (pvI 11), some (pvI (2 + 1))], [pvI 11], M9_)) rfl ⟨trivial, trivial⟩ ?_
  refine pw_sw hT rfl rfl ?_
  refine And.intro (fun c15_ => absurd c15_ (by decide)) (fun c15_ => ?_)
  refine And.intro (fun c16_ => ?_) (fun c16_ => absurd (by decide) c16_)
  show PW 4 d (135, [some (pvR 3), some (pvI 3), some (pvI 1), some (pvI n3), some (pvI 2), some (pvI 11), some (pvI (2 + 1))], [], M9_) _
  have e17_ : (M9_.1 3 2) = (M.1 3 2) := (g12_ 3 2 rfl)
  have b18_ : 6 ≤ Int32.toInt (M9_.1 3 2) ∧ Int32.toInt (M9_.1 3 2) ≤ 6 := (by rw [e17_]; exact hc3_2)
  refine pw_blk hT 3 (S' := (140, [some (pvR 3), some (pvI 3), some (pvI 1), some (pvI n3), some (pvI 2), some (pvI 11), some (pvI (2 + 1))], [pvI (M9_.1 3 2), pvR 3], M9_)) rfl ⟨trivial, trivial, rfl, trivial⟩ ?_
  refine pw_eqI ((zi_eq _ (6)).mpr (by have u0 := b18_; have u1 : Int32.toInt (6) = 6 := (by decide); omega)) ?_
  refine pw_blk hT 3 (S' := (144, [some (pvR 3), some (pvI 3), some (pvI 1), some (pvI n3), some (pvI 2), some (pvI 11), some (pvI (2 + 1))], [pvI (2 + 1), pvI n3, pvI 0, pvI 6, pvR 3], M9_)) rfl ⟨trivial, trivial, trivial, trivial⟩ ?_
  refine pw_callGd hT (as := [pvR 3, pvI 6, pvI 0, pvI n3, pvI (2 + 1)]) (lo1 := [some (pvR 3), some (pvI 6), some (pvI 0), some (pvI n3), some (pvI (2 + 1)), none, none]) (d1 := (d - 1)) (rest := []) rfl rfl rfl rfl rfl (fun h => absurd h (by decide)) (show 1 ≤ d by omega) rfl rfl rfl (se_X0_run_3_6_0_x_3_6 M9_ o11_ n3 b14_ b18_ (d - 1) (by omega)) (fun x20_ M21_ b22_ o23_ g24_ d19_ => ?_)
  have f25_ : pvFr fp_eX0_run_3_3_1_x_2_6 M M21_ := pvfr_t g24_ f13_ fp_eX0_run_3_3_1_x_2_6_fp_eX0_run_3_6_0_x_3_6
  have b26_ : 0 ≤ Int32.toInt (M21_.1 3 1) ∧ Int32.toInt (M21_.1 3 1) ≤ 999 := (by have u0 := b14_; have u1 := d19_; have u2 := pvok_r o23_ 3 1 (lo := 0) (hi := 1000000) rfl; omega)
  have u27_ : Int32.toInt 6 = 6 := by decide
  have u28_ : Int32.toInt 0 = 0 := by decide
  have u29_ : Int32.toInt (2 + 1) = 3 := by decide
  obtain ⟨b30_, d31_⟩ := b22_
  subst d31_
  have e32_ : ((n3 + (M9_.1 3 4)) ^^^ (M9_.1 3 3)) = ((n3 + (M.1 3 4)) ^^^ (M.1 3 3)) := (show ((n3 + (M9_.1 3 4)) ^^^ (M9_.1 3 3)) = ((n3 + (M.1 3 4)) ^^^ (M.1 3 3)) from by rw [(g12_ 3 4 rfl), (g12_ 3 3 rfl)])
  refine pw_eqI e32_ ?_
  refine pw_blk hT 2 (S' := (151, [some (pvR 3), some (pvI 3), some (pvI 1), some (pvI n3), some (pvI 2), some (pvI 11), some (pvI (2 + 1))], [pvI (M21_.1 3 3), pvI ((n3 + (M.1 3 4)) ^^^ (M.1 3 3))], M21_)) rfl ⟨trivial, rfl, trivial⟩ ?_
  have e33_ : (M21_.1 3 3) = (M.1 3 3) := ((g24_ 3 3 rfl).trans (g12_ 3 3 rfl))
  refine pw_eqI e33_ ?_
  refine pw_blk hT 1 (S' := (152, [some (pvR 3), some (pvI 3), some (pvI 1), some (pvI n3), some (pvI 2), some (pvI 11), some (pvI (2 + 1))], [pvI (((n3 + (M.1 3 4)) ^^^ (M.1 3 3)) - (M.1 3 3))], M21_)) rfl ⟨trivial, trivial⟩ ?_
  exact pw_ret hT rfl (r := some (pvI (((n3 + (M.1 3 4)) ^^^ (M.1 3 3)) - (M.1 3 3)))) (M' := M21_) ⟨rfl, rfl⟩ ⟨⟨_, rfl, trivial, rfl⟩, o23_, f25_, (by omega)⟩
def fpL_eX0_run_3_3_0_x_2_6 : List (Nat × Nat × Nat) := [(0, 3, 2), (0, 4, 0)]
def fp_eX0_run_3_3_0_x_2_6 (q k : Nat) : Bool := pvfp fpL_eX0_run_3_3_0_x_2_6 q k
theorem fp_eX0_run_3_3_0_x_2_6_fp_X0_note_3_x (a b : Nat) (h : fp_X0_note_3_x a b = true) : fp_eX0_run_3_3_0_x_2_6 a b = true := pvfp_sub (l1 := fpL_X0_note_3_x) (l2 := fpL_eX0_run_3_3_0_x_2_6) (by decide) a b h
set_option maxHeartbeats 4000000 in
set_option maxRecDepth 10000 in
theorem se_X0_run_3_3_0_x_2_6 (M : pvM) (hok : pvOk M) (n3 : Int32) (hc3_1 : 0 ≤ Int32.toInt (M.1 3 1) ∧ Int32.toInt (M.1 3 1) ≤ 998) (hc3_2 : 6 ≤ Int32.toInt (M.1 3 2) ∧ Int32.toInt (M.1 3 2) ≤ 6) (d : Nat) : PW 4 d (0, [some (pvR 3), some (pvI 3), some (pvI 0), some (pvI n3), some (pvI 2), none, none], [], M) (fun r X => (∃ x : Int32, r = some (pvI x) ∧ True ∧ x = (n3 + (M.1 3 4))) ∧ pvOk X ∧ pvFr fp_eX0_run_3_3_0_x_2_6 M X ∧ Int32.toInt (X.1 3 1) ≤ Int32.toInt (M.1 3 1) + 1) := by
  have hT : pvdom 4 = pvD_4 := rfl
  refine pw_blk hT 2 (S' := (4, [some (pvR 3), some (pvI 3), some (pvI 0), some (pvI n3), some (pvI 2), none, none], [pvI 40, pvI 2], M)) rfl ⟨trivial, trivial, trivial⟩ ?_
  refine pw_ic hT (c := 2 ≤ 40) rfl rfl (fun c1_ => ?_) (fun c1_ => absurd (by decide) c1_)
  refine pw_blk hT 2 (S' := (11, [some (pvR 3), some (pvI 3), some (pvI 0), some (pvI n3), some (pvI 2), none, none], [pvI 0, pvI 3], M)) rfl ⟨trivial, trivial, trivial⟩ ?_
  refine pw_callT hT (as := [pvI 3, pvI 0]) (lo1 := [some (pvI 3), some (pvI 0), none, none, none]) (d1 := d) (rest := []) rfl rfl rfl rfl rfl (fun h => absurd h (by decide)) (Nat.zero_le _) rfl rfl rfl (sf_X0_bodyFrom_3_0 M hok d) ?_
  refine pw_eqI (show ((pvstab 1041).getD (Int32.toNatClampNeg ((0 * 3) + 0)) 0) = 10 from by decide) ?_
  show PW 4 d (14, [some (pvR 3), some (pvI 3), some (pvI 0), some (pvI n3), some (pvI 2), none, none], [pvI 10], M) _
  refine pw_blk hT 7 (S' := (25, [some (pvR 3), some (pvI 3), some (pvI 0), some (pvI n3), some (pvI 2), some (pvI 10), some (pvI (2 + 1))], [pvI 10, pvR 3], M)) rfl ⟨trivial, trivial, trivial, trivial, trivial, trivial, trivial, trivial⟩ ?_
  refine pw_callVd hT (as := [pvR 3, pvI 10]) (lo1 := [some (pvR 3), some (pvI 10)]) (d1 := d) (rest := []) rfl rfl rfl rfl rfl (fun _ => rfl) (Nat.zero_le _) rfl rfl rfl (sf_X0_note_3_x M hok 10 (zr_wide (show 10 ≤ Int32.toInt 10 ∧ Int32.toInt 10 ≤ 10 from (by decide)) (by decide) (by decide)) (zr_wide hc3_1 (by decide) (by decide)) d) (fun M9_ o11_ g12_ d7_ => ?_)
  have f13_ : pvFr fp_eX0_run_3_3_0_x_2_6 M M9_ := pvfr_t g12_ pvfr_0 fp_eX0_run_3_3_0_x_2_6_fp_X0_note_3_x
  have b14_ : 0 ≤ Int32.toInt (M9_.1 3 1) ∧ Int32.toInt (M9_.1 3 1) ≤ 999 := (by have u0 := hc3_1; have u1 := d7_; have u2 := pvok_r o11_ 3 1 (lo := 0) (hi := 1000000) rfl; omega)
  refine pw_blk hT 1 (S' := (30, [some (pvR 3), some (pvI 3), some (pvI 0), some (pvI n3), some (pvI 2), some (pvI 10), some (pvI (2 + 1))], [pvI 10], M9_)) rfl ⟨trivial, trivial⟩ ?_
  refine pw_sw hT rfl rfl ?_
  refine And.intro (fun c15_ => ?_) (fun c15_ => absurd (by decide) c15_)
  show PW 4 d (128, [some (pvR 3), some (pvI 3), some (pvI 0), some (pvI n3), some (pvI 2), some (pvI 10), some (pvI (2 + 1))], [], M9_) _
  refine pw_blk hT 3 (S' := (133, [some (pvR 3), some (pvI 3), some (pvI 0), some (pvI n3), some (pvI 2), some (pvI 10), some (pvI (2 + 1))], [pvI (M9_.1 3 4), pvI n3], M9_)) rfl ⟨trivial, trivial, rfl, trivial⟩ ?_
  have e16_ : (M9_.1 3 4) = (M.1 3 4) := (g12_ 3 4 rfl)
  refine pw_eqI e16_ ?_
  refine pw_blk hT 1 (S' := (134, [some (pvR 3), some (pvI 3), some (pvI 0), some (pvI n3), some (pvI 2), some (pvI 10), some (pvI (2 + 1))], [pvI (n3 + (M.1 3 4))], M9_)) rfl ⟨trivial, trivial⟩ ?_
  exact pw_ret hT rfl (r := some (pvI (n3 + (M.1 3 4)))) (M' := M9_) ⟨rfl, rfl⟩ ⟨⟨_, rfl, trivial, rfl⟩, o11_, f13_, (by omega)⟩
