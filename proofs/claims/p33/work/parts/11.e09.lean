def fpL_eX0_run_3_6_1_x_1_6 : List (Nat × Nat × Nat) := [(0, 3, 2), (0, 4, 0)]
def fp_eX0_run_3_6_1_x_1_6 (q k : Nat) : Bool := pvfp fpL_eX0_run_3_6_1_x_1_6 q k
theorem fp_eX0_run_3_6_1_x_1_6_fp_X0_note_3_x (a b : Nat) (h : fp_X0_note_3_x a b = true) : fp_eX0_run_3_6_1_x_1_6 a b = true := pvfp_sub (l1 := fpL_X0_note_3_x) (l2 := fpL_eX0_run_3_6_1_x_1_6) (by decide) a b h
theorem fp_eX0_run_3_6_1_x_1_6_fp_eX0_run_3_3_0_x_2_6 (a b : Nat) (h : fp_eX0_run_3_3_0_x_2_6 a b = true) : fp_eX0_run_3_6_1_x_1_6 a b = true := pvfp_sub (l1 := fpL_eX0_run_3_3_0_x_2_6) (l2 := fpL_eX0_run_3_6_1_x_1_6) (by decide) a b h
theorem fp_eX0_run_3_6_1_x_1_6_fp_eX0_run_3_3_1_x_2_6 (a b : Nat) (h : fp_eX0_run_3_3_1_x_2_6 a b = true) : fp_eX0_run_3_6_1_x_1_6 a b = true := pvfp_sub (l1 := fpL_eX0_run_3_3_1_x_2_6) (l2 := fpL_eX0_run_3_6_1_x_1_6) (by decide) a b h
set_option maxHeartbeats 4000000 in
set_option maxRecDepth 10000 in
theorem se_X0_run_3_6_1_x_1_6 (M : pvM) (hok : pvOk M) (n3 : Int32) (hc3_1 : 0 ≤ Int32.toInt (M.1 3 1) ∧ Int32.toInt (M.1 3 1) ≤ 994) (hc3_2 : 6 ≤ Int32.toInt (M.1 3 2) ∧ Int32.toInt (M.1 3 2) ≤ 6) (d : Nat) (hd : 3 ≤ d) : PW 4 d (0, [some (pvR 3), some (pvI 6), some (pvI 1), some (pvI n3), some (pvI 1), none, none], [], M) (fun r X => (∃ x : Int32, r = some (pvI x) ∧ True ∧ x = ((((n3 + (M.1 3 4)) ^^^ (M.1 3 3)) - (M.1 3 3)) + (2 + (M.1 3 4)))) ∧ pvOk X ∧ pvFr fp_eX0_run_3_6_1_x_1_6 M X ∧ Int32.toInt (X.1 3 1) ≤ Int32.toInt (M.1 3 1) + 5) := by
  have hT : pvdom 4 = pvD_4 := rfl
  refine pw_blk hT 2 (S' := (4, [some (pvR 3), some (pvI 6), some (pvI 1), some (pvI n3), some (pvI 1), none, none], [pvI 40, pvI 1], M)) rfl ⟨trivial, trivial, trivial⟩ ?_
  refine pw_ic hT (c := 1 ≤ 40) rfl rfl (fun c1_ => ?_) (fun c1_ => absurd (by decide) c1_)
  refine pw_blk hT 2 (S' := (11, [some (pvR 3), some (pvI 6), some (pvI 1), some (pvI n3), some (pvI 1), none, none], [pvI 1, pvI 6], M)) rfl ⟨trivial, trivial, trivial⟩ ?_
  refine pw_callT hT (as := [pvI 6, pvI 1]) (lo1 := [some (pvI 6), some (pvI 1), none, none, none]) (d1 := d) (rest := []) rfl rfl rfl rfl rfl (fun h => absurd h (by decide)) (Nat.zero_le _) rfl rfl rfl (sf_X0_bodyFrom_6_1 M hok d) ?_
  refine pw_eqI (show ((pvstab 1041).getD (Int32.toNatClampNeg ((6 * 3) + 1)) 0) = 70 from by decide) ?_
  show PW 4 d (14, [some (pvR 3), some (pvI 6), some (pvI 1), some (pvI n3), some (pvI 1), none, none], [pvI 70], M) _
  refine pw_blk hT 7 (S' := (25, [some (pvR 3), some (pvI 6), some (pvI 1), some (pvI n3), some (pvI 1), some (pvI 70), some (pvI (1 + 1))], [pvI 70, pvR 3], M)) rfl ⟨trivial, trivial, trivial, trivial, trivial, trivial, trivial, trivial⟩ ?_
  refine pw_callVd hT (as := [pvR 3, pvI 70]) (lo1 := [some (pvR 3), some (pvI 70)]) (d1 := d) (rest := []) rfl rfl rfl rfl rfl (fun _ => rfl) (Nat.zero_le _) rfl rfl rfl (sf_X0_note_3_x M hok 70 (zr_wide (show 70 ≤ Int32.toInt 70 ∧ Int32.toInt 70 ≤ 70 from (by decide)) (by decide) (by decide)) (zr_wide hc3_1 (by decide) (by decide)) d) (fun M9_ o11_ g12_ d7_ => ?_)
  have f13_ : pvFr fp_eX0_run_3_6_1_x_1_6 M M9_ := pvfr_t g12_ pvfr_0 fp_eX0_run_3_6_1_x_1_6_fp_X0_note_3_x
  have b14_ : 0 ≤ Int32.toInt (M9_.1 3 1) ∧ Int32.toInt (M9_.1 3 1) ≤ 995 := (by have u0 := hc3_1; have u1 := d7_; have u2 := pvok_r o11_ 3 1 (lo := 0) (hi := 1000000) rfl; omega)
  refine pw_blk hT 1 (S' := (30, [some (pvR 3), some (pvI 6), some (pvI 1), some (pvI n3), some (pvI 1), some (pvI 70), some (pvI (1 + 1))], [pvI 70], M9_)) rfl ⟨trivial, trivial⟩ ?_
  refine pw_sw hT rfl rfl ?_
  refine And.intro (fun c15_ => absurd c15_ (by decide)) (fun c15_ => ?_)
  refine And.intro (fun c16_ => absurd c16_ (by decide)) (fun c16_ => ?_)
  refine And.intro (fun c17_ => absurd c17_ (by decide)) (fun c17_ => ?_)
  refine And.intro (fun c18_ => absurd c18_ (by decide)) (fun c18_ => ?_)
  refine And.intro (fun c19_ => absurd c19_ (by decide)) (fun c19_ => ?_)
  refine And.intro (fun c20_ => absurd c20_ (by decide)) (fun c20_ => ?_)
  refine And.intro (fun c21_ => absurd c21_ (by decide)) (fun c21_ => ?_)
  refine And.intro (fun c22_ => absurd c22_ (by decide)) (fun c22_ => ?_)
  refine And.intro (fun c23_ => absurd c23_ (by decide)) (fun c23_ => ?_)
  refine And.intro (fun c24_ => ?_) (fun c24_ => absurd (by decide) c24_)
  show PW 4 d (254, [some (pvR 3), some (pvI 6), some (pvI 1), some (pvI n3), some (pvI 1), some (pvI 70), some (pvI (1 + 1))], [], M9_) _
  refine pw_blk hT 5 (S' := (260, [some (pvR 3), some (pvI 6), some (pvI 1), some (pvI n3), some (pvI 1), some (pvI 70), some (pvI (1 + 1))], [pvI (1 + 1), pvI n3, pvI 1, pvI 3, pvR 3], M9_)) rfl ⟨trivial, trivial, trivial, trivial, trivial, trivial⟩ ?_
  have e25_ : (M9_.1 3 2) = (M.1 3 2) := (g12_ 3 2 rfl)
  have b26_ : 6 ≤ Int32.toInt (M9_.1 3 2) ∧ Int32.toInt (M9_.1 3 2) ≤ 6 := (by rw [e25_]; exact hc3_2)
  refine pw_callGd hT (as := [pvR 3, pvI 3, pvI 1, pvI n3, pvI (1 + 1)]) (lo1 := [some (pvR 3), some (pvI 3), some (pvI 1), some (pvI n3), some (pvI (1 + 1)), none, none]) (d1 := (d - 1)) (rest := []) rfl rfl rfl rfl rfl (fun h => absurd h (by decide)) (show 1 ≤ d by omega) rfl rfl rfl (se_X0_run_3_3_1_x_2_6 M9_ o11_ n3 (zr_wide b14_ (by decide) (by decide)) b26_ (d - 1) (by omega)) (fun x28_ M29_ b30_ o31_ g32_ d27_ => ?_)
  have f33_ : pvFr fp_eX0_run_3_6_1_x_1_6 M M29_ := pvfr_t g32_ f13_ fp_eX0_run_3_6_1_x_1_6_fp_eX0_run_3_3_1_x_2_6
  have b34_ : 0 ≤ Int32.toInt (M29_.1 3 1) ∧ Int32.toInt (M29_.1 3 1) ≤ 998 := (by have u0 := b14_; have u1 := d27_; have u2 := pvok_r o31_ 3 1 (lo := 0) (hi := 1000000) rfl; omega)
  have u35_ : Int32.toInt 3 = 3 := by decide
  have u36_ : Int32.toInt 1 = 1 := by decide
  have u37_ : Int32.toInt (1 + 1) = 2 := by decide
  obtain ⟨b38_, d39_⟩ := b30_
  subst d39_
  have e40_ : (((n3 + (M9_.1 3 4)) ^^^ (M9_.1 3 3)) - (M9_.1 3 3)) = (((n3 + (M.1 3 4)) ^^^ (M.1 3 3)) - (M.1 3 3)) := (show (((n3 + (M9_.1 3 4)) ^^^ (M9_.1 3 3)) - (M9_.1 3 3)) = (((n3 + (M.1 3 4)) ^^^ (M.1 3 3)) - (M.1 3 3)) from by rw [(g12_ 3 4 rfl), (g12_ 3 3 rfl)])
  refine pw_eqI e40_ ?_
  refine pw_blk hT 5 (S' := (269, [some (pvR 3), some (pvI 6), some (pvI 1), some (pvI n3), some (pvI 1), some (pvI 70), some (pvI (1 + 1))], [pvI (1 + 1), pvI 2, pvI 0, pvI 3, pvR 3, pvI (((n3 + (M.1 3 4)) ^^^ (M.1 3 3)) - (M.1 3 3))], M29_)) rfl ⟨trivial, trivial, trivial, trivial, trivial, trivial⟩ ?_
  have e41_ : (M29_.1 3 2) = (M9_.1 3 2) := (g32_ 3 2 rfl)
  have b42_ : 6 ≤ Int32.toInt (M29_.1 3 2) ∧ Int32.toInt (M29_.1 3 2) ≤ 6 := (by rw [e41_]; exact b26_)
  refine pw_callGd hT (as := [pvR 3, pvI 3, pvI 0, pvI 2, pvI (1 + 1)]) (lo1 := [some (pvR 3), some (pvI 3), some (pvI 0), some (pvI 2), some (pvI (1 + 1)), none, none]) (d1 := (d - 1)) (rest := [pvI (((n3 + (M.1 3 4)) ^^^ (M.1 3 3)) - (M.1 3 3))]) rfl rfl rfl rfl rfl (fun h => absurd h (by decide)) (show 1 ≤ d by omega) rfl rfl rfl (se_X0_run_3_3_0_x_2_6 M29_ o31_ 2 b34_ b42_ (d - 1)) (fun x44_ M45_ b46_ o47_ g48_ d43_ => ?_)
  have f49_ : pvFr fp_eX0_run_3_6_1_x_1_6 M M45_ := pvfr_t g48_ f33_ fp_eX0_run_3_6_1_x_1_6_fp_eX0_run_3_3_0_x_2_6
  have b50_ : 0 ≤ Int32.toInt (M45_.1 3 1) ∧ Int32.toInt (M45_.1 3 1) ≤ 999 := (by have u0 := b34_; have u1 := d43_; have u2 := pvok_r o47_ 3 1 (lo := 0) (hi := 1000000) rfl; omega)
  have u51_ : Int32.toInt 0 = 0 := by decide
  have u52_ : Int32.toInt 2 = 2 := by decide
  obtain ⟨b53_, d54_⟩ := b46_
  subst d54_
  have e55_ : (2 + (M29_.1 3 4)) = (2 + (M.1 3 4)) := (show (2 + (M29_.1 3 4)) = (2 + (M.1 3 4)) from by rw [((g32_ 3 4 rfl).trans (g12_ 3 4 rfl))])
  refine pw_eqI e55_ ?_
  refine pw_blk hT 1 (S' := (273, [some (pvR 3), some (pvI 6), some (pvI 1), some (pvI n3), some (pvI 1), some (pvI 70), some (pvI (1 + 1))], [pvI ((((n3 + (M.1 3 4)) ^^^ (M.1 3 3)) - (M.1 3 3)) + (2 + (M.1 3 4)))], M45_)) rfl ⟨trivial, trivial⟩ ?_
  exact pw_ret hT rfl (r := some (pvI ((((n3 + (M.1 3 4)) ^^^ (M.1 3 3)) - (M.1 3 3)) + (2 + (M.1 3 4))))) (M' := M45_) ⟨rfl, rfl⟩ ⟨⟨_, rfl, trivial, rfl⟩, o47_, f49_, (by omega)⟩
def fpL_eX0_run_3_6_2_x_0_6 : List (Nat × Nat × Nat) := [(0, 3, 2), (0, 4, 0)]
def fp_eX0_run_3_6_2_x_0_6 (q k : Nat) : Bool := pvfp fpL_eX0_run_3_6_2_x_0_6 q k
theorem fp_eX0_run_3_6_2_x_0_6_fp_X0_note_3_x (a b : Nat) (h : fp_X0_note_3_x a b = true) : fp_eX0_run_3_6_2_x_0_6 a b = true := pvfp_sub (l1 := fpL_X0_note_3_x) (l2 := fpL_eX0_run_3_6_2_x_0_6) (by decide) a b h
theorem fp_eX0_run_3_6_2_x_0_6_fp_eX0_run_3_0_2_x_1_6 (a b : Nat) (h : fp_eX0_run_3_0_2_x_1_6 a b = true) : fp_eX0_run_3_6_2_x_0_6 a b = true := pvfp_sub (l1 := fpL_eX0_run_3_0_2_x_1_6) (l2 := fpL_eX0_run_3_6_2_x_0_6) (by decide) a b h
theorem fp_eX0_run_3_6_2_x_0_6_fp_eX0_run_3_6_1_x_1_6 (a b : Nat) (h : fp_eX0_run_3_6_1_x_1_6 a b = true) : fp_eX0_run_3_6_2_x_0_6 a b = true := pvfp_sub (l1 := fpL_eX0_run_3_6_1_x_1_6) (l2 := fpL_eX0_run_3_6_2_x_0_6) (by decide) a b h
set_option maxHeartbeats 4000000 in
set_option maxRecDepth 10000 in
theorem se_X0_run_3_6_2_x_0_6 (M : pvM) (hok : pvOk M) (n3 : Int32) (hc3_1 : 0 ≤ Int32.toInt (M.1 3 1) ∧ Int32.toInt (M.1 3 1) ≤ 987) (hc3_2 : 6 ≤ Int32.toInt (M.1 3 2) ∧ Int32.toInt (M.1 3 2) ≤ 6) (d : Nat) (hd : 5 ≤ d) : PW 4 d (0, [some (pvR 3), some (pvI 6), some (pvI 2), some (pvI n3), some (pvI 0), none, none], [], M) (fun r X => (∃ x : Int32, r = some (pvI x) ∧ True ∧ x = ((((((n3 + (M.1 3 4)) ^^^ (M.1 3 3)) - (M.1 3 3)) + (2 + (M.1 3 4))) * 2) + ((((1 + (M.1 3 4)) ^^^ (M.1 3 3)) - (M.1 3 3)) + (2 + (M.1 3 4))))) ∧ pvOk X ∧ pvFr fp_eX0_run_3_6_2_x_0_6 M X ∧ Int32.toInt (X.1 3 1) ≤ Int32.toInt (M.1 3 1) + 12) := by
  have hT : pvdom 4 = pvD_4 := rfl
  refine pw_blk hT 2 (S' := (4, [some (pvR 3), some (pvI 6), some (pvI 2), some (pvI n3), some (pvI 0), none, none], [pvI 40, pvI 0], M)) rfl ⟨trivial, trivial, trivial⟩ ?_
  refine pw_ic hT (c := 0 ≤ 40) rfl rfl (fun c1_ => ?_) (fun c1_ => absurd (by decide) c1_)
  refine pw_blk hT 2 (S' := (11, [some (pvR 3), some (pvI 6), some (pvI 2), some (pvI n3), some (pvI 0), none, none], [pvI 2, pvI 6], M)) rfl ⟨trivial, trivial, trivial⟩ ?_
  refine pw_callT hT (as := [pvI 6, pvI 2]) (lo1 := [some (pvI 6), some (pvI 2), none, none, none]) (d1 := d) (rest := []) rfl rfl rfl rfl rfl (fun h => absurd h (by decide)) (Nat.zero_le _) rfl rfl rfl (sf_X0_bodyFrom_6_2 M hok d) ?_
  refine pw_eqI (show ((pvstab 1041).getD (Int32.toNatClampNeg ((3 * 3) + 2)) 0) = 40 from by decide) ?_
  show PW 4 d (14, [some (pvR 3), some (pvI 6), some (pvI 2), some (pvI n3), some (pvI 0), none, none], [pvI 40], M) _
  refine pw_blk hT 7 (S' := (25, [some (pvR 3), some (pvI 6), some (pvI 2), some (pvI n3), some (pvI 0), some (pvI 40), some (pvI (0 + 1))], [pvI 40, pvR 3], M)) rfl ⟨trivial, trivial, trivial, trivial, trivial, trivial, trivial, trivial⟩ ?_
  refine pw_callVd hT (as := [pvR 3, pvI 40]) (lo1 := [some (pvR 3), some (pvI 40)]) (d1 := d) (rest := []) rfl rfl rfl rfl rfl (fun _ => rfl) (Nat.zero_le _) rfl rfl rfl (sf_X0_note_3_x M hok 40 (zr_wide (show 40 ≤ Int32.toInt 40 ∧ Int32.toInt 40 ≤ 40 from (by decide)) (by decide) (by decide)) (zr_wide hc3_1 (by decide) (by decide)) d) (fun M9_ o11_ g12_ d7_ => ?_)
  have f13_ : pvFr fp_eX0_run_3_6_2_x_0_6 M M9_ := pvfr_t g12_ pvfr_0 fp_eX0_run_3_6_2_x_0_6_fp_X0_note_3_x
  have b14_ : 0 ≤ Int32.toInt (M9_.1 3 1) ∧ Int32.toInt (M9_.1 3 1) ≤ 988 := (by have u0 := hc3_1; have u1 := d7_; have u2 := pvok_r o11_ 3 1 (lo := 0) (hi := 1000000) rfl; omega)
  refine pw_blk hT 1 (S' := (30, [some (pvR 3), some (pvI 6), some (pvI 2), some (pvI n3), some (pvI 0), some (pvI 40), some (pvI (0 + 1))], [pvI 40], M9_)) rfl ⟨trivial, trivial⟩ ?_
  refine pw_sw hT rfl rfl ?_
  refine And.intro (fun c15_ => absurd c15_ (by decide)) (fun c15_ => ?_)
  refine And.intro (fun c16_ => absurd c16_ (by decide)) (fun c16_ => ?_)
  refine And.intro (fun c17_ => absurd c17_ (by decide)) (fun c17_ => ?_)
  refine And.intro (fun c18_ => absurd c18_ (by decide)) (fun c18_ => ?_)
  refine And.intro (fun c19_ => absurd c19_ (by decide)) (fun c19_ => ?_)
  refine And.intro (fun c20_ => ?_) (fun c20_ => absurd (by decide) c20_)
  show PW 4 d (193, [some (pvR 3), some (pvI 6), some (pvI 2), some (pvI n3), some (pvI 0), some (pvI 40), some (pvI (0 + 1))], [], M9_) _
  refine pw_blk hT 5 (S' := (199, [some (pvR 3), some (pvI 6), some (pvI 2), some (pvI n3), some (pvI 0), some (pvI 40), some (pvI (0 + 1))], [pvI (0 + 1), pvI n3, pvI 2, pvI 0, pvR 3], M9_)) rfl ⟨trivial, trivial, trivial, trivial, trivial, trivial⟩ ?_
  have e21_ : (M9_.1 3 2) = (M.1 3 2) := (g12_ 3 2 rfl)
  have b22_ : 6 ≤ Int32.toInt (M9_.1 3 2) ∧ Int32.toInt (M9_.1 3 2) ≤ 6 := (by rw [e21_]; exact hc3_2)
  refine pw_callGd hT (as := [pvR 3, pvI 0, pvI 2, pvI n3, pvI (0 + 1)]) (lo1 := [some (pvR 3), some (pvI 0), some (pvI 2), some (pvI n3), some (pvI (0 + 1)), none, none]) (d1 := (d - 1)) (rest := []) rfl rfl rfl rfl rfl (fun h => absurd h (by decide)) (show 1 ≤ d by omega) rfl rfl rfl (se_X0_run_3_0_2_x_1_6 M9_ o11_ n3 (zr_wide b14_ (by decide) (by decide)) b22_ (d - 1) (by omega)) (fun x24_ M25_ b26_ o27_ g28_ d23_ => ?_)
  have f29_ : pvFr fp_eX0_run_3_6_2_x_0_6 M M25_ := pvfr_t g28_ f13_ fp_eX0_run_3_6_2_x_0_6_fp_eX0_run_3_0_2_x_1_6
  have b30_ : 0 ≤ Int32.toInt (M25_.1 3 1) ∧ Int32.toInt (M25_.1 3 1) ≤ 994 := (by have u0 := b14_; have u1 := d23_; have u2 := pvok_r o27_ 3 1 (lo := 0) (hi := 1000000) rfl; omega)
  have u31_ : Int32.toInt 0 = 0 := by decide
  have u32_ : Int32.toInt 2 = 2 := by decide
  have u33_ : Int32.toInt (0 + 1) = 1 := by decide
  obtain ⟨b34_, d35_⟩ := b26_
  subst d35_
  have e36_ : (((((n3 + (M9_.1 3 4)) ^^^ (M9_.1 3 3)) - (M9_.1 3 3)) + (2 + (M9_.1 3 4))) * 2) = (((((n3 + (M.1 3 4)) ^^^ (M.1 3 3)) - (M.1 3 3)) + (2 + (M.1 3 4))) * 2) := (show (((((n3 + (M9_.1 3 4)) ^^^ (M9_.1 3 3)) - (M9_.1 3 3)) + (2 + (M9_.1 3 4))) * 2) = (((((n3 + (M.1 3 4)) ^^^ (M.1 3 3)) - (M.1 3 3)) + (2 + (M.1 3 4))) * 2) from by rw [(g12_ 3 4 rfl), (g12_ 3 3 rfl)])
  refine pw_eqI e36_ ?_
  have e37_ : (M25_.1 3 2) = (M9_.1 3 2) := (g28_ 3 2 rfl)
  have b38_ : 6 ≤ Int32.toInt (M25_.1 3 2) ∧ Int32.toInt (M25_.1 3 2) ≤ 6 := (by rw [e37_]; exact b22_)
  refine pw_blk hT 3 (S' := (207, [some (pvR 3), some (pvI 6), some (pvI 2), some (pvI n3), some (pvI 0), some (pvI 40), some (pvI (0 + 1))], [pvI (M25_.1 3 2), pvR 3, pvI (((((n3 + (M.1 3 4)) ^^^ (M.1 3 3)) - (M.1 3 3)) + (2 + (M.1 3 4))) * 2)], M25_)) rfl ⟨trivial, trivial, rfl, trivial⟩ ?_
  refine pw_eqI ((zi_eq _ (6)).mpr (by have u0 := b38_; have u1 : Int32.toInt (6) = 6 := (by decide); omega)) ?_
  refine pw_blk hT 3 (S' := (211, [some (pvR 3), some (pvI 6), some (pvI 2), some (pvI n3), some (pvI 0), some (pvI 40), some (pvI (0 + 1))], [pvI (0 + 1), pvI 1, pvI 1, pvI 6, pvR 3, pvI (((((n3 + (M.1 3 4)) ^^^ (M.1 3 3)) - (M.1 3 3)) + (2 + (M.1 3 4))) * 2)], M25_)) rfl ⟨trivial, trivial, trivial, trivial⟩ ?_
  refine pw_callGd hT (as := [pvR 3, pvI 6, pvI 1, pvI 1, pvI (0 + 1)]) (lo1 := [some (pvR 3), some (pvI 6), some (pvI 1), some (pvI 1), some (pvI (0 + 1)), none, none]) (d1 := (d - 1)) (rest := [pvI (((((n3 + (M.1 3 4)) ^^^ (M.1 3 3)) - (M.1 3 3)) + (2 + (M.1 3 4))) * 2)]) rfl rfl rfl rfl rfl (fun h => absurd h (by decide)) (show 1 ≤ d by omega) rfl rfl rfl (se_X0_run_3_6_1_x_1_6 M25_ o27_ 1 b30_ b38_ (d - 1) (by omega)) (fun x40_ M41_ b42_ o43_ g44_ d39_ => ?_)
  have f45_ : pvFr fp_eX0_run_3_6_2_x_0_6 M M41_ := pvfr_t g44_ f29_ fp_eX0_run_3_6_2_x_0_6_fp_eX0_run_3_6_1_x_1_6
  have b46_ : 0 ≤ Int32.toInt (M41_.1 3 1) ∧ Int32.toInt (M41_.1 3 1) ≤ 999 := (by have u0 := b30_; have u1 := d39_; have u2 := pvok_r o43_ 3 1 (lo := 0) (hi := 1000000) rfl; omega)
  have u47_ : Int32.toInt 6 = 6 := by decide
  have u48_ : Int32.toInt 1 = 1 := by decide
  obtain ⟨b49_, d50_⟩ := b42_
  subst d50_
  have e51_ : ((((1 + (M25_.1 3 4)) ^^^ (M25_.1 3 3)) - (M25_.1 3 3)) + (2 + (M25_.1 3 4))) = ((((1 + (M.1 3 4)) ^^^ (M.1 3 3)) - (M.1 3 3)) + (2 + (M.1 3 4))) := (show ((((1 + (M25_.1 3 4)) ^^^ (M25_.1 3 3)) - (M25_.1 3 3)) + (2 + (M25_.1 3 4))) = ((((1 + (M.1 3 4)) ^^^ (M.1 3 3)) - (M.1 3 3)) + (2 + (M.1 3 4))) from by rw [((g28_ 3 4 rfl).trans (g12_ 3 4 rfl)), ((g28_ 3 3 rfl).trans (g12_ 3 3 rfl))])
  refine pw_eqI e51_ ?_
  refine pw_blk hT 1 (S' := (215, [some (pvR 3), some (pvI 6), some (pvI 2), some (pvI n3), some (pvI 0), some (pvI 40), some (pvI (0 + 1))], [pvI ((((((n3 + (M.1 3 4)) ^^^ (M.1 3 3)) - (M.1 3 3)) + (2 + (M.1 3 4))) * 2) + ((((1 + (M.1 3 4)) ^^^ (M.1 3 3)) - (M.1 3 3)) + (2 + (M.1 3 4))))], M41_)) rfl ⟨trivial, trivial⟩ ?_
  exact pw_ret hT rfl (r := some (pvI ((((((n3 + (M.1 3 4)) ^^^ (M.1 3 3)) - (M.1 3 3)) + (2 + (M.1 3 4))) * 2) + ((((1 + (M.1 3 4)) ^^^ (M.1 3 3)) - (M.1 3 3)) + (2 + (M.1 3 4)))))) (M' := M41_) ⟨rfl, rfl⟩ ⟨⟨_, rfl, trivial, rfl⟩, o43_, f45_, (by omega)⟩
def fpL_eX0_perform_3_x_x_x_x : List (Nat × Nat × Nat) := [(0, 3, 2), (0, 3, 3), (0, 3, 4), (0, 3, 5), (0, 4, 0)]
def fp_eX0_perform_3_x_x_x_x (q k : Nat) : Bool := pvfp fpL_eX0_perform_3_x_x_x_x q k
theorem fp_eX0_perform_3_x_x_x_x_fp_eX0_run_3_0_0_x_0_0 (a b : Nat) (h : fp_eX0_run_3_0_0_x_0_0 a b = true) : fp_eX0_perform_3_x_x_x_x a b = true := pvfp_sub (l1 := fpL_eX0_run_3_0_0_x_0_0) (l2 := fpL_eX0_perform_3_x_x_x_x) (by decide) a b h
theorem fp_eX0_perform_3_x_x_x_x_fp_eX0_run_3_0_1_x_0_0 (a b : Nat) (h : fp_eX0_run_3_0_1_x_0_0 a b = true) : fp_eX0_perform_3_x_x_x_x a b = true := pvfp_sub (l1 := fpL_eX0_run_3_0_1_x_0_0) (l2 := fpL_eX0_perform_3_x_x_x_x) (by decide) a b h
theorem fp_eX0_perform_3_x_x_x_x_fp_eX0_run_3_0_2_x_0_0 (a b : Nat) (h : fp_eX0_run_3_0_2_x_0_0 a b = true) : fp_eX0_perform_3_x_x_x_x a b = true := pvfp_sub (l1 := fpL_eX0_run_3_0_2_x_0_0) (l2 := fpL_eX0_perform_3_x_x_x_x) (by decide) a b h
theorem fp_eX0_perform_3_x_x_x_x_fp_eX0_run_3_1_0_x_0_1 (a b : Nat) (h : fp_eX0_run_3_1_0_x_0_1 a b = true) : fp_eX0_perform_3_x_x_x_x a b = true := pvfp_sub (l1 := fpL_eX0_run_3_1_0_x_0_1) (l2 := fpL_eX0_perform_3_x_x_x_x) (by decide) a b h
theorem fp_eX0_perform_3_x_x_x_x_fp_eX0_run_3_1_1_x_0_1 (a b : Nat) (h : fp_eX0_run_3_1_1_x_0_1 a b = true) : fp_eX0_perform_3_x_x_x_x a b = true := pvfp_sub (l1 := fpL_eX0_run_3_1_1_x_0_1) (l2 := fpL_eX0_perform_3_x_x_x_x) (by decide) a b h
theorem fp_eX0_perform_3_x_x_x_x_fp_eX0_run_3_1_2_x_0_1 (a b : Nat) (h : fp_eX0_run_3_1_2_x_0_1 a b = true) : fp_eX0_perform_3_x_x_x_x a b = true := pvfp_sub (l1 := fpL_eX0_run_3_1_2_x_0_1) (l2 := fpL_eX0_perform_3_x_x_x_x) (by decide) a b h
theorem fp_eX0_perform_3_x_x_x_x_fp_eX0_run_3_2_0_x_0_2 (a b : Nat) (h : fp_eX0_run_3_2_0_x_0_2 a b = true) : fp_eX0_perform_3_x_x_x_x a b = true := pvfp_sub (l1 := fpL_eX0_run_3_2_0_x_0_2) (l2 := fpL_eX0_perform_3_x_x_x_x) (by decide) a b h
theorem fp_eX0_perform_3_x_x_x_x_fp_eX0_run_3_2_1_x_0_2 (a b : Nat) (h : fp_eX0_run_3_2_1_x_0_2 a b = true) : fp_eX0_perform_3_x_x_x_x a b = true := pvfp_sub (l1 := fpL_eX0_run_3_2_1_x_0_2) (l2 := fpL_eX0_perform_3_x_x_x_x) (by decide) a b h
theorem fp_eX0_perform_3_x_x_x_x_fp_eX0_run_3_2_2_x_0_2 (a b : Nat) (h : fp_eX0_run_3_2_2_x_0_2 a b = true) : fp_eX0_perform_3_x_x_x_x a b = true := pvfp_sub (l1 := fpL_eX0_run_3_2_2_x_0_2) (l2 := fpL_eX0_perform_3_x_x_x_x) (by decide) a b h
theorem fp_eX0_perform_3_x_x_x_x_fp_eX0_run_3_3_0_x_0_3 (a b : Nat) (h : fp_eX0_run_3_3_0_x_0_3 a b = true) : fp_eX0_perform_3_x_x_x_x a b = true := pvfp_sub (l1 := fpL_eX0_run_3_3_0_x_0_3) (l2 := fpL_eX0_perform_3_x_x_x_x) (by decide) a b h
theorem fp_eX0_perform_3_x_x_x_x_fp_eX0_run_3_3_1_x_0_3 (a b : Nat) (h : fp_eX0_run_3_3_1_x_0_3 a b = true) : fp_eX0_perform_3_x_x_x_x a b = true := pvfp_sub (l1 := fpL_eX0_run_3_3_1_x_0_3) (l2 := fpL_eX0_perform_3_x_x_x_x) (by decide) a b h
theorem fp_eX0_perform_3_x_x_x_x_fp_eX0_run_3_3_2_x_0_3 (a b : Nat) (h : fp_eX0_run_3_3_2_x_0_3 a b = true) : fp_eX0_perform_3_x_x_x_x a b = true := pvfp_sub (l1 := fpL_eX0_run_3_3_2_x_0_3) (l2 := fpL_eX0_perform_3_x_x_x_x) (by decide) a b h
theorem fp_eX0_perform_3_x_x_x_x_fp_eX0_run_3_4_0_x_0_4 (a b : Nat) (h : fp_eX0_run_3_4_0_x_0_4 a b = true) : fp_eX0_perform_3_x_x_x_x a b = true := pvfp_sub (l1 := fpL_eX0_run_3_4_0_x_0_4) (l2 := fpL_eX0_perform_3_x_x_x_x) (by decide) a b h
theorem fp_eX0_perform_3_x_x_x_x_fp_eX0_run_3_4_1_x_0_4 (a b : Nat) (h : fp_eX0_run_3_4_1_x_0_4 a b = true) : fp_eX0_perform_3_x_x_x_x a b = true := pvfp_sub (l1 := fpL_eX0_run_3_4_1_x_0_4) (l2 := fpL_eX0_perform_3_x_x_x_x) (by decide) a b h
theorem fp_eX0_perform_3_x_x_x_x_fp_eX0_run_3_4_2_x_0_4 (a b : Nat) (h : fp_eX0_run_3_4_2_x_0_4 a b = true) : fp_eX0_perform_3_x_x_x_x a b = true := pvfp_sub (l1 := fpL_eX0_run_3_4_2_x_0_4) (l2 := fpL_eX0_perform_3_x_x_x_x) (by decide) a b h
theorem fp_eX0_perform_3_x_x_x_x_fp_eX0_run_3_5_0_x_0_5 (a b : Nat) (h : fp_eX0_run_3_5_0_x_0_5 a b = true) : fp_eX0_perform_3_x_x_x_x a b = true := pvfp_sub (l1 := fpL_eX0_run_3_5_0_x_0_5) (l2 := fpL_eX0_perform_3_x_x_x_x) (by decide) a b h
theorem fp_eX0_perform_3_x_x_x_x_fp_eX0_run_3_5_1_x_0_5 (a b : Nat) (h : fp_eX0_run_3_5_1_x_0_5 a b = true) : fp_eX0_perform_3_x_x_x_x a b = true := pvfp_sub (l1 := fpL_eX0_run_3_5_1_x_0_5) (l2 := fpL_eX0_perform_3_x_x_x_x) (by decide) a b h
theorem fp_eX0_perform_3_x_x_x_x_fp_eX0_run_3_5_2_x_0_5 (a b : Nat) (h : fp_eX0_run_3_5_2_x_0_5 a b = true) : fp_eX0_perform_3_x_x_x_x a b = true := pvfp_sub (l1 := fpL_eX0_run_3_5_2_x_0_5) (l2 := fpL_eX0_perform_3_x_x_x_x) (by decide) a b h
theorem fp_eX0_perform_3_x_x_x_x_fp_eX0_run_3_6_0_x_0_6 (a b : Nat) (h : fp_eX0_run_3_6_0_x_0_6 a b = true) : fp_eX0_perform_3_x_x_x_x a b = true := pvfp_sub (l1 := fpL_eX0_run_3_6_0_x_0_6) (l2 := fpL_eX0_perform_3_x_x_x_x) (by decide) a b h
theorem fp_eX0_perform_3_x_x_x_x_fp_eX0_run_3_6_1_x_0_6 (a b : Nat) (h : fp_eX0_run_3_6_1_x_0_6 a b = true) : fp_eX0_perform_3_x_x_x_x a b = true := pvfp_sub (l1 := fpL_eX0_run_3_6_1_x_0_6) (l2 := fpL_eX0_perform_3_x_x_x_x) (by decide) a b h
theorem fp_eX0_perform_3_x_x_x_x_fp_eX0_run_3_6_2_x_0_6 (a b : Nat) (h : fp_eX0_run_3_6_2_x_0_6 a b = true) : fp_eX0_perform_3_x_x_x_x a b = true := pvfp_sub (l1 := fpL_eX0_run_3_6_2_x_0_6) (l2 := fpL_eX0_perform_3_x_x_x_x) (by decide) a b h
set_option maxHeartbeats 4000000 in
set_option maxRecDepth 10000 in
theorem se_X0_perform_3_x_x_x_x (M : pvM) (hok : pvOk M) (q1 : Nat) (n2 : Int32) (n3 : Int32) (n4 : Int32) (hq1 : pvkl q1 = 3) (hn2 : 0 ≤ Int32.toInt n2 ∧ Int32.toInt n2 ≤ 6) (hn3 : 0 ≤ Int32.toInt n3 ∧ Int32.toInt n3 ≤ 2) (d : Nat) (hd : 5 ≤ d) : PW 3 d (0, [some (pvR 3), some (pvR q1), some (pvI n2), some (pvI n3), some (pvI n4)], [], M) (fun r X => (∃ x : Int32, r = some (pvI x) ∧ True ∧ x = (if (M.1 q1 0) = 0 then (if n3 = 0 then (n4 + n2) else (if n3 = 1 then ((n4 + n2) - (M.1 q1 1)) else (((n4 + n2) - (M.1 q1 1)) * 2))) else (if (M.1 q1 0) = 1 then (if n3 = 0 then (n4 + n2) else (if n3 = 1 then (((n4 + n2) - (M.1 q1 1)) ^^^ 6) else ((((n4 + n2) - (M.1 q1 1)) ^^^ 6) * 2))) else (if (M.1 q1 0) = 2 then (if n3 = 0 then ((n4 * 3) + n2) else (if n3 = 1 then (((n4 * 3) + n2) - (M.1 q1 1)) else ((((n4 * 3) + n2) - (M.1 q1 1)) * 2))) else (if (M.1 q1 0) = 3 then (if n3 = 0 then (n4 + n2) else (if n3 = 1 then ((n4 + n2) - (M.1 q1 1)) else ((((n4 + n2) - (M.1 q1 1)) * 2) + ((1 + n2) - (M.1 q1 1))))) else (if (M.1 q1 0) = 4 then (if n3 = 0 then (-(n4 + n2)) else (if n3 = 1 then (((-((n4 + 1) + n2)) - (M.1 q1 1)) ^^^ 6) else ((((-((n4 + 1) + n2)) - (M.1 q1 1)) ^^^ 6) * 2))) else (if (M.1 q1 0) = 5 then (if n3 = 0 then ((n4 * 3) + n2) else (if n3 = 1 then (((n4 * 3) + n2) - (M.1 q1 1)) else (((((n4 - n2) * 3) + n2) - (M.1 q1 1)) * 2))) else (if n3 = 0 then ((n4 + n2) ^^^ (M.1 q1 1)) else (if n3 = 1 then ((((n4 + n2) ^^^ (M.1 q1 1)) - (M.1 q1 1)) + (2 + n2)) else ((((((n4 + n2) ^^^ (M.1 q1 1)) - (M.1 q1 1)) + (2 + n2)) * 2) + ((((1 + n2) ^^^ (M.1 q1 1)) - (M.1 q1 1)) + (2 + n2)))))))))))) ∧ pvOk X ∧ pvFr fp_eX0_perform_3_x_x_x_x M X) := by
  have hT : pvdom 3 = pvD_3 := rfl
  refine pw_blkw hT 3 (pc := 5) (lo := [some (pvR 3), some (pvR q1), some (pvI n2), some (pvI n3), some (pvI n4)]) (st := []) (M := pvu M 3 1 0) rfl ⟨trivial, trivial, rfl, trivial⟩ (fun M1_ e2_ => ?_)
  have o3_ : pvOk M1_ := pvok_u2 e2_ hok rfl (zr_wide (show 0 ≤ Int32.toInt 0 ∧ Int32.toInt 0 ≤ 0 from (by decide)) (by decide) (by decide))
  have f4_ : pvFr fp_eX0_perform_3_x_x_x_x M M1_ := pvfr_u e2_ pvfr_0 rfl
  have b5_ : 0 ≤ Int32.toInt (M1_.1 q1 0) ∧ Int32.toInt (M1_.1 q1 0) ≤ 6 := pvok_r o3_ q1 0 ((pvrg_o 0 hq1 (by decide) (by decide)).trans rfl)
  refine pw_blk hT 3 (S' := (10, [some (pvR 3), some (pvR q1), some (pvI n2), some (pvI n3), some (pvI n4)], [pvI (M1_.1 q1 0), pvR 3], M1_)) rfl ⟨trivial, trivial, hq1, trivial⟩ ?_
  have e6_ : (M1_.1 q1 0) = (M.1 q1 0) := (pvu_n e2_ q1 0 (Or.inl (fun z => absurd (z ▸ hq1) (by decide))))
  refine pw_eqI e6_ ?_
  have b7_ : 0 ≤ Int32.toInt (M.1 q1 0) ∧ Int32.toInt (M.1 q1 0) ≤ 6 := (by rw [← e6_]; exact b5_)
  refine pw_blkw hT 1 (pc := 13) (lo := [some (pvR 3), some (pvR q1), some (pvI n2), some (pvI n3), some (pvI n4)]) (st := []) (M := pvu M1_ 3 2 (M.1 q1 0)) rfl ⟨rfl, trivial⟩ (fun M8_ e9_ => ?_)
  have o10_ : pvOk M8_ := pvok_u2 e9_ o3_ rfl (zbnd (M.1 q1 0))
  have f11_ : pvFr fp_eX0_perform_3_x_x_x_x M M8_ := pvfr_u e9_ f4_ rfl
  have b12_ : 0 ≤ Int32.toInt (M8_.1 q1 1) ∧ Int32.toInt (M8_.1 q1 1) ≤ 9 := pvok_r o10_ q1 1 ((pvrg_o 1 hq1 (by decide) (by decide)).trans rfl)
  refine pw_blk hT 3 (S' := (18, [some (pvR 3), some (pvR q1), some (pvI n2), some (pvI n3), some (pvI n4)], [pvI (M8_.1 q1 1), pvR 3], M8_)) rfl ⟨trivial, trivial, hq1, trivial⟩ ?_
  have e13_ : (M8_.1 q1 1) = (M.1 q1 1) := ((pvu_n e9_ q1 1 (Or.inl (fun z => absurd (z ▸ hq1) (by decide)))).trans (pvu_n e2_ q1 1 (Or.inl (fun z => absurd (z ▸ hq1) (by decide)))))
  refine pw_eqI e13_ ?_
  have b14_ : 0 ≤ Int32.toInt (M.1 q1 1) ∧ Int32.toInt (M.1 q1 1) ≤ 9 := (by rw [← e13_]; exact b12_)
  refine pw_blkw hT 1 (pc := 21) (lo := [some (pvR 3), some (pvR q1), some (pvI n2), some (pvI n3), some (pvI n4)]) (st := []) (M := pvu M8_ 3 3 (M.1 q1 1)) rfl ⟨rfl, trivial⟩ (fun M15_ e16_ => ?_)
  have o17_ : pvOk M15_ := pvok_u2 e16_ o10_ rfl (zbnd (M.1 q1 1))
  have f18_ : pvFr fp_eX0_perform_3_x_x_x_x M M15_ := pvfr_u e16_ f11_ rfl
  refine pw_blkw hT 3 (pc := 26) (lo := [some (pvR 3), some (pvR q1), some (pvI n2), some (pvI n3), some (pvI n4)]) (st := []) (M := pvu M15_ 3 4 n2) rfl ⟨trivial, trivial, rfl, trivial⟩ (fun M19_ e20_ => ?_)
  have o21_ : pvOk M19_ := pvok_u2 e20_ o17_ rfl (zbnd n2)
  have f22_ : pvFr fp_eX0_perform_3_x_x_x_x M M19_ := pvfr_u e20_ f18_ rfl
  have e23_ : (M19_.1 3 2) = (M.1 q1 0) := (((pvu_n e20_ 3 2 (Or.inr (by decide))).trans (pvu_n e16_ 3 2 (Or.inr (by decide)))).trans (pvu_s e9_))
  have b24_ : 0 ≤ Int32.toInt (M19_.1 3 2) ∧ Int32.toInt (M19_.1 3 2) ≤ 6 := (by rw [e23_]; exact b7_)
  refine pw_blk hT 3 (S' := (31, [some (pvR 3), some (pvR q1), some (pvI n2), some (pvI n3), some (pvI n4)], [pvI (M19_.1 3 2), pvR 3], M19_)) rfl ⟨trivial, trivial, rfl, trivial⟩ ?_
  have e25_ : (M19_.1 3 2) = (M.1 q1 0) := (((pvu_n e20_ 3 2 (Or.inr (by decide))).trans (pvu_n e16_ 3 2 (Or.inr (by decide)))).trans (pvu_s e9_))
  refine pw_eqI e25_ ?_
  by_cases c26_ : (M.1 q1 0) = 0
  · refine pw_eqI c26_ ?_
    have b27_ : 0 ≤ Int32.toInt (M.1 q1 0) ∧ Int32.toInt (M.1 q1 0) ≤ 0 := (by have u0 := b7_; have u1 := (zi_eq _ _).mp c26_; have u2 := (show 0 ≤ Int32.toInt 0 ∧ Int32.toInt 0 ≤ 0 from (by decide)); omega)
    refine pw_blk hT 1 (S' := (32, [some (pvR 3), some (pvR q1), some (pvI n2), some (pvI n3), some (pvI n4)], [pvI n3, pvI 0, pvR 3], M19_)) rfl ⟨trivial, trivial⟩ ?_
    by_cases c28_ : n3 = 0
    · refine pw_eqI c28_ ?_
      have b29_ : 0 ≤ Int32.toInt n3 ∧ Int32.toInt n3 ≤ 0 := (by have u0 := hn3; have u1 := (zi_eq _ _).mp c28_; have u2 := (show 0 ≤ Int32.toInt 0 ∧ Int32.toInt 0 ≤ 0 from (by decide)); omega)
      refine pw_blk hT 2 (S' := (35, [some (pvR 3), some (pvR q1), some (pvI n2), some (pvI n3), some (pvI n4)], [pvI 0, pvI n4, pvI 0, pvI 0, pvR 3], M19_)) rfl ⟨trivial, trivial, trivial⟩ ?_
      have b30_ : 0 ≤ Int32.toInt (M19_.1 3 2) ∧ Int32.toInt (M19_.1 3 2) ≤ 0 := (by rw [(((pvu_n e20_ 3 2 (Or.inr (by decide))).trans (pvu_n e16_ 3 2 (Or.inr (by decide)))).trans (pvu_s e9_))]; exact b27_)
      have e31_ : (M19_.1 3 1) = 0 := ((((pvu_n e20_ 3 1 (Or.inr (by decide))).trans (pvu_n e16_ 3 1 (Or.inr (by decide)))).trans (pvu_n e9_ 3 1 (Or.inr (by decide)))).trans (pvu_s e2_))
      have b32_ : 0 ≤ Int32.toInt (M19_.1 3 1) ∧ Int32.toInt (M19_.1 3 1) ≤ 0 := (by rw [e31_]; exact (show 0 ≤ Int32.toInt 0 ∧ Int32.toInt 0 ≤ 0 from (by decide)))
      refine pw_callGd hT (as := [pvR 3, pvI 0, pvI 0, pvI n4, pvI 0]) (lo1 := [some (pvR 3), some (pvI 0), some (pvI 0), some (pvI n4), some (pvI 0), none, none]) (d1 := d) (rest := []) rfl rfl rfl rfl rfl (fun h => absurd h (by decide)) (Nat.zero_le _) rfl rfl rfl (se_X0_run_3_0_0_x_0_0 M19_ o21_ n4 (zr_wide b32_ (by decide) (by decide)) b30_ d) (fun x34_ M35_ b36_ o37_ g38_ d33_ => ?_)
      have f39_ : pvFr fp_eX0_perform_3_x_x_x_x M M35_ := pvfr_t g38_ f22_ fp_eX0_perform_3_x_x_x_x_fp_eX0_run_3_0_0_x_0_0
      have b40_ : 0 ≤ Int32.toInt (M35_.1 3 1) ∧ Int32.toInt (M35_.1 3 1) ≤ 1 := (by have u0 := b32_; have u1 := d33_; have u2 := pvok_r o37_ 3 1 (lo := 0) (hi := 1000000) rfl; omega)
      have u41_ : Int32.toInt 0 = 0 := by decide
      obtain ⟨b42_, d43_⟩ := b36_
      subst d43_
      have e44_ : (n4 + (M19_.1 3 4)) = (n4 + n2) := (show (n4 + (M19_.1 3 4)) = (n4 + n2) from by rw [(pvu_s e20_)])
      refine pw_eqI e44_ ?_
      exact pw_ret hT rfl (r := some (pvI (n4 + n2))) (M' := M35_) ⟨rfl, rfl⟩ ⟨⟨_, rfl, trivial, ((if_pos c26_).trans (if_pos c28_)).symm⟩, o37_, f39_⟩
    · have b45_ : 1 ≤ Int32.toInt n3 ∧ Int32.toInt n3 ≤ 2 := (by have u0 := hn3; have u1 := (not_congr (zi_eq _ _)).mp c28_; have u2 := (show 0 ≤ Int32.toInt 0 ∧ Int32.toInt 0 ≤ 0 from (by decide)); omega)
      by_cases c46_ : n3 = 1
      · refine pw_eqI c46_ ?_
        have b47_ : 1 ≤ Int32.toInt n3 ∧ Int32.toInt n3 ≤ 1 := (by have u0 := b45_; have u1 := (zi_eq _ _).mp c46_; have u2 := (show 1 ≤ Int32.toInt 1 ∧ Int32.toInt 1 ≤ 1 from (by decide)); omega)
        refine pw_blk hT 2 (S' := (35, [some (pvR 3), some (pvR q1), some (pvI n2), some (pvI n3), some (pvI n4)], [pvI 0, pvI n4, pvI 1, pvI 0, pvR 3], M19_)) rfl ⟨trivial, trivial, trivial⟩ ?_
        have b48_ : 0 ≤ Int32.toInt (M19_.1 3 2) ∧ Int32.toInt (M19_.1 3 2) ≤ 0 := (by rw [(((pvu_n e20_ 3 2 (Or.inr (by decide))).trans (pvu_n e16_ 3 2 (Or.inr (by decide)))).trans (pvu_s e9_))]; exact b27_)
        have e49_ : (M19_.1 3 1) = 0 := ((((pvu_n e20_ 3 1 (Or.inr (by decide))).trans (pvu_n e16_ 3 1 (Or.inr (by decide)))).trans (pvu_n e9_ 3 1 (Or.inr (by decide)))).trans (pvu_s e2_))
        have b50_ : 0 ≤ Int32.toInt (M19_.1 3 1) ∧ Int32.toInt (M19_.1 3 1) ≤ 0 := (by rw [e49_]; exact (show 0 ≤ Int32.toInt 0 ∧ Int32.toInt 0 ≤ 0 from (by decide)))
        refine pw_callGd hT (as := [pvR 3, pvI 0, pvI 1, pvI n4, pvI 0]) (lo1 := [some (pvR 3), some (pvI 0), some (pvI 1), some (pvI n4), some (pvI 0), none, none]) (d1 := d) (rest := []) rfl rfl rfl rfl rfl (fun h => absurd h (by decide)) (Nat.zero_le _) rfl rfl rfl (se_X0_run_3_0_1_x_0_0 M19_ o21_ n4 (zr_wide b50_ (by decide) (by decide)) b48_ d (Nat.le_trans (by decide) hd)) (fun x52_ M53_ b54_ o55_ g56_ d51_ => ?_)
        have f57_ : pvFr fp_eX0_perform_3_x_x_x_x M M53_ := pvfr_t g56_ f22_ fp_eX0_perform_3_x_x_x_x_fp_eX0_run_3_0_1_x_0_0
        have b58_ : 0 ≤ Int32.toInt (M53_.1 3 1) ∧ Int32.toInt (M53_.1 3 1) ≤ 2 := (by have u0 := b50_; have u1 := d51_; have u2 := pvok_r o55_ 3 1 (lo := 0) (hi := 1000000) rfl; omega)
        have u59_ : Int32.toInt 0 = 0 := by decide
        have u60_ : Int32.toInt 1 = 1 := by decide
        obtain ⟨b61_, d62_⟩ := b54_
        subst d62_
        have e63_ : ((n4 + (M19_.1 3 4)) - (M19_.1 3 3)) = ((n4 + n2) - (M.1 q1 1)) := (show ((n4 + (M19_.1 3 4)) - (M19_.1 3 3)) = ((n4 + n2) - (M.1 q1 1)) from by rw [(pvu_s e20_), ((pvu_n e20_ 3 3 (Or.inr (by decide))).trans (pvu_s e16_))])
        refine pw_eqI e63_ ?_
        exact pw_ret hT rfl (r := some (pvI ((n4 + n2) - (M.1 q1 1)))) (M' := M53_) ⟨rfl, rfl⟩ ⟨⟨_, rfl, trivial, ((if_pos c26_).trans ((if_neg c28_).trans (if_pos c46_))).symm⟩, o55_, f57_⟩
      · have b64_ : 2 ≤ Int32.toInt n3 ∧ Int32.toInt n3 ≤ 2 := (by have u0 := b45_; have u1 := (not_congr (zi_eq _ _)).mp c46_; have u2 := (show 1 ≤ Int32.toInt 1 ∧ Int32.toInt 1 ≤ 1 from (by decide)); omega)
        refine pw_eqI ((zi_eq _ (2)).mpr (by have u0 := b64_; have u1 : Int32.toInt (2) = 2 := (by decide); omega)) ?_
        refine pw_blk hT 2 (S' := (35, [some (pvR 3), some (pvR q1), some (pvI n2), some (pvI n3), some (pvI n4)], [pvI 0, pvI n4, pvI 2, pvI 0, pvR 3], M19_)) rfl ⟨trivial, trivial, trivial⟩ ?_
        have b65_ : 0 ≤ Int32.toInt (M19_.1 3 2) ∧ Int32.toInt (M19_.1 3 2) ≤ 0 := (by rw [(((pvu_n e20_ 3 2 (Or.inr (by decide))).trans (pvu_n e16_ 3 2 (Or.inr (by decide)))).trans (pvu_s e9_))]; exact b27_)
        have e66_ : (M19_.1 3 1) = 0 := ((((pvu_n e20_ 3 1 (Or.inr (by decide))).trans (pvu_n e16_ 3 1 (Or.inr (by decide)))).trans (pvu_n e9_ 3 1 (Or.inr (by decide)))).trans (pvu_s e2_))
        have b67_ : 0 ≤ Int32.toInt (M19_.1 3 1) ∧ Int32.toInt (M19_.1 3 1) ≤ 0 := (by rw [e66_]; exact (show 0 ≤ Int32.toInt 0 ∧ Int32.toInt 0 ≤ 0 from (by decide)))
        refine pw_callGd hT (as := [pvR 3, pvI 0, pvI 2, pvI n4, pvI 0]) (lo1 := [some (pvR 3), some (pvI 0), some (pvI 2), some (pvI n4), some (pvI 0), none, none]) (d1 := d) (rest := []) rfl rfl rfl rfl rfl (fun h => absurd h (by decide)) (Nat.zero_le _) rfl rfl rfl (se_X0_run_3_0_2_x_0_0 M19_ o21_ n4 (zr_wide b67_ (by decide) (by decide)) b65_ d (Nat.le_trans (by decide) hd)) (fun x69_ M70_ b71_ o72_ g73_ d68_ => ?_)
        have f74_ : pvFr fp_eX0_perform_3_x_x_x_x M M70_ := pvfr_t g73_ f22_ fp_eX0_perform_3_x_x_x_x_fp_eX0_run_3_0_2_x_0_0
        have b75_ : 0 ≤ Int32.toInt (M70_.1 3 1) ∧ Int32.toInt (M70_.1 3 1) ≤ 3 := (by have u0 := b67_; have u1 := d68_; have u2 := pvok_r o72_ 3 1 (lo := 0) (hi := 1000000) rfl; omega)
        have u76_ : Int32.toInt 0 = 0 := by decide
        have u77_ : Int32.toInt 2 = 2 := by decide
        obtain ⟨b78_, d79_⟩ := b71_
        subst d79_
        have e80_ : (((n4 + (M19_.1 3 4)) - (M19_.1 3 3)) * 2) = (((n4 + n2) - (M.1 q1 1)) * 2) := (show (((n4 + (M19_.1 3 4)) - (M19_.1 3 3)) * 2) = (((n4 + n2) - (M.1 q1 1)) * 2) from by rw [(pvu_s e20_), ((pvu_n e20_ 3 3 (Or.inr (by decide))).trans (pvu_s e16_))])
        refine pw_eqI e80_ ?_
        exact pw_ret hT rfl (r := some (pvI (((n4 + n2) - (M.1 q1 1)) * 2))) (M' := M70_) ⟨rfl, rfl⟩ ⟨⟨_, rfl, trivial, ((if_pos c26_).trans ((if_neg c28_).trans (if_neg c46_))).symm⟩, o72_, f74_⟩
  · have b81_ : 1 ≤ Int32.toInt (M.1 q1 0) ∧ Int32.toInt (M.1 q1 0) ≤ 6 := (by have u0 := b7_; have u1 := (not_congr (zi_eq _ _)).mp c26_; have u2 := (show 0 ≤ Int32.toInt 0 ∧ Int32.toInt 0 ≤ 0 from (by decide)); omega)
    by_cases c82_ : (M.1 q1 0) = 1
    · refine pw_eqI c82_ ?_
      have b83_ : 1 ≤ Int32.toInt (M.1 q1 0) ∧ Int32.toInt (M.1 q1 0) ≤ 1 := (by have u0 := b81_; have u1 := (zi_eq _ _).mp c82_; have u2 := (show 1 ≤ Int32.toInt 1 ∧ Int32.toInt 1 ≤ 1 from (by decide)); omega)
      refine pw_blk hT 1 (S' := (32, [some (pvR 3), some (pvR q1), some (pvI n2), some (pvI n3), some (pvI n4)], [pvI n3, pvI 1, pvR 3], M19_)) rfl ⟨trivial, trivial⟩ ?_
      by_cases c84_ : n3 = 0
      · refine pw_eqI c84_ ?_
        have b85_ : 0 ≤ Int32.toInt n3 ∧ Int32.toInt n3 ≤ 0 := (by have u0 := hn3; have u1 := (zi_eq _ _).mp c84_; have u2 := (show 0 ≤ Int32.toInt 0 ∧ Int32.toInt 0 ≤ 0 from (by decide)); omega)
        refine pw_blk hT 2 (S' := (35, [some (pvR 3), some (pvR q1), some (pvI n2), some (pvI n3), some (pvI n4)], [pvI 0, pvI n4, pvI 0, pvI 1, pvR 3], M19_)) rfl ⟨trivial, trivial, trivial⟩ ?_
        have b86_ : 1 ≤ Int32.toInt (M19_.1 3 2) ∧ Int32.toInt (M19_.1 3 2) ≤ 1 := (by rw [(((pvu_n e20_ 3 2 (Or.inr (by decide))).trans (pvu_n e16_ 3 2 (Or.inr (by decide)))).trans (pvu_s e9_))]; exact b83_)
        have e87_ : (M19_.1 3 1) = 0 := ((((pvu_n e20_ 3 1 (Or.inr (by decide))).trans (pvu_n e16_ 3 1 (Or.inr (by decide)))).trans (pvu_n e9_ 3 1 (Or.inr (by decide)))).trans (pvu_s e2_))
        have b88_ : 0 ≤ Int32.toInt (M19_.1 3 1) ∧ Int32.toInt (M19_.1 3 1) ≤ 0 := (by rw [e87_]; exact (show 0 ≤ Int32.toInt 0 ∧ Int32.toInt 0 ≤ 0 from (by decide)))
        refine pw_callGd hT (as := [pvR 3, pvI 1, pvI 0, pvI n4, pvI 0]) (lo1 := [some (pvR 3), some (pvI 1), some (pvI 0), some (pvI n4), some (pvI 0), none, none]) (d1 := d) (rest := []) rfl rfl rfl rfl rfl (fun h => absurd h (by decide)) (Nat.zero_le _) rfl rfl rfl (se_X0_run_3_1_0_x_0_1 M19_ o21_ n4 (zr_wide b88_ (by decide) (by decide)) b86_ d) (fun x90_ M91_ b92_ o93_ g94_ d89_ => ?_)
        have f95_ : pvFr fp_eX0_perform_3_x_x_x_x M M91_ := pvfr_t g94_ f22_ fp_eX0_perform_3_x_x_x_x_fp_eX0_run_3_1_0_x_0_1
        have b96_ : 0 ≤ Int32.toInt (M91_.1 3 1) ∧ Int32.toInt (M91_.1 3 1) ≤ 1 := (by have u0 := b88_; have u1 := d89_; have u2 := pvok_r o93_ 3 1 (lo := 0) (hi := 1000000) rfl; omega)
        have u97_ : Int32.toInt 1 = 1 := by decide
        have u98_ : Int32.toInt 0 = 0 := by decide
        obtain ⟨b99_, d100_⟩ := b92_
        subst d100_
        have e101_ : (n4 + (M19_.1 3 4)) = (n4 + n2) := (show (n4 + (M19_.1 3 4)) = (n4 + n2) from by rw [(pvu_s e20_)])
        refine pw_eqI e101_ ?_
        exact pw_ret hT rfl (r := some (pvI (n4 + n2))) (M' := M91_) ⟨rfl, rfl⟩ ⟨⟨_, rfl, trivial, ((if_neg c26_).trans ((if_pos c82_).trans (if_pos c84_))).symm⟩, o93_, f95_⟩
      · have b102_ : 1 ≤ Int32.toInt n3 ∧ Int32.toInt n3 ≤ 2 := (by have u0 := hn3; have u1 := (not_congr (zi_eq _ _)).mp c84_; have u2 := (show 0 ≤ Int32.toInt 0 ∧ Int32.toInt 0 ≤ 0 from (by decide)); omega)
        by_cases c103_ : n3 = 1
        · refine pw_eqI c103_ ?_
          have b104_ : 1 ≤ Int32.toInt n3 ∧ Int32.toInt n3 ≤ 1 := (by have u0 := b102_; have u1 := (zi_eq _ _).mp c103_; have u2 := (show 1 ≤ Int32.toInt 1 ∧ Int32.toInt 1 ≤ 1 from (by decide)); omega)
          refine pw_blk hT 2 (S' := (35, [some (pvR 3), some (pvR q1), some (pvI n2), some (pvI n3), some (pvI n4)], [pvI 0, pvI n4, pvI 1, pvI 1, pvR 3], M19_)) rfl ⟨trivial, trivial, trivial⟩ ?_
          have b105_ : 1 ≤ Int32.toInt (M19_.1 3 2) ∧ Int32.toInt (M19_.1 3 2) ≤ 1 := (by rw [(((pvu_n e20_ 3 2 (Or.inr (by decide))).trans (pvu_n e16_ 3 2 (Or.inr (by decide)))).trans (pvu_s e9_))]; exact b83_)
          have e106_ : (M19_.1 3 1) = 0 := ((((pvu_n e20_ 3 1 (Or.inr (by decide))).trans (pvu_n e16_ 3 1 (Or.inr (by decide)))).trans (pvu_n e9_ 3 1 (Or.inr (by decide)))).trans (pvu_s e2_))
          have b107_ : 0 ≤ Int32.toInt (M19_.1 3 1) ∧ Int32.toInt (M19_.1 3 1) ≤ 0 := (by rw [e106_]; exact (show 0 ≤ Int32.toInt 0 ∧ Int32.toInt 0 ≤ 0 from (by decide)))
          refine pw_callGd hT (as := [pvR 3, pvI 1, pvI 1, pvI n4, pvI 0]) (lo1 := [some (pvR 3), some (pvI 1), some (pvI 1), some (pvI n4), some (pvI 0), none, none]) (d1 := d) (rest := []) rfl rfl rfl rfl rfl (fun h => absurd h (by decide)) (Nat.zero_le _) rfl rfl rfl (se_X0_run_3_1_1_x_0_1 M19_ o21_ n4 (zr_wide b107_ (by decide) (by decide)) b105_ d (Nat.le_trans (by decide) hd)) (fun x109_ M110_ b111_ o112_ g113_ d108_ => ?_)
          have f114_ : pvFr fp_eX0_perform_3_x_x_x_x M M110_ := pvfr_t g113_ f22_ fp_eX0_perform_3_x_x_x_x_fp_eX0_run_3_1_1_x_0_1
          have b115_ : 0 ≤ Int32.toInt (M110_.1 3 1) ∧ Int32.toInt (M110_.1 3 1) ≤ 3 := (by have u0 := b107_; have u1 := d108_; have u2 := pvok_r o112_ 3 1 (lo := 0) (hi := 1000000) rfl; omega)
          have u116_ : Int32.toInt 1 = 1 := by decide
          have u117_ : Int32.toInt 0 = 0 := by decide
          obtain ⟨b118_, d119_⟩ := b111_
          subst d119_
          have e120_ : (((n4 + (M19_.1 3 4)) - (M19_.1 3 3)) ^^^ 6) = (((n4 + n2) - (M.1 q1 1)) ^^^ 6) := (show (((n4 + (M19_.1 3 4)) - (M19_.1 3 3)) ^^^ 6) = (((n4 + n2) - (M.1 q1 1)) ^^^ 6) from by rw [(pvu_s e20_), ((pvu_n e20_ 3 3 (Or.inr (by decide))).trans (pvu_s e16_))])
          refine pw_eqI e120_ ?_
          exact pw_ret hT rfl (r := some (pvI (((n4 + n2) - (M.1 q1 1)) ^^^ 6))) (M' := M110_) ⟨rfl, rfl⟩ ⟨⟨_, rfl, trivial, ((if_neg c26_).trans ((if_pos c82_).trans ((if_neg c84_).trans (if_pos c103_)))).symm⟩, o112_, f114_⟩
        · have b121_ : 2 ≤ Int32.toInt n3 ∧ Int32.toInt n3 ≤ 2 := (by have u0 := b102_; have u1 := (not_congr (zi_eq _ _)).mp c103_; have u2 := (show 1 ≤ Int32.toInt 1 ∧ Int32.toInt 1 ≤ 1 from (by decide)); omega)
          refine pw_eqI ((zi_eq _ (2)).mpr (by have u0 := b121_; have u1 : Int32.toInt (2) = 2 := (by decide); omega)) ?_
          refine pw_blk hT 2 (S' := (35, [some (pvR 3), some (pvR q1), some (pvI n2), some (pvI n3), some (pvI n4)], [pvI 0, pvI n4, pvI 2, pvI 1, pvR 3], M19_)) rfl ⟨trivial, trivial, trivial⟩ ?_
          have b122_ : 1 ≤ Int32.toInt (M19_.1 3 2) ∧ Int32.toInt (M19_.1 3 2) ≤ 1 := (by rw [(((pvu_n e20_ 3 2 (Or.inr (by decide))).trans (pvu_n e16_ 3 2 (Or.inr (by decide)))).trans (pvu_s e9_))]; exact b83_)
          have e123_ : (M19_.1 3 1) = 0 := ((((pvu_n e20_ 3 1 (Or.inr (by decide))).trans (pvu_n e16_ 3 1 (Or.inr (by decide)))).trans (pvu_n e9_ 3 1 (Or.inr (by decide)))).trans (pvu_s e2_))
          have b124_ : 0 ≤ Int32.toInt (M19_.1 3 1) ∧ Int32.toInt (M19_.1 3 1) ≤ 0 := (by rw [e123_]; exact (show 0 ≤ Int32.toInt 0 ∧ Int32.toInt 0 ≤ 0 from (by decide)))
          refine pw_callGd hT (as := [pvR 3, pvI 1, pvI 2, pvI n4, pvI 0]) (lo1 := [some (pvR 3), some (pvI 1), some (pvI 2), some (pvI n4), some (pvI 0), none, none]) (d1 := d) (rest := []) rfl rfl rfl rfl rfl (fun h => absurd h (by decide)) (Nat.zero_le _) rfl rfl rfl (se_X0_run_3_1_2_x_0_1 M19_ o21_ n4 (zr_wide b124_ (by decide) (by decide)) b122_ d (Nat.le_trans (by decide) hd)) (fun x126_ M127_ b128_ o129_ g130_ d125_ => ?_)
          have f131_ : pvFr fp_eX0_perform_3_x_x_x_x M M127_ := pvfr_t g130_ f22_ fp_eX0_perform_3_x_x_x_x_fp_eX0_run_3_1_2_x_0_1
          have b132_ : 0 ≤ Int32.toInt (M127_.1 3 1) ∧ Int32.toInt (M127_.1 3 1) ≤ 4 := (by have u0 := b124_; have u1 := d125_; have u2 := pvok_r o129_ 3 1 (lo := 0) (hi := 1000000) rfl; omega)
          have u133_ : Int32.toInt 1 = 1 := by decide
          have u134_ : Int32.toInt 2 = 2 := by decide
          have u135_ : Int32.toInt 0 = 0 := by decide
          obtain ⟨b136_, d137_⟩ := b128_
          subst d137_
          have e138_ : ((((n4 + (M19_.1 3 4)) - (M19_.1 3 3)) ^^^ 6) * 2) = ((((n4 + n2) - (M.1 q1 1)) ^^^ 6) * 2) := (show ((((n4 + (M19_.1 3 4)) - (M19_.1 3 3)) ^^^ 6) * 2) = ((((n4 + n2) - (M.1 q1 1)) ^^^ 6) * 2) from by rw [(pvu_s e20_), ((pvu_n e20_ 3 3 (Or.inr (by decide))).trans (pvu_s e16_))])
          refine pw_eqI e138_ ?_
          exact pw_ret hT rfl (r := some (pvI ((((n4 + n2) - (M.1 q1 1)) ^^^ 6) * 2))) (M' := M127_) ⟨rfl, rfl⟩ ⟨⟨_, rfl, trivial, ((if_neg c26_).trans ((if_pos c82_).trans ((if_neg c84_).trans (if_neg c103_)))).symm⟩, o129_, f131_⟩
    · have b139_ : 2 ≤ Int32.toInt (M.1 q1 0) ∧ Int32.toInt (M.1 q1 0) ≤ 6 := (by have u0 := b81_; have u1 := (not_congr (zi_eq _ _)).mp c82_; have u2 := (show 1 ≤ Int32.toInt 1 ∧ Int32.toInt 1 ≤ 1 from (by decide)); omega)
      by_cases c140_ : (M.1 q1 0) = 2
      · refine pw_eqI c140_ ?_
        have b141_ : 2 ≤ Int32.toInt (M.1 q1 0) ∧ Int32.toInt (M.1 q1 0) ≤ 2 := (by have u0 := b139_; have u1 := (zi_eq _ _).mp c140_; have u2 := (show 2 ≤ Int32.toInt 2 ∧ Int32.toInt 2 ≤ 2 from (by decide)); omega)
        refine pw_blk hT 1 (S' := (32, [some (pvR 3), some (pvR q1), some (pvI n2), some (pvI n3), some (pvI n4)], [pvI n3, pvI 2, pvR 3], M19_)) rfl ⟨trivial, trivial⟩ ?_
        by_cases c142_ : n3 = 0
        · refine pw_eqI c142_ ?_
          have b143_ : 0 ≤ Int32.toInt n3 ∧ Int32.toInt n3 ≤ 0 := (by have u0 := hn3; have u1 := (zi_eq _ _).mp c142_; have u2 := (show 0 ≤ Int32.toInt 0 ∧ Int32.toInt 0 ≤ 0 from (by decide)); omega)
          refine pw_blk hT 2 (S' := (35, [some (pvR 3), some (pvR q1), some (pvI n2), some (pvI n3), some (pvI n4)], [pvI 0, pvI n4, pvI 0, pvI 2, pvR 3], M19_)) rfl ⟨trivial, trivial, trivial⟩ ?_
          have b144_ : 2 ≤ Int32.toInt (M19_.1 3 2) ∧ Int32.toInt (M19_.1 3 2) ≤ 2 := (by rw [(((pvu_n e20_ 3 2 (Or.inr (by decide))).trans (pvu_n e16_ 3 2 (Or.inr (by decide)))).trans (pvu_s e9_))]; exact b141_)
          have e145_ : (M19_.1 3 1) = 0 := ((((pvu_n e20_ 3 1 (Or.inr (by decide))).trans (pvu_n e16_ 3 1 (Or.inr (by decide)))).trans (pvu_n e9_ 3 1 (Or.inr (by decide)))).trans (pvu_s e2_))
          have b146_ : 0 ≤ Int32.toInt (M19_.1 3 1) ∧ Int32.toInt (M19_.1 3 1) ≤ 0 := (by rw [e145_]; exact (show 0 ≤ Int32.toInt 0 ∧ Int32.toInt 0 ≤ 0 from (by decide)))
          refine pw_callGd hT (as := [pvR 3, pvI 2, pvI 0, pvI n4, pvI 0]) (lo1 := [some (pvR 3), some (pvI 2), some (pvI 0), some (pvI n4), some (pvI 0), none, none]) (d1 := d) (rest := []) rfl rfl rfl rfl rfl (fun h => absurd h (by decide)) (Nat.zero_le _) rfl rfl rfl (se_X0_run_3_2_0_x_0_2 M19_ o21_ n4 (zr_wide b146_ (by decide) (by decide)) b144_ d (Nat.le_trans (by decide) hd)) (fun x148_ M149_ b150_ o151_ g152_ d147_ => ?_)
          have f153_ : pvFr fp_eX0_perform_3_x_x_x_x M M149_ := pvfr_t g152_ f22_ fp_eX0_perform_3_x_x_x_x_fp_eX0_run_3_2_0_x_0_2
          have b154_ : 0 ≤ Int32.toInt (M149_.1 3 1) ∧ Int32.toInt (M149_.1 3 1) ≤ 2 := (by have u0 := b146_; have u1 := d147_; have u2 := pvok_r o151_ 3 1 (lo := 0) (hi := 1000000) rfl; omega)
          have u155_ : Int32.toInt 2 = 2 := by decide
          have u156_ : Int32.toInt 0 = 0 := by decide
          obtain ⟨b157_, d158_⟩ := b150_
          subst d158_
          have e159_ : ((n4 * 3) + (M19_.1 3 4)) = ((n4 * 3) + n2) := (show ((n4 * 3) + (M19_.1 3 4)) = ((n4 * 3) + n2) from by rw [(pvu_s e20_)])
          refine pw_eqI e159_ ?_
          exact pw_ret hT rfl (r := some (pvI ((n4 * 3) + n2))) (M' := M149_) ⟨rfl, rfl⟩ ⟨⟨_, rfl, trivial, ((if_neg c26_).trans ((if_neg c82_).trans ((if_pos c140_).trans (if_pos c142_)))).symm⟩, o151_, f153_⟩
        · have b160_ : 1 ≤ Int32.toInt n3 ∧ Int32.toInt n3 ≤ 2 := (by have u0 := hn3; have u1 := (not_congr (zi_eq _ _)).mp c142_; have u2 := (show 0 ≤ Int32.toInt 0 ∧ Int32.toInt 0 ≤ 0 from (by decide)); omega)
          by_cases c161_ : n3 = 1
          · refine pw_eqI c161_ ?_
            have b162_ : 1 ≤ Int32.toInt n3 ∧ Int32.toInt n3 ≤ 1 := (by have u0 := b160_; have u1 := (zi_eq _ _).mp c161_; have u2 := (show 1 ≤ Int32.toInt 1 ∧ Int32.toInt 1 ≤ 1 from (by decide)); omega)
            refine pw_blk hT 2 (S' := (35, [some (pvR 3), some (pvR q1), some (pvI n2), some (pvI n3), some (pvI n4)], [pvI 0, pvI n4, pvI 1, pvI 2, pvR 3], M19_)) rfl ⟨trivial, trivial, trivial⟩ ?_
            have b163_ : 2 ≤ Int32.toInt (M19_.1 3 2) ∧ Int32.toInt (M19_.1 3 2) ≤ 2 := (by rw [(((pvu_n e20_ 3 2 (Or.inr (by decide))).trans (pvu_n e16_ 3 2 (Or.inr (by decide)))).trans (pvu_s e9_))]; exact b141_)
            have e164_ : (M19_.1 3 1) = 0 := ((((pvu_n e20_ 3 1 (Or.inr (by decide))).trans (pvu_n e16_ 3 1 (Or.inr (by decide)))).trans (pvu_n e9_ 3 1 (Or.inr (by decide)))).trans (pvu_s e2_))
            have b165_ : 0 ≤ Int32.toInt (M19_.1 3 1) ∧ Int32.toInt (M19_.1 3 1) ≤ 0 := (by rw [e164_]; exact (show 0 ≤ Int32.toInt 0 ∧ Int32.toInt 0 ≤ 0 from (by decide)))
            refine pw_callGd hT (as := [pvR 3, pvI 2, pvI 1, pvI n4, pvI 0]) (lo1 := [some (pvR 3), some (pvI 2), some (pvI 1), some (pvI n4), some (pvI 0), none, none]) (d1 := d) (rest := []) rfl rfl rfl rfl rfl (fun h => absurd h (by decide)) (Nat.zero_le _) rfl rfl rfl (se_X0_run_3_2_1_x_0_2 M19_ o21_ n4 (zr_wide b165_ (by decide) (by decide)) b163_ d (Nat.le_trans (by decide) hd)) (fun x167_ M168_ b169_ o170_ g171_ d166_ => ?_)
            have f172_ : pvFr fp_eX0_perform_3_x_x_x_x M M168_ := pvfr_t g171_ f22_ fp_eX0_perform_3_x_x_x_x_fp_eX0_run_3_2_1_x_0_2
            have b173_ : 0 ≤ Int32.toInt (M168_.1 3 1) ∧ Int32.toInt (M168_.1 3 1) ≤ 3 := (by have u0 := b165_; have u1 := d166_; have u2 := pvok_r o170_ 3 1 (lo := 0) (hi := 1000000) rfl; omega)
            have u174_ : Int32.toInt 2 = 2 := by decide
            have u175_ : Int32.toInt 1 = 1 := by decide
            have u176_ : Int32.toInt 0 = 0 := by decide
            obtain ⟨b177_, d178_⟩ := b169_
            subst d178_
            have e179_ : (((n4 * 3) + (M19_.1 3 4)) - (M19_.1 3 3)) = (((n4 * 3) + n2) - (M.1 q1 1)) := (show (((n4 * 3) + (M19_.1 3 4)) - (M19_.1 3 3)) = (((n4 * 3) + n2) - (M.1 q1 1)) from by rw [(pvu_s e20_), ((pvu_n e20_ 3 3 (Or.inr (by decide))).trans (pvu_s e16_))])
            refine pw_eqI e179_ ?_
            exact pw_ret hT rfl (r := some (pvI (((n4 * 3) + n2) - (M.1 q1 1)))) (M' := M168_) ⟨rfl, rfl⟩ ⟨⟨_, rfl, trivial, ((if_neg c26_).trans ((if_neg c82_).trans ((if_pos c140_).trans ((if_neg c142_).trans (if_pos c161_))))).symm⟩, o170_, f172_⟩
          · have b180_ : 2 ≤ Int32.toInt n3 ∧ Int32.toInt n3 ≤ 2 := (by have u0 := b160_; have u1 := (not_congr (zi_eq _ _)).mp c161_; have u2 := (show 1 ≤ Int32.toInt 1 ∧ Int32.toInt 1 ≤ 1 from (by decide)); omega)
            refine pw_eqI ((zi_eq _ (2)).mpr (by have u0 := b180_; have u1 : Int32.toInt (2) = 2 := (by decide); omega)) ?_
            refine pw_blk hT 2 (S' := (35, [some (pvR 3), some (pvR q1), some (pvI n2), some (pvI n3), some (pvI n4)], [pvI 0, pvI n4, pvI 2, pvI 2, pvR 3], M19_)) rfl ⟨trivial, trivial, trivial⟩ ?_
            have b181_ : 2 ≤ Int32.toInt (M19_.1 3 2) ∧ Int32.toInt (M19_.1 3 2) ≤ 2 := (by rw [(((pvu_n e20_ 3 2 (Or.inr (by decide))).trans (pvu_n e16_ 3 2 (Or.inr (by decide)))).trans (pvu_s e9_))]; exact b141_)
            have e182_ : (M19_.1 3 1) = 0 := ((((pvu_n e20_ 3 1 (Or.inr (by decide))).trans (pvu_n e16_ 3 1 (Or.inr (by decide)))).trans (pvu_n e9_ 3 1 (Or.inr (by decide)))).trans (pvu_s e2_))
            have b183_ : 0 ≤ Int32.toInt (M19_.1 3 1) ∧ Int32.toInt (M19_.1 3 1) ≤ 0 := (by rw [e182_]; exact (show 0 ≤ Int32.toInt 0 ∧ Int32.toInt 0 ≤ 0 from (by decide)))
            refine pw_callGd hT (as := [pvR 3, pvI 2, pvI 2, pvI n4, pvI 0]) (lo1 := [some (pvR 3), some (pvI 2), some (pvI 2), some (pvI n4), some (pvI 0), none, none]) (d1 := d) (rest := []) rfl rfl rfl rfl rfl (fun h => absurd h (by decide)) (Nat.zero_le _) rfl rfl rfl (se_X0_run_3_2_2_x_0_2 M19_ o21_ n4 (zr_wide b183_ (by decide) (by decide)) b181_ d (Nat.le_trans (by decide) hd)) (fun x185_ M186_ b187_ o188_ g189_ d184_ => ?_)
            have f190_ : pvFr fp_eX0_perform_3_x_x_x_x M M186_ := pvfr_t g189_ f22_ fp_eX0_perform_3_x_x_x_x_fp_eX0_run_3_2_2_x_0_2
            have b191_ : 0 ≤ Int32.toInt (M186_.1 3 1) ∧ Int32.toInt (M186_.1 3 1) ≤ 4 := (by have u0 := b183_; have u1 := d184_; have u2 := pvok_r o188_ 3 1 (lo := 0) (hi := 1000000) rfl; omega)
            have u192_ : Int32.toInt 2 = 2 := by decide
            have u193_ : Int32.toInt 0 = 0 := by decide
            obtain ⟨b194_, d195_⟩ := b187_
            subst d195_
            have e196_ : ((((n4 * 3) + (M19_.1 3 4)) - (M19_.1 3 3)) * 2) = ((((n4 * 3) + n2) - (M.1 q1 1)) * 2) := (show ((((n4 * 3) + (M19_.1 3 4)) - (M19_.1 3 3)) * 2) = ((((n4 * 3) + n2) - (M.1 q1 1)) * 2) from by rw [(pvu_s e20_), ((pvu_n e20_ 3 3 (Or.inr (by decide))).trans (pvu_s e16_))])
            refine pw_eqI e196_ ?_
            exact pw_ret hT rfl (r := some (pvI ((((n4 * 3) + n2) - (M.1 q1 1)) * 2))) (M' := M186_) ⟨rfl, rfl⟩ ⟨⟨_, rfl, trivial, ((if_neg c26_).trans ((if_neg c82_).trans ((if_pos c140_).trans ((if_neg c142_).trans (if_neg c161_))))).symm⟩, o188_, f190_⟩
      · have b197_ : 3 ≤ Int32.toInt (M.1 q1 0) ∧ Int32.toInt (M.1 q1 0) ≤ 6 := (by have u0 := b139_; have u1 := (not_congr (zi_eq _ _)).mp c140_; have u2 := (show 2 ≤ Int32.toInt 2 ∧ Int32.toInt 2 ≤ 2 from (by decide)); omega)
        by_cases c198_ : (M.1 q1 0) = 3
        · refine pw_eqI c198_ ?_
          have b199_ : 3 ≤ Int32.toInt (M.1 q1 0) ∧ Int32.toInt (M.1 q1 0) ≤ 3 := (by have u0 := b197_; have u1 := (zi_eq _ _).mp c198_; have u2 := (show 3 ≤ Int32.toInt 3 ∧ Int32.toInt 3 ≤ 3 from (by decide)); omega)
          refine pw_blk hT 1 (S' := (32, [some (pvR 3), some (pvR q1), some (pvI n2), some (pvI n3), some (pvI n4)], [pvI n3, pvI 3, pvR 3], M19_)) rfl ⟨trivial, trivial⟩ ?_
          by_cases c200_ : n3 = 0
          · refine pw_eqI c200_ ?_
            have b201_ : 0 ≤ Int32.toInt n3 ∧ Int32.toInt n3 ≤ 0 := (by have u0 := hn3; have u1 := (zi_eq _ _).mp c200_; have u2 := (show 0 ≤ Int32.toInt 0 ∧ Int32.toInt 0 ≤ 0 from (by decide)); omega)
            refine pw_blk hT 2 (S' := (35, [some (pvR 3), some (pvR q1), some (pvI n2), some (pvI n3), some (pvI n4)], [pvI 0, pvI n4, pvI 0, pvI 3, pvR 3], M19_)) rfl ⟨trivial, trivial, trivial⟩ ?_
            have b202_ : 3 ≤ Int32.toInt (M19_.1 3 2) ∧ Int32.toInt (M19_.1 3 2) ≤ 3 := (by rw [(((pvu_n e20_ 3 2 (Or.inr (by decide))).trans (pvu_n e16_ 3 2 (Or.inr (by decide)))).trans (pvu_s e9_))]; exact b199_)
            have e203_ : (M19_.1 3 1) = 0 := ((((pvu_n e20_ 3 1 (Or.inr (by decide))).trans (pvu_n e16_ 3 1 (Or.inr (by decide)))).trans (pvu_n e9_ 3 1 (Or.inr (by decide)))).trans (pvu_s e2_))
            have b204_ : 0 ≤ Int32.toInt (M19_.1 3 1) ∧ Int32.toInt (M19_.1 3 1) ≤ 0 := (by rw [e203_]; exact (show 0 ≤ Int32.toInt 0 ∧ Int32.toInt 0 ≤ 0 from (by decide)))
            refine pw_callGd hT (as := [pvR 3, pvI 3, pvI 0, pvI n4, pvI 0]) (lo1 := [some (pvR 3), some (pvI 3), some (pvI 0), some (pvI n4), some (pvI 0), none, none]) (d1 := d) (rest := []) rfl rfl rfl rfl rfl (fun h => absurd h (by decide)) (Nat.zero_le _) rfl rfl rfl (se_X0_run_3_3_0_x_0_3 M19_ o21_ n4 (zr_wide b204_ (by decide) (by decide)) b202_ d) (fun x206_ M207_ b208_ o209_ g210_ d205_ => ?_)
            have f211_ : pvFr fp_eX0_perform_3_x_x_x_x M M207_ := pvfr_t g210_ f22_ fp_eX0_perform_3_x_x_x_x_fp_eX0_run_3_3_0_x_0_3
            have b212_ : 0 ≤ Int32.toInt (M207_.1 3 1) ∧ Int32.toInt (M207_.1 3 1) ≤ 1 := (by have u0 := b204_; have u1 := d205_; have u2 := pvok_r o209_ 3 1 (lo := 0) (hi := 1000000) rfl; omega)
            have u213_ : Int32.toInt 3 = 3 := by decide
            have u214_ : Int32.toInt 0 = 0 := by decide
            obtain ⟨b215_, d216_⟩ := b208_
            subst d216_
            have e217_ : (n4 + (M19_.1 3 4)) = (n4 + n2) := (show (n4 + (M19_.1 3 4)) = (n4 + n2) from by rw [(pvu_s e20_)])
            refine pw_eqI e217_ ?_
            exact pw_ret hT rfl (r := some (pvI (n4 + n2))) (M' := M207_) ⟨rfl, rfl⟩ ⟨⟨_, rfl, trivial, ((if_neg c26_).trans ((if_neg c82_).trans ((if_neg c140_).trans ((if_pos c198_).trans (if_pos c200_))))).symm⟩, o209_, f211_⟩
          · have b218_ : 1 ≤ Int32.toInt n3 ∧ Int32.toInt n3 ≤ 2 := (by have u0 := hn3; have u1 := (not_congr (zi_eq _ _)).mp c200_; have u2 := (show 0 ≤ Int32.toInt 0 ∧ Int32.toInt 0 ≤ 0 from (by decide)); omega)
            by_cases c219_ : n3 = 1
            · refine pw_eqI c219_ ?_
              have b220_ : 1 ≤ Int32.toInt n3 ∧ Int32.toInt n3 ≤ 1 := (by have u0 := b218_; have u1 := (zi_eq _ _).mp c219_; have u2 := (show 1 ≤ Int32.toInt 1 ∧ Int32.toInt 1 ≤ 1 from (by decide)); omega)
              refine pw_blk hT 2 (S' := (35, [some (pvR 3), some (pvR q1), some (pvI n2), some (pvI n3), some (pvI n4)], [pvI 0, pvI n4, pvI 1, pvI 3, pvR 3], M19_)) rfl ⟨trivial, trivial, trivial⟩ ?_
              have b221_ : 3 ≤ Int32.toInt (M19_.1 3 2) ∧ Int32.toInt (M19_.1 3 2) ≤ 3 := (by rw [(((pvu_n e20_ 3 2 (Or.inr (by decide))).trans (pvu_n e16_ 3 2 (Or.inr (by decide)))).trans (pvu_s e9_))]; exact b199_)
              have e222_ : (M19_.1 3 1) = 0 := ((((pvu_n e20_ 3 1 (Or.inr (by decide))).trans (pvu_n e16_ 3 1 (Or.inr (by decide)))).trans (pvu_n e9_ 3 1 (Or.inr (by decide)))).trans (pvu_s e2_))
              have b223_ : 0 ≤ Int32.toInt (M19_.1 3 1) ∧ Int32.toInt (M19_.1 3 1) ≤ 0 := (by rw [e222_]; exact (show 0 ≤ Int32.toInt 0 ∧ Int32.toInt 0 ≤ 0 from (by decide)))
              refine pw_callGd hT (as := [pvR 3, pvI 3, pvI 1, pvI n4, pvI 0]) (lo1 := [some (pvR 3), some (pvI 3), some (pvI 1), some (pvI n4), some (pvI 0), none, none]) (d1 := d) (rest := []) rfl rfl rfl rfl rfl (fun h => absurd h (by decide)) (Nat.zero_le _) rfl rfl rfl (se_X0_run_3_3_1_x_0_3 M19_ o21_ n4 (zr_wide b223_ (by decide) (by decide)) b221_ d (Nat.le_trans (by decide) hd)) (fun x225_ M226_ b227_ o228_ g229_ d224_ => ?_)
              have f230_ : pvFr fp_eX0_perform_3_x_x_x_x M M226_ := pvfr_t g229_ f22_ fp_eX0_perform_3_x_x_x_x_fp_eX0_run_3_3_1_x_0_3
              have b231_ : 0 ≤ Int32.toInt (M226_.1 3 1) ∧ Int32.toInt (M226_.1 3 1) ≤ 2 := (by have u0 := b223_; have u1 := d224_; have u2 := pvok_r o228_ 3 1 (lo := 0) (hi := 1000000) rfl; omega)
              have u232_ : Int32.toInt 3 = 3 := by decide
              have u233_ : Int32.toInt 1 = 1 := by decide
              have u234_ : Int32.toInt 0 = 0 := by decide
              obtain ⟨b235_, d236_⟩ := b227_
              subst d236_
              have e237_ : ((n4 + (M19_.1 3 4)) - (M19_.1 3 3)) = ((n4 + n2) - (M.1 q1 1)) := (show ((n4 + (M19_.1 3 4)) - (M19_.1 3 3)) = ((n4 + n2) - (M.1 q1 1)) from by rw [(pvu_s e20_), ((pvu_n e20_ 3 3 (Or.inr (by decide))).trans (pvu_s e16_))])
              refine pw_eqI e237_ ?_
              exact pw_ret hT rfl (r := some (pvI ((n4 + n2) - (M.1 q1 1)))) (M' := M226_) ⟨rfl, rfl⟩ ⟨⟨_, rfl, trivial, ((if_neg c26_).trans ((if_neg c82_).trans ((if_neg c140_).trans ((if_pos c198_).trans ((if_neg c200_).trans (if_pos c219_)))))).symm⟩, o228_, f230_⟩
            · have b238_ : 2 ≤ Int32.toInt n3 ∧ Int32.toInt n3 ≤ 2 := (by have u0 := b218_; have u1 := (not_congr (zi_eq _ _)).mp c219_; have u2 := (show 1 ≤ Int32.toInt 1 ∧ Int32.toInt 1 ≤ 1 from (by decide)); omega)
              refine pw_eqI ((zi_eq _ (2)).mpr (by have u0 := b238_; have u1 : Int32.toInt (2) = 2 := (by decide); omega)) ?_
              refine pw_blk hT 2 (S' := (35, [some (pvR 3), some (pvR q1), some (pvI n2), some (pvI n3), some (pvI n4)], [pvI 0, pvI n4, pvI 2, pvI 3, pvR 3], M19_)) rfl ⟨trivial, trivial, trivial⟩ ?_
              have b239_ : 3 ≤ Int32.toInt (M19_.1 3 2) ∧ Int32.toInt (M19_.1 3 2) ≤ 3 := (by rw [(((pvu_n e20_ 3 2 (Or.inr (by decide))).trans (pvu_n e16_ 3 2 (Or.inr (by decide)))).trans (pvu_s e9_))]; exact b199_)
              have e240_ : (M19_.1 3 1) = 0 := ((((pvu_n e20_ 3 1 (Or.inr (by decide))).trans (pvu_n e16_ 3 1 (Or.inr (by decide)))).trans (pvu_n e9_ 3 1 (Or.inr (by decide)))).trans (pvu_s e2_))
              have b241_ : 0 ≤ Int32.toInt (M19_.1 3 1) ∧ Int32.toInt (M19_.1 3 1) ≤ 0 := (by rw [e240_]; exact (show 0 ≤ Int32.toInt 0 ∧ Int32.toInt 0 ≤ 0 from (by decide)))
              refine pw_callGd hT (as := [pvR 3, pvI 3, pvI 2, pvI n4, pvI 0]) (lo1 := [some (pvR 3), some (pvI 3), some (pvI 2), some (pvI n4), some (pvI 0), none, none]) (d1 := d) (rest := []) rfl rfl rfl rfl rfl (fun h => absurd h (by decide)) (Nat.zero_le _) rfl rfl rfl (se_X0_run_3_3_2_x_0_3 M19_ o21_ n4 (zr_wide b241_ (by decide) (by decide)) b239_ d (Nat.le_trans (by decide) hd)) (fun x243_ M244_ b245_ o246_ g247_ d242_ => ?_)
              have f248_ : pvFr fp_eX0_perform_3_x_x_x_x M M244_ := pvfr_t g247_ f22_ fp_eX0_perform_3_x_x_x_x_fp_eX0_run_3_3_2_x_0_3
              have b249_ : 0 ≤ Int32.toInt (M244_.1 3 1) ∧ Int32.toInt (M244_.1 3 1) ≤ 6 := (by have u0 := b241_; have u1 := d242_; have u2 := pvok_r o246_ 3 1 (lo := 0) (hi := 1000000) rfl; omega)
              have u250_ : Int32.toInt 3 = 3 := by decide
              have u251_ : Int32.toInt 2 = 2 := by decide
              have u252_ : Int32.toInt 0 = 0 := by decide
              obtain ⟨b253_, d254_⟩ := b245_
              subst d254_
              have e255_ : ((((n4 + (M19_.1 3 4)) - (M19_.1 3 3)) * 2) + ((1 + (M19_.1 3 4)) - (M19_.1 3 3))) = ((((n4 + n2) - (M.1 q1 1)) * 2) + ((1 + n2) - (M.1 q1 1))) := (show ((((n4 + (M19_.1 3 4)) - (M19_.1 3 3)) * 2) + ((1 + (M19_.1 3 4)) - (M19_.1 3 3))) = ((((n4 + n2) - (M.1 q1 1)) * 2) + ((1 + n2) - (M.1 q1 1))) from by rw [(pvu_s e20_), ((pvu_n e20_ 3 3 (Or.inr (by decide))).trans (pvu_s e16_))])
              refine pw_eqI e255_ ?_
              exact pw_ret hT rfl (r := some (pvI ((((n4 + n2) - (M.1 q1 1)) * 2) + ((1 + n2) - (M.1 q1 1))))) (M' := M244_) ⟨rfl, rfl⟩ ⟨⟨_, rfl, trivial, ((if_neg c26_).trans ((if_neg c82_).trans ((if_neg c140_).trans ((if_pos c198_).trans ((if_neg c200_).trans (if_neg c219_)))))).symm⟩, o246_, f248_⟩
        · have b256_ : 4 ≤ Int32.toInt (M.1 q1 0) ∧ Int32.toInt (M.1 q1 0) ≤ 6 := (by have u0 := b197_; have u1 := (not_congr (zi_eq _ _)).mp c198_; have u2 := (show 3 ≤ Int32.toInt 3 ∧ Int32.toInt 3 ≤ 3 from (by decide)); omega)
          by_cases c257_ : (M.1 q1 0) = 4
          · refine pw_eqI c257_ ?_
            have b258_ : 4 ≤ Int32.toInt (M.1 q1 0) ∧ Int32.toInt (M.1 q1 0) ≤ 4 := (by have u0 := b256_; have u1 := (zi_eq _ _).mp c257_; have u2 := (show 4 ≤ Int32.toInt 4 ∧ Int32.toInt 4 ≤ 4 from (by decide)); omega)
            refine pw_blk hT 1 (S' := (32, [some (pvR 3), some (pvR q1), some (pvI n2), some (pvI n3), some (pvI n4)], [pvI n3, pvI 4, pvR 3], M19_)) rfl ⟨trivial, trivial⟩ ?_
            by_cases c259_ : n3 = 0
            · refine pw_eqI c259_ ?_
              have b260_ : 0 ≤ Int32.toInt n3 ∧ Int32.toInt n3 ≤ 0 := (by have u0 := hn3; have u1 := (zi_eq _ _).mp c259_; have u2 := (show 0 ≤ Int32.toInt 0 ∧ Int32.toInt 0 ≤ 0 from (by decide)); omega)
              refine pw_blk hT 2 (S' := (35, [some (pvR 3), some (pvR q1), some (pvI n2), some (pvI n3), some (pvI n4)], [pvI 0, pvI n4, pvI 0, pvI 4, pvR 3], M19_)) rfl ⟨trivial, trivial, trivial⟩ ?_
              have b261_ : 4 ≤ Int32.toInt (M19_.1 3 2) ∧ Int32.toInt (M19_.1 3 2) ≤ 4 := (by rw [(((pvu_n e20_ 3 2 (Or.inr (by decide))).trans (pvu_n e16_ 3 2 (Or.inr (by decide)))).trans (pvu_s e9_))]; exact b258_)
              have e262_ : (M19_.1 3 1) = 0 := ((((pvu_n e20_ 3 1 (Or.inr (by decide))).trans (pvu_n e16_ 3 1 (Or.inr (by decide)))).trans (pvu_n e9_ 3 1 (Or.inr (by decide)))).trans (pvu_s e2_))
              have b263_ : 0 ≤ Int32.toInt (M19_.1 3 1) ∧ Int32.toInt (M19_.1 3 1) ≤ 0 := (by rw [e262_]; exact (show 0 ≤ Int32.toInt 0 ∧ Int32.toInt 0 ≤ 0 from (by decide)))
              refine pw_callGd hT (as := [pvR 3, pvI 4, pvI 0, pvI n4, pvI 0]) (lo1 := [some (pvR 3), some (pvI 4), some (pvI 0), some (pvI n4), some (pvI 0), none, none]) (d1 := d) (rest := []) rfl rfl rfl rfl rfl (fun h => absurd h (by decide)) (Nat.zero_le _) rfl rfl rfl (se_X0_run_3_4_0_x_0_4 M19_ o21_ n4 (zr_wide b263_ (by decide) (by decide)) b261_ d (Nat.le_trans (by decide) hd)) (fun x265_ M266_ b267_ o268_ g269_ d264_ => ?_)
              have f270_ : pvFr fp_eX0_perform_3_x_x_x_x M M266_ := pvfr_t g269_ f22_ fp_eX0_perform_3_x_x_x_x_fp_eX0_run_3_4_0_x_0_4
              have b271_ : 0 ≤ Int32.toInt (M266_.1 3 1) ∧ Int32.toInt (M266_.1 3 1) ≤ 2 := (by have u0 := b263_; have u1 := d264_; have u2 := pvok_r o268_ 3 1 (lo := 0) (hi := 1000000) rfl; omega)
              have u272_ : Int32.toInt 4 = 4 := by decide
              have u273_ : Int32.toInt 0 = 0 := by decide
              obtain ⟨b274_, d275_⟩ := b267_
              subst d275_
              have e276_ : (-(n4 + (M19_.1 3 4))) = (-(n4 + n2)) := (show (-(n4 + (M19_.1 3 4))) = (-(n4 + n2)) from by rw [(pvu_s e20_)])
              refine pw_eqI e276_ ?_
              exact pw_ret hT rfl (r := some (pvI (-(n4 + n2)))) (M' := M266_) ⟨rfl, rfl⟩ ⟨⟨_, rfl, trivial, ((if_neg c26_).trans ((if_neg c82_).trans ((if_neg c140_).trans ((if_neg c198_).trans ((if_pos c257_).trans (if_pos c259_)))))).symm⟩, o268_, f270_⟩
            · have b277_ : 1 ≤ Int32.toInt n3 ∧ Int32.toInt n3 ≤ 2 := (by have u0 := hn3; have u1 := (not_congr (zi_eq _ _)).mp c259_; have u2 := (show 0 ≤ Int32.toInt 0 ∧ Int32.toInt 0 ≤ 0 from (by decide)); omega)
              by_cases c278_ : n3 = 1
              · refine pw_eqI c278_ ?_
                have b279_ : 1 ≤ Int32.toInt n3 ∧ Int32.toInt n3 ≤ 1 := (by have u0 := b277_; have u1 := (zi_eq _ _).mp c278_; have u2 := (show 1 ≤ Int32.toInt 1 ∧ Int32.toInt 1 ≤ 1 from (by decide)); omega)
                refine pw_blk hT 2 (S' := (35, [some (pvR 3), some (pvR q1), some (pvI n2), some (pvI n3), some (pvI n4)], [pvI 0, pvI n4, pvI 1, pvI 4, pvR 3], M19_)) rfl ⟨trivial, trivial, trivial⟩ ?_
                have b280_ : 4 ≤ Int32.toInt (M19_.1 3 2) ∧ Int32.toInt (M19_.1 3 2) ≤ 4 := (by rw [(((pvu_n e20_ 3 2 (Or.inr (by decide))).trans (pvu_n e16_ 3 2 (Or.inr (by decide)))).trans (pvu_s e9_))]; exact b258_)
                have e281_ : (M19_.1 3 1) = 0 := ((((pvu_n e20_ 3 1 (Or.inr (by decide))).trans (pvu_n e16_ 3 1 (Or.inr (by decide)))).trans (pvu_n e9_ 3 1 (Or.inr (by decide)))).trans (pvu_s e2_))
                have b282_ : 0 ≤ Int32.toInt (M19_.1 3 1) ∧ Int32.toInt (M19_.1 3 1) ≤ 0 := (by rw [e281_]; exact (show 0 ≤ Int32.toInt 0 ∧ Int32.toInt 0 ≤ 0 from (by decide)))
                refine pw_callGd hT (as := [pvR 3, pvI 4, pvI 1, pvI n4, pvI 0]) (lo1 := [some (pvR 3), some (pvI 4), some (pvI 1), some (pvI n4), some (pvI 0), none, none]) (d1 := d) (rest := []) rfl rfl rfl rfl rfl (fun h => absurd h (by decide)) (Nat.zero_le _) rfl rfl rfl (se_X0_run_3_4_1_x_0_4 M19_ o21_ n4 (zr_wide b282_ (by decide) (by decide)) b280_ d (Nat.le_trans (by decide) hd)) (fun x284_ M285_ b286_ o287_ g288_ d283_ => ?_)
                have f289_ : pvFr fp_eX0_perform_3_x_x_x_x M M285_ := pvfr_t g288_ f22_ fp_eX0_perform_3_x_x_x_x_fp_eX0_run_3_4_1_x_0_4
                have b290_ : 0 ≤ Int32.toInt (M285_.1 3 1) ∧ Int32.toInt (M285_.1 3 1) ≤ 5 := (by have u0 := b282_; have u1 := d283_; have u2 := pvok_r o287_ 3 1 (lo := 0) (hi := 1000000) rfl; omega)
                have u291_ : Int32.toInt 4 = 4 := by decide
                have u292_ : Int32.toInt 1 = 1 := by decide
                have u293_ : Int32.toInt 0 = 0 := by decide
                obtain ⟨b294_, d295_⟩ := b286_
                subst d295_
                have e296_ : (((-((n4 + 1) + (M19_.1 3 4))) - (M19_.1 3 3)) ^^^ 6) = (((-((n4 + 1) + n2)) - (M.1 q1 1)) ^^^ 6) := (show (((-((n4 + 1) + (M19_.1 3 4))) - (M19_.1 3 3)) ^^^ 6) = (((-((n4 + 1) + n2)) - (M.1 q1 1)) ^^^ 6) from by rw [(pvu_s e20_), ((pvu_n e20_ 3 3 (Or.inr (by decide))).trans (pvu_s e16_))])
                refine pw_eqI e296_ ?_
                exact pw_ret hT rfl (r := some (pvI (((-((n4 + 1) + n2)) - (M.1 q1 1)) ^^^ 6))) (M' := M285_) ⟨rfl, rfl⟩ ⟨⟨_, rfl, trivial, ((if_neg c26_).trans ((if_neg c82_).trans ((if_neg c140_).trans ((if_neg c198_).trans ((if_pos c257_).trans ((if_neg c259_).trans (if_pos c278_))))))).symm⟩, o287_, f289_⟩
              · have b297_ : 2 ≤ Int32.toInt n3 ∧ Int32.toInt n3 ≤ 2 := (by have u0 := b277_; have u1 := (not_congr (zi_eq _ _)).mp c278_; have u2 := (show 1 ≤ Int32.toInt 1 ∧ Int32.toInt 1 ≤ 1 from (by decide)); omega)
                refine pw_eqI ((zi_eq _ (2)).mpr (by have u0 := b297_; have u1 : Int32.toInt (2) = 2 := (by decide); omega)) ?_
                refine pw_blk hT 2 (S' := (35, [some (pvR 3), some (pvR q1), some (pvI n2), some (pvI n3), some (pvI n4)], [pvI 0, pvI n4, pvI 2, pvI 4, pvR 3], M19_)) rfl ⟨trivial, trivial, trivial⟩ ?_
                have b298_ : 4 ≤ Int32.toInt (M19_.1 3 2) ∧ Int32.toInt (M19_.1 3 2) ≤ 4 := (by rw [(((pvu_n e20_ 3 2 (Or.inr (by decide))).trans (pvu_n e16_ 3 2 (Or.inr (by decide)))).trans (pvu_s e9_))]; exact b258_)
                have e299_ : (M19_.1 3 1) = 0 := ((((pvu_n e20_ 3 1 (Or.inr (by decide))).trans (pvu_n e16_ 3 1 (Or.inr (by decide)))).trans (pvu_n e9_ 3 1 (Or.inr (by decide)))).trans (pvu_s e2_))
                have b300_ : 0 ≤ Int32.toInt (M19_.1 3 1) ∧ Int32.toInt (M19_.1 3 1) ≤ 0 := (by rw [e299_]; exact (show 0 ≤ Int32.toInt 0 ∧ Int32.toInt 0 ≤ 0 from (by decide)))
                refine pw_callGd hT (as := [pvR 3, pvI 4, pvI 2, pvI n4, pvI 0]) (lo1 := [some (pvR 3), some (pvI 4), some (pvI 2), some (pvI n4), some (pvI 0), none, none]) (d1 := d) (rest := []) rfl rfl rfl rfl rfl (fun h => absurd h (by decide)) (Nat.zero_le _) rfl rfl rfl (se_X0_run_3_4_2_x_0_4 M19_ o21_ n4 (zr_wide b300_ (by decide) (by decide)) b298_ d (Nat.le_trans (by decide) hd)) (fun x302_ M303_ b304_ o305_ g306_ d301_ => ?_)
                have f307_ : pvFr fp_eX0_perform_3_x_x_x_x M M303_ := pvfr_t g306_ f22_ fp_eX0_perform_3_x_x_x_x_fp_eX0_run_3_4_2_x_0_4
                have b308_ : 0 ≤ Int32.toInt (M303_.1 3 1) ∧ Int32.toInt (M303_.1 3 1) ≤ 6 := (by have u0 := b300_; have u1 := d301_; have u2 := pvok_r o305_ 3 1 (lo := 0) (hi := 1000000) rfl; omega)
                have u309_ : Int32.toInt 4 = 4 := by decide
                have u310_ : Int32.toInt 2 = 2 := by decide
                have u311_ : Int32.toInt 0 = 0 := by decide
                obtain ⟨b312_, d313_⟩ := b304_
                subst d313_
                have e314_ : ((((-((n4 + 1) + (M19_.1 3 4))) - (M19_.1 3 3)) ^^^ 6) * 2) = ((((-((n4 + 1) + n2)) - (M.1 q1 1)) ^^^ 6) * 2) := (show ((((-((n4 + 1) + (M19_.1 3 4))) - (M19_.1 3 3)) ^^^ 6) * 2) = ((((-((n4 + 1) + n2)) - (M.1 q1 1)) ^^^ 6) * 2) from by rw [(pvu_s e20_), ((pvu_n e20_ 3 3 (Or.inr (by decide))).trans (pvu_s e16_))])
                refine pw_eqI e314_ ?_
                exact pw_ret hT rfl (r := some (pvI ((((-((n4 + 1) + n2)) - (M.1 q1 1)) ^^^ 6) * 2))) (M' := M303_) ⟨rfl, rfl⟩ ⟨⟨_, rfl, trivial, ((if_neg c26_).trans ((if_neg c82_).trans ((if_neg c140_).trans ((if_neg c198_).trans ((if_pos c257_).trans ((if_neg c259_).trans (if_neg c278_))))))).symm⟩, o305_, f307_⟩
          · have b315_ : 5 ≤ Int32.toInt (M.1 q1 0) ∧ Int32.toInt (M.1 q1 0) ≤ 6 := (by have u0 := b256_; have u1 := (not_congr (zi_eq _ _)).mp c257_; have u2 := (show 4 ≤ Int32.toInt 4 ∧ Int32.toInt 4 ≤ 4 from (by decide)); omega)
            by_cases c316_ : (M.1 q1 0) = 5
            · refine pw_eqI c316_ ?_
              have b317_ : 5 ≤ Int32.toInt (M.1 q1 0) ∧ Int32.toInt (M.1 q1 0) ≤ 5 := (by have u0 := b315_; have u1 := (zi_eq _ _).mp c316_; have u2 := (show 5 ≤ Int32.toInt 5 ∧ Int32.toInt 5 ≤ 5 from (by decide)); omega)
              refine pw_blk hT 1 (S' := (32, [some (pvR 3), some (pvR q1), some (pvI n2), some (pvI n3), some (pvI n4)], [pvI n3, pvI 5, pvR 3], M19_)) rfl ⟨trivial, trivial⟩ ?_
              by_cases c318_ : n3 = 0
              · refine pw_eqI c318_ ?_
                have b319_ : 0 ≤ Int32.toInt n3 ∧ Int32.toInt n3 ≤ 0 := (by have u0 := hn3; have u1 := (zi_eq _ _).mp c318_; have u2 := (show 0 ≤ Int32.toInt 0 ∧ Int32.toInt 0 ≤ 0 from (by decide)); omega)
                refine pw_blk hT 2 (S' := (35, [some (pvR 3), some (pvR q1), some (pvI n2), some (pvI n3), some (pvI n4)], [pvI 0, pvI n4, pvI 0, pvI 5, pvR 3], M19_)) rfl ⟨trivial, trivial, trivial⟩ ?_
                have b320_ : 5 ≤ Int32.toInt (M19_.1 3 2) ∧ Int32.toInt (M19_.1 3 2) ≤ 5 := (by rw [(((pvu_n e20_ 3 2 (Or.inr (by decide))).trans (pvu_n e16_ 3 2 (Or.inr (by decide)))).trans (pvu_s e9_))]; exact b317_)
                have e321_ : (M19_.1 3 1) = 0 := ((((pvu_n e20_ 3 1 (Or.inr (by decide))).trans (pvu_n e16_ 3 1 (Or.inr (by decide)))).trans (pvu_n e9_ 3 1 (Or.inr (by decide)))).trans (pvu_s e2_))
                have b322_ : 0 ≤ Int32.toInt (M19_.1 3 1) ∧ Int32.toInt (M19_.1 3 1) ≤ 0 := (by rw [e321_]; exact (show 0 ≤ Int32.toInt 0 ∧ Int32.toInt 0 ≤ 0 from (by decide)))
                refine pw_callGd hT (as := [pvR 3, pvI 5, pvI 0, pvI n4, pvI 0]) (lo1 := [some (pvR 3), some (pvI 5), some (pvI 0), some (pvI n4), some (pvI 0), none, none]) (d1 := d) (rest := []) rfl rfl rfl rfl rfl (fun h => absurd h (by decide)) (Nat.zero_le _) rfl rfl rfl (se_X0_run_3_5_0_x_0_5 M19_ o21_ n4 (zr_wide b322_ (by decide) (by decide)) b320_ d (Nat.le_trans (by decide) hd)) (fun x324_ M325_ b326_ o327_ g328_ d323_ => ?_)
                have f329_ : pvFr fp_eX0_perform_3_x_x_x_x M M325_ := pvfr_t g328_ f22_ fp_eX0_perform_3_x_x_x_x_fp_eX0_run_3_5_0_x_0_5
                have b330_ : 0 ≤ Int32.toInt (M325_.1 3 1) ∧ Int32.toInt (M325_.1 3 1) ≤ 2 := (by have u0 := b322_; have u1 := d323_; have u2 := pvok_r o327_ 3 1 (lo := 0) (hi := 1000000) rfl; omega)
                have u331_ : Int32.toInt 5 = 5 := by decide
                have u332_ : Int32.toInt 0 = 0 := by decide
                obtain ⟨b333_, d334_⟩ := b326_
                subst d334_
                have e335_ : ((n4 * 3) + (M19_.1 3 4)) = ((n4 * 3) + n2) := (show ((n4 * 3) + (M19_.1 3 4)) = ((n4 * 3) + n2) from by rw [(pvu_s e20_)])
                refine pw_eqI e335_ ?_
                exact pw_ret hT rfl (r := some (pvI ((n4 * 3) + n2))) (M' := M325_) ⟨rfl, rfl⟩ ⟨⟨_, rfl, trivial, ((if_neg c26_).trans ((if_neg c82_).trans ((if_neg c140_).trans ((if_neg c198_).trans ((if_neg c257_).trans ((if_pos c316_).trans (if_pos c318_))))))).symm⟩, o327_, f329_⟩
              · have b336_ : 1 ≤ Int32.toInt n3 ∧ Int32.toInt n3 ≤ 2 := (by have u0 := hn3; have u1 := (not_congr (zi_eq _ _)).mp c318_; have u2 := (show 0 ≤ Int32.toInt 0 ∧ Int32.toInt 0 ≤ 0 from (by decide)); omega)
                by_cases c337_ : n3 = 1
                · refine pw_eqI c337_ ?_
                  have b338_ : 1 ≤ Int32.toInt n3 ∧ Int32.toInt n3 ≤ 1 := (by have u0 := b336_; have u1 := (zi_eq _ _).mp c337_; have u2 := (show 1 ≤ Int32.toInt 1 ∧ Int32.toInt 1 ≤ 1 from (by decide)); omega)
                  refine pw_blk hT 2 (S' := (35, [some (pvR 3), some (pvR q1), some (pvI n2), some (pvI n3), some (pvI n4)], [pvI 0, pvI n4, pvI 1, pvI 5, pvR 3], M19_)) rfl ⟨trivial, trivial, trivial⟩ ?_
                  have b339_ : 5 ≤ Int32.toInt (M19_.1 3 2) ∧ Int32.toInt (M19_.1 3 2) ≤ 5 := (by rw [(((pvu_n e20_ 3 2 (Or.inr (by decide))).trans (pvu_n e16_ 3 2 (Or.inr (by decide)))).trans (pvu_s e9_))]; exact b317_)
                  have e340_ : (M19_.1 3 1) = 0 := ((((pvu_n e20_ 3 1 (Or.inr (by decide))).trans (pvu_n e16_ 3 1 (Or.inr (by decide)))).trans (pvu_n e9_ 3 1 (Or.inr (by decide)))).trans (pvu_s e2_))
                  have b341_ : 0 ≤ Int32.toInt (M19_.1 3 1) ∧ Int32.toInt (M19_.1 3 1) ≤ 0 := (by rw [e340_]; exact (show 0 ≤ Int32.toInt 0 ∧ Int32.toInt 0 ≤ 0 from (by decide)))
                  refine pw_callGd hT (as := [pvR 3, pvI 5, pvI 1, pvI n4, pvI 0]) (lo1 := [some (pvR 3), some (pvI 5), some (pvI 1), some (pvI n4), some (pvI 0), none, none]) (d1 := d) (rest := []) rfl rfl rfl rfl rfl (fun h => absurd h (by decide)) (Nat.zero_le _) rfl rfl rfl (se_X0_run_3_5_1_x_0_5 M19_ o21_ n4 (zr_wide b341_ (by decide) (by decide)) b339_ d (Nat.le_trans (by decide) hd)) (fun x343_ M344_ b345_ o346_ g347_ d342_ => ?_)
                  have f348_ : pvFr fp_eX0_perform_3_x_x_x_x M M344_ := pvfr_t g347_ f22_ fp_eX0_perform_3_x_x_x_x_fp_eX0_run_3_5_1_x_0_5
                  have b349_ : 0 ≤ Int32.toInt (M344_.1 3 1) ∧ Int32.toInt (M344_.1 3 1) ≤ 3 := (by have u0 := b341_; have u1 := d342_; have u2 := pvok_r o346_ 3 1 (lo := 0) (hi := 1000000) rfl; omega)
                  have u350_ : Int32.toInt 5 = 5 := by decide
                  have u351_ : Int32.toInt 1 = 1 := by decide
                  have u352_ : Int32.toInt 0 = 0 := by decide
                  obtain ⟨b353_, d354_⟩ := b345_
                  subst d354_
                  have e355_ : (((n4 * 3) + (M19_.1 3 4)) - (M19_.1 3 3)) = (((n4 * 3) + n2) - (M.1 q1 1)) := (show (((n4 * 3) + (M19_.1 3 4)) - (M19_.1 3 3)) = (((n4 * 3) + n2) - (M.1 q1 1)) from by rw [(pvu_s e20_), ((pvu_n e20_ 3 3 (Or.inr (by decide))).trans (pvu_s e16_))])
                  refine pw_eqI e355_ ?_
                  exact pw_ret hT rfl (r := some (pvI (((n4 * 3) + n2) - (M.1 q1 1)))) (M' := M344_) ⟨rfl, rfl⟩ ⟨⟨_, rfl, trivial, ((if_neg c26_).trans ((if_neg c82_).trans ((if_neg c140_).trans ((if_neg c198_).trans ((if_neg c257_).trans ((if_pos c316_).trans ((if_neg c318_).trans (if_pos c337_)))))))).symm⟩, o346_, f348_⟩
                · have b356_ : 2 ≤ Int32.toInt n3 ∧ Int32.toInt n3 ≤ 2 := (by have u0 := b336_; have u1 := (not_congr (zi_eq _ _)).mp c337_; have u2 := (show 1 ≤ Int32.toInt 1 ∧ Int32.toInt 1 ≤ 1 from (by decide)); omega)
                  refine pw_eqI ((zi_eq _ (2)).mpr (by have u0 := b356_; have u1 : Int32.toInt (2) = 2 := (by decide); omega)) ?_
                  refine pw_blk hT 2 (S' := (35, [some (pvR 3), some (pvR q1), some (pvI n2), some (pvI n3), some (pvI n4)], [pvI 0, pvI n4, pvI 2, pvI 5, pvR 3], M19_)) rfl ⟨trivial, trivial, trivial⟩ ?_
                  have b357_ : 5 ≤ Int32.toInt (M19_.1 3 2) ∧ Int32.toInt (M19_.1 3 2) ≤ 5 := (by rw [(((pvu_n e20_ 3 2 (Or.inr (by decide))).trans (pvu_n e16_ 3 2 (Or.inr (by decide)))).trans (pvu_s e9_))]; exact b317_)
                  have e358_ : (M19_.1 3 1) = 0 := ((((pvu_n e20_ 3 1 (Or.inr (by decide))).trans (pvu_n e16_ 3 1 (Or.inr (by decide)))).trans (pvu_n e9_ 3 1 (Or.inr (by decide)))).trans (pvu_s e2_))
                  have b359_ : 0 ≤ Int32.toInt (M19_.1 3 1) ∧ Int32.toInt (M19_.1 3 1) ≤ 0 := (by rw [e358_]; exact (show 0 ≤ Int32.toInt 0 ∧ Int32.toInt 0 ≤ 0 from (by decide)))
                  refine pw_callGd hT (as := [pvR 3, pvI 5, pvI 2, pvI n4, pvI 0]) (lo1 := [some (pvR 3), some (pvI 5), some (pvI 2), some (pvI n4), some (pvI 0), none, none]) (d1 := d) (rest := []) rfl rfl rfl rfl rfl (fun h => absurd h (by decide)) (Nat.zero_le _) rfl rfl rfl (se_X0_run_3_5_2_x_0_5 M19_ o21_ n4 (zr_wide b359_ (by decide) (by decide)) b357_ d (Nat.le_trans (by decide) hd)) (fun x361_ M362_ b363_ o364_ g365_ d360_ => ?_)
                  have f366_ : pvFr fp_eX0_perform_3_x_x_x_x M M362_ := pvfr_t g365_ f22_ fp_eX0_perform_3_x_x_x_x_fp_eX0_run_3_5_2_x_0_5
                  have b367_ : 0 ≤ Int32.toInt (M362_.1 3 1) ∧ Int32.toInt (M362_.1 3 1) ≤ 5 := (by have u0 := b359_; have u1 := d360_; have u2 := pvok_r o364_ 3 1 (lo := 0) (hi := 1000000) rfl; omega)
                  have u368_ : Int32.toInt 5 = 5 := by decide
                  have u369_ : Int32.toInt 2 = 2 := by decide
                  have u370_ : Int32.toInt 0 = 0 := by decide
                  obtain ⟨b371_, d372_⟩ := b363_
                  subst d372_
                  have e373_ : (((((n4 - (M19_.1 3 4)) * 3) + (M19_.1 3 4)) - (M19_.1 3 3)) * 2) = (((((n4 - n2) * 3) + n2) - (M.1 q1 1)) * 2) := (show (((((n4 - (M19_.1 3 4)) * 3) + (M19_.1 3 4)) - (M19_.1 3 3)) * 2) = (((((n4 - n2) * 3) + n2) - (M.1 q1 1)) * 2) from by rw [(pvu_s e20_), ((pvu_n e20_ 3 3 (Or.inr (by decide))).trans (pvu_s e16_))])
                  refine pw_eqI e373_ ?_
                  exact pw_ret hT rfl (r := some (pvI (((((n4 - n2) * 3) + n2) - (M.1 q1 1)) * 2))) (M' := M362_) ⟨rfl, rfl⟩ ⟨⟨_, rfl, trivial, ((if_neg c26_).trans ((if_neg c82_).trans ((if_neg c140_).trans ((if_neg c198_).trans ((if_neg c257_).trans ((if_pos c316_).trans ((if_neg c318_).trans (if_neg c337_)))))))).symm⟩, o364_, f366_⟩
            · have b374_ : 6 ≤ Int32.toInt (M.1 q1 0) ∧ Int32.toInt (M.1 q1 0) ≤ 6 := (by have u0 := b315_; have u1 := (not_congr (zi_eq _ _)).mp c316_; have u2 := (show 5 ≤ Int32.toInt 5 ∧ Int32.toInt 5 ≤ 5 from (by decide)); omega)
              refine pw_eqI ((zi_eq _ (6)).mpr (by have u0 := b374_; have u1 : Int32.toInt (6) = 6 := (by decide); omega)) ?_
              refine pw_blk hT 1 (S' := (32, [some (pvR 3), some (pvR q1), some (pvI n2), some (pvI n3), some (pvI n4)], [pvI n3, pvI 6, pvR 3], M19_)) rfl ⟨trivial, trivial⟩ ?_
              by_cases c375_ : n3 = 0
              · refine pw_eqI c375_ ?_
                have b376_ : 0 ≤ Int32.toInt n3 ∧ Int32.toInt n3 ≤ 0 := (by have u0 := hn3; have u1 := (zi_eq _ _).mp c375_; have u2 := (show 0 ≤ Int32.toInt 0 ∧ Int32.toInt 0 ≤ 0 from (by decide)); omega)
                refine pw_blk hT 2 (S' := (35, [some (pvR 3), some (pvR q1), some (pvI n2), some (pvI n3), some (pvI n4)], [pvI 0, pvI n4, pvI 0, pvI 6, pvR 3], M19_)) rfl ⟨trivial, trivial, trivial⟩ ?_
                have b377_ : 6 ≤ Int32.toInt (M19_.1 3 2) ∧ Int32.toInt (M19_.1 3 2) ≤ 6 := (by rw [(((pvu_n e20_ 3 2 (Or.inr (by decide))).trans (pvu_n e16_ 3 2 (Or.inr (by decide)))).trans (pvu_s e9_))]; exact b374_)
                have e378_ : (M19_.1 3 1) = 0 := ((((pvu_n e20_ 3 1 (Or.inr (by decide))).trans (pvu_n e16_ 3 1 (Or.inr (by decide)))).trans (pvu_n e9_ 3 1 (Or.inr (by decide)))).trans (pvu_s e2_))
                have b379_ : 0 ≤ Int32.toInt (M19_.1 3 1) ∧ Int32.toInt (M19_.1 3 1) ≤ 0 := (by rw [e378_]; exact (show 0 ≤ Int32.toInt 0 ∧ Int32.toInt 0 ≤ 0 from (by decide)))
                refine pw_callGd hT (as := [pvR 3, pvI 6, pvI 0, pvI n4, pvI 0]) (lo1 := [some (pvR 3), some (pvI 6), some (pvI 0), some (pvI n4), some (pvI 0), none, none]) (d1 := d) (rest := []) rfl rfl rfl rfl rfl (fun h => absurd h (by decide)) (Nat.zero_le _) rfl rfl rfl (se_X0_run_3_6_0_x_0_6 M19_ o21_ n4 (zr_wide b379_ (by decide) (by decide)) b377_ d (Nat.le_trans (by decide) hd)) (fun x381_ M382_ b383_ o384_ g385_ d380_ => ?_)
                have f386_ : pvFr fp_eX0_perform_3_x_x_x_x M M382_ := pvfr_t g385_ f22_ fp_eX0_perform_3_x_x_x_x_fp_eX0_run_3_6_0_x_0_6
                have b387_ : 0 ≤ Int32.toInt (M382_.1 3 1) ∧ Int32.toInt (M382_.1 3 1) ≤ 2 := (by have u0 := b379_; have u1 := d380_; have u2 := pvok_r o384_ 3 1 (lo := 0) (hi := 1000000) rfl; omega)
                have u388_ : Int32.toInt 6 = 6 := by decide
                have u389_ : Int32.toInt 0 = 0 := by decide
                obtain ⟨b390_, d391_⟩ := b383_
                subst d391_
                have e392_ : ((n4 + (M19_.1 3 4)) ^^^ (M19_.1 3 3)) = ((n4 + n2) ^^^ (M.1 q1 1)) := (show ((n4 + (M19_.1 3 4)) ^^^ (M19_.1 3 3)) = ((n4 + n2) ^^^ (M.1 q1 1)) from by rw [(pvu_s e20_), ((pvu_n e20_ 3 3 (Or.inr (by decide))).trans (pvu_s e16_))])
                refine pw_eqI e392_ ?_
                exact pw_ret hT rfl (r := some (pvI ((n4 + n2) ^^^ (M.1 q1 1)))) (M' := M382_) ⟨rfl, rfl⟩ ⟨⟨_, rfl, trivial, ((if_neg c26_).trans ((if_neg c82_).trans ((if_neg c140_).trans ((if_neg c198_).trans ((if_neg c257_).trans ((if_neg c316_).trans (if_pos c375_))))))).symm⟩, o384_, f386_⟩
              · have b393_ : 1 ≤ Int32.toInt n3 ∧ Int32.toInt n3 ≤ 2 := (by have u0 := hn3; have u1 := (not_congr (zi_eq _ _)).mp c375_; have u2 := (show 0 ≤ Int32.toInt 0 ∧ Int32.toInt 0 ≤ 0 from (by decide)); omega)
                by_cases c394_ : n3 = 1
                · refine pw_eqI c394_ ?_
                  have b395_ : 1 ≤ Int32.toInt n3 ∧ Int32.toInt n3 ≤ 1 := (by have u0 := b393_; have u1 := (zi_eq _ _).mp c394_; have u2 := (show 1 ≤ Int32.toInt 1 ∧ Int32.toInt 1 ≤ 1 from (by decide)); omega)
                  refine pw_blk hT 2 (S' := (35, [some (pvR 3), some (pvR q1), some (pvI n2), some (pvI n3), some (pvI n4)], [pvI 0, pvI n4, pvI 1, pvI 6, pvR 3], M19_)) rfl ⟨trivial, trivial, trivial⟩ ?_
                  have b396_ : 6 ≤ Int32.toInt (M19_.1 3 2) ∧ Int32.toInt (M19_.1 3 2) ≤ 6 := (by rw [(((pvu_n e20_ 3 2 (Or.inr (by decide))).trans (pvu_n e16_ 3 2 (Or.inr (by decide)))).trans (pvu_s e9_))]; exact b374_)
                  have e397_ : (M19_.1 3 1) = 0 := ((((pvu_n e20_ 3 1 (Or.inr (by decide))).trans (pvu_n e16_ 3 1 (Or.inr (by decide)))).trans (pvu_n e9_ 3 1 (Or.inr (by decide)))).trans (pvu_s e2_))
                  have b398_ : 0 ≤ Int32.toInt (M19_.1 3 1) ∧ Int32.toInt (M19_.1 3 1) ≤ 0 := (by rw [e397_]; exact (show 0 ≤ Int32.toInt 0 ∧ Int32.toInt 0 ≤ 0 from (by decide)))
                  refine pw_callGd hT (as := [pvR 3, pvI 6, pvI 1, pvI n4, pvI 0]) (lo1 := [some (pvR 3), some (pvI 6), some (pvI 1), some (pvI n4), some (pvI 0), none, none]) (d1 := d) (rest := []) rfl rfl rfl rfl rfl (fun h => absurd h (by decide)) (Nat.zero_le _) rfl rfl rfl (se_X0_run_3_6_1_x_0_6 M19_ o21_ n4 (zr_wide b398_ (by decide) (by decide)) b396_ d (Nat.le_trans (by decide) hd)) (fun x400_ M401_ b402_ o403_ g404_ d399_ => ?_)
                  have f405_ : pvFr fp_eX0_perform_3_x_x_x_x M M401_ := pvfr_t g404_ f22_ fp_eX0_perform_3_x_x_x_x_fp_eX0_run_3_6_1_x_0_6
                  have b406_ : 0 ≤ Int32.toInt (M401_.1 3 1) ∧ Int32.toInt (M401_.1 3 1) ≤ 5 := (by have u0 := b398_; have u1 := d399_; have u2 := pvok_r o403_ 3 1 (lo := 0) (hi := 1000000) rfl; omega)
                  have u407_ : Int32.toInt 6 = 6 := by decide
                  have u408_ : Int32.toInt 1 = 1 := by decide
                  have u409_ : Int32.toInt 0 = 0 := by decide
                  obtain ⟨b410_, d411_⟩ := b402_
                  subst d411_
                  have e412_ : ((((n4 + (M19_.1 3 4)) ^^^ (M19_.1 3 3)) - (M19_.1 3 3)) + (2 + (M19_.1 3 4))) = ((((n4 + n2) ^^^ (M.1 q1 1)) - (M.1 q1 1)) + (2 + n2)) := (show ((((n4 + (M19_.1 3 4)) ^^^ (M19_.1 3 3)) - (M19_.1 3 3)) + (2 + (M19_.1 3 4))) = ((((n4 + n2) ^^^ (M.1 q1 1)) - (M.1 q1 1)) + (2 + n2)) from by rw [(pvu_s e20_), ((pvu_n e20_ 3 3 (Or.inr (by decide))).trans (pvu_s e16_))])
                  refine pw_eqI e412_ ?_
                  exact pw_ret hT rfl (r := some (pvI ((((n4 + n2) ^^^ (M.1 q1 1)) - (M.1 q1 1)) + (2 + n2)))) (M' := M401_) ⟨rfl, rfl⟩ ⟨⟨_, rfl, trivial, ((if_neg c26_).trans ((if_neg c82_).trans ((if_neg c140_).trans ((if_neg c198_).trans ((if_neg c257_).trans ((if_neg c316_).trans ((if_neg c375_).trans (if_pos c394_)))))))).symm⟩, o403_, f405_⟩
                · have b413_ : 2 ≤ Int32.toInt n3 ∧ Int32.toInt n3 ≤ 2 := (by have u0 := b393_; have u1 := (not_congr (zi_eq _ _)).mp c394_; have u2 := (show 1 ≤ Int32.toInt 1 ∧ Int32.toInt 1 ≤ 1 from (by decide)); omega)
                  refine pw_eqI ((zi_eq _ (2)).mpr (by have u0 := b413_; have u1 : Int32.toInt (2) = 2 := (by decide); omega)) ?_
                  refine pw_blk hT 2 (S' := (35, [some (pvR 3), some (pvR q1), some (pvI n2), some (pvI n3), some (pvI n4)], [pvI 0, pvI n4, pvI 2, pvI 6, pvR 3], M19_)) rfl ⟨trivial, trivial, trivial⟩ ?_
                  have b414_ : 6 ≤ Int32.toInt (M19_.1 3 2) ∧ Int32.toInt (M19_.1 3 2) ≤ 6 := (by rw [(((pvu_n e20_ 3 2 (Or.inr (by decide))).trans (pvu_n e16_ 3 2 (Or.inr (by decide)))).trans (pvu_s e9_))]; exact b374_)
                  have e415_ : (M19_.1 3 1) = 0 := ((((pvu_n e20_ 3 1 (Or.inr (by decide))).trans (pvu_n e16_ 3 1 (Or.inr (by decide)))).trans (pvu_n e9_ 3 1 (Or.inr (by decide)))).trans (pvu_s e2_))
                  have b416_ : 0 ≤ Int32.toInt (M19_.1 3 1) ∧ Int32.toInt (M19_.1 3 1) ≤ 0 := (by rw [e415_]; exact (show 0 ≤ Int32.toInt 0 ∧ Int32.toInt 0 ≤ 0 from (by decide)))
                  refine pw_callGd hT (as := [pvR 3, pvI 6, pvI 2, pvI n4, pvI 0]) (lo1 := [some (pvR 3), some (pvI 6), some (pvI 2), some (pvI n4), some (pvI 0), none, none]) (d1 := d) (rest := []) rfl rfl rfl rfl rfl (fun h => absurd h (by decide)) (Nat.zero_le _) rfl rfl rfl (se_X0_run_3_6_2_x_0_6 M19_ o21_ n4 (zr_wide b416_ (by decide) (by decide)) b414_ d (Nat.le_trans (by decide) hd)) (fun x418_ M419_ b420_ o421_ g422_ d417_ => ?_)
                  have f423_ : pvFr fp_eX0_perform_3_x_x_x_x M M419_ := pvfr_t g422_ f22_ fp_eX0_perform_3_x_x_x_x_fp_eX0_run_3_6_2_x_0_6
                  have b424_ : 0 ≤ Int32.toInt (M419_.1 3 1) ∧ Int32.toInt (M419_.1 3 1) ≤ 12 := (by have u0 := b416_; have u1 := d417_; have u2 := pvok_r o421_ 3 1 (lo := 0) (hi := 1000000) rfl; omega)
                  have u425_ : Int32.toInt 6 = 6 := by decide
                  have u426_ : Int32.toInt 2 = 2 := by decide
                  have u427_ : Int32.toInt 0 = 0 := by decide
                  obtain ⟨b428_, d429_⟩ := b420_
                  subst d429_
                  have e430_ : ((((((n4 + (M19_.1 3 4)) ^^^ (M19_.1 3 3)) - (M19_.1 3 3)) + (2 + (M19_.1 3 4))) * 2) + ((((1 + (M19_.1 3 4)) ^^^ (M19_.1 3 3)) - (M19_.1 3 3)) + (2 + (M19_.1 3 4)))) = ((((((n4 + n2) ^^^ (M.1 q1 1)) - (M.1 q1 1)) + (2 + n2)) * 2) + ((((1 + n2) ^^^ (M.1 q1 1)) - (M.1 q1 1)) + (2 + n2))) := (show ((((((n4 + (M19_.1 3 4)) ^^^ (M19_.1 3 3)) - (M19_.1 3 3)) + (2 + (M19_.1 3 4))) * 2) + ((((1 + (M19_.1 3 4)) ^^^ (M19_.1 3 3)) - (M19_.1 3 3)) + (2 + (M19_.1 3 4)))) = ((((((n4 + n2) ^^^ (M.1 q1 1)) - (M.1 q1 1)) + (2 + n2)) * 2) + ((((1 + n2) ^^^ (M.1 q1 1)) - (M.1 q1 1)) + (2 + n2))) from by rw [(pvu_s e20_), ((pvu_n e20_ 3 3 (Or.inr (by decide))).trans (pvu_s e16_))])
                  refine pw_eqI e430_ ?_
                  exact pw_ret hT rfl (r := some (pvI ((((((n4 + n2) ^^^ (M.1 q1 1)) - (M.1 q1 1)) + (2 + n2)) * 2) + ((((1 + n2) ^^^ (M.1 q1 1)) - (M.1 q1 1)) + (2 + n2))))) (M' := M419_) ⟨rfl, rfl⟩ ⟨⟨_, rfl, trivial, ((if_neg c26_).trans ((if_neg c82_).trans ((if_neg c140_).trans ((if_neg c198_).trans ((if_neg c257_).trans ((if_neg c316_).trans ((if_neg c375_).trans (if_neg c394_)))))))).symm⟩, o421_, f423_⟩
def fpL_eX9_act_0_x_x_x : List (Nat × Nat × Nat) := [(0, 3, 2), (0, 3, 3), (0, 3, 4), (0, 3, 5), (0, 4, 0)]
def fp_eX9_act_0_x_x_x (q k : Nat) : Bool := pvfp fpL_eX9_act_0_x_x_x q k
theorem fp_eX9_act_0_x_x_x_fp_eX0_perform_3_x_x_x_x (a b : Nat) (h : fp_eX0_perform_3_x_x_x_x a b = true) : fp_eX9_act_0_x_x_x a b = true := pvfp_sub (l1 := fpL_eX0_perform_3_x_x_x_x) (l2 := fpL_eX9_act_0_x_x_x) (by decide) a b h
set_option maxHeartbeats 4000000 in
set_option maxRecDepth 10000 in
theorem se_X9_act_0_x_x_x (M : pvM) (hok : pvOk M) (n1 : Int32) (n2 : Int32) (n3 : Int32) (d : Nat) (hd : 5 ≤ d) : PW 166 d (0, [some (pvR 0), some (pvI n1), some (pvI n2), some (pvI n3)], [], M) (fun r X => (∃ x : Int32, r = some (pvI x) ∧ True ∧ x = (if n1 < 0 then 0 else (if (M.1 8 1) ≤ n1 then 0 else (if n2 < 0 then 0 else (if 2 < n2 then 0 else (if (M.1 (pvbs 10 + Int32.toNatClampNeg n1) 0) = 0 then (if n2 = 0 then (n3 + n1) else (if n2 = 1 then ((n3 + n1) - (M.1 (pvbs 10 + Int32.toNatClampNeg n1) 1)) else (((n3 + n1) - (M.1 (pvbs 10 + Int32.toNatClampNeg n1) 1)) * 2))) else (if (M.1 (pvbs 10 + Int32.toNatClampNeg n1) 0) = 1 then (if n2 = 0 then (n3 + n1) else (if n2 = 1 then (((n3 + n1) - (M.1 (pvbs 10 + Int32.toNatClampNeg n1) 1)) ^^^ 6) else ((((n3 + n1) - (M.1 (pvbs 10 + Int32.toNatClampNeg n1) 1)) ^^^ 6) * 2))) else (if (M.1 (pvbs 10 + Int32.toNatClampNeg n1) 0) = 2 then (if n2 = 0 then ((n3 * 3) + n1) else (if n2 = 1 then (((n3 * 3) + n1) - (M.1 (pvbs 10 + Int32.toNatClampNeg n1) 1)) else ((((n3 * 3) + n1) - (M.1 (pvbs 10 + Int32.toNatClampNeg n1) 1)) * 2))) else (if (M.1 (pvbs 10 + Int32.toNatClampNeg n1) 0) = 3 then (if n2 = 0 then (n3 + n1) else (if n2 = 1 then ((n3 + n1) - (M.1 (pvbs 10 + Int32.toNatClampNeg n1) 1)) else ((((n3 + n1) - (M.1 (pvbs 10 + Int32.toNatClampNeg n1) 1)) * 2) + ((1 + n1) - (M.1 (pvbs 10 + Int32.toNatClampNeg n1) 1))))) else (if (M.1 (pvbs 10 + Int32.toNatClampNeg n1) 0) = 4 then (if n2 = 0 then (-(n3 + n1)) else (if n2 = 1 then (((-((n3 + 1) + n1)) - (M.1 (pvbs 10 + Int32.toNatClampNeg n1) 1)) ^^^ 6) else ((((-((n3 + 1) + n1)) - (M.1 (pvbs 10 + Int32.toNatClampNeg n1) 1)) ^^^ 6) * 2))) else (if (M.1 (pvbs 10 + Int32.toNatClampNeg n1) 0) = 5 then (if n2 = 0 then ((n3 * 3) + n1) else (if n2 = 1 then (((n3 * 3) + n1) - (M.1 (pvbs 10 + Int32.toNatClampNeg n1) 1)) else (((((n3 - n1) * 3) + n1) - (M.1 (pvbs 10 + Int32.toNatClampNeg n1) 1)) * 2))) else (if n2 = 0 then ((n3 + n1) ^^^ (M.1 (pvbs 10 + Int32.toNatClampNeg n1) 1)) else (if n2 = 1 then ((((n3 + n1) ^^^ (M.1 (pvbs 10 + Int32.toNatClampNeg n1) 1)) - (M.1 (pvbs 10 + Int32.toNatClampNeg n1) 1)) + (2 + n1)) else ((((((n3 + n1) ^^^ (M.1 (pvbs 10 + Int32.toNatClampNeg n1) 1)) - (M.1 (pvbs 10 + Int32.toNatClampNeg n1) 1)) + (2 + n1)) * 2) + ((((1 + n1) ^^^ (M.1 (pvbs 10 + Int32.toNatClampNeg n1) 1)) - (M.1 (pvbs 10 + Int32.toNatClampNeg n1) 1)) + (2 + n1)))))))))))))))) ∧ pvOk X ∧ pvFr fp_eX9_act_0_x_x_x M X) := by
  have hT : pvdom 166 = pvD_166 := rfl
  refine pw_blkw hT 4 (pc := 8) (lo := [some (pvR 0), some (pvI n1), some (pvI n2), some (pvI n3)]) (st := []) (M := pvu M 3 1 0) rfl ⟨trivial, rfl, trivial, rfl, trivial⟩ (fun M1_ e2_ => ?_)
  have o3_ : pvOk M1_ := pvok_u2 e2_ hok rfl (zr_wide (show 0 ≤ Int32.toInt 0 ∧ Int32.toInt 0 ≤ 0 from (by decide)) (by decide) (by decide))
  have f4_ : pvFr fp_eX9_act_0_x_x_x M M1_ := pvfr_u e2_ pvfr_0 rfl
  refine pw_blk hT 3 (S' := (13, [some (pvR 0), some (pvI n1), some (pvI n2), some (pvI n3)], [pvI n1, pvR 8], M1_)) rfl ⟨trivial, rfl, trivial, trivial⟩ ?_
  refine pw_callT hT (as := [pvR 8, pvI n1]) (lo1 := [some (pvR 8), some (pvI n1)]) (d1 := d) (rest := []) rfl rfl rfl rfl rfl (fun _ => rfl) (Nat.zero_le _) rfl rfl rfl (sf_X7_has_8_x M1_ o3_ n1 d) ?_
  refine pw_eqI (show (if n1 < 0 then 0 else (if (M1_.1 8 1) ≤ n1 then 0 else 1)) = (if n1 < 0 then 0 else (if (M.1 8 1) ≤ n1 then 0 else 1)) from by rw [(pvu_n e2_ 8 1 (Or.inl (by decide)))]) ?_
  have b10_ : 0 ≤ Int32.toInt (M.1 8 1) ∧ Int32.toInt (M.1 8 1) ≤ 7 := pvok_r hok 8 1 rfl
  by_cases c11_ : n1 < 0
  · refine pw_eqI (if_pos c11_) ?_
    have b12_ : (-2147483648) ≤ Int32.toInt n1 ∧ Int32.toInt n1 ≤ (-1) := zr_lt_l (-1) c11_ (zbnd n1) (show 0 ≤ Int32.toInt 0 ∧ Int32.toInt 0 ≤ 0 from (by decide)) (by decide)
    show PW 166 d (16, [some (pvR 0), some (pvI n1), some (pvI n2), some (pvI n3)], [pvI 0], M1_) _
    refine pw_if hT (c := 0 = 0) rfl rfl (fun c13_ => ?_) (fun c13_ => absurd (by decide) c13_)
    refine pw_blk hT 1 (S' := (29, [some (pvR 0), some (pvI n1), some (pvI n2), some (pvI n3)], [pvI 0], M1_)) rfl ⟨trivial, trivial⟩ ?_
    exact pw_ret hT rfl (r := some (pvI 0)) (M' := M1_) ⟨rfl, rfl⟩ ⟨⟨_, rfl, trivial, (if_pos c11_).symm⟩, o3_, f4_⟩
  · refine pw_eqI (if_neg c11_) ?_
    have b14_ : 0 ≤ Int32.toInt n1 ∧ Int32.toInt n1 ≤ 2147483647 := zr_nlt_l 0 c11_ (zbnd n1) (show 0 ≤ Int32.toInt 0 ∧ Int32.toInt 0 ≤ 0 from (by decide)) (by decide)
    by_cases c15_ : (M.1 8 1) ≤ n1
    · refine pw_eqI (if_pos c15_) ?_
      have d16_ : Int32.toInt (M.1 8 1) ≤ Int32.toInt n1 := (zi_le _ _).mp c15_
      show PW 166 d (16, [some (pvR 0), some (pvI n1), some (pvI n2), some (pvI n3)], [pvI 0], M1_) _
      refine pw_if hT (c := 0 = 0) rfl rfl (fun c17_ => ?_) (fun c17_ => absurd (by decide) c17_)
      refine pw_blk hT 1 (S' := (29, [some (pvR 0), some (pvI n1), some (pvI n2), some (pvI n3)], [pvI 0], M1_)) rfl ⟨trivial, trivial⟩ ?_
      exact pw_ret hT rfl (r := some (pvI 0)) (M' := M1_) ⟨rfl, rfl⟩ ⟨⟨_, rfl, trivial, ((if_neg c11_).trans (if_pos c15_)).symm⟩, o3_, f4_⟩
    · refine pw_eqI (if_neg c15_) ?_
      have b18_ : 1 ≤ Int32.toInt (M.1 8 1) ∧ Int32.toInt (M.1 8 1) ≤ 7 := zr_nle_l 1 c15_ b10_ b14_ (by decide)
      have b19_ : 0 ≤ Int32.toInt n1 ∧ Int32.toInt n1 ≤ 6 := zr_nle_r 6 c15_ b14_ b18_ (by decide)
      have d20_ : Int32.toInt (M.1 8 1) > Int32.toInt n1 := Int.not_le.mp ((not_congr (zi_le _ _)).mp c15_)
      show PW 166 d (16, [some (pvR 0), some (pvI n1), some (pvI n2), some (pvI n3)], [pvI 1], M1_) _
      refine pw_if hT (c := 1 = 0) rfl rfl (fun c21_ => absurd c21_ (by decide)) (fun c21_ => ?_)
      refine pw_blk hT 3 (S' := (22, [some (pvR 0), some (pvI n1), some (pvI n2), some (pvI n3)], [pvI 2, pvI 0, pvI n2], M1_)) rfl ⟨trivial, trivial, trivial, trivial⟩ ?_
      refine pw_callT hT (as := [pvI n2, pvI 0, pvI 2]) (lo1 := [some (pvI n2), some (pvI 0), some (pvI 2)]) (d1 := d) (rest := []) rfl rfl rfl rfl rfl (fun h => absurd h (by decide)) (Nat.zero_le _) rfl rfl rfl (sf_X9_within_x_x_x M1_ o3_ n2 0 2 d) ?_
      by_cases c27_ : n2 < 0
      · refine pw_eqI (if_pos c27_) ?_
        have b28_ : (-2147483648) ≤ Int32.toInt n2 ∧ Int32.toInt n2 ≤ (-1) := zr_lt_l (-1) c27_ (zbnd n2) (show 0 ≤ Int32.toInt 0 ∧ Int32.toInt 0 ≤ 0 from (by decide)) (by decide)
        show PW 166 d (25, [some (pvR 0), some (pvI n1), some (pvI n2), some (pvI n3)], [pvI 0], M1_) _
        refine pw_ifn hT (c := 0 = 0) rfl rfl (fun c29_ => absurd (by decide) c29_) (fun c29_ => ?_)
        refine pw_blk hT 1 (S' := (29, [some (pvR 0), some (pvI n1), some (pvI n2), some (pvI n3)], [pvI 0], M1_)) rfl ⟨trivial, trivial⟩ ?_
        exact pw_ret hT rfl (r := some (pvI 0)) (M' := M1_) ⟨rfl, rfl⟩ ⟨⟨_, rfl, trivial, ((if_neg c11_).trans ((if_neg c15_).trans (if_pos c27_))).symm⟩, o3_, f4_⟩
      · refine pw_eqI (if_neg c27_) ?_
        have b30_ : 0 ≤ Int32.toInt n2 ∧ Int32.toInt n2 ≤ 2147483647 := zr_nlt_l 0 c27_ (zbnd n2) (show 0 ≤ Int32.toInt 0 ∧ Int32.toInt 0 ≤ 0 from (by decide)) (by decide)
        by_cases c31_ : 2 < n2
        · refine pw_eqI (if_pos c31_) ?_
          have b32_ : 3 ≤ Int32.toInt n2 ∧ Int32.toInt n2 ≤ 2147483647 := zr_lt_r 3 c31_ b30_ (show 2 ≤ Int32.toInt 2 ∧ Int32.toInt 2 ≤ 2 from (by decide)) (by decide)
          show PW 166 d (25, [some (pvR 0), some (pvI n1), some (pvI n2), some (pvI n3)], [pvI 0], M1_) _
          refine pw_ifn hT (c := 0 = 0) rfl rfl (fun c33_ => absurd (by decide) c33_) (fun c33_ => ?_)
          refine pw_blk hT 1 (S' := (29, [some (pvR 0), some (pvI n1), some (pvI n2), some (pvI n3)], [pvI 0], M1_)) rfl ⟨trivial, trivial⟩ ?_
          exact pw_ret hT rfl (r := some (pvI 0)) (M' := M1_) ⟨rfl, rfl⟩ ⟨⟨_, rfl, trivial, ((if_neg c11_).trans ((if_neg c15_).trans ((if_neg c27_).trans (if_pos c31_)))).symm⟩, o3_, f4_⟩
        · refine pw_eqI (if_neg c31_) ?_
          have b34_ : 0 ≤ Int32.toInt n2 ∧ Int32.toInt n2 ≤ 2 := zr_nlt_r 2 c31_ b30_ (show 2 ≤ Int32.toInt 2 ∧ Int32.toInt 2 ≤ 2 from (by decide)) (by decide)
          show PW 166 d (25, [some (pvR 0), some (pvI n1), some (pvI n2), some (pvI n3)], [pvI 1], M1_) _
          refine pw_ifn hT (c := 1 = 0) rfl rfl (fun c35_ => ?_) (fun c35_ => absurd c35_ (by decide))
          refine pw_blkr hT 7 (pc := 43) (lo := [some (pvR 0), some (pvI n1), some (pvI n2), some (pvI n3)]) (st := [pvR 3]) (M := M1_) (z := (pvbs 10 + Int32.toNatClampNeg n1)) rfl ⟨trivial, rfl, trivial, rfl, rfl, trivial, ⟨rfl, (zr_in (n := 7) b19_ (by decide) (by decide))⟩, trivial⟩ (fun q36_ e38_ => ?_)
          have k37_ : pvkl q36_ = 3 := pvel_10 (zr_in (n := 7) b19_ (by decide) (by decide)) e38_
          subst e38_
          refine pw_blk hT 3 (S' := (46, [some (pvR 0), some (pvI n1), some (pvI n2), some (pvI n3)], [pvI n3, pvI n2, pvI n1, pvR (pvbs 10 + Int32.toNatClampNeg n1), pvR 3], M1_)) rfl ⟨trivial, trivial, trivial, trivial⟩ ?_
          refine pw_callG hT (as := [pvR 3, pvR (pvbs 10 + Int32.toNatClampNeg n1), pvI n1, pvI n2, pvI n3]) (lo1 := [some (pvR 3), some (pvR (pvbs 10 + Int32.toNatClampNeg n1)), some (pvI n1), some (pvI n2), some (pvI n3)]) (d1 := d) (rest := []) rfl rfl rfl rfl rfl (fun _ => rfl) (Nat.zero_le _) rfl rfl rfl (se_X0_perform_3_x_x_x_x M1_ o3_ (pvbs 10 + Int32.toNatClampNeg n1) n1 n2 n3 k37_ b19_ b34_ d (Nat.le_trans (by decide) hd)) (fun x39_ M40_ b41_ o42_ g43_ => ?_)
          have f44_ : pvFr fp_eX9_act_0_x_x_x M M40_ := pvfr_t g43_ f4_ fp_eX9_act_0_x_x_x_fp_eX0_perform_3_x_x_x_x
          obtain ⟨b45_, d46_⟩ := b41_
          subst d46_
          have e47_ : (if (M1_.1 (pvbs 10 + Int32.toNatClampNeg n1) 0) = 0 then (if n2 = 0 then (n3 + n1) else (if n2 = 1 then ((n3 + n1) - (M1_.1 (pvbs 10 + Int32.toNatClampNeg n1) 1)) else (((n3 + n1) - (M1_.1 (pvbs 10 + Int32.toNatClampNeg n1) 1)) * 2))) else (if (M1_.1 (pvbs 10 + Int32.toNatClampNeg n1) 0) = 1 then (if n2 = 0 then (n3 + n1) else (if n2 = 1 then (((n3 + n1) - (M1_.1 (pvbs 10 + Int32.toNatClampNeg n1) 1)) ^^^ 6) else ((((n3 + n1) - (M1_.1 (pvbs 10 + Int32.toNatClampNeg n1) 1)) ^^^ 6) * 2))) else (if (M1_.1 (pvbs 10 + Int32.toNatClampNeg n1) 0) = 2 then (if n2 = 0 then ((n3 * 3) + n1) else (if n2 = 1 then (((n3 * 3) + n1) - (M1_.1 (pvbs 10 + Int32.toNatClampNeg n1) 1)) else ((((n3 * 3) + n1) - (M1_.1 (pvbs 10 + Int32.toNatClampNeg n1) 1)) * 2))) else (if (M1_.1 (pvbs 10 + Int32.toNatClampNeg n1) 0) = 3 then (if n2 = 0 then (n3 + n1) else (if n2 = 1 then ((n3 + n1) - (M1_.1 (pvbs 10 + Int32.toNatClampNeg n1) 1)) else ((((n3 + n1) - (M1_.1 (pvbs 10 + Int32.toNatClampNeg n1) 1)) * 2) + ((1 + n1) - (M1_.1 (pvbs 10 + Int32.toNatClampNeg n1) 1))))) else (if (M1_.1 (pvbs 10 + Int32.toNatClampNeg n1) 0) = 4 then (if n2 = 0 then (-(n3 + n1)) else (if n2 = 1 then (((-((n3 + 1) + n1)) - (M1_.1 (pvbs 10 + Int32.toNatClampNeg n1) 1)) ^^^ 6) else ((((-((n3 + 1) + n1)) - (M1_.1 (pvbs 10 + Int32.toNatClampNeg n1) 1)) ^^^ 6) * 2))) else (if (M1_.1 (pvbs 10 + Int32.toNatClampNeg n1) 0) = 5 then (if n2 = 0 then ((n3 * 3) + n1) else (if n2 = 1 then (((n3 * 3) + n1) - (M1_.1 (pvbs 10 + Int32.toNatClampNeg n1) 1)) else (((((n3 - n1) * 3) + n1) - (M1_.1 (pvbs 10 + Int32.toNatClampNeg n1) 1)) * 2))) else (if n2 = 0 then ((n3 + n1) ^^^ (M1_.1 (pvbs 10 + Int32.toNatClampNeg n1) 1)) else (if n2 = 1 then ((((n3 + n1) ^^^ (M1_.1 (pvbs 10 + Int32.toNatClampNeg n1) 1)) - (M1_.1 (pvbs 10 + Int32.toNatClampNeg n1) 1)) + (2 + n1)) else ((((((n3 + n1) ^^^ (M1_.1 (pvbs 10 + Int32.toNatClampNeg n1) 1)) - (M1_.1 (pvbs 10 + Int32.toNatClampNeg n1) 1)) + (2 + n1)) * 2) + ((((1 + n1) ^^^ (M1_.1 (pvbs 10 + Int32.toNatClampNeg n1) 1)) - (M1_.1 (pvbs 10 + Int32.toNatClampNeg n1) 1)) + (2 + n1))))))))))) = (if (M.1 (pvbs 10 + Int32.toNatClampNeg n1) 0) = 0 then (if n2 = 0 then (n3 + n1) else (if n2 = 1 then ((n3 + n1) - (M.1 (pvbs 10 + Int32.toNatClampNeg n1) 1)) else (((n3 + n1) - (M.1 (pvbs 10 + Int32.toNatClampNeg n1) 1)) * 2))) else (if (M.1 (pvbs 10 + Int32.toNatClampNeg n1) 0) = 1 then (if n2 = 0 then (n3 + n1) else (if n2 = 1 then (((n3 + n1) - (M.1 (pvbs 10 + Int32.toNatClampNeg n1) 1)) ^^^ 6) else ((((n3 + n1) - (M.1 (pvbs 10 + Int32.toNatClampNeg n1) 1)) ^^^ 6) * 2))) else (if (M.1 (pvbs 10 + Int32.toNatClampNeg n1) 0) = 2 then (if n2 = 0 then ((n3 * 3) + n1) else (if n2 = 1 then (((n3 * 3) + n1) - (M.1 (pvbs 10 + Int32.toNatClampNeg n1) 1)) else ((((n3 * 3) + n1) - (M.1 (pvbs 10 + Int32.toNatClampNeg n1) 1)) * 2))) else (if (M.1 (pvbs 10 + Int32.toNatClampNeg n1) 0) = 3 then (if n2 = 0 then (n3 + n1) else (if n2 = 1 then ((n3 + n1) - (M.1 (pvbs 10 + Int32.toNatClampNeg n1) 1)) else ((((n3 + n1) - (M.1 (pvbs 10 + Int32.toNatClampNeg n1) 1)) * 2) + ((1 + n1) - (M.1 (pvbs 10 + Int32.toNatClampNeg n1) 1))))) else (if (M.1 (pvbs 10 + Int32.toNatClampNeg n1) 0) = 4 then (if n2 = 0 then (-(n3 + n1)) else (if n2 = 1 then (((-((n3 + 1) + n1)) - (M.1 (pvbs 10 + Int32.toNatClampNeg n1) 1)) ^^^ 6) else ((((-((n3 + 1) + n1)) - (M.1 (pvbs 10 + Int32.toNatClampNeg n1) 1)) ^^^ 6) * 2))) else (if (M.1 (pvbs 10 + Int32.toNatClampNeg n1) 0) = 5 then (if n2 = 0 then ((n3 * 3) + n1) else (if n2 = 1 then (((n3 * 3) + n1) - (M.1 (pvbs 10 + Int32.toNatClampNeg n1) 1)) else (((((n3 - n1) * 3) + n1) - (M.1 (pvbs 10 + Int32.toNatClampNeg n1) 1)) * 2))) else (if n2 = 0 then ((n3 + n1) ^^^ (M.1 (pvbs 10 + Int32.toNatClampNeg n1) 1)) else (if n2 = 1 then ((((n3 + n1) ^^^ (M.1 (pvbs 10 + Int32.toNatClampNeg n1) 1)) - (M.1 (pvbs 10 + Int32.toNatClampNeg n1) 1)) + (2 + n1)) else ((((((n3 + n1) ^^^ (M.1 (pvbs 10 + Int32.toNatClampNeg n1) 1)) - (M.1 (pvbs 10 + Int32.toNatClampNeg n1) 1)) + (2 + n1)) * 2) + ((((1 + n1) ^^^ (M.1 (pvbs 10 + Int32.toNatClampNeg n1) 1)) - (M.1 (pvbs 10 + Int32.toNatClampNeg n1) 1)) + (2 + n1))))))))))) := (show (if (M1_.1 (pvbs 10 + Int32.toNatClampNeg n1) 0) = 0 then (if n2 = 0 then (n3 + n1) else (if n2 = 1 then ((n3 + n1) - (M1_.1 (pvbs 10 + Int32.toNatClampNeg n1) 1)) else (((n3 + n1) - (M1_.1 (pvbs 10 + Int32.toNatClampNeg n1) 1)) * 2))) else (if (M1_.1 (pvbs 10 + Int32.toNatClampNeg n1) 0) = 1 then (if n2 = 0 then (n3 + n1) else (if n2 = 1 then (((n3 + n1) - (M1_.1 (pvbs 10 + Int32.toNatClampNeg n1) 1)) ^^^ 6) else ((((n3 + n1) - (M1_.1 (pvbs 10 + Int32.toNatClampNeg n1) 1)) ^^^ 6) * 2))) else (if (M1_.1 (pvbs 10 + Int32.toNatClampNeg n1) 0) = 2 then (if n2 = 0 then ((n3 * 3) + n1) else (if n2 = 1 then (((n3 * 3) + n1) - (M1_.1 (pvbs 10 + Int32.toNatClampNeg n1) 1)) else ((((n3 * 3) + n1) - (M1_.1 (pvbs 10 + Int32.toNatClampNeg n1) 1)) * 2))) else (if (M1_.1 (pvbs 10 + Int32.toNatClampNeg n1) 0) = 3 then (if n2 = 0 then (n3 + n1) else (if n2 = 1 then ((n3 + n1) - (M1_.1 (pvbs 10 + Int32.toNatClampNeg n1) 1)) else ((((n3 + n1) - (M1_.1 (pvbs 10 + Int32.toNatClampNeg n1) 1)) * 2) + ((1 + n1) - (M1_.1 (pvbs 10 + Int32.toNatClampNeg n1) 1))))) else (if (M1_.1 (pvbs 10 + Int32.toNatClampNeg n1) 0) = 4 then (if n2 = 0 then (-(n3 + n1)) else (if n2 = 1 then (((-((n3 + 1) + n1)) - (M1_.1 (pvbs 10 + Int32.toNatClampNeg n1) 1)) ^^^ 6) else ((((-((n3 + 1) + n1)) - (M1_.1 (pvbs 10 + Int32.toNatClampNeg n1) 1)) ^^^ 6) * 2))) else (if (M1_.1 (pvbs 10 + Int32.toNatClampNeg n1) 0) = 5 then (if n2 = 0 then ((n3 * 3) + n1) else (if n2 = 1 then (((n3 * 3) + n1) - (M1_.1 (pvbs 10 + Int32.toNatClampNeg n1) 1)) else (((((n3 - n1) * 3) + n1) - (M1_.1 (pvbs 10 + Int32.toNatClampNeg n1) 1)) * 2))) else (if n2 = 0 then ((n3 + n1) ^^^ (M1_.1 (pvbs 10 + Int32.toNatClampNeg n1) 1)) else (if n2 = 1 then ((((n3 + n1) ^^^ (M1_.1 (pvbs 10 + Int32.toNatClampNeg n1) 1)) - (M1_.1 (pvbs 10 + Int32.toNatClampNeg n1) 1)) + (2 + n1)) else ((((((n3 + n1) ^^^ (M1_.1 (pvbs 10 + Int32.toNatClampNeg n1) 1)) - (M1_.1 (pvbs 10 + Int32.toNatClampNeg n1) 1)) + (2 + n1)) * 2) + ((((1 + n1) ^^^ (M1_.1 (pvbs 10 + Int32.toNatClampNeg n1) 1)) - (M1_.1 (pvbs 10 + Int32.toNatClampNeg n1) 1)) + (2 + n1))))))))))) = (if (M.1 (pvbs 10 + Int32.toNatClampNeg n1) 0) = 0 then (if n2 = 0 then (n3 + n1) else (if n2 = 1 then ((n3 + n1) - (M.1 (pvbs 10 + Int32.toNatClampNeg n1) 1)) else (((n3 + n1) - (M.1 (pvbs 10 + Int32.toNatClampNeg n1) 1)) * 2))) else (if (M.1 (pvbs 10 + Int32.toNatClampNeg n1) 0) = 1 then (if n2 = 0 then (n3 + n1) else (if n2 = 1 then (((n3 + n1) - (M.1 (pvbs 10 + Int32.toNatClampNeg n1) 1)) ^^^ 6) else ((((n3 + n1) - (M.1 (pvbs 10 + Int32.toNatClampNeg n1) 1)) ^^^ 6) * 2))) else (if (M.1 (pvbs 10 + Int32.toNatClampNeg n1) 0) = 2 then (if n2 = 0 then ((n3 * 3) + n1) else (if n2 = 1 then (((n3 * 3) + n1) - (M.1 (pvbs 10 + Int32.toNatClampNeg n1) 1)) else ((((n3 * 3) + n1) - (M.1 (pvbs 10 + Int32.toNatClampNeg n1) 1)) * 2))) else (if (M.1 (pvbs 10 + Int32.toNatClampNeg n1) 0) = 3 then (if n2 = 0 then (n3 + n1) else (if n2 = 1 then ((n3 + n1) - (M.1 (pvbs 10 + Int32.toNatClampNeg n1) 1)) else ((((n3 + n1) - (M.1 (pvbs 10 + Int32.toNatClampNeg n1) 1)) * 2) + ((1 + n1) - (M.1 (pvbs 10 + Int32.toNatClampNeg n1) 1))))) else (if (M.1 (pvbs 10 + Int32.toNatClampNeg n1) 0) = 4 then (if n2 = 0 then (-(n3 + n1)) else (if n2 = 1 then (((-((n3 + 1) + n1)) - (M.1 (pvbs 10 + Int32.toNatClampNeg n1) 1)) ^^^ 6) else ((((-((n3 + 1) + n1)) - (M.1 (pvbs 10 + Int32.toNatClampNeg n1) 1)) ^^^ 6) * 2))) else (if (M.1 (pvbs 10 + Int32.toNatClampNeg n1) 0) = 5 then (if n2 = 0 then ((n3 * 3) + n1) else (if n2 = 1 then (((n3 * 3) + n1) - (M.1 (pvbs 10 + Int32.toNatClampNeg n1) 1)) else (((((n3 - n1) * 3) + n1) - (M.1 (pvbs 10 + Int32.toNatClampNeg n1) 1)) * 2))) else (if n2 = 0 then ((n3 + n1) ^^^ (M.1 (pvbs 10 + Int32.toNatClampNeg n1) 1)) else (if n2 = 1 then ((((n3 + n1) ^^^ (M.1 (pvbs 10 + Int32.toNatClampNeg n1) 1)) - (M.1 (pvbs 10 + Int32.toNatClampNeg n1) 1)) + (2 + n1)) else ((((((n3 + n1) ^^^ (M.1 (pvbs 10 + Int32.toNatClampNeg n1) 1)) - (M.1 (pvbs 10 + Int32.toNatClampNeg n1) 1)) + (2 + n1)) * 2) + ((((1 + n1) ^^^ (M.1 (pvbs 10 + Int32.toNatClampNeg n1) 1)) - (M.1 (pvbs 10 + Int32.toNatClampNeg n1) 1)) + (2 + n1))))))))))) from by rw [(pvu_n e2_ (pvbs 10 + Int32.toNatClampNeg n1) 0 (Or.inl (fun z => absurd (z ▸ k37_) (by decide)))), (pvu_n e2_ (pvbs 10 + Int32.toNatClampNeg n1) 1 (Or.inl (fun z => absurd (z ▸ k37_) (by decide))))])
          refine pw_eqI e47_ ?_
          exact pw_ret hT rfl (r := some (pvI (if (M.1 (pvbs 10 + Int32.toNatClampNeg n1) 0) = 0 then (if n2 = 0 then (n3 + n1) else (if n2 = 1 then ((n3 + n1) - (M.1 (pvbs 10 + Int32.toNatClampNeg n1) 1)) else (((n3 + n1) - (M.1 (pvbs 10 + Int32.toNatClampNeg n1) 1)) * 2))) else (if (M.1 (pvbs 10 + Int32.toNatClampNeg n1) 0) = 1 then (if n2 = 0 then (n3 + n1) else (if n2 = 1 then (((n3 + n1) - (M.1 (pvbs 10 + Int32.toNatClampNeg n1) 1)) ^^^ 6) else ((((n3 + n1) - (M.1 (pvbs 10 + Int32.toNatClampNeg n1) 1)) ^^^ 6) * 2))) else (if (M.1 (pvbs 10 + Int32.toNatClampNeg n1) 0) = 2 then (if n2 = 0 then ((n3 * 3) + n1) else (if n2 = 1 then (((n3 * 3) + n1) - (M.1 (pvbs 10 + Int32.toNatClampNeg n1) 1)) else ((((n3 * 3) + n1) - (M.1 (pvbs 10 + Int32.toNatClampNeg n1) 1)) * 2))) else (if (M.1 (pvbs 10 + Int32.toNatClampNeg n1) 0) = 3 then (if n2 = 0 then (n3 + n1) else (if n2 = 1 then ((n3 + n1) - (M.1 (pvbs 10 + Int32.toNatClampNeg n1) 1)) else ((((n3 + n1) - (M.1 (pvbs 10 + Int32.toNatClampNeg n1) 1)) * 2) + ((1 + n1) - (M.1 (pvbs 10 + Int32.toNatClampNeg n1) 1))))) else (if (M.1 (pvbs 10 + Int32.toNatClampNeg n1) 0) = 4 then (if n2 = 0 then (-(n3 + n1)) else (if n2 = 1 then (((-((n3 + 1) + n1)) - (M.1 (pvbs 10 + Int32.toNatClampNeg n1) 1)) ^^^ 6) else ((((-((n3 + 1) + n1)) - (M.1 (pvbs 10 + Int32.toNatClampNeg n1) 1)) ^^^ 6) * 2))) else (if (M.1 (pvbs 10 + Int32.toNatClampNeg n1) 0) = 5 then (if n2 = 0 then ((n3 * 3) + n1) else (if n2 = 1 then (((n3 * 3) + n1) - (M.1 (pvbs 10 + Int32.toNatClampNeg n1) 1)) else (((((n3 - n1) * 3) + n1) - (M.1 (pvbs 10 + Int32.toNatClampNeg n1) 1)) * 2))) else (if n2 = 0 then ((n3 + n1) ^^^ (M.1 (pvbs 10 + Int32.toNatClampNeg n1) 1)) else (if n2 = 1 then ((((n3 + n1) ^^^ (M.1 (pvbs 10 + Int32.toNatClampNeg n1) 1)) - (M.1 (pvbs 10 + Int32.toNatClampNeg n1) 1)) + (2 + n1)) else ((((((n3 + n1) ^^^ (M.1 (pvbs 10 + Int32.toNatClampNeg n1) 1)) - (M.1 (pvbs 10 + Int32.toNatClampNeg n1) 1)) + (2 + n1)) * 2) + ((((1 + n1) ^^^ (M.1 (pvbs 10 + Int32.toNatClampNeg n1) 1)) - (M.1 (pvbs 10 + Int32.toNatClampNeg n1) 1)) + (2 + n1))))))))))))) (M' := M40_) ⟨rfl, rfl⟩ ⟨⟨_, rfl, trivial, ((if_neg c11_).trans ((if_neg c15_).trans ((if_neg c27_).trans (if_neg c31_)))).symm⟩, o42_, f44_⟩
