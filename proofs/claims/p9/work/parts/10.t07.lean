theorem fp_X0_run_3_6_1_x_2_6_fp_X0_run_3_3_1_x_3_6 (a b : Nat) (h : fp_X0_run_3_3_1_x_3_6 a b = true) : fp_X0_run_3_6_1_x_2_6 a b = true := pvfp_sub (l1 := fpL_X0_run_3_3_1_x_3_6) (l2 := fpL_X0_run_3_6_1_x_2_6) (by decide) a b h
set_option maxHeartbeats 4000000 in
set_option maxRecDepth 10000 in
theorem sf_X0_run_3_6_1_x_2_6 (M : pvM) (hok : pvOk M) (n3 : Int32) (hc3_1 : 0 ≤ Int32.toInt (M.1 3 1) ∧ Int32.toInt (M.1 3 1) ≤ 994) (hc3_2 : 6 ≤ Int32.toInt (M.1 3 2) ∧ Int32.toInt (M.1 3 2) ≤ 6) (d : Nat) (hd : 3 ≤ d) : PW 4 d (0, [some (pvR 3), some (pvI 6), some (pvI 1), some (pvI n3), some (pvI 2), none, none], [], M) (fun r X => (∃ x : Int32, r = some (pvI x) ∧ True) ∧ pvOk X ∧ pvFr fp_X0_run_3_6_1_x_2_6 M X ∧ Int32.toInt (X.1 3 1) ≤ Int32.toInt (M.1 3 1) + 5) := by
  have hT : pvdom 4 = pvD_4 := rfl
  refine pw_blk hT 2 (S' := (4, [some (pvR 3), some (pvI 6), some (pvI 1), some (pvI n3), some (pvI 2), none, none], [pvI 40, pvI 2], M)) rfl ⟨trivial, trivial, trivial⟩ ?_
  refine pw_ic hT (c := 2 ≤ 40) rfl rfl (fun c1_ => ?_) (fun c1_ => absurd (by decide) c1_)
  refine pw_blk hT 2 (S' := (11, [some (pvR 3), some (pvI 6), some (pvI 1), some (pvI n3), some (pvI 2), none, none], [pvI 1, pvI 6], M)) rfl ⟨trivial, trivial, trivial⟩ ?_
  refine pw_callT hT (as := [pvI 6, pvI 1]) (lo1 := [some (pvI 6), some (pvI 1), none, none, none]) (d1 := d) (rest := []) rfl rfl rfl rfl rfl (fun h => absurd h (by decide)) (Nat.zero_le _) rfl rfl rfl (sf_X0_bodyFrom_6_1 M hok d) ?_
  refine pw_eqI (show ((pvstab 1041).getD (Int32.toNatClampNeg ((6 * 3) + 1)) 0) = 70 from by decide) ?_
  show PW 4 d (14, [some (pvR 3), some (pvI 6), some (pvI 1), some (pvI n3), some (pvI 2), none, none], [pvI 70], M) _
  refine pw_blk hT 7 (S' := (25, [some (pvR 3), some (pvI 6), some (pvI 1), some (pvI n3), some (pvI 2), some (pvI 70), some (pvI (2 + 1))], [pvI 70, pvR 3], M)) rfl ⟨trivial, trivial, trivial, trivial, trivial, trivial, trivial, trivial⟩ ?_
  refine pw_callVd hT (as := [pvR 3, pvI 70]) (lo1 := [some (pvR 3), some (pvI 70)]) (d1 := d) (rest := []) rfl rfl rfl rfl rfl (fun _ => rfl) (Nat.zero_le _) rfl rfl rfl (sf_X0_note_3_x M hok 70 (zr_wide (show 70 ≤ Int32.toInt 70 ∧ Int32.toInt 70 ≤ 70 from (by decide)) (by decide) (by decide)) (zr_wide hc3_1 (by decide) (by decide)) d) (fun M9_ o11_ g12_ d7_ => ?_)
  have f13_ : pvFr fp_X0_run_3_6_1_x_2_6 M M9_ := pvfr_t g12_ pvfr_0 fp_X0_run_3_6_1_x_2_6_fp_X0_note_3_x
  have b14_ : 0 ≤ Int32.toInt (M9_.1 3 1) ∧ Int32.toInt (M9_.1 3 1) ≤ 995 := (by have u0 := hc3_1; have u1 := d7_; have u2 := pvok_r o11_ 3 1 (lo := 0) (hi := 1000000) rfl; omega)
  refine pw_blk hT 1 (S' := (30, [some (pvR 3), some (pvI 6), some (pvI 1), some (pvI n3), some (pvI 2), some (pvI 70), some (pvI (2 + 1))], [pvI 70], M9_)) rfl ⟨trivial, trivial⟩ ?_
  refine pw_sw hT rfl rfl ?_
  refine And.intro (fun c15_ => absurd c15_ (by decide)) (fun c15_ => ?_)
  refine And.intro (fun c16_ => absurd c16_ (by decide)) (fun c16_ => ?_)
  refine And.intro (fun c17_ => absurd c17_ (by decide)) (fun c17_ => ?_)
  refine And.intro (fun c18_ => absurd c18_ (by decide)) (fun c18_ => ?_)
  refine And.intro (fun c19_ => absurd c19_ (by decide)) (fun c19_ => ?_)
  refine And.intro (fun c20_ => absurd c20_ (by decide)) (fun c20_ => ?_)
  refine And.intro (fun c21_ => absurd c21_ (by decide)) (fun c21_ => ?_)
  refine And.intro (fun c22_ => absurd c22_ (by decide)) (fun c22_ => ?_)
  refine And.intro (fun c23_ => absurd c23_ (by decide)) (fun c23_ => ?_)
  refine And.intro (fun c24_ => ?_) (fun c24_ => absurd (by decide) c24_)
  show PW 4 d (254, [some (pvR 3), some (pvI 6), some (pvI 1), some (pvI n3), some (pvI 2), some (pvI 70), some (pvI (2 + 1))], [], M9_) _
  refine pw_blk hT 5 (S' := (260, [some (pvR 3), some (pvI 6), some (pvI 1), some (pvI n3), some (pvI 2), some (pvI 70), some (pvI (2 + 1))], [pvI (2 + 1), pvI n3, pvI 1, pvI 3, pvR 3], M9_)) rfl ⟨trivial, trivial, trivial, trivial, trivial, trivial⟩ ?_
  have e25_ : (M9_.1 3 2) = (M.1 3 2) := (g12_ 3 2 rfl)
  have b26_ : 6 ≤ Int32.toInt (M9_.1 3 2) ∧ Int32.toInt (M9_.1 3 2) ≤ 6 := (by rw [e25_]; exact hc3_2)
  refine pw_callGd hT (as := [pvR 3, pvI 3, pvI 1, pvI n3, pvI (2 + 1)]) (lo1 := [some (pvR 3), some (pvI 3), some (pvI 1), some (pvI n3), some (pvI (2 + 1)), none, none]) (d1 := (d - 1)) (rest := []) rfl rfl rfl rfl rfl (fun h => absurd h (by decide)) (show 1 ≤ d by omega) rfl rfl rfl (sf_X0_run_3_3_1_x_3_6 M9_ o11_ n3 (zr_wide b14_ (by decide) (by decide)) b26_ (d - 1) (by omega)) (fun x28_ M29_ b30_ o31_ g32_ d27_ => ?_)
  have f33_ : pvFr fp_X0_run_3_6_1_x_2_6 M M29_ := pvfr_t g32_ f13_ fp_X0_run_3_6_1_x_2_6_fp_X0_run_3_3_1_x_3_6
  have b34_ : 0 ≤ Int32.toInt (M29_.1 3 1) ∧ Int32.toInt (M29_.1 3 1) ≤ 998 := (by have u0 := b14_; have u1 := d27_; have u2 := pvok_r o31_ 3 1 (lo := 0) (hi := 1000000) rfl; omega)
  refine pw_blk hT 5 (S' := (269, [some (pvR 3), some (pvI 6), some (pvI 1), some (pvI n3), some (pvI 2), some (pvI 70), some (pvI (2 + 1))], [pvI (2 + 1), pvI 2, pvI 0, pvI 3, pvR 3, pvI x28_], M29_)) rfl ⟨trivial, trivial, trivial, trivial, trivial, trivial⟩ ?_
  have e35_ : (M29_.1 3 2) = (M9_.1 3 2) := (g32_ 3 2 rfl)
  have b36_ : 6 ≤ Int32.toInt (M29_.1 3 2) ∧ Int32.toInt (M29_.1 3 2) ≤ 6 := (by rw [e35_]; exact b26_)
  refine pw_callGd hT (as := [pvR 3, pvI 3, pvI 0, pvI 2, pvI (2 + 1)]) (lo1 := [some (pvR 3), some (pvI 3), some (pvI 0), some (pvI 2), some (pvI (2 + 1)), none, none]) (d1 := (d - 1)) (rest := [pvI x28_]) rfl rfl rfl rfl rfl (fun h => absurd h (by decide)) (show 1 ≤ d by omega) rfl rfl rfl (sf_X0_run_3_3_0_x_3_6 M29_ o31_ 2 b34_ b36_ (d - 1)) (fun x38_ M39_ b40_ o41_ g42_ d37_ => ?_)
  have f43_ : pvFr fp_X0_run_3_6_1_x_2_6 M M39_ := pvfr_t g42_ f33_ fp_X0_run_3_6_1_x_2_6_fp_X0_run_3_3_0_x_3_6
  have b44_ : 0 ≤ Int32.toInt (M39_.1 3 1) ∧ Int32.toInt (M39_.1 3 1) ≤ 999 := (by have u0 := b34_; have u1 := d37_; have u2 := pvok_r o41_ 3 1 (lo := 0) (hi := 1000000) rfl; omega)
  refine pw_blk hT 1 (S' := (273, [some (pvR 3), some (pvI 6), some (pvI 1), some (pvI n3), some (pvI 2), some (pvI 70), some (pvI (2 + 1))], [pvI (x28_ + x38_)], M39_)) rfl ⟨trivial, trivial⟩ ?_
  exact pw_ret hT rfl (r := some (pvI (x28_ + x38_))) (M' := M39_) ⟨rfl, rfl⟩ ⟨⟨_, rfl, trivial⟩, o41_, f43_, (by omega)⟩
def fpL_X0_run_3_0_2_x_1_6 : List (Nat × Nat × Nat) := [(0, 3, 2), (0, 4, 0)]
def fp_X0_run_3_0_2_x_1_6 (q k : Nat) : Bool := pvfp fpL_X0_run_3_0_2_x_1_6 q k
theorem fp_X0_run_3_0_2_x_1_6_fp_X0_note_3_x (a b : Nat) (h : fp_X0_note_3_x a b = true) : fp_X0_run_3_0_2_x_1_6 a b = true := pvfp_sub (l1 := fpL_X0_note_3_x) (l2 := fpL_X0_run_3_0_2_x_1_6) (by decide) a b h
theorem fp_X0_run_3_0_2_x_1_6_fp_X0_run_3_6_1_x_2_6 (a b : Nat) (h : fp_X0_run_3_6_1_x_2_6 a b = true) : fp_X0_run_3_0_2_x_1_6 a b = true := pvfp_sub (l1 := fpL_X0_run_3_6_1_x_2_6) (l2 := fpL_X0_run_3_0_2_x_1_6) (by decide) a b h
set_option maxHeartbeats 4000000 in
set_option maxRecDepth 10000 in
theorem sf_X0_run_3_0_2_x_1_6 (M : pvM) (hok : pvOk M) (n3 : Int32) (hc3_1 : 0 ≤ Int32.toInt (M.1 3 1) ∧ Int32.toInt (M.1 3 1) ≤ 993) (hc3_2 : 6 ≤ Int32.toInt (M.1 3 2) ∧ Int32.toInt (M.1 3 2) ≤ 6) (d : Nat) (hd : 4 ≤ d) : PW 4 d (0, [some (pvR 3), some (pvI 0), some (pvI 2), some (pvI n3), some (pvI 1), none, none], [], M) (fun r X => (∃ x : Int32, r = some (pvI x) ∧ True) ∧ pvOk X ∧ pvFr fp_X0_run_3_0_2_x_1_6 M X ∧ Int32.toInt (X.1 3 1) ≤ Int32.toInt (M.1 3 1) + 6) := by
  have hT : pvdom 4 = pvD_4 := rfl
  refine pw_blk hT 2 (S' := (4, [some (pvR 3), some (pvI 0), some (pvI 2), some (pvI n3), some (pvI 1), none, none], [pvI 40, pvI 1], M)) rfl ⟨trivial, trivial, trivial⟩ ?_
  refine pw_ic hT (c := 1 ≤ 40) rfl rfl (fun c1_ => ?_) (fun c1_ => absurd (by decide) c1_)
  refine pw_blk hT 2 (S' := (11, [some (pvR 3), some (pvI 0), some (pvI 2), some (pvI n3), some (pvI 1), none, none], [pvI 2, pvI 0], M)) rfl ⟨trivial, trivial, trivial⟩ ?_
  refine pw_callT hT (as := [pvI 0, pvI 2]) (lo1 := [some (pvI 0), some (pvI 2), none, none, none]) (d1 := d) (rest := []) rfl rfl rfl rfl rfl (fun h => absurd h (by decide)) (Nat.zero_le _) rfl rfl rfl (sf_X0_bodyFrom_0_2 M hok d) ?_
  refine pw_eqI (show ((pvstab 1041).getD (Int32.toNatClampNeg ((0 * 3) + 2)) 0) = 12 from by decide) ?_
  show PW 4 d (14, [some (pvR 3), some (pvI 0), some (pvI 2), some (pvI n3), some (pvI 1), none, none], [pvI 12], M) _
  refine pw_blk hT 7 (S' := (25, [some (pvR 3), some (pvI 0), some (pvI 2), some (pvI n3), some (pvI 1), some (pvI 12), some (pvI (1 + 1))], [pvI 12, pvR 3], M)) rfl ⟨trivial, trivial, trivial, trivial, trivial, trivial, trivial, trivial⟩ ?_
  refine pw_callVd hT (as := [pvR 3, pvI 12]) (lo1 := [some (pvR 3), some (pvI 12)]) (d1 := d) (rest := []) rfl rfl rfl rfl rfl (fun _ => rfl) (Nat.zero_le _) rfl rfl rfl (sf_X0_note_3_x M hok 12 (zr_wide (show 12 ≤ Int32.toInt 12 ∧ Int32.toInt 12 ≤ 12 from (by decide)) (by decide) (by decide)) (zr_wide hc3_1 (by decide) (by decide)) d) (fun M9_ o11_ g12_ d7_ => ?_)
  have f13_ : pvFr fp_X0_run_3_0_2_x_1_6 M M9_ := pvfr_t g12_ pvfr_0 fp_X0_run_3_0_2_x_1_6_fp_X0_note_3_x
  have b14_ : 0 ≤ Int32.toInt (M9_.1 3 1) ∧ Int32.toInt (M9_.1 3 1) ≤ 994 := (by have u0 := hc3_1; have u1 := d7_; have u2 := pvok_r o11_ 3 1 (lo := 0) (hi := 1000000) rfl; omega)
  refine pw_blk hT 1 (S' := (30, [some (pvR 3), some (pvI 0), some (pvI 2), some (pvI n3), some (pvI 1), some (pvI 12), some (pvI (1 + 1))], [pvI 12], M9_)) rfl ⟨trivial, trivial⟩ ?_
  refine pw_sw hT rfl rfl ?_
  refine And.intro (fun c15_ => absurd c15_ (by decide)) (fun c15_ => ?_)
  refine And.intro (fun c16_ => absurd c16_ (by decide)) (fun c16_ => ?_)
  refine And.intro (fun c17_ => ?_) (fun c17_ => absurd (by decide) c17_)
  show PW 4 d (153, [some (pvR 3), some (pvI 0), some (pvI 2), some (pvI n3), some (pvI 1), some (pvI 12), some (pvI (1 + 1))], [], M9_) _
  have e18_ : (M9_.1 3 2) = (M.1 3 2) := (g12_ 3 2 rfl)
  have b19_ : 6 ≤ Int32.toInt (M9_.1 3 2) ∧ Int32.toInt (M9_.1 3 2) ≤ 6 := (by rw [e18_]; exact hc3_2)
  refine pw_blk hT 3 (S' := (158, [some (pvR 3), some (pvI 0), some (pvI 2), some (pvI n3), some (pvI 1), some (pvI 12), some (pvI (1 + 1))], [pvI (M9_.1 3 2), pvR 3], M9_)) rfl ⟨trivial, trivial, rfl, trivial⟩ ?_
  refine pw_eqI ((zi_eq _ (6)).mpr (by have u0 := b19_; have u1 : Int32.toInt (6) = 6 := (by decide); omega)) ?_
  refine pw_blk hT 3 (S' := (162, [some (pvR 3), some (pvI 0), some (pvI 2), some (pvI n3), some (pvI 1), some (pvI 12), some (pvI (1 + 1))], [pvI (1 + 1), pvI n3, pvI 1, pvI 6, pvR 3], M9_)) rfl ⟨trivial, trivial, trivial, trivial⟩ ?_
  refine pw_callGd hT (as := [pvR 3, pvI 6, pvI 1, pvI n3, pvI (1 + 1)]) (lo1 := [some (pvR 3), some (pvI 6), some (pvI 1), some (pvI n3), some (pvI (1 + 1)), none, none]) (d1 := (d - 1)) (rest := []) rfl rfl rfl rfl rfl (fun h => absurd h (by decide)) (show 1 ≤ d by omega) rfl rfl rfl (sf_X0_run_3_6_1_x_2_6 M9_ o11_ n3 b14_ b19_ (d - 1) (by omega)) (fun x21_ M22_ b23_ o24_ g25_ d20_ => ?_)
  have f26_ : pvFr fp_X0_run_3_0_2_x_1_6 M M22_ := pvfr_t g25_ f13_ fp_X0_run_3_0_2_x_1_6_fp_X0_run_3_6_1_x_2_6
  have b27_ : 0 ≤ Int32.toInt (M22_.1 3 1) ∧ Int32.toInt (M22_.1 3 1) ≤ 999 := (by have u0 := b14_; have u1 := d20_; have u2 := pvok_r o24_ 3 1 (lo := 0) (hi := 1000000) rfl; omega)
  refine pw_blk hT 2 (S' := (167, [some (pvR 3), some (pvI 0), some (pvI 2), some (pvI n3), some (pvI 1), some (pvI 12), some (pvI (1 + 1))], [pvI (x21_ * 2)], M22_)) rfl ⟨trivial, trivial, trivial⟩ ?_
  exact pw_ret hT rfl (r := some (pvI (x21_ * 2))) (M' := M22_) ⟨rfl, rfl⟩ ⟨⟨_, rfl, trivial⟩, o24_, f26_, (by omega)⟩
def fpL_X0_run_3_3_0_x_4_6 : List (Nat × Nat × Nat) := [(0, 3, 2), (0, 4, 0)]
def fp_X0_run_3_3_0_x_4_6 (q k : Nat) : Bool := pvfp fpL_X0_run_3_3_0_x_4_6 q k
theorem fp_X0_run_3_3_0_x_4_6_fp_X0_note_3_x (a b : Nat) (h : fp_X0_note_3_x a b = true) : fp_X0_run_3_3_0_x_4_6 a b = true := pvfp_sub (l1 := fpL_X0_note_3_x) (l2 := fpL_X0_run_3_3_0_x_4_6) (by decide) a b h
set_option maxHeartbeats 4000000 in
set_option maxRecDepth 10000 in
theorem sf_X0_run_3_3_0_x_4_6 (M : pvM) (hok : pvOk M) (n3 : Int32) (hc3_1 : 0 ≤ Int32.toInt (M.1 3 1) ∧ Int32.toInt (M.1 3 1) ≤ 998) (hc3_2 : 6 ≤ Int32.toInt (M.1 3 2) ∧ Int32.toInt (M.1 3 2) ≤ 6) (d : Nat) : PW 4 d (0, [some (pvR 3), some (pvI 3), some (pvI 0), some (pvI n3), some (pvI 4), none, none], [], M) (fun r X => (∃ x : Int32, r = some (pvI x) ∧ True) ∧ pvOk X ∧ pvFr fp_X0_run_3_3_0_x_4_6 M X ∧ Int32.toInt (X.1 3 1) ≤ Int32.toInt (M.1 3 1) + 1) := by
  have hT : pvdom 4 = pvD_4 := rfl
  refine pw_blk hT 2 (S' := (4, [some (pvR 3), some (pvI 3), some (pvI 0), some (pvI n3), some (pvI 4), none, none], [pvI 40, pvI 4], M)) rfl ⟨trivial, trivial, trivial⟩ ?_
  refine pw_ic hT (c := 4 ≤ 40) rfl rfl (fun c1_ => ?_) (fun c1_ => absurd (by decide) c1_)
  refine pw_blk hT 2 (S' := (11, [some (pvR 3), some (pvI 3), some (pvI 0), some (pvI n3), some (pvI 4), none, none], [pvI 0, pvI 3], M)) rfl ⟨trivial, trivial, trivial⟩ ?_
  refine pw_callT hT (as := [pvI 3, pvI 0]) (lo1 := [some (pvI 3), some (pvI 0), none, none, none]) (d1 := d) (rest := []) rfl rfl rfl rfl rfl (fun h => absurd h (by decide)) (Nat.zero_le _) rfl rfl rfl (sf_X0_bodyFrom_3_0 M hok d) ?_
  refine pw_eqI (show ((pvstab 1041).getD (Int32.toNatClampNeg ((0 * 3) + 0)) 0) = 10 from by decide) ?_
  show PW 4 d (14, [some (pvR 3), some (pvI 3), some (pvI 0), some (pvI n3), some (pvI 4), none, none], [pvI 10], M) _
  refine pw_blk hT 7 (S' := (25, [some (pvR 3), some (pvI 3), some (pvI 0), some (pvI n3), some (pvI 4), some (pvI 10), some (pvI (4 + 1))], [pvI 10, pvR 3], M)) rfl ⟨trivial, trivial, trivial, trivial, trivial, trivial, trivial, trivial⟩ ?_
  refine pw_callVd hT (as := [pvR 3, pvI 10]) (lo1 := [some (pvR 3), some (pvI 10)]) (d1 := d) (rest := []) rfl rfl rfl rfl rfl (fun _ => rfl) (Nat.zero_le _) rfl rfl rfl (sf_X0_note_3_x M hok 10 (zr_wide (show 10 ≤ Int32.toInt 10 ∧ Int32.toInt 10 ≤ 10 from (by decide)) (by decide) (by decide)) (zr_wide hc3_1 (by decide) (by decide)) d) (fun M9_ o11_ g12_ d7_ => ?_)
  have f13_ : pvFr fp_X0_run_3_3_0_x_4_6 M M9_ := pvfr_t g12_ pvfr_0 fp_X0_run_3_3_0_x_4_6_fp_X0_note_3_x
  have b14_ : 0 ≤ Int32.toInt (M9_.1 3 1) ∧ Int32.toInt (M9_.1 3 1) ≤ 999 := (by have u0 := hc3_1; have u1 := d7_; have u2 := pvok_r o11_ 3 1 (lo := 0) (hi := 1000000) rfl; omega)
  refine pw_blk hT 1 (S' := (30, [some (pvR 3), some (pvI 3), some (pvI 0), some (pvI n3), some (pvI 4), some (pvI 10), some (pvI (4 + 1))], [pvI 10], M9_)) rfl ⟨trivial, trivial⟩ ?_
  refine pw_sw hT rfl rfl ?_
  refine And.intro (fun c15_ => ?_) (fun c15_ => absurd (by decide) c15_)
  show PW 4 d (128, [some (pvR 3), some (pvI 3), some (pvI 0), some (pvI n3), some (pvI 4), some (pvI 10), some (pvI (4 + 1))], [], M9_) _
  refine pw_blk hT 4 (S' := (134, [some (pvR 3), some (pvI 3), some (pvI 0), some (pvI n3), some (pvI 4), some (pvI 10), some (pvI (4 + 1))], [pvI (n3 + (M9_.1 3 4))], M9_)) rfl ⟨trivial, trivial, rfl, trivial, trivial⟩ ?_
  exact pw_ret hT rfl (r := some (pvI (n3 + (M9_.1 3 4)))) (M' := M9_) ⟨rfl, rfl⟩ ⟨⟨_, rfl, trivial⟩, o11_, f13_, (by omega)⟩
def fpL_X0_run_3_6_0_x_3_6 : List (Nat × Nat × Nat) := [(0, 3, 2), (0, 4, 0)]
def fp_X0_run_3_6_0_x_3_6 (q k : Nat) : Bool := pvfp fpL_X0_run_3_6_0_x_3_6 q k
theorem fp_X0_run_3_6_0_x_3_6_fp_X0_note_3_x (a b : Nat) (h : fp_X0_note_3_x a b = true) : fp_X0_run_3_6_0_x_3_6 a b = true := pvfp_sub (l1 := fpL_X0_note_3_x) (l2 := fpL_X0_run_3_6_0_x_3_6) (by decide) a b h
theorem fp_X0_run_3_6_0_x_3_6_fp_X0_run_3_3_0_x_4_6 (a b : Nat) (h : fp_X0_run_3_3_0_x_4_6 a b = true) : fp_X0_run_3_6_0_x_3_6 a b = true := pvfp_sub (l1 := fpL_X0_run_3_3_0_x_4_6) (l2 := fpL_X0_run_3_6_0_x_3_6) (by decide) a b h
set_option maxHeartbeats 4000000 in
set_option maxRecDepth 10000 in
theorem sf_X0_run_3_6_0_x_3_6 (M : pvM) (hok : pvOk M) (n3 : Int32) (hc3_1 : 0 ≤ Int32.toInt (M.1 3 1) ∧ Int32.toInt (M.1 3 1) ≤ 997) (hc3_2 : 6 ≤ Int32.toInt (M.1 3 2) ∧ Int32.toInt (M.1 3 2) ≤ 6) (d : Nat) (hd : 1 ≤ d) : PW 4 d (0, [some (pvR 3), some (pvI 6), some (pvI 0), some (pvI n3), some (pvI 3), none, none], [], M) (fun r X => (∃ x : Int32, r = some (pvI x) ∧ True) ∧ pvOk X ∧ pvFr fp_X0_run_3_6_0_x_3_6 M X ∧ Int32.toInt (X.1 3 1) ≤ Int32.toInt (M.1 3 1) + 2) := by
  have hT : pvdom 4 = pvD_4 := rfl
  refine pw_blk hT 2 (S' := (4, [some (pvR 3), some (pvI 6), some (pvI 0), some (pvI n3), some (pvI 3), none, none], [pvI 40, pvI 3], M)) rfl ⟨trivial, trivial, trivial⟩ ?_
  refine pw_ic hT (c := 3 ≤ 40) rfl rfl (fun c1_ => ?_) (fun c1_ => absurd (by decide) c1_)
  refine pw_blk hT 2 (S' := (11, [some (pvR 3), some (pvI 6), some (pvI 0), some (pvI n3), some (pvI 3), none, none], [pvI 0, pvI 6], M)) rfl ⟨trivial, trivial, trivial⟩ ?_
  refine pw_callT hT (as := [pvI 6, pvI 0]) (lo1 := [some (pvI 6), some (pvI 0), none, none, none]) (d1 := d) (rest := []) rfl rfl rfl rfl rfl (fun h => absurd h (by decide)) (Nat.zero_le _) rfl rfl rfl (sf_X0_bodyFrom_6_0 M hok d) ?_
  refine pw_eqI (show ((pvstab 1041).getD (Int32.toNatClampNeg ((6 * 3) + 0)) 0) = 71 from by decide) ?_
  show PW 4 d (14, [some (pvR 3), some (pvI 6), some (pvI 0), some (pvI n3), some (pvI 3), none, none], [pvI 71], M) _
  refine pw_blk hT 7 (S' := (25, [some (pvR 3), some (pvI 6), some (pvI 0), some (pvI n3), some (pvI 3), some (pvI 71), some (pvI (3 + 1))], [pvI 71, pvR 3], M)) rfl ⟨trivial, trivial, trivial, trivial, trivial, trivial, trivial, trivial⟩ ?_
  refine pw_callVd hT (as := [pvR 3, pvI 71]) (lo1 := [some (pvR 3), some (pvI 71)]) (d1 := d) (rest := []) rfl rfl rfl rfl rfl (fun _ => rfl) (Nat.zero_le _) rfl rfl rfl (sf_X0_note_3_x M hok 71 (zr_wide (show 71 ≤ Int32.toInt 71 ∧ Int32.toInt 71 ≤ 71 from (by decide)) (by decide) (by decide)) (zr_wide hc3_1 (by decide) (by decide)) d) (fun M9_ o11_ g12_ d7_ => ?_)
  have f13_ : pvFr fp_X0_run_3_6_0_x_3_6 M M9_ := pvfr_t g12_ pvfr_0 fp_X0_run_3_6_0_x_3_6_fp_X0_note_3_x
  have b14_ : 0 ≤ Int32.toInt (M9_.1 3 1) ∧ Int32.toInt (M9_.1 3 1) ≤ 998 := (by have u0 := hc3_1; have u1 := d7_; have u2 := pvok_r o11_ 3 1 (lo := 0) (hi := 1000000) rfl; omega)
  refine pw_blk hT 1 (S' := (30, [some (pvR 3), some (pvI 6), some (pvI 0), some (pvI n3), some (pvI 3), some (pvI 71), some (pvI (3 + 1))], [pvI 71], M9_)) rfl ⟨trivial, trivial⟩ ?_
  refine pw_sw hT rfl rfl ?_
  refine And.intro (fun c15_ => absurd c15_ (by decide)) (fun c15_ => ?_)
  refine And.intro (fun c16_ => absurd c16_ (by decide)) (fun c16_ => ?_)
  refine And.intro (fun c17_ => absurd c17_ (by decide)) (fun c17_ => ?_)
  refine And.intro (fun c18_ => absurd c18_ (by decide)) (fun c18_ => ?_)
  refine And.intro (fun c19_ => absurd c19_ (by decide)) (fun c19_ => ?_)
  refine And.intro (fun c20_ => absurd c20_ (by decide)) (fun c20_ => ?_)
  refine And.intro (fun c21_ => absurd c21_ (by decide)) (fun c21_ => ?_)
  refine And.intro (fun c22_ => absurd c22_ (by decide)) (fun c22_ => ?_)
  refine And.intro (fun c23_ => absurd c23_ (by decide)) (fun c23_ => ?_)
  refine And.intro (fun c24_ => absurd c24_ (by decide)) (fun c24_ => ?_)
  refine And.intro (fun c25_ => ?_) (fun c25_ => absurd (by decide) c25_)
  show PW 4 d (274, [some (pvR 3), some (pvI 6), some (pvI 0), some (pvI n3), some (pvI 3), some (pvI 71), some (pvI (3 + 1))], [], M9_) _
  refine pw_blk hT 5 (S' := (280, [some (pvR 3), some (pvI 6), some (pvI 0), some (pvI n3), some (pvI 3), some (pvI 71), some (pvI (3 + 1))], [pvI (3 + 1), pvI n3, pvI 0, pvI 3, pvR 3], M9_)) rfl ⟨trivial, trivial, trivial, trivial, trivial, trivial⟩ ?_
  have e26_ : (M9_.1 3 2) = (M.1 3 2) := (g12_ 3 2 rfl)
  have b27_ : 6 ≤ Int32.toInt (M9_.1 3 2) ∧ Int32.toInt (M9_.1 3 2) ≤ 6 := (by rw [e26_]; exact hc3_2)
  refine pw_callGd hT (as := [pvR 3, pvI 3, pvI 0, pvI n3, pvI (3 + 1)]) (lo1 := [some (pvR 3), some (pvI 3), some (pvI 0), some (pvI n3), some (pvI (3 + 1)), none, none]) (d1 := (d - 1)) (rest := []) rfl rfl rfl rfl rfl (fun h => absurd h (by decide)) (show 1 ≤ d by omega) rfl rfl rfl (sf_X0_run_3_3_0_x_4_6 M9_ o11_ n3 b14_ b27_ (d - 1)) (fun x29_ M30_ b31_ o32_ g33_ d28_ => ?_)
  have f34_ : pvFr fp_X0_run_3_6_0_x_3_6 M M30_ := pvfr_t g33_ f13_ fp_X0_run_3_6_0_x_3_6_fp_X0_run_3_3_0_x_4_6
  have b35_ : 0 ≤ Int32.toInt (M30_.1 3 1) ∧ Int32.toInt (M30_.1 3 1) ≤ 999 := (by have u0 := b14_; have u1 := d28_; have u2 := pvok_r o32_ 3 1 (lo := 0) (hi := 1000000) rfl; omega)
  refine pw_blk hT 3 (S' := (288, [some (pvR 3), some (pvI 6), some (pvI 0), some (pvI n3), some (pvI 3), some (pvI 71), some (pvI (3 + 1))], [pvI (x29_ ^^^ (M30_.1 3 3))], M30_)) rfl ⟨trivial, rfl, trivial, trivial⟩ ?_
  exact pw_ret hT rfl (r := some (pvI (x29_ ^^^ (M30_.1 3 3)))) (M' := M30_) ⟨rfl, rfl⟩ ⟨⟨_, rfl, trivial⟩, o32_, f34_, (by omega)⟩
def fpL_X0_run_3_3_1_x_2_6 : List (Nat × Nat × Nat) := [(0, 3, 2), (0, 4, 0)]
def fp_X0_run_3_3_1_x_2_6 (q k : Nat) : Bool := pvfp fpL_X0_run_3_3_1_x_2_6 q k
theorem fp_X0_run_3_3_1_x_2_6_fp_X0_note_3_x (a b : Nat) (h : fp_X0_note_3_x a b = true) : fp_X0_run_3_3_1_x_2_6 a b = true := pvfp_sub (l1 := fpL_X0_note_3_x) (l2 := fpL_X0_run_3_3_1_x_2_6) (by decide) a b h
theorem fp_X0_run_3_3_1_x_2_6_fp_X0_run_3_6_0_x_3_6 (a b : Nat) (h : fp_X0_run_3_6_0_x_3_6 a b = true) : fp_X0_run_3_3_1_x_2_6 a b = true := pvfp_sub (l1 := fpL_X0_run_3_6_0_x_3_6) (l2 := fpL_X0_run_3_3_1_x_2_6) (by decide) a b h
set_option maxHeartbeats 4000000 in
set_option maxRecDepth 10000 in
theorem sf_X0_run_3_3_1_x_2_6 (M : pvM) (hok : pvOk M) (n3 : Int32) (hc3_1 : 0 ≤ Int32.toInt (M.1 3 1) ∧ Int32.toInt (M.1 3 1) ≤ 996) (hc3_2 : 6 ≤ Int32.toInt (M.1 3 2) ∧ Int32.toInt (M.1 3 2) ≤ 6) (d : Nat) (hd : 2 ≤ d) : PW 4 d (0, [some (pvR 3), some (pvI 3), some (pvI 1), some (pvI n3), some (pvI 2), none, none], [], M) (fun r X => (∃ x : Int32, r = some (pvI x) ∧ True) ∧ pvOk X ∧ pvFr fp_X0_run_3_3_1_x_2_6 M X ∧ Int32.toInt (X.1 3 1) ≤ Int32.toInt (M.1 3 1) + 3) := by
  have hT : pvdom 4 = pvD_4 := rfl
  refine pw_blk hT 2 (S' := (4, [some (pvR 3), some (pvI 3), some (pvI 1), some (pvI n3), some (pvI 2), none, none], [pvI 40, pvI 2], M)) rfl ⟨trivial, trivial, trivial⟩ ?_
  refine pw_ic hT (c := 2 ≤ 40) rfl rfl (fun c1_ => ?_) (fun c1_ => absurd (by decide) c1_)
  refine pw_blk hT 2 (S' := (11, [some (pvR 3), some (pvI 3), some (pvI 1), some (pvI n3), some (pvI 2), none, none], [pvI 1, pvI 3], M)) rfl ⟨trivial, trivial, trivial⟩ ?_
  refine pw_callT hT (as := [pvI 3, pvI 1]) (lo1 := [some (pvI 3), some (pvI 1), none, none, none]) (d1 := d) (rest := []) rfl rfl rfl rfl rfl (fun h => absurd h (by decide)) (Nat.zero_le _) rfl rfl rfl (sf_X0_bodyFrom_3_1 M hok d) ?_
  refine pw_eqI (show ((pvstab 1041).getD (Int32.toNatClampNeg ((0 * 3) + 1)) 0) = 11 from by decide) ?_
  show PW 4 d (14, [some (pvR 3), some (pvI 3), some (pvI 1), some (pvI n3), some (pvI 2), none, none], [pvI 11], M) _
  refine pw_blk hT 7 (S' := (25, [some (pvR 3), some (pvI 3), some (pvI 1), some (pvI n3), some (pvI 2), some (pvI 11), some (pvI (2 + 1))], [pvI 11, pvR 3], M)) rfl ⟨trivial, trivial, trivial, trivial, trivial, trivial, trivial, trivial⟩ ?_
  refine pw_callVd hT (as := [pvR 3, pvI 11]) (lo1 := [some (pvR 3), some (pvI 11)]) (d1 := d) (rest := []) rfl rfl rfl rfl rfl (fun _ => rfl) (Nat.zero_le _) rfl rfl rfl (sf_X0_note_3_x M hok 11 (zr_wide (show 11 ≤ Int32.toInt 11 ∧ Int32.toInt 11 ≤ 11 from (by decide)) (by decide) (by decide)) (zr_wide hc3_1 (by decide) (by decide)) d) (fun M9_ o11_ g12_ d7_ => ?_)
  have f13_ : pvFr fp_X0_run_3_3_1_x_2_6 M M9_ := pvfr_t g12_ pvfr_0 fp_X0_run_3_3_1_x_2_6_fp_X0_note_3_x
  have b14_ : 0 ≤ Int32.toInt (M9_.1 3 1) ∧ Int32.toInt (M9_.1 3 1) ≤ 997 := (by have u0 := hc3_1; have u1 := d7_; have u2 := pvok_r o11_ 3 1 (lo := 0) (hi := 1000000) rfl; omega)
  refine pw_blk hT 1 (S' := (30, [some (pvR 3), some (pvI 3), some (pvI 1), some (pvI n3), some (pvI 2), some (pvI 11), some (pvI (2 + 1))], [pvI 11], M9_)) rfl ⟨trivial, trivial⟩ ?_
  refine pw_sw hT rfl rfl ?_
  refine And.intro (fun c15_ => absurd c15_ (by decide)) (fun c15_ => ?_)
  refine And.intro (fun c16_ => ?_) (fun c16_ => absurd (by decide) c16_)
  show PW 4 d (135, [some (pvR 3), some (pvI 3), some (pvI 1), some (pvI n3), some (pvI 2), some (pvI 11), some (pvI (2 + 1))], [], M9_) _
  have e17_ : (M9_.1 3 2) = (M.1 3 2) := (g12_ 3 2 rfl)
  have b18_ : 6 ≤ Int32.toInt (M9_.1 3 2) ∧ Int32.toInt (M9_.1 3 2) ≤ 6 := (by rw [e17_]; exact hc3_2)
  refine pw_blk hT 3 (S' := (140, [some (pvR 3), some (pvI 3), some (pvI 1), some (pvI n3), some (pvI 2), some (pvI 11), some (pvI (2 + 1))], [pvI (M9_.1 3 2), pvR 3], M9_)) rfl ⟨trivial, trivial, rfl, trivial⟩ ?_
  refine pw_eqI ((zi_eq _ (6)).mpr (by have u0 := b18_; have u1 : Int32.toInt (6) = 6 := (by decide); omega)) ?_
  refine pw_blk hT 3 (S' := (144, [some (pvR 3), some (pvI 3), some (pvI 1), some (pvI n3), some (pvI 2), some (pvI 11), some (pvI (2 + 1))], [pvI (2 + 1), pvI n3, pvI 0, pvI 6, pvR 3], M9_)) rfl ⟨trivial, trivial, trivial, trivial⟩ ?_
  refine pw_callGd hT (as := [pvR 3, pvI 6, pvI 0, pvI n3, pvI (2 + 1)]) (lo1 := [some (pvR 3), some (pvI 6), some (pvI 0), some (pvI n3), some (pvI (2 + 1)), none, none]) (d1 := (d - 1)) (rest := []) rfl rfl rfl rfl rfl (fun h => absurd h (by decide)) (show 1 ≤ d by omega) rfl rfl rfl (sf_X0_run_3_6_0_x_3_6 M9_ o11_ n3 b14_ b18_ (d - 1) (by omega)) (fun x20_ M21_ b22_ o23_ g24_ d19_ => ?_)
  have f25_ : pvFr fp_X0_run_3_3_1_x_2_6 M M21_ := pvfr_t g24_ f13_ fp_X0_run_3_3_1_x_2_6_fp_X0_run_3_6_0_x_3_6
  have b26_ : 0 ≤ Int32.toInt (M21_.1 3 1) ∧ Int32.toInt (M21_.1 3 1) ≤ 999 := (by have u0 := b14_; have u1 := d19_; have u2 := pvok_r o23_ 3 1 (lo := 0) (hi := 1000000) rfl; omega)
  refine pw_blk hT 3 (S' := (152, [some (pvR 3), some (pvI 3), some (pvI 1), some (pvI n3), some (pvI 2), some (pvI 11), some (pvI (2 + 1))], [pvI (x20_ - (M21_.1 3 3))], M21_)) rfl ⟨trivial, rfl, trivial, trivial⟩ ?_
  exact pw_ret hT rfl (r := some (pvI (x20_ - (M21_.1 3 3)))) (M' := M21_) ⟨rfl, rfl⟩ ⟨⟨_, rfl, trivial⟩, o23_, f25_, (by omega)⟩
def fpL_X0_run_3_3_0_x_2_6 : List (Nat × Nat × Nat) := [(0, 3, 2), (0, 4, 0)]
def fp_X0_run_3_3_0_x_2_6 (q k : Nat) : Bool := pvfp fpL_X0_run_3_3_0_x_2_6 q k
theorem fp_X0_run_3_3_0_x_2_6_fp_X0_note_3_x (a b : Nat) (h : fp_X0_note_3_x a b = true) : fp_X0_run_3_3_0_x_2_6 a b = true := pvfp_sub (l1 := fpL_X0_note_3_x) (l2 := fpL_X0_run_3_3_0_x_2_6) (by decide) a b h
set_option maxHeartbeats 4000000 in
set_option maxRecDepth 10000 in
theorem sf_X0_run_3_3_0_x_2_6 (M : pvM) (hok : pvOk M) (n3 : Int32) (hc3_1 : 0 ≤ Int32.toInt (M.1 3 1) ∧ Int32.toInt (M.1 3 1) ≤ 998) (hc3_2 : 6 ≤ Int32.toInt (M.1 3 2) ∧ Int32.toInt (M.1 3 2) ≤ 6) (d : Nat) : PW 4 d (0, [some (pvR 3), some (pvI 3), some (pvI 0), some (pvI n3), some (pvI 2), none, none], [], M) (fun r X => (∃ x : Int32, r = some (pvI x) ∧ True) ∧ pvOk X ∧ pvFr fp_X0_run_3_3_0_x_2_6 M X ∧ Int32.toInt (X.1 3 1) ≤ Int32.toInt (M.1 3 1) + 1) := by
  have hT : pvdom 4 = pvD_4 := rfl
  refine pw_blk hT 2 (S' := (4, [some (pvR 3), some (pvI 3), some (pvI 0), some (pvI n3), some (pvI 2), none, none], [pvI 40, pvI 2], M)) rfl ⟨trivial, trivial, trivial⟩ ?_
  refine pw_ic hT (c := 2 ≤ 40) rfl rfl (fun c1_ => ?_) (fun c1_ => absurd (by decide) c1_)
  refine pw_blk hT 2 (S' := (11, [some (pvR 3), some (pvI 3), some (pvI 0), some (pvI n3), some (pvI 2), none, none], [pvI 0, pvI 3], M)) rfl ⟨trivial, trivial, trivial⟩ ?_
  refine pw_callT hT (as := [pvI 3, pvI 0]) (lo1 := [some (pvI 3), some (pvI 0), none, none, none]) (d1 := d) (rest := []) rfl rfl rfl rfl rfl (fun h => absurd h (by decide)) (Nat.zero_le _) rfl rfl rfl (sf_X0_bodyFrom_3_0 M hok d) ?_
  refine pw_eqI (show ((pvstab 1041).getD (Int32.toNatClampNeg ((0 * 3) + 0)) 0) = 10 from by decide) ?_
  show PW 4 d (14, [some (pvR 3), some (pvI 3), some (pvI 0), some (pvI n3), some (pvI 2), none, none], [pvI 10], M) _
  refine pw_blk hT 7 (S' := (25, [some (pvR 3), some (pvI 3), some (pvI 0), some (pvI n3), some (pvI 2), some (pvI 10), some (pvI (2 + 1))], [pvI 10, pvR 3], M)) rfl ⟨trivial, trivial, trivial, trivial, trivial, trivial, trivial, trivial⟩ ?_
  refine pw_callVd hT (as := [pvR 3, pvI 10]) (lo1 := [some (pvR 3), some (pvI 10)]) (d1 := d) (rest := []) rfl rfl rfl rfl rfl (fun _ => rfl) (Nat.zero_le _) rfl rfl rfl (sf_X0_note_3_x M hok 10 (zr_wide (show 10 ≤ Int32.toInt 10 ∧ Int32.toInt 10 ≤ 10 from (by decide)) (by decide) (by decide)) (zr_wide hc3_1 (by decide) (by decide)) d) (fun M9_ o11_ g12_ d7_ => ?_)
  have f13_ : pvFr fp_X0_run_3_3_0_x_2_6 M M9_ := pvfr_t g12_ pvfr_0 fp_X0_run_3_3_0_x_2_6_fp_X0_note_3_x
  have b14_ : 0 ≤ Int32.toInt (M9_.1 3 1) ∧ Int32.toInt (M9_.1 3 1) ≤ 999 := (by have u0 := hc3_1; have u1 := d7_; have u2 := pvok_r o11_ 3 1 (lo := 0) (hi := 1000000) rfl; omega)
  refine pw_blk hT 1 (S' := (30, [some (pvR 3), some (pvI 3), some (pvI 0), some (pvI n3), some (pvI 2), some (pvI 10), some (pvI (2 + 1))], [pvI 10], M9_)) rfl ⟨trivial, trivial⟩ ?_
  refine pw_sw hT rfl rfl ?_
  refine And.intro (fun c15_ => ?_) (fun c15_ => absurd (by decide) c15_)
  show PW 4 d (128, [some (pvR 3), some (pvI 3), some (pvI 0), some (pvI n3), some (pvI 2), some (pvI 10), some (pvI (2 + 1))], [], M9_) _
  refine pw_blk hT 4 (S' := (134, [some (pvR 3), some (pvI 3), some (pvI 0), some (pvI n3), some (pvI 2), some (pvI 10), some (pvI (2 + 1))], [pvI (n3 + (M9_.1 3 4))], M9_)) rfl ⟨trivial, trivial, rfl, trivial, trivial⟩ ?_
  exact pw_ret hT rfl (r := some (pvI (n3 + (M9_.1 3 4)))) (M' := M9_) ⟨rfl, rfl⟩ ⟨⟨_, rfl, trivial⟩, o11_, f13_, (by omega)⟩
def fpL_X0_run_3_6_1_x_1_6 : List (Nat × Nat × Nat) := [(0, 3, 2), (0, 4, 0)]
def fp_X0_run_3_6_1_x_1_6 (q k : Nat) : Bool := pvfp fpL_X0_run_3_6_1_x_1_6 q k
theorem fp_X0_run_3_6_1_x_1_6_fp_X0_note_3_x (a b : Nat) (h : fp_X0_note_3_x a b = true) : fp_X0_run_3_6_1_x_1_6 a b = true := pvfp_sub (l1 := fpL_X0_note_3_x) (l2 := fpL_X0_run_3_6_1_x_1_6) (by decide) a b h
theorem fp_X0_run_3_6_1_x_1_6_fp_X0_run_3_3_0_x_2_6 (a b : Nat) (h : fp_X0_run_3_3_0_x_2_6 a b = true) : fp_X0_run_3_6_1_x_1_6 a b = true := pvfp_sub (l1 := fpL_X0_run_3_3_0_x_2_6) (l2 := fpL_X0_run_3_6_1_x_1_6) (by decide) a b h
theorem fp_X0_run_3_6_1_x_1_6_fp_X0_run_3_3_1_x_2_6 (a b : Nat) (h : fp_X0_run_3_3_1_x_2_6 a b = true) : fp_X0_run_3_6_1_x_1_6 a b = true := pvfp_sub (l1 := fpL_X0_run_3_3_1_x_2_6) (l2 := fpL_X0_run_3_6_1_x_1_6) (by decide) a b h
set_option maxHeartbeats 4000000 in
set_option maxRecDepth 10000 in
theorem sf_X0_run_3_6_1_x_1_6 (M : pvM) (hok : pvOk M) (n3 : Int32) (hc3_1 : 0 ≤ Int32.toInt (M.1 3 1) ∧ Int32.toInt (M.1 3 1) ≤ 994) (hc3_2 : 6 ≤ Int32.toInt (M.1 3 2) ∧ Int32.toInt (M.1 3 2) ≤ 6) (d : Nat) (hd : 3 ≤ d) : PW 4 d (0, [some (pvR 3), some (pvI 6), some (pvI 1), some (pvI n3), some (pvI 1), none, none], [], M) (fun r X => (∃ x : Int32, r = some (pvI x) ∧ True) ∧ pvOk X ∧ pvFr fp_X0_run_3_6_1_x_1_6 M X ∧ Int32.toInt (X.1 3 1) ≤ Int32.toInt (M.1 3 1) + 5) := by
  have hT : pvdom 4 = pvD_4 := rfl
  refine pw_blk hT 2 (S' := (4, [some (pvR 3), some (pvI 6), some (pvI 1), some (pvI n3), some (pvI 1), none, none], [pvI 40, pvI 1], M)) rfl ⟨trivial, trivial, trivial⟩ ?_
  refine pw_ic hT (c := 1 ≤ 40) rfl rfl (fun c1_ => ?_) (fun c1_ => absurd (by decide) c1_)
  refine pw_blk hT 2 (S' := (11, [some (pvR 3), some (pvI 6), some (pvI 1), some (pvI n3), some (pvI 1), none, none], [pvI 1, pvI 6], M)) rfl ⟨trivial, trivial, trivial⟩ ?_
  refine pw_callT hT (as := [pvI 6, pvI 1]) (lo1 := [some (pvI 6), some (pvI 1), none, none, none]) (d1 := d) (rest := []) rfl rfl rfl rfl rfl (fun h => absurd h (by decide)) (Nat.zero_le _) rfl rfl rfl (sf_X0_bodyFrom_6_1 M hok d) ?_
  refine pw_eqI (show ((pvstab 1041).getD (Int32.toNatClampNeg ((6 * 3) + 1)) 0) = 70 from by decide) ?_
  show PW 4 d (14, [some (pvR 3), some (pvI 6), some (pvI 1), some (pvI n3), some (pvI 1), none, none], [pvI 70], M) _
  refine pw_blk hT 7 (S' := (25, [some (pvR 3), some (pvI 6), some (pvI 1), some (pvI n3), some (pvI 1), some (pvI 70), some (pvI (1 + 1))], [pvI 70, pvR 3], M)) rfl ⟨trivial, trivial, trivial, trivial, trivial, trivial, trivial, trivial⟩ ?_
  refine pw_callVd hT (as := [pvR 3, pvI 70]) (lo1 := [some (pvR 3), some (pvI 70)]) (d1 := d) (rest := []) rfl rfl rfl rfl rfl (fun _ => rfl) (Nat.zero_le _) rfl rfl rfl (sf_X0_note_3_x M hok 70 (zr_wide (show 70 ≤ Int32.toInt 70 ∧ Int32.toInt 70 ≤ 70 from (by decide)) (by decide) (by decide)) (zr_wide hc3_1 (by decide) (by decide)) d) (fun M9_ o11_ g12_ d7_ => ?_)
  have f13_ : pvFr fp_X0_run_3_6_1_x_1_6 M M9_ := pvfr_t g12_ pvfr_0 fp_X0_run_3_6_1_x_1_6_fp_X0_note_3_x
  have b14_ : 0 ≤ Int32.toInt (M9_.1 3 1) ∧ Int32.toInt (M9_.1 3 1) ≤ 995 := (by have u0 := hc3_1; have u1 := d7_; have u2 := pvok_r o11_ 3 1 (lo := 0) (hi := 1000000) rfl; omega)
  refine pw_blk hT 1 (S' := (30, [some (pvR 3), some (pvI 6), some (pvI 1), some (pvI n3), some (pvI 1), some (pvI 70), some (pvI (1 + 1))], [pvI 70], M9_)) rfl ⟨trivial, trivial⟩ ?_
  refine pw_sw hT rfl rfl ?_
  refine And.intro (fun c15_ => absurd c15_ (by decide)) (fun c15_ => ?_)
  refine And.intro (fun c16_ => absurd c16_ (by decide)) (fun c16_ => ?_)
  refine And.intro (fun c17_ => absurd c17_ (by decide)) (fun c17_ => ?_)
  refine And.intro (fun c18_ => absurd c18_ (by decide)) (fun c18_ => ?_)
  refine And.intro (fun c19_ => absurd c19_ (by decide)) (fun c19_ => ?_)
  refine And.intro (fun c20_ => absurd c20_ (by decide)) (fun c20_ => ?_)
  refine And.intro (fun c21_ => absurd c21_ (by decide)) (fun c21_ => ?_)
  refine And.intro (fun c22_ => absurd c22_ (by decide)) (fun c22_ => ?_)
  refine And.intro (fun c23_ => absurd c23_ (by decide)) (fun c23_ => ?_)
  refine And.intro (fun c24_ => ?_) (fun c24_ => absurd (by decide) c24_)
  show PW 4 d (254, [some (pvR 3), some (pvI 6), some (pvI 1), some (pvI n3), some (pvI 1), some (pvI 70), some (pvI (1 + 1))], [], M9_) _
  refine pw_blk hT 5 (S' := (260, [some (pvR 3), some (pvI 6), some (pvI 1), some (pvI n3), some (pvI 1), some (pvI 70), some (pvI (1 + 1))], [pvI (1 + 1), pvI n3, pvI 1, pvI 3, pvR 3], M9_)) rfl ⟨trivial, trivial, trivial, trivial, trivial, trivial⟩ ?_
  have e25_ : (M9_.1 3 2) = (M.1 3 2) := (g12_ 3 2 rfl)
  have b26_ : 6 ≤ Int32.toInt (M9_.1 3 2) ∧ Int32.toInt (M9_.1 3 2) ≤ 6 := (by rw [e25_]; exact hc3_2)
  refine pw_callGd hT (as := [pvR 3, pvI 3, pvI 1, pvI n3, pvI (1 + 1)]) (lo1 := [some (pvR 3), some (pvI 3), some (pvI 1), some (pvI n3), some (pvI (1 + 1)), none, none]) (d1 := (d - 1)) (rest := []) rfl rfl rfl rfl rfl (fun h => absurd h (by decide)) (show 1 ≤ d by omega) rfl rfl rfl (sf_X0_run_3_3_1_x_2_6 M9_ o11_ n3 (zr_wide b14_ (by decide) (by decide)) b26_ (d - 1) (by omega)) (fun x28_ M29_ b30_ o31_ g32_ d27_ => ?_)
  have f33_ : pvFr fp_X0_run_3_6_1_x_1_6 M M29_ := pvfr_t g32_ f13_ fp_X0_run_3_6_1_x_1_6_fp_X0_run_3_3_1_x_2_6
  have b34_ : 0 ≤ Int32.toInt (M29_.1 3 1) ∧ Int32.toInt (M29_.1 3 1) ≤ 998 := (by have u0 := b14_; have u1 := d27_; have u2 := pvok_r o31_ 3 1 (lo := 0) (hi := 1000000) rfl; omega)
  refine pw_blk hT 5 (S' := (269, [some (pvR 3), some (pvI 6), some (pvI 1), some (pvI n3), some (pvI 1), some (pvI 70), some (pvI (1 + 1))], [pvI (1 + 1), pvI 2, pvI 0, pvI 3, pvR 3, pvI x28_], M29_)) rfl ⟨trivial, trivial, trivial, trivial, trivial, trivial⟩ ?_
  have e35_ : (M29_.1 3 2) = (M9_.1 3 2) := (g32_ 3 2 rfl)
  have b36_ : 6 ≤ Int32.toInt (M29_.1 3 2) ∧ Int32.toInt (M29_.1 3 2) ≤ 6 := (by rw [e35_]; exact b26_)
  refine pw_callGd hT (as := [pvR 3, pvI 3, pvI 0, pvI 2, pvI (1 + 1)]) (lo1 := [some (pvR 3), some (pvI 3), some (pvI 0), some (pvI 2), some (pvI (1 + 1)), none, none]) (d1 := (d - 1)) (rest := [pvI x28_]) rfl rfl rfl rfl rfl (fun h => absurd h (by decide)) (show 1 ≤ d by omega) rfl rfl rfl (sf_X0_run_3_3_0_x_2_6 M29_ o31_ 2 b34_ b36_ (d - 1)) (fun x38_ M39_ b40_ o41_ g42_ d37_ => ?_)
  have f43_ : pvFr fp_X0_run_3_6_1_x_1_6 M M39_ := pvfr_t g42_ f33_ fp_X0_run_3_6_1_x_1_6_fp_X0_run_3_3_0_x_2_6
  have b44_ : 0 ≤ Int32.toInt (M39_.1 3 1) ∧ Int32.toInt (M39_.1 3 1) ≤ 999 := (by have u0 := b34_; have u1 := d37_; have u2 := pvok_r o41_ 3 1 (lo := 0) (hi := 1000000) rfl; omega)
  refine pw_blk hT 1 (S' := (273, [some (pvR 3), some (pvI 6), some (pvI 1), some (pvI n3), some (pvI 1), some (pvI 70), some (pvI (1 + 1))], [pvI (x28_ + x38_)], M39_)) rfl ⟨trivial, trivial⟩ ?_
  exact pw_ret hT rfl (r := some (pvI (x28_ + x38_))) (M' := M39_) ⟨rfl, rfl⟩ ⟨⟨_, rfl, trivial⟩, o41_, f43_, (by omega)⟩
def fpL_X0_run_3_6_2_x_0_6 : List (Nat × Nat × Nat) := [(0, 3, 2), (0, 4, 0)]
def fp_X0_run_3_6_2_x_0_6 (q k : Nat) : Bool := pvfp fpL_X0_run_3_6_2_x_0_6 q k
theorem fp_X0_run_3_6_2_x_0_6_fp_X0_note_3_x (a b : Nat) (h : fp_X0_note_3_x a b = true) : fp_X0_run_3_6_2_x_0_6 a b = true := pvfp_sub (l1 := fpL_X0_note_3_x) (l2 := fpL_X0_run_3_6_2_x_0_6) (by decide) a b h
theorem fp_X0_run_3_6_2_x_0_6_fp_X0_run_3_0_2_x_1_6 (a b : Nat) (h : fp_X0_run_3_0_2_x_1_6 a b = true) : fp_X0_run_3_6_2_x_0_6 a b = true := pvfp_sub (l1 := fpL_X0_run_3_0_2_x_1_6) (l2 := fpL_X0_run_3_6_2_x_0_6) (by decide) a b h
theorem fp_X0_run_3_6_2_x_0_6_fp_X0_run_3_6_1_x_1_6 (a b : Nat) (h : fp_X0_run_3_6_1_x_1_6 a b = true) : fp_X0_run_3_6_2_x_0_6 a b = true := pvfp_sub (l1 := fpL_X0_run_3_6_1_x_1_6) (l2 := fpL_X0_run_3_6_2_x_0_6) (by decide) a b h
set_option maxHeartbeats 4000000 in
set_option maxRecDepth 10000 in
theorem sf_X0_run_3_6_2_x_0_6 (M : pvM) (hok : pvOk M) (n3 : Int32) (hc3_1 : 0 ≤ Int32.toInt (M.1 3 1) ∧ Int32.toInt (M.1 3 1) ≤ 987) (hc3_2 : 6 ≤ Int32.toInt (M.1 3 2) ∧ Int32.toInt (M.1 3 2) ≤ 6) (d : Nat) (hd : 5 ≤ d) : PW 4 d (0, [some (pvR 3), some (pvI 6), some (pvI 2), some (pvI n3), some (pvI 0), none, none], [], M) (fun r X => (∃ x : Int32, r = some (pvI x) ∧ True) ∧ pvOk X ∧ pvFr fp_X0_run_3_6_2_x_0_6 M X ∧ Int32.toInt (X.1 3 1) ≤ Int32.toInt (M.1 3 1) + 12) := by
  have hT : pvdom 4 = pvD_4 := rfl
  refine pw_blk hT 2 (S' := (4, [some (pvR 3), some (pvI 6), some (pvI 2), some (pvI n3), some (pvI 0), none, none], [pvI 40, pvI 0], M)) rfl ⟨trivial, trivial, trivial⟩ ?_
  refine pw_ic hT (c := 0 ≤ 40) rfl rfl (fun c1_ => ?_) (fun c1_ => absurd (by decide) c1_)
  refine pw_blk hT 2 (S' := (11, [some (pvR 3), some (pvI 6), some (pvI 2), some (pvI n3), some (pvI 0), none, none], [pvI 2, pvI 6], M)) rfl ⟨trivial, trivial, trivial⟩ ?_
  refine pw_callT hT (as := [pvI 6, pvI 2]) (lo1 := [some (pvI 6), some (pvI 2), none, none, none]) (d1 := d) (rest := []) rfl rfl rfl rfl rfl (fun h => absurd h (by decide)) (Nat.zero_le _) rfl rfl rfl (sf_X0_bodyFrom_6_2 M hok d) ?_
  refine pw_eqI (show ((pvstab 1041).getD (Int32.toNatClampNeg ((3 * 3) + 2)) 0) = 40 from by decide) ?_
  show PW 4 d (14, [some (pvR 3), some (pvI 6), some (pvI 2), some (pvI n3), some (pvI 0), none, none], [pvI 40], M) _
  refine pw_blk hT 7 (S' := (25, [some (pvR 3), some (pvI 6), some (pvI 2), some (pvI n3), some (pvI 0), some (pvI 40), some (pvI (0 + 1))], [pvI 40, pvR 3], M)) rfl ⟨trivial, trivial, trivial, trivial, trivial, trivial, trivial, trivial⟩ ?_
  refine pw_callVd hT (as := [pvR 3, pvI 40]) (lo1 := [some (pvR 3), some (pvI 40)]) (d1 := d) (rest := []) rfl rfl rfl rfl rfl (fun _ => rfl) (Nat.zero_le _) rfl rfl rfl (sf_X0_note_3_x M hok 40 (zr_wide (show 40 ≤ Int32.toInt 40 ∧ Int32.toInt 40 ≤ 40 from (by decide)) (by decide) (by decide)) (zr_wide hc3_1 (by decide) (by decide)) d) (fun M9_ o11_ g12_ d7_ => ?_)
  have f13_ : pvFr fp_X0_run_3_6_2_x_0_6 M M9_ := pvfr_t g12_ pvfr_0 fp_X0_run_3_6_2_x_0_6_fp_X0_note_3_x
  have b14_ : 0 ≤ Int32.toInt (M9_.1 3 1) ∧ Int32.toInt (M9_.1 3 1) ≤ 988 := (by have u0 := hc3_1; have u1 := d7_; have u2 := pvok_r o11_ 3 1 (lo := 0) (hi := 1000000) rfl; omega)
  refine pw_blk hT 1 (S' := (30, [some (pvR 3), some (pvI 6), some (pvI 2), some (pvI n3), some (pvI 0), some (pvI 40), some (pvI (0 + 1))], [pvI 40], M9_)) rfl ⟨trivial, trivial⟩ ?_
  refine pw_sw hT rfl rfl ?_
  refine And.intro (fun c15_ => absurd c15_ (by decide)) (fun c15_ => ?_)
  refine And.intro (fun c16_ => absurd c16_ (by decide)) (fun c16_ => ?_)
  refine And.intro (fun c17_ => absurd c17_ (by decide)) (fun c17_ => ?_)
  refine And.intro (fun c18_ => absurd c18_ (by decide)) (fun c18_ => ?_)
  refine And.intro (fun c19_ => absurd c19_ (by decide)) (fun c19_ => ?_)
  refine And.intro (fun c20_ => ?_) (fun c20_ => absurd (by decide) c20_)
  show PW 4 d (193, [some (pvR 3), some (pvI 6), some (pvI 2), some (pvI n3), some (pvI 0), some (pvI 40), some (pvI (0 + 1))], [], M9_) _
  refine pw_blk hT 5 (S' := (199, [some (pvR 3), some (pvI 6), some (pvI 2), some (pvI n3), some (pvI 0), some (pvI 40), some (pvI (0 + 1))], [pvI (0 + 1), pvI n3, pvI 2, pvI 0, pvR 3], M9_)) rfl ⟨trivial, trivial, trivial, trivial, trivial, trivial⟩ ?_
  have e21_ : (M9_.1 3 2) = (M.1 3 2) := (g12_ 3 2 rfl)
  have b22_ : 6 ≤ Int32.toInt (M9_.1 3 2) ∧ Int32.toInt (M9_.1 3 2) ≤ 6 := (by rw [e21_]; exact hc3_2)
  refine pw_callGd hT (as := [pvR 3, pvI 0, pvI 2, pvI n3, pvI (0 + 1)]) (lo1 := [some (pvR 3), some (pvI 0), some (pvI 2), some (pvI n3), some (pvI (0 + 1)), none, none]) (d1 := (d - 1)) (rest := []) rfl rfl rfl rfl rfl (fun h => absurd h (by decide)) (show 1 ≤ d by omega) rfl rfl rfl (sf_X0_run_3_0_2_x_1_6 M9_ o11_ n3 (zr_wide b14_ (by decide) (by decide)) b22_ (d - 1) (by omega)) (fun x24_ M25_ b26_ o27_ g28_ d23_ => ?_)
  have f29_ : pvFr fp_X0_run_3_6_2_x_0_6 M M25_ := pvfr_t g28_ f13_ fp_X0_run_3_6_2_x_0_6_fp_X0_run_3_0_2_x_1_6
  have b30_ : 0 ≤ Int32.toInt (M25_.1 3 1) ∧ Int32.toInt (M25_.1 3 1) ≤ 994 := (by have u0 := b14_; have u1 := d23_; have u2 := pvok_r o27_ 3 1 (lo := 0) (hi := 1000000) rfl; omega)
  have e31_ : (M25_.1 3 2) = (M9_.1 3 2) := (g28_ 3 2 rfl)
  have b32_ : 6 ≤ Int32.toInt (M25_.1 3 2) ∧ Int32.toInt (M25_.1 3 2) ≤ 6 := (by rw [e31_]; exact b22_)
  refine pw_blk hT 3 (S' := (207, [some (pvR 3), some (pvI 6), some (pvI 2), some (pvI n3), some (pvI 0), some (pvI 40), some (pvI (0 + 1))], [pvI (M25_.1 3 2), pvR 3, pvI x24_], M25_)) rfl ⟨trivial, trivial, rfl, trivial⟩ ?_
  refine pw_eqI ((zi_eq _ (6)).mpr (by have u0 := b32_; have u1 : Int32.toInt (6) = 6 := (by decide); omega)) ?_
  refine pw_blk hT 3 (S' := (211, [some (pvR 3), some (pvI 6), some (pvI 2), some (pvI n3), some (pvI 0), some (pvI 40), some (pvI (0 + 1))], [pvI (0 + 1), pvI 1, pvI 1, pvI 6, pvR 3, pvI x24_], M25_)) rfl ⟨trivial, trivial, trivial, trivial⟩ ?_
  refine pw_callGd hT (as := [pvR 3, pvI 6, pvI 1, pvI 1, pvI (0 + 1)]) (lo1 := [some (pvR 3), some (pvI 6), some (pvI 1), some (pvI 1), some (pvI (0 + 1)), none, none]) (d1 := (d - 1)) (rest := [pvI x24_]) rfl rfl rfl rfl rfl (fun h => absurd h (by decide)) (show 1 ≤ d by omega) rfl rfl rfl (sf_X0_run_3_6_1_x_1_6 M25_ o27_ 1 b30_ b32_ (d - 1) (by omega)) (fun x34_ M35_ b36_ o37_ g38_ d33_ => ?_)
  have f39_ : pvFr fp_X0_run_3_6_2_x_0_6 M M35_ := pvfr_t g38_ f29_ fp_X0_run_3_6_2_x_0_6_fp_X0_run_3_6_1_x_1_6
  have b40_ : 0 ≤ Int32.toInt (M35_.1 3 1) ∧ Int32.toInt (M35_.1 3 1) ≤ 999 := (by have u0 := b30_; have u1 := d33_; have u2 := pvok_r o37_ 3 1 (lo := 0) (hi := 1000000) rfl; omega)
  refine pw_blk hT 1 (S' := (215, [some (pvR 3), some (pvI 6), some (pvI 2), some (pvI n3), some (pvI 0), some (pvI 40), some (pvI (0 + 1))], [pvI (x24_ + x34_)], M35_)) rfl ⟨trivial, trivial⟩ ?_
  exact pw_ret hT rfl (r := some (pvI (x24_ + x34_))) (M' := M35_) ⟨rfl, rfl⟩ ⟨⟨_, rfl, trivial⟩, o37_, f39_, (by omega)⟩
def fpL_X0_perform_3_x_x_x_x : List (Nat × Nat × Nat) := [(0, 3, 2), (0, 3, 3), (0, 3, 4), (0, 3, 5), (0, 4, 0)]
def fp_X0_perform_3_x_x_x_x (q k : Nat) : Bool := pvfp fpL_X0_perform_3_x_x_x_x q k
theorem fp_X0_perform_3_x_x_x_x_fp_X0_run_3_0_0_x_0_0 (a b : Nat) (h : fp_X0_run_3_0_0_x_0_0 a b = true) : fp_X0_perform_3_x_x_x_x a b = true := pvfp_sub (l1 := fpL_X0_run_3_0_0_x_0_0) (l2 := fpL_X0_perform_3_x_x_x_x) (by decide) a b h
theorem fp_X0_perform_3_x_x_x_x_fp_X0_run_3_0_1_x_0_0 (a b : Nat) (h : fp_X0_run_3_0_1_x_0_0 a b = true) : fp_X0_perform_3_x_x_x_x a b = true := pvfp_sub (l1 := fpL_X0_run_3_0_1_x_0_0) (l2 := fpL_X0_perform_3_x_x_x_x) (by decide) a b h
theorem fp_X0_perform_3_x_x_x_x_fp_X0_run_3_0_2_x_0_0 (a b : Nat) (h : fp_X0_run_3_0_2_x_0_0 a b = true) : fp_X0_perform_3_x_x_x_x a b = true := pvfp_sub (l1 := fpL_X0_run_3_0_2_x_0_0) (l2 := fpL_X0_perform_3_x_x_x_x) (by decide) a b h
theorem fp_X0_perform_3_x_x_x_x_fp_X0_run_3_1_0_x_0_1 (a b : Nat) (h : fp_X0_run_3_1_0_x_0_1 a b = true) : fp_X0_perform_3_x_x_x_x a b = true := pvfp_sub (l1 := fpL_X0_run_3_1_0_x_0_1) (l2 := fpL_X0_perform_3_x_x_x_x) (by decide) a b h
theorem fp_X0_perform_3_x_x_x_x_fp_X0_run_3_1_1_x_0_1 (a b : Nat) (h : fp_X0_run_3_1_1_x_0_1 a b = true) : fp_X0_perform_3_x_x_x_x a b = true := pvfp_sub (l1 := fpL_X0_run_3_1_1_x_0_1) (l2 := fpL_X0_perform_3_x_x_x_x) (by decide) a b h
theorem fp_X0_perform_3_x_x_x_x_fp_X0_run_3_1_2_x_0_1 (a b : Nat) (h : fp_X0_run_3_1_2_x_0_1 a b = true) : fp_X0_perform_3_x_x_x_x a b = true := pvfp_sub (l1 := fpL_X0_run_3_1_2_x_0_1) (l2 := fpL_X0_perform_3_x_x_x_x) (by decide) a b h
theorem fp_X0_perform_3_x_x_x_x_fp_X0_run_3_2_0_x_0_2 (a b : Nat) (h : fp_X0_run_3_2_0_x_0_2 a b = true) : fp_X0_perform_3_x_x_x_x a b = true := pvfp_sub (l1 := fpL_X0_run_3_2_0_x_0_2) (l2 := fpL_X0_perform_3_x_x_x_x) (by decide) a b h
theorem fp_X0_perform_3_x_x_x_x_fp_X0_run_3_2_1_x_0_2 (a b : Nat) (h : fp_X0_run_3_2_1_x_0_2 a b = true) : fp_X0_perform_3_x_x_x_x a b = true := pvfp_sub (l1 := fpL_X0_run_3_2_1_x_0_2) (l2 := fpL_X0_perform_3_x_x_x_x) (by decide) a b h
theorem fp_X0_perform_3_x_x_x_x_fp_X0_run_3_2_2_x_0_2 (a b : Nat) (h : fp_X0_run_3_2_2_x_0_2 a b = true) : fp_X0_perform_3_x_x_x_x a b = true := pvfp_sub (l1 := fpL_X0_run_3_2_2_x_0_2) (l2 := fpL_X0_perform_3_x_x_x_x) (by decide) a b h
theorem fp_X0_perform_3_x_x_x_x_fp_X0_run_3_3_0_x_0_3 (a b : Nat) (h : fp_X0_run_3_3_0_x_0_3 a b = true) : fp_X0_perform_3_x_x_x_x a b = true := pvfp_sub (l1 := fpL_X0_run_3_3_0_x_0_3) (l2 := fpL_X0_perform_3_x_x_x_x) (by decide) a b h
theorem fp_X0_perform_3_x_x_x_x_fp_X0_run_3_3_1_x_0_3 (a b : Nat) (h : fp_X0_run_3_3_1_x_0_3 a b = true) : fp_X0_perform_3_x_x_x_x a b = true := pvfp_sub (l1 := fpL_X0_run_3_3_1_x_0_3) (l2 := fpL_X0_perform_3_x_x_x_x) (by decide) a b h
theorem fp_X0_perform_3_x_x_x_x_fp_X0_run_3_3_2_x_0_3 (a b : Nat) (h : fp_X0_run_3_3_2_x_0_3 a b = true) : fp_X0_perform_3_x_x_x_x a b = true := pvfp_sub (l1 := fpL_X0_run_3_3_2_x_0_3) (l2 := fpL_X0_perform_3_x_x_x_x) (by decide) a b h
theorem fp_X0_perform_3_x_x_x_x_fp_X0_run_3_4_0_x_0_4 (a b : Nat) (h : fp_X0_run_3_4_0_x_0_4 a b = true) : fp_X0_perform_3_x_x_x_x a b = true := pvfp_sub (l1 := fpL_X0_run_3_4_0_x_0_4) (l2 := fpL_X0_perform_3_x_x_x_x) (by decide) a b h
theorem fp_X0_perform_3_x_x_x_x_fp_X0_run_3_4_1_x_0_4 (a b : Nat) (h : fp_X0_run_3_4_1_x_0_4 a b = true) : fp_X0_perform_3_x_x_x_x a b = true := pvfp_sub (l1 := fpL_X0_run_3_4_1_x_0_4) (l2 := fpL_X0_perform_3_x_x_x_x) (by decide) a b h
theorem fp_X0_perform_3_x_x_x_x_fp_X0_run_3_4_2_x_0_4 (a b : Nat) (h : fp_X0_run_3_4_2_x_0_4 a b = true) : fp_X0_perform_3_x_x_x_x a b = true := pvfp_sub (l1 := fpL_X0_run_3_4_2_x_0_4) (l2 := fpL_X0_perform_3_x_x_x_x) (by decide) a b h
theorem fp_X0_perform_3_x_x_x_x_fp_X0_run_3_5_0_x_0_5 (a b : Nat) (h : fp_X0_run_3_5_0_x_0_5 a b = true) : fp_X0_perform_3_x_x_x_x a b = true := pvfp_sub (l1 := fpL_X0_run_3_5_0_x_0_5) (l2 := fpL_X0_perform_3_x_x_x_x) (by decide) a b h
theorem fp_X0_perform_3_x_x_x_x_fp_X0_run_3_5_1_x_0_5 (a b : Nat) (h : fp_X0_run_3_5_1_x_0_5 a b = true) : fp_X0_perform_3_x_x_x_x a b = true := pvfp_sub (l1 := fpL_X0_run_3_5_1_x_0_5) (l2 := fpL_X0_perform_3_x_x_x_x) (by decide) a b h
theorem fp_X0_perform_3_x_x_x_x_fp_X0_run_3_5_2_x_0_5 (a b : Nat) (h : fp_X0_run_3_5_2_x_0_5 a b = true) : fp_X0_perform_3_x_x_x_x a b = true := pvfp_sub (l1 := fpL_X0_run_3_5_2_x_0_5) (l2 := fpL_X0_perform_3_x_x_x_x) (by decide) a b h
theorem fp_X0_perform_3_x_x_x_x_fp_X0_run_3_6_0_x_0_6 (a b : Nat) (h : fp_X0_run_3_6_0_x_0_6 a b = true) : fp_X0_perform_3_x_x_x_x a b = true := pvfp_sub (l1 := fpL_X0_run_3_6_0_x_0_6) (l2 := fpL_X0_perform_3_x_x_x_x) (by decide) a b h
theorem fp_X0_perform_3_x_x_x_x_fp_X0_run_3_6_1_x_0_6 (a b : Nat) (h : fp_X0_run_3_6_1_x_0_6 a b = true) : fp_X0_perform_3_x_x_x_x a b = true := pvfp_sub (l1 := fpL_X0_run_3_6_1_x_0_6) (l2 := fpL_X0_perform_3_x_x_x_x) (by decide) a b h
theorem fp_X0_perform_3_x_x_x_x_fp_X0_run_3_6_2_x_0_6 (a b : Nat) (h : fp_X0_run_3_6_2_x_0_6 a b = true) : fp_X0_perform_3_x_x_x_x a b = true := pvfp_sub (l1 := fpL_X0_run_3_6_2_x_0_6) (l2 := fpL_X0_perform_3_x_x_x_x) (by decide) a b h
set_option maxHeartbeats 4000000 in
set_option maxRecDepth 10000 in
theorem sf_X0_perform_3_x_x_x_x (M : pvM) (hok : pvOk M) (q1 : Nat) (n2 : Int32) (n3 : Int32) (n4 : Int32) (hq1 : pvkl q1 = 3) (hn2 : 0 ≤ Int32.toInt n2 ∧ Int32.toInt n2 ≤ 6) (hn3 : 0 ≤ Int32.toInt n3 ∧ Int32.toInt n3 ≤ 2) (d : Nat) (hd : 5 ≤ d) : PW 3 d (0, [some (pvR 3), some (pvR q1), some (pvI n2), some (pvI n3), some (pvI n4)], [], M) (fun r X => (∃ x : Int32, r = some (pvI x) ∧ True) ∧ pvOk X ∧ pvFr fp_X0_perform_3_x_x_x_x M X) := by
  have hT : pvdom 3 = pvD_3 := rfl
  refine pw_blkw hT 3 (pc := 5) (lo := [some (pvR 3), some (pvR q1), some (pvI n2), some (pvI n3), some (pvI n4)]) (st := []) (M := pvu M 3 1 0) rfl ⟨trivial, trivial, rfl, trivial⟩ (fun M1_ e2_ => ?_)
  have o3_ : pvOk M1_ := pvok_u2 e2_ hok rfl (zr_wide (show 0 ≤ Int32.toInt 0 ∧ Int32.toInt 0 ≤ 0 from (by decide)) (by decide) (by decide))
  have f4_ : pvFr fp_X0_perform_3_x_x_x_x M M1_ := pvfr_u e2_ pvfr_0 rfl
  have b5_ : 0 ≤ Int32.toInt (M1_.1 q1 0) ∧ Int32.toInt (M1_.1 q1 0) ≤ 6 := pvok_r o3_ q1 0 ((pvrg_o 0 hq1 (by decide) (by decide)).trans rfl)
  refine pw_blkw hT 4 (pc := 13) (lo := [some (pvR 3), some (pvR q1), some (pvI n2), some (pvI n3), some (pvI n4)]) (st := []) (M := pvu M1_ 3 2 (M1_.1 q1 0)) rfl ⟨trivial, trivial, hq1, rfl, trivial⟩ (fun M6_ e7_ => ?_)
  have o8_ : pvOk M6_ := pvok_u2 e7_ o3_ rfl (zbnd (M1_.1 q1 0))
  have f9_ : pvFr fp_X0_perform_3_x_x_x_x M M6_ := pvfr_u e7_ f4_ rfl
  have b10_ : 0 ≤ Int32.toInt (M6_.1 q1 1) ∧ Int32.toInt (M6_.1 q1 1) ≤ 9 := pvok_r o8_ q1 1 ((pvrg_o 1 hq1 (by decide) (by decide)).trans rfl)
  refine pw_blkw hT 4 (pc := 21) (lo := [some (pvR 3), some (pvR q1), some (pvI n2), some (pvI n3), some (pvI n4)]) (st := []) (M := pvu M6_ 3 3 (M6_.1 q1 1)) rfl ⟨trivial, trivial, hq1, rfl, trivial⟩ (fun M11_ e12_ => ?_)
  have o13_ : pvOk M11_ := pvok_u2 e12_ o8_ rfl (zbnd (M6_.1 q1 1))
  have f14_ : pvFr fp_X0_perform_3_x_x_x_x M M11_ := pvfr_u e12_ f9_ rfl
  refine pw_blkw hT 3 (pc := 26) (lo := [some (pvR 3), some (pvR q1), some (pvI n2), some (pvI n3), some (pvI n4)]) (st := []) (M := pvu M11_ 3 4 n2) rfl ⟨trivial, trivial, rfl, trivial⟩ (fun M15_ e16_ => ?_)
  have o17_ : pvOk M15_ := pvok_u2 e16_ o13_ rfl (zbnd n2)
  have f18_ : pvFr fp_X0_perform_3_x_x_x_x M M15_ := pvfr_u e16_ f14_ rfl
  have e19_ : (M15_.1 3 2) = (M1_.1 q1 0) := (((pvu_n e16_ 3 2 (Or.inr (by decide))).trans (pvu_n e12_ 3 2 (Or.inr (by decide)))).trans (pvu_s e7_))
  have b20_ : 0 ≤ Int32.toInt (M15_.1 3 2) ∧ Int32.toInt (M15_.1 3 2) ≤ 6 := (by rw [e19_]; exact b5_)
  refine pw_blk hT 3 (S' := (31, [some (pvR 3), some (pvR q1), some (pvI n2), some (pvI n3), some (pvI n4)], [pvI (M15_.1 3 2), pvR 3], M15_)) rfl ⟨trivial, trivial, rfl, trivial⟩ ?_
  by_cases c21_ : (M15_.1 3 2) = 0
  · refine pw_eqI c21_ ?_
    have b22_ : 0 ≤ Int32.toInt (M15_.1 3 2) ∧ Int32.toInt (M15_.1 3 2) ≤ 0 := (by have u0 := b20_; have u1 := (zi_eq _ _).mp c21_; have u2 := (show 0 ≤ Int32.toInt 0 ∧ Int32.toInt 0 ≤ 0 from (by decide)); omega)
    refine pw_blk hT 1 (S' := (32, [some (pvR 3), some (pvR q1), some (pvI n2), some (pvI n3), some (pvI n4)], [pvI n3, pvI 0, pvR 3], M15_)) rfl ⟨trivial, trivial⟩ ?_
    by_cases c23_ : n3 = 0
    · refine pw_eqI c23_ ?_
      have b24_ : 0 ≤ Int32.toInt n3 ∧ Int32.toInt n3 ≤ 0 := (by have u0 := hn3; have u1 := (zi_eq _ _).mp c23_; have u2 := (show 0 ≤ Int32.toInt 0 ∧ Int32.toInt 0 ≤ 0 from (by decide)); omega)
      refine pw_blk hT 2 (S' := (35, [some (pvR 3), some (pvR q1), some (pvI n2), some (pvI n3), some (pvI n4)], [pvI 0, pvI n4, pvI 0, pvI 0, pvR 3], M15_)) rfl ⟨trivial, trivial, trivial⟩ ?_
      have e25_ : (M15_.1 3 1) = 0 := ((((pvu_n e16_ 3 1 (Or.inr (by decide))).trans (pvu_n e12_ 3 1 (Or.inr (by decide)))).trans (pvu_n e7_ 3 1 (Or.inr (by decide)))).trans (pvu_s e2_))
      have b26_ : 0 ≤ Int32.toInt (M15_.1 3 1) ∧ Int32.toInt (M15_.1 3 1) ≤ 0 := (by rw [e25_]; exact (show 0 ≤ Int32.toInt 0 ∧ Int32.toInt 0 ≤ 0 from (by decide)))
      refine pw_callGd hT (as := [pvR 3, pvI 0, pvI 0, pvI n4, pvI 0]) (lo1 := [some (pvR 3), some (pvI 0), some (pvI 0), some (pvI n4), some (pvI 0), none, none]) (d1 := d) (rest := []) rfl rfl rfl rfl rfl (fun h => absurd h (by decide)) (Nat.zero_le _) rfl rfl rfl (sf_X0_run_3_0_0_x_0_0 M15_ o17_ n4 (zr_wide b26_ (by decide) (by decide)) b22_ d) (fun x28_ M29_ b30_ o31_ g32_ d27_ => ?_)
      have f33_ : pvFr fp_X0_perform_3_x_x_x_x M M29_ := pvfr_t g32_ f18_ fp_X0_perform_3_x_x_x_x_fp_X0_run_3_0_0_x_0_0
      have b34_ : 0 ≤ Int32.toInt (M29_.1 3 1) ∧ Int32.toInt (M29_.1 3 1) ≤ 1 := (by have u0 := b26_; have u1 := d27_; have u2 := pvok_r o31_ 3 1 (lo := 0) (hi := 1000000) rfl; omega)
      exact pw_ret hT rfl (r := some (pvI x28_)) (M' := M29_) ⟨rfl, rfl⟩ ⟨⟨_, rfl, trivial⟩, o31_, f33_⟩
    · have b35_ : 1 ≤ Int32.toInt n3 ∧ Int32.toInt n3 ≤ 2 := (by have u0 := hn3; have u1 := (not_congr (zi_eq _ _)).mp c23_; have u2 := (show 0 ≤ Int32.toInt 0 ∧ Int32.toInt 0 ≤ 0 from (by decide)); omega)
      by_cases c36_ : n3 = 1
      · refine pw_eqI c36_ ?_
        have b37_ : 1 ≤ Int32.toInt n3 ∧ Int32.toInt n3 ≤ 1 := (by have u0 := b35_; have u1 := (zi_eq _ _).mp c36_; have u2 := (show 1 ≤ Int32.toInt 1 ∧ Int32.toInt 1 ≤ 1 from (by decide)); omega)
        refine pw_blk hT 2 (S' := (35, [some (pvR 3), some (pvR q1), some (pvI n2), some (pvI n3), some (pvI n4)], [pvI 0, pvI n4, pvI 1, pvI 0, pvR 3], M15_)) rfl ⟨trivial, trivial, trivial⟩ ?_
        have e38_ : (M15_.1 3 1) = 0 := ((((pvu_n e16_ 3 1 (Or.inr (by decide))).trans (pvu_n e12_ 3 1 (Or.inr (by decide)))).trans (pvu_n e7_ 3 1 (Or.inr (by decide)))).trans (pvu_s e2_))
        have b39_ : 0 ≤ Int32.toInt (M15_.1 3 1) ∧ Int32.toInt (M15_.1 3 1) ≤ 0 := (by rw [e38_]; exact (show 0 ≤ Int32.toInt 0 ∧ Int32.toInt 0 ≤ 0 from (by decide)))
        refine pw_callGd hT (as := [pvR 3, pvI 0, pvI 1, pvI n4, pvI 0]) (lo1 := [some (pvR 3), some (pvI 0), some (pvI 1), some (pvI n4), some (pvI 0), none, none]) (d1 := d) (rest := []) rfl rfl rfl rfl rfl (fun h => absurd h (by decide)) (Nat.zero_le _) rfl rfl rfl (sf_X0_run_3_0_1_x_0_0 M15_ o17_ n4 (zr_wide b39_ (by decide) (by decide)) b22_ d (Nat.le_trans (by decide) hd)) (fun x41_ M42_ b43_ o44_ g45_ d40_ => ?_)
        have f46_ : pvFr fp_X0_perform_3_x_x_x_x M M42_ := pvfr_t g45_ f18_ fp_X0_perform_3_x_x_x_x_fp_X0_run_3_0_1_x_0_0
        have b47_ : 0 ≤ Int32.toInt (M42_.1 3 1) ∧ Int32.toInt (M42_.1 3 1) ≤ 2 := (by have u0 := b39_; have u1 := d40_; have u2 := pvok_r o44_ 3 1 (lo := 0) (hi := 1000000) rfl; omega)
        exact pw_ret hT rfl (r := some (pvI x41_)) (M' := M42_) ⟨rfl, rfl⟩ ⟨⟨_, rfl, trivial⟩, o44_, f46_⟩
      · have b48_ : 2 ≤ Int32.toInt n3 ∧ Int32.toInt n3 ≤ 2 := (by have u0 := b35_; have u1 := (not_congr (zi_eq _ _)).mp c36_; have u2 := (show 1 ≤ Int32.toInt 1 ∧ Int32.toInt 1 ≤ 1 from (by decide)); omega)
        refine pw_eqI ((zi_eq _ (2)).mpr (by have u0 := b48_; have u1 : Int32.toInt (2) = 2 := (by decide); omega)) ?_
        refine pw_blk hT 2 (S' := (35, [some (pvR 3), some (pvR q1), some (pvI n2), some (pvI n3), some (pvI n4)], [pvI 0, pvI n4, pvI 2, pvI 0, pvR 3], M15_)) rfl ⟨trivial, trivial, trivial⟩ ?_
        have e49_ : (M15_.1 3 1) = 0 := ((((pvu_n e16_ 3 1 (Or.inr (by decide))).trans (pvu_n e12_ 3 1 (Or.inr (by decide)))).trans (pvu_n e7_ 3 1 (Or.inr (by decide)))).trans (pvu_s e2_))
        have b50_ : 0 ≤ Int32.toInt (M15_.1 3 1) ∧ Int32.toInt (M15_.1 3 1) ≤ 0 := (by rw [e49_]; exact (show 0 ≤ Int32.toInt 0 ∧ Int32.toInt 0 ≤ 0 from (by decide)))
        refine pw_callGd hT (as := [pvR 3, pvI 0, pvI 2, pvI n4, pvI 0]) (lo1 := [some (pvR 3), some (pvI 0), some (pvI 2), some (pvI n4), some (pvI 0), none, none]) (d1 := d) (rest := []) rfl rfl rfl rfl rfl (fun h => absurd h (by decide)) (Nat.zero_le _) rfl rfl rfl (sf_X0_run_3_0_2_x_0_0 M15_ o17_ n4 (zr_wide b50_ (by decide) (by decide)) b22_ d (Nat.le_trans (by decide) hd)) (fun x52_ M53_ b54_ o55_ g56_ d51_ => ?_)
        have f57_ : pvFr fp_X0_perform_3_x_x_x_x M M53_ := pvfr_t g56_ f18_ fp_X0_perform_3_x_x_x_x_fp_X0_run_3_0_2_x_0_0
        have b58_ : 0 ≤ Int32.toInt (M53_.1 3 1) ∧ Int32.toInt (M53_.1 3 1) ≤ 3 := (by have u0 := b50_; have u1 := d51_; have u2 := pvok_r o55_ 3 1 (lo := 0) (hi := 1000000) rfl; omega)
        exact pw_ret hT rfl (r := some (pvI x52_)) (M' := M53_) ⟨rfl, rfl⟩ ⟨⟨_, rfl, trivial⟩, o55_, f57_⟩
  · have b59_ : 1 ≤ Int32.toInt (M15_.1 3 2) ∧ Int32.toInt (M15_.1 3 2) ≤ 6 := (by have u0 := b20_; have u1 := (not_congr (zi_eq _ _)).mp c21_; have u2 := (show 0 ≤ Int32.toInt 0 ∧ Int32.toInt 0 ≤ 0 from (by decide)); omega)
    by_cases c60_ : (M15_.1 3 2) = 1
    · refine pw_eqI c60_ ?_
      have b61_ : 1 ≤ Int32.toInt (M15_.1 3 2) ∧ Int32.toInt (M15_.1 3 2) ≤ 1 := (by have u0 := b59_; have u1 := (zi_eq _ _).mp c60_; have u2 := (show 1 ≤ Int32.toInt 1 ∧ Int32.toInt 1 ≤ 1 from (by decide)); omega)
      refine pw_blk hT 1 (S' := (32, [some (pvR 3), some (pvR q1), some (pvI n2), some (pvI n3), some (pvI n4)], [pvI n3, pvI 1, pvR 3], M15_)) rfl ⟨trivial, trivial⟩ ?_
      by_cases c62_ : n3 = 0
      · refine pw_eqI c62_ ?_
        have b63_ : 0 ≤ Int32.toInt n3 ∧ Int32.toInt n3 ≤ 0 := (by have u0 := hn3; have u1 := (zi_eq _ _).mp c62_; have u2 := (show 0 ≤ Int32.toInt 0 ∧ Int32.toInt 0 ≤ 0 from (by decide)); omega)
        refine pw_blk hT 2 (S' := (35, [some (pvR 3), some (pvR q1), some (pvI n2), some (pvI n3), some (pvI n4)], [pvI 0, pvI n4, pvI 0, pvI 1, pvR 3], M15_)) rfl ⟨trivial, trivial, trivial⟩ ?_
        have e64_ : (M15_.1 3 1) = 0 := ((((pvu_n e16_ 3 1 (Or.inr (by decide))).trans (pvu_n e12_ 3 1 (Or.inr (by decide)))).trans (pvu_n e7_ 3 1 (Or.inr (by decide)))).trans (pvu_s e2_))
        have b65_ : 0 ≤ Int32.toInt (M15_.1 3 1) ∧ Int32.toInt (M15_.1 3 1) ≤ 0 := (by rw [e64_]; exact (show 0 ≤ Int32.toInt 0 ∧ Int32.toInt 0 ≤ 0 from (by decide)))
        refine pw_callGd hT (as := [pvR 3, pvI 1, pvI 0, pvI n4, pvI 0]) (lo1 := [some (pvR 3), some (pvI 1), some (pvI 0), some (pvI n4), some (pvI 0), none, none]) (d1 := d) (rest := []) rfl rfl rfl rfl rfl (fun h => absurd h (by decide)) (Nat.zero_le _) rfl rfl rfl (sf_X0_run_3_1_0_x_0_1 M15_ o17_ n4 (zr_wide b65_ (by decide) (by decide)) b61_ d) (fun x67_ M68_ b69_ o70_ g71_ d66_ => ?_)
        have f72_ : pvFr fp_X0_perform_3_x_x_x_x M M68_ := pvfr_t g71_ f18_ fp_X0_perform_3_x_x_x_x_fp_X0_run_3_1_0_x_0_1
        have b73_ : 0 ≤ Int32.toInt (M68_.1 3 1) ∧ Int32.toInt (M68_.1 3 1) ≤ 1 := (by have u0 := b65_; have u1 := d66_; have u2 := pvok_r o70_ 3 1 (lo := 0) (hi := 1000000) rfl; omega)
        exact pw_ret hT rfl (r := some (pvI x67_)) (M' := M68_) ⟨rfl, rfl⟩ ⟨⟨_, rfl, trivial⟩, o70_, f72_⟩
      · have b74_ : 1 ≤ Int32.toInt n3 ∧ Int32.toInt n3 ≤ 2 := (by have u0 := hn3; have u1 := (not_congr (zi_eq _ _)).mp c62_; have u2 := (show 0 ≤ Int32.toInt 0 ∧ Int32.toInt 0 ≤ 0 from (by decide)); omega)
        by_cases c75_ : n3 = 1
        · refine pw_eqI c75_ ?_
          have b76_ : 1 ≤ Int32.toInt n3 ∧ Int32.toInt n3 ≤ 1 := (by have u0 := b74_; have u1 := (zi_eq _ _).mp c75_; have u2 := (show 1 ≤ Int32.toInt 1 ∧ Int32.toInt 1 ≤ 1 from (by decide)); omega)
          refine pw_blk hT 2 (S' := (35, [some (pvR 3), some (pvR q1), some (pvI n2), some (pvI n3), some (pvI n4)], [pvI 0, pvI n4, pvI 1, pvI 1, pvR 3], M15_)) rfl ⟨trivial, trivial, trivial⟩ ?_
          have e77_ : (M15_.1 3 1) = 0 := ((((pvu_n e16_ 3 1 (Or.inr (by decide))).trans (pvu_n e12_ 3 1 (Or.inr (by decide)))).trans (pvu_n e7_ 3 1 (Or.inr (by decide)))).trans (pvu_s e2_))
          have b78_ : 0 ≤ Int32.toInt (M15_.1 3 1) ∧ Int32.toInt (M15_.1 3 1) ≤ 0 := (by rw [e77_]; exact (show 0 ≤ Int32.toInt 0 ∧ Int32.toInt 0 ≤ 0 from (by decide)))
          refine pw_callGd hT (as := [pvR 3, pvI 1, pvI 1, pvI n4, pvI 0]) (lo1 := [some (pvR 3), some (pvI 1), some (pvI 1), some (pvI n4), some (pvI 0), none, none]) (d1 := d) (rest := []) rfl rfl rfl rfl rfl (fun h => absurd h (by decide)) (Nat.zero_le _) rfl rfl rfl (sf_X0_run_3_1_1_x_0_1 M15_ o17_ n4 (zr_wide b78_ (by decide) (by decide)) b61_ d (Nat.le_trans (by decide) hd)) (fun x80_ M81_ b82_ o83_ g84_ d79_ => ?_)
          have f85_ : pvFr fp_X0_perform_3_x_x_x_x M M81_ := pvfr_t g84_ f18_ fp_X0_perform_3_x_x_x_x_fp_X0_run_3_1_1_x_0_1
          have b86_ : 0 ≤ Int32.toInt (M81_.1 3 1) ∧ Int32.toInt (M81_.1 3 1) ≤ 3 := (by have u0 := b78_; have u1 := d79_; have u2 := pvok_r o83_ 3 1 (lo := 0) (hi := 1000000) rfl; omega)
          exact pw_ret hT rfl (r := some (pvI x80_)) (M' := M81_) ⟨rfl, rfl⟩ ⟨⟨_, rfl, trivial⟩, o83_, f85_⟩
        · have b87_ : 2 ≤ Int32.toInt n3 ∧ Int32.toInt n3 ≤ 2 := (by have u0 := b74_; have u1 := (not_congr (zi_eq _ _)).mp c75_; have u2 := (show 1 ≤ Int32.toInt 1 ∧ Int32.toInt 1 ≤ 1 from (by decide)); omega)
          refine pw_eqI ((zi_eq _ (2)).mpr (by have u0 := b87_; have u1 : Int32.toInt (2) = 2 := (by decide); omega)) ?_
          refine pw_blk hT 2 (S' := (35, [some (pvR 3), some (pvR q1), some (pvI n2), some (pvI n3), some (pvI n4)], [pvI 0, pvI n4, pvI 2, pvI 1, pvR 3], M15_)) rfl ⟨trivial, trivial, trivial⟩ ?_
          have e88_ : (M15_.1 3 1) = 0 := ((((pvu_n e16_ 3 1 (Or.inr (by decide))).trans (pvu_n e12_ 3 1 (Or.inr (by decide)))).trans (pvu_n e7_ 3 1 (Or.inr (by decide)))).trans (pvu_s e2_))
          have b89_ : 0 ≤ Int32.toInt (M15_.1 3 1) ∧ Int32.toInt (M15_.1 3 1) ≤ 0 := (by rw [e88_]; exact (show 0 ≤ Int32.toInt 0 ∧ Int32.toInt 0 ≤ 0 from (by decide)))
          refine pw_callGd hT (as := [pvR 3, pvI 1, pvI 2, pvI n4, pvI 0]) (lo1 := [some (pvR 3), some (pvI 1), some (pvI 2), some (pvI n4), some (pvI 0), none, none]) (d1 := d) (rest := []) rfl rfl rfl rfl rfl (fun h => absurd h (by decide)) (Nat.zero_le _) rfl rfl rfl (sf_X0_run_3_1_2_x_0_1 M15_ o17_ n4 (zr_wide b89_ (by decide) (by decide)) b61_ d (Nat.le_trans (by decide) hd)) (fun x91_ M92_ b93_ o94_ g95_ d90_ => ?_)
          have f96_ : pvFr fp_X0_perform_3_x_x_x_x M M92_ := pvfr_t g95_ f18_ fp_X0_perform_3_x_x_x_x_fp_X0_run_3_1_2_x_0_1
          have b97_ : 0 ≤ Int32.toInt (M92_.1 3 1) ∧ Int32.toInt (M92_.1 3 1) ≤ 4 := (by have u0 := b89_; have u1 := d90_; have u2 := pvok_r o94_ 3 1 (lo := 0) (hi := 1000000) rfl; omega)
          exact pw_ret hT rfl (r := some (pvI x91_)) (M' := M92_) ⟨rfl, rfl⟩ ⟨⟨_, rfl, trivial⟩, o94_, f96_⟩
    · have b98_ : 2 ≤ Int32.toInt (M15_.1 3 2) ∧ Int32.toInt (M15_.1 3 2) ≤ 6 := (by have u0 := b59_; have u1 := (not_congr (zi_eq _ _)).mp c60_; have u2 := (show 1 ≤ Int32.toInt 1 ∧ Int32.toInt 1 ≤ 1 from (by decide)); omega)
      by_cases c99_ : (M15_.1 3 2) = 2
      · refine pw_eqI c99_ ?_
        have b100_ : 2 ≤ Int32.toInt (M15_.1 3 2) ∧ Int32.toInt (M15_.1 3 2) ≤ 2 := (by have u0 := b98_; have u1 := (zi_eq _ _).mp c99_; have u2 := (show 2 ≤ Int32.toInt 2 ∧ Int32.toInt 2 ≤ 2 from (by decide)); omega)
        refine pw_blk hT 1 (S' := (32, [some (pvR 3), some (pvR q1), some (pvI n2), some (pvI n3), some (pvI n4)], [pvI n3, pvI 2, pvR 3], M15_)) rfl ⟨trivial, trivial⟩ ?_
        by_cases c101_ : n3 = 0
        · refine pw_eqI c101_ ?_
          have b102_ : 0 ≤ Int32.toInt n3 ∧ Int32.toInt n3 ≤ 0 := (by have u0 := hn3; have u1 := (zi_eq _ _).mp c101_; have u2 := (show 0 ≤ Int32.toInt 0 ∧ Int32.toInt 0 ≤ 0 from (by decide)); omega)
          refine pw_blk hT 2 (S' := (35, [some (pvR 3), some (pvR q1), some (pvI n2), some (pvI n3), some (pvI n4)], [pvI 0, pvI n4, pvI 0, pvI 2, pvR 3], M15_)) rfl ⟨trivial, trivial, trivial⟩ ?_
          have e103_ : (M15_.1 3 1) = 0 := ((((pvu_n e16_ 3 1 (Or.inr (by decide))).trans (pvu_n e12_ 3 1 (Or.inr (by decide)))).trans (pvu_n e7_ 3 1 (Or.inr (by decide)))).trans (pvu_s e2_))
          have b104_ : 0 ≤ Int32.toInt (M15_.1 3 1) ∧ Int32.toInt (M15_.1 3 1) ≤ 0 := (by rw [e103_]; exact (show 0 ≤ Int32.toInt 0 ∧ Int32.toInt 0 ≤ 0 from (by decide)))
          refine pw_callGd hT (as := [pvR 3, pvI 2, pvI 0, pvI n4, pvI 0]) (lo1 := [some (pvR 3), some (pvI 2), some (pvI 0), some (pvI n4), some (pvI 0), none, none]) (d1 := d) (rest := []) rfl rfl rfl rfl rfl (fun h => absurd h (by decide)) (Nat.zero_le _) rfl rfl rfl (sf_X0_run_3_2_0_x_0_2 M15_ o17_ n4 (zr_wide b104_ (by decide) (by decide)) b100_ d (Nat.le_trans (by decide) hd)) (fun x106_ M107_ b108_ o109_ g110_ d105_ => ?_)
          have f111_ : pvFr fp_X0_perform_3_x_x_x_x M M107_ := pvfr_t g110_ f18_ fp_X0_perform_3_x_x_x_x_fp_X0_run_3_2_0_x_0_2
          have b112_ : 0 ≤ Int32.toInt (M107_.1 3 1) ∧ Int32.toInt (M107_.1 3 1) ≤ 2 := (by have u0 := b104_; have u1 := d105_; have u2 := pvok_r o109_ 3 1 (lo := 0) (hi := 1000000) rfl; omega)
          exact pw_ret hT rfl (r := some (pvI x106_)) (M' := M107_) ⟨rfl, rfl⟩ ⟨⟨_, rfl, trivial⟩, o109_, f111_⟩
        · have b113_ : 1 ≤ Int32.toInt n3 ∧ Int32.toInt n3 ≤ 2 := (by have u0 := hn3; have u1 := (not_congr (zi_eq _ _)).mp c101_; have u2 := (show 0 ≤ Int32.toInt 0 ∧ Int32.toInt 0 ≤ 0 from (by decide)); omega)
          by_cases c114_ : n3 = 1
          · refine pw_eqI c114_ ?_
            have b115_ : 1 ≤ Int32.toInt n3 ∧ Int32.toInt n3 ≤ 1 := (by have u0 := b113_; have u1 := (zi_eq _ _).mp c114_; have u2 := (show 1 ≤ Int32.toInt 1 ∧ Int32.toInt 1 ≤ 1 from (by decide)); omega)
            refine pw_blk hT 2 (S' := (35, [some (pvR 3), some (pvR q1), some (pvI n2), some (pvI n3), some (pvI n4)], [pvI 0, pvI n4, pvI 1, pvI 2, pvR 3], M15_)) rfl ⟨trivial, trivial, trivial⟩ ?_
            have e116_ : (M15_.1 3 1) = 0 := ((((pvu_n e16_ 3 1 (Or.inr (by decide))).trans (pvu_n e12_ 3 1 (Or.inr (by decide)))).trans (pvu_n e7_ 3 1 (Or.inr (by decide)))).trans (pvu_s e2_))
            have b117_ : 0 ≤ Int32.toInt (M15_.1 3 1) ∧ Int32.toInt (M15_.1 3 1) ≤ 0 := (by rw [e116_]; exact (show 0 ≤ Int32.toInt 0 ∧ Int32.toInt 0 ≤ 0 from (by decide)))
            refine pw_callGd hT (as := [pvR 3, pvI 2, pvI 1, pvI n4, pvI 0]) (lo1 := [some (pvR 3), some (pvI 2), some (pvI 1), some (pvI n4), some (pvI 0), none, none]) (d1 := d) (rest := []) rfl rfl rfl rfl rfl (fun h => absurd h (by decide)) (Nat.zero_le _) rfl rfl rfl (sf_X0_run_3_2_1_x_0_2 M15_ o17_ n4 (zr_wide b117_ (by decide) (by decide)) b100_ d (Nat.le_trans (by decide) hd)) (fun x119_ M120_ b121_ o122_ g123_ d118_ => ?_)
            have f124_ : pvFr fp_X0_perform_3_x_x_x_x M M120_ := pvfr_t g123_ f18_ fp_X0_perform_3_x_x_x_x_fp_X0_run_3_2_1_x_0_2
            have b125_ : 0 ≤ Int32.toInt (M120_.1 3 1) ∧ Int32.toInt (M120_.1 3 1) ≤ 3 := (by have u0 := b117_; have u1 := d118_; have u2 := pvok_r o122_ 3 1 (lo := 0) (hi := 1000000) rfl; omega)
            exact pw_ret hT rfl (r := some (pvI x119_)) (M' := M120_) ⟨rfl, rfl⟩ ⟨⟨_, rfl, trivial⟩, o122_, f124_⟩
          · have b126_ : 2 ≤ Int32.toInt n3 ∧ Int32.toInt n3 ≤ 2 := (by have u0 := b113_; have u1 := (not_congr (zi_eq _ _)).mp c114_; have u2 := (show 1 ≤ Int32.toInt 1 ∧ Int32.toInt 1 ≤ 1 from (by decide)); omega)
            refine pw_eqI ((zi_eq _ (2)).mpr (by have u0 := b126_; have u1 : Int32.toInt (2) = 2 := (by decide); omega)) ?_
            refine pw_blk hT 2 (S' := (35, [some (pvR 3), some (pvR q1), some (pvI n2), some (pvI n3), some (pvI n4)], [pvI 0, pvI n4, pvI 2, pvI 2, pvR 3], M15_)) rfl ⟨trivial, trivial, trivial⟩ ?_
            have e127_ : (M15_.1 3 1) = 0 := ((((pvu_n e16_ 3 1 (Or.inr (by decide))).trans (pvu_n e12_ 3 1 (Or.inr (by decide)))).trans (pvu_n e7_ 3 1 (Or.inr (by decide)))).trans (pvu_s e2_))
            have b128_ : 0 ≤ Int32.toInt (M15_.1 3 1) ∧ Int32.toInt (M15_.1 3 1) ≤ 0 := (by rw [e127_]; exact (show 0 ≤ Int32.toInt 0 ∧ Int32.toInt 0 ≤ 0 from (by decide)))
            refine pw_callGd hT (as := [pvR 3, pvI 2, pvI 2, pvI n4, pvI 0]) (lo1 := [some (pvR 3), some (pvI 2), some (pvI 2), some (pvI n4), some (pvI 0), none, none]) (d1 := d) (rest := []) rfl rfl rfl rfl rfl (fun h => absurd h (by decide)) (Nat.zero_le _) rfl rfl rfl (sf_X0_run_3_2_2_x_0_2 M15_ o17_ n4 (zr_wide b128_ (by decide) (by decide)) b100_ d (Nat.le_trans (by decide) hd)) (fun x130_ M131_ b132_ o133_ g134_ d129_ => ?_)
            have f135_ : pvFr fp_X0_perform_3_x_x_x_x M M131_ := pvfr_t g134_ f18_ fp_X0_perform_3_x_x_x_x_fp_X0_run_3_2_2_x_0_2
            have b136_ : 0 ≤ Int32.toInt (M131_.1 3 1) ∧ Int32.toInt (M131_.1 3 1) ≤ 4 := (by have u0 := b128_; have u1 := d129_; have u2 := pvok_r o133_ 3 1 (lo := 0) (hi := 1000000) rfl; omega)
            exact pw_ret hT rfl (r := some (pvI x130_)) (M' := M131_) ⟨rfl, rfl⟩ ⟨⟨_, rfl, trivial⟩, o133_, f135_⟩
      · have b137_ : 3 ≤ Int32.toInt (M15_.1 3 2) ∧ Int32.toInt (M15_.1 3 2) ≤ 6 := (by have u0 := b98_; have u1 := (not_congr (zi_eq _ _)).mp c99_; have u2 := (show 2 ≤ Int32.toInt 2 ∧ Int32.toInt 2 ≤ 2 from (by decide)); omega)
        by_cases c138_ : (M15_.1 3 2) = 3
        · refine pw_eqI c138_ ?_
          have b139_ : 3 ≤ Int32.toInt (M15_.1 3 2) ∧ Int32.toInt (M15_.1 3 2) ≤ 3 := (by have u0 := b137_; have u1 := (zi_eq _ _).mp c138_; have u2 := (show 3 ≤ Int32.toInt 3 ∧ Int32.toInt 3 ≤ 3 from (by decide)); omega)
          refine pw_blk hT 1 (S' := (32, [some (pvR 3), some (pvR q1), some (pvI n2), some (pvI n3), some (pvI n4)], [pvI n3, pvI 3, pvR 3], M15_)) rfl ⟨trivial, trivial⟩ ?_
          by_cases c140_ : n3 = 0
          · refine pw_eqI c140_ ?_
            have b141_ : 0 ≤ Int32.toInt n3 ∧ Int32.toInt n3 ≤ 0 := (by have u0 := hn3; have u1 := (zi_eq _ _).mp c140_; have u2 := (show 0 ≤ Int32.toInt 0 ∧ Int32.toInt 0 ≤ 0 from (by decide)); omega)
            refine pw_blk hT 2 (S' := (35, [some (pvR 3), some (pvR q1), some (pvI n2), some (pvI n3), some (pvI n4)], [pvI 0, pvI n4, pvI 0, pvI 3, pvR 3], M15_)) rfl ⟨trivial, trivial, trivial⟩ ?_
            have e142_ : (M15_.1 3 1) = 0 := ((((pvu_n e16_ 3 1 (Or.inr (by decide))).trans (pvu_n e12_ 3 1 (Or.inr (by decide)))).trans (pvu_n e7_ 3 1 (Or.inr (by decide)))).trans (pvu_s e2_))
            have b143_ : 0 ≤ Int32.toInt (M15_.1 3 1) ∧ Int32.toInt (M15_.1 3 1) ≤ 0 := (by rw [e142_]; exact (show 0 ≤ Int32.toInt 0 ∧ Int32.toInt 0 ≤ 0 from (by decide)))
            refine pw_callGd hT (as := [pvR 3, pvI 3, pvI 0, pvI n4, pvI 0]) (lo1 := [some (pvR 3), some (pvI 3), some (pvI 0), some (pvI n4), some (pvI 0), none, none]) (d1 := d) (rest := []) rfl rfl rfl rfl rfl (fun h => absurd h (by decide)) (Nat.zero_le _) rfl rfl rfl (sf_X0_run_3_3_0_x_0_3 M15_ o17_ n4 (zr_wide b143_ (by decide) (by decide)) b139_ d) (fun x145_ M146_ b147_ o148_ g149_ d144_ => ?_)
            have f150_ : pvFr fp_X0_perform_3_x_x_x_x M M146_ := pvfr_t g149_ f18_ fp_X0_perform_3_x_x_x_x_fp_X0_run_3_3_0_x_0_3
            have b151_ : 0 ≤ Int32.toInt (M146_.1 3 1) ∧ Int32.toInt (M146_.1 3 1) ≤ 1 := (by have u0 := b143_; have u1 := d144_; have u2 := pvok_r o148_ 3 1 (lo := 0) (hi := 1000000) rfl; omega)
            exact pw_ret hT rfl (r := some (pvI x145_)) (M' := M146_) ⟨rfl, rfl⟩ ⟨⟨_, rfl, trivial⟩, o148_, f150_⟩
          · have b152_ : 1 ≤ Int32.toInt n3 ∧ Int32.toInt n3 ≤ 2 := (by have u0 := hn3; have u1 := (not_congr (zi_eq _ _)).mp c140_; have u2 := (show 0 ≤ Int32.toInt 0 ∧ Int32.toInt 0 ≤ 0 from (by decide)); omega)
            by_cases c153_ : n3 = 1
            · refine pw_eqI c153_ ?_
              have b154_ : 1 ≤ Int32.toInt n3 ∧ Int32.toInt n3 ≤ 1 := (by have u0 := b152_; have u1 := (zi_eq _ _).mp c153_; have u2 := (show 1 ≤ Int32.toInt 1 ∧ Int32.toInt 1 ≤ 1 from (by decide)); omega)
              refine pw_blk hT 2 (S' := (35, [some (pvR 3), some (pvR q1), some (pvI n2), some (pvI n3), some (pvI n4)], [pvI 0, pvI n4, pvI 1, pvI 3, pvR 3], M15_)) rfl ⟨trivial, trivial, trivial⟩ ?_
              have e155_ : (M15_.1 3 1) = 0 := ((((pvu_n e16_ 3 1 (Or.inr (by decide))).trans (pvu_n e12_ 3 1 (Or.inr (by decide)))).trans (pvu_n e7_ 3 1 (Or.inr (by decide)))).trans (pvu_s e2_))
              have b156_ : 0 ≤ Int32.toInt (M15_.1 3 1) ∧ Int32.toInt (M15_.1 3 1) ≤ 0 := (by rw [e155_]; exact (show 0 ≤ Int32.toInt 0 ∧ Int32.toInt 0 ≤ 0 from (by decide)))
              refine pw_callGd hT (as := [pvR 3, pvI 3, pvI 1, pvI n4, pvI 0]) (lo1 := [some (pvR 3), some (pvI 3), some (pvI 1), some (pvI n4), some (pvI 0), none, none]) (d1 := d) (rest := []) rfl rfl rfl rfl rfl (fun h => absurd h (by decide)) (Nat.zero_le _) rfl rfl rfl (sf_X0_run_3_3_1_x_0_3 M15_ o17_ n4 (zr_wide b156_ (by decide) (by decide)) b139_ d (Nat.le_trans (by decide) hd)) (fun x158_ M159_ b160_ o161_ g162_ d157_ => ?_)
              have f163_ : pvFr fp_X0_perform_3_x_x_x_x M M159_ := pvfr_t g162_ f18_ fp_X0_perform_3_x_x_x_x_fp_X0_run_3_3_1_x_0_3
              have b164_ : 0 ≤ Int32.toInt (M159_.1 3 1) ∧ Int32.toInt (M159_.1 3 1) ≤ 2 := (by have u0 := b156_; have u1 := d157_; have u2 := pvok_r o161_ 3 1 (lo := 0) (hi := 1000000) rfl; omega)
              exact pw_ret hT rfl (r := some (pvI x158_)) (M' := M159_) ⟨rfl, rfl⟩ ⟨⟨_, rfl, trivial⟩, o161_, f163_⟩
            · have b165_ : 2 ≤ Int32.toInt n3 ∧ Int32.toInt n3 ≤ 2 := (by have u0 := b152_; have u1 := (not_congr (zi_eq _ _)).mp c153_; have u2 := (show 1 ≤ Int32.toInt 1 ∧ Int32.toInt 1 ≤ 1 from (by decide)); omega)
              refine pw_eqI ((zi_eq _ (2)).mpr (by have u0 := b165_; have u1 : Int32.toInt (2) = 2 := (by decide); omega)) ?_
              refine pw_blk hT 2 (S' := (35, [some (pvR 3), some (pvR q1), some (pvI n2), some (pvI n3), some (pvI n4)], [pvI 0, pvI n4, pvI 2, pvI 3, pvR 3], M15_)) rfl ⟨trivial, trivial, trivial⟩ ?_
              have e166_ : (M15_.1 3 1) = 0 := ((((pvu_n e16_ 3 1 (Or.inr (by decide))).trans (pvu_n e12_ 3 1 (Or.inr (by decide)))).trans (pvu_n e7_ 3 1 (Or.inr (by decide)))).trans (pvu_s e2_))
              have b167_ : 0 ≤ Int32.toInt (M15_.1 3 1) ∧ Int32.toInt (M15_.1 3 1) ≤ 0 := (by rw [e166_]; exact (show 0 ≤ Int32.toInt 0 ∧ Int32.toInt 0 ≤ 0 from (by decide)))
              refine pw_callGd hT (as := [pvR 3, pvI 3, pvI 2, pvI n4, pvI 0]) (lo1 := [some (pvR 3), some (pvI 3), some (pvI 2), some (pvI n4), some (pvI 0), none, none]) (d1 := d) (rest := []) rfl rfl rfl rfl rfl (fun h => absurd h (by decide)) (Nat.zero_le _) rfl rfl rfl (sf_X0_run_3_3_2_x_0_3 M15_ o17_ n4 (zr_wide b167_ (by decide) (by decide)) b139_ d (Nat.le_trans (by decide) hd)) (fun x169_ M170_ b171_ o172_ g173_ d168_ => ?_)
              have f174_ : pvFr fp_X0_perform_3_x_x_x_x M M170_ := pvfr_t g173_ f18_ fp_X0_perform_3_x_x_x_x_fp_X0_run_3_3_2_x_0_3
              have b175_ : 0 ≤ Int32.toInt (M170_.1 3 1) ∧ Int32.toInt (M170_.1 3 1) ≤ 6 := (by have u0 := b167_; have u1 := d168_; have u2 := pvok_r o172_ 3 1 (lo := 0) (hi := 1000000) rfl; omega)
              exact pw_ret hT rfl (r := some (pvI x169_)) (M' := M170_) ⟨rfl, rfl⟩ ⟨⟨_, rfl, trivial⟩, o172_, f174_⟩
        · have b176_ : 4 ≤ Int32.toInt (M15_.1 3 2) ∧ Int32.toInt (M15_.1 3 2) ≤ 6 := (by have u0 := b137_; have u1 := (not_congr (zi_eq _ _)).mp c138_; have u2 := (show 3 ≤ Int32.toInt 3 ∧ Int32.toInt 3 ≤ 3 from (by decide)); omega)
          by_cases c177_ : (M15_.1 3 2) = 4
          · refine pw_eqI c177_ ?_
            have b178_ : 4 ≤ Int32.toInt (M15_.1 3 2) ∧ Int32.toInt (M15_.1 3 2) ≤ 4 := (by have u0 := b176_; have u1 := (zi_eq _ _).mp c177_; have u2 := (show 4 ≤ Int32.toInt 4 ∧ Int32.toInt 4 ≤ 4 from (by decide)); omega)
            refine pw_blk hT 1 (S' := (32, [some (pvR 3), some (pvR q1), some (pvI n2), some (pvI n3), some (pvI n4)], [pvI n3, pvI 4, pvR 3], M15_)) rfl ⟨trivial, trivial⟩ ?_
            by_cases c179_ : n3 = 0
            · refine pw_eqI c179_ ?_
              have b180_ : 0 ≤ Int32.toInt n3 ∧ Int32.toInt n3 ≤ 0 := (by have u0 := hn3; have u1 := (zi_eq _ _).mp c179_; have u2 := (show 0 ≤ Int32.toInt 0 ∧ Int32.toInt 0 ≤ 0 from (by decide)); omega)
              refine pw_blk hT 2 (S' := (35, [some (pvR 3), some (pvR q1), some (pvI n2), some (pvI n3), some (pvI n4)], [pvI 0, pvI n4, pvI 0, pvI 4, pvR 3], M15_)) rfl ⟨trivial, trivial, trivial⟩ ?_
              have e181_ : (M15_.1 3 1) = 0 := ((((pvu_n e16_ 3 1 (Or.inr (by decide))).trans (pvu_n e12_ 3 1 (Or.inr (by decide)))).trans (pvu_n e7_ 3 1 (Or.inr (by decide)))).trans (pvu_s e2_))
              have b182_ : 0 ≤ Int32.toInt (M15_.1 3 1) ∧ Int32.toInt (M15_.1 3 1) ≤ 0 := (by rw [e181_]; exact (show 0 ≤ Int32.toInt 0 ∧ Int32.toInt 0 ≤ 0 from (by decide)))
              refine pw_callGd hT (as := [pvR 3, pvI 4, pvI 0, pvI n4, pvI 0]) (lo1 := [some (pvR 3), some (pvI 4), some (pvI 0), some (pvI n4), some (pvI 0), none, none]) (d1 := d) (rest := []) rfl rfl rfl rfl rfl (fun h => absurd h (by decide)) (Nat.zero_le _) rfl rfl rfl (sf_X0_run_3_4_0_x_0_4 M15_ o17_ n4 (zr_wide b182_ (by decide) (by decide)) b178_ d (Nat.le_trans (by decide) hd)) (fun x184_ M185_ b186_ o187_ g188_ d183_ => ?_)
              have f189_ : pvFr fp_X0_perform_3_x_x_x_x M M185_ := pvfr_t g188_ f18_ fp_X0_perform_3_x_x_x_x_fp_X0_run_3_4_0_x_0_4
              have b190_ : 0 ≤ Int32.toInt (M185_.1 3 1) ∧ Int32.toInt (M185_.1 3 1) ≤ 2 := (by have u0 := b182_; have u1 := d183_; have u2 := pvok_r o187_ 3 1 (lo := 0) (hi := 1000000) rfl; omega)
              exact pw_ret hT rfl (r := some (pvI x184_)) (M' := M185_) ⟨rfl, rfl⟩ ⟨⟨_, rfl, trivial⟩, o187_, f189_⟩
            · have b191_ : 1 ≤ Int32.toInt n3 ∧ Int32.toInt n3 ≤ 2 := (by have u0 := hn3; have u1 := (not_congr (zi_eq _ _)).mp c179_; have u2 := (show 0 ≤ Int32.toInt 0 ∧ Int32.toInt 0 ≤ 0 from (by decide)); omega)
              by_cases c192_ : n3 = 1
              · refine pw_eqI c192_ ?_
                have b193_ : 1 ≤ Int32.toInt n3 ∧ Int32.toInt n3 ≤ 1 := (by have u0 := b191_; have u1 := (zi_eq _ _).mp c192_; have u2 := (show 1 ≤ Int32.toInt 1 ∧ Int32.toInt 1 ≤ 1 from (by decide)); omega)
                refine pw_blk hT 2 (S' := (35, [some (pvR 3), some (pvR q1), some (pvI n2), some (pvI n3), some (pvI n4)], [pvI 0, pvI n4, pvI 1, pvI 4, pvR 3], M15_)) rfl ⟨trivial, trivial, trivial⟩ ?_
                have e194_ : (M15_.1 3 1) = 0 := ((((pvu_n e16_ 3 1 (Or.inr (by decide))).trans (pvu_n e12_ 3 1 (Or.inr (by decide)))).trans (pvu_n e7_ 3 1 (Or.inr (by decide)))).trans (pvu_s e2_))
                have b195_ : 0 ≤ Int32.toInt (M15_.1 3 1) ∧ Int32.toInt (M15_.1 3 1) ≤ 0 := (by rw [e194_]; exact (show 0 ≤ Int32.toInt 0 ∧ Int32.toInt 0 ≤ 0 from (by decide)))
                refine pw_callGd hT (as := [pvR 3, pvI 4, pvI 1, pvI n4, pvI 0]) (lo1 := [some (pvR 3), some (pvI 4), some (pvI 1), some (pvI n4), some (pvI 0), none, none]) (d1 := d) (rest := []) rfl rfl rfl rfl rfl (fun h => absurd h (by decide)) (Nat.zero_le _) rfl rfl rfl (sf_X0_run_3_4_1_x_0_4 M15_ o17_ n4 (zr_wide b195_ (by decide) (by decide)) b178_ d (Nat.le_trans (by decide) hd)) (fun x197_ M198_ b199_ o200_ g201_ d196_ => ?_)
                have f202_ : pvFr fp_X0_perform_3_x_x_x_x M M198_ := pvfr_t g201_ f18_ fp_X0_perform_3_x_x_x_x_fp_X0_run_3_4_1_x_0_4
                have b203_ : 0 ≤ Int32.toInt (M198_.1 3 1) ∧ Int32.toInt (M198_.1 3 1) ≤ 5 := (by have u0 := b195_; have u1 := d196_; have u2 := pvok_r o200_ 3 1 (lo := 0) (hi := 1000000) rfl; omega)
                exact pw_ret hT rfl (r := some (pvI x197_)) (M' := M198_) ⟨rfl, rfl⟩ ⟨⟨_, rfl, trivial⟩, o200_, f202_⟩
              · have b204_ : 2 ≤ Int32.toInt n3 ∧ Int32.toInt n3 ≤ 2 := (by have u0 := b191_; have u1 := (not_congr (zi_eq _ _)).mp c192_; have u2 := (show 1 ≤ Int32.toInt 1 ∧ Int32.toInt 1 ≤ 1 from (by decide)); omega)
                refine pw_eqI ((zi_eq _ (2)).mpr (by have u0 := b204_; have u1 : Int32.toInt (2) = 2 := (by decide); omega)) ?_
                refine pw_blk hT 2 (S' := (35, [some (pvR 3), some (pvR q1), some (pvI n2), some (pvI n3), some (pvI n4)], [pvI 0, pvI n4, pvI 2, pvI 4, pvR 3], M15_)) rfl ⟨trivial, trivial, trivial⟩ ?_
                have e205_ : (M15_.1 3 1) = 0 := ((((pvu_n e16_ 3 1 (Or.inr (by decide))).trans (pvu_n e12_ 3 1 (Or.inr (by decide)))).trans (pvu_n e7_ 3 1 (Or.inr (by decide)))).trans (pvu_s e2_))
                have b206_ : 0 ≤ Int32.toInt (M15_.1 3 1) ∧ Int32.toInt (M15_.1 3 1) ≤ 0 := (by rw [e205_]; exact (show 0 ≤ Int32.toInt 0 ∧ Int32.toInt 0 ≤ 0 from (by decide)))
                refine pw_callGd hT (as := [pvR 3, pvI 4, pvI 2, pvI n4, pvI 0]) (lo1 := [some (pvR 3), some (pvI 4), some (pvI 2), some (pvI n4), some (pvI 0), none, none]) (d1 := d) (rest := []) rfl rfl rfl rfl rfl (fun h => absurd h (by decide)) (Nat.zero_le _) rfl rfl rfl (sf_X0_run_3_4_2_x_0_4 M15_ o17_ n4 (zr_wide b206_ (by decide) (by decide)) b178_ d (Nat.le_trans (by decide) hd)) (fun x208_ M209_ b210_ o211_ g212_ d207_ => ?_)
                have f213_ : pvFr fp_X0_perform_3_x_x_x_x M M209_ := pvfr_t g212_ f18_ fp_X0_perform_3_x_x_x_x_fp_X0_run_3_4_2_x_0_4
                have b214_ : 0 ≤ Int32.toInt (M209_.1 3 1) ∧ Int32.toInt (M209_.1 3 1) ≤ 6 := (by have u0 := b206_; have u1 := d207_; have u2 := pvok_r o211_ 3 1 (lo := 0) (hi := 1000000) rfl; omega)
                exact pw_ret hT rfl (r := some (pvI x208_)) (M' := M209_) ⟨rfl, rfl⟩ ⟨⟨_, rfl, trivial⟩, o211_, f213_⟩
          · have b215_ : 5 ≤ Int32.toInt (M15_.1 3 2) ∧ Int32.toInt (M15_.1 3 2) ≤ 6 := (by have u0 := b176_; have u1 := (not_congr (zi_eq _ _)).mp c177_; have u2 := (show 4 ≤ Int32.toInt 4 ∧ Int32.toInt 4 ≤ 4 from (by decide)); omega)
            by_cases c216_ : (M15_.1 3 2) = 5
            · refine pw_eqI c216_ ?_
              have b217_ : 5 ≤ Int32.toInt (M15_.1 3 2) ∧ Int32.toInt (M15_.1 3 2) ≤ 5 := (by have u0 := b215_; have u1 := (zi_eq _ _).mp c216_; have u2 := (show 5 ≤ Int32.toInt 5 ∧ Int32.toInt 5 ≤ 5 from (by decide)); omega)
              refine pw_blk hT 1 (S' := (32, [some (pvR 3), some (pvR q1), some (pvI n2), some (pvI n3), some (pvI n4)], [pvI n3, pvI 5, pvR 3], M15_)) rfl ⟨trivial, trivial⟩ ?_
              by_cases c218_ : n3 = 0
              · refine pw_eqI c218_ ?_
                have b219_ : 0 ≤ Int32.toInt n3 ∧ Int32.toInt n3 ≤ 0 := (by have u0 := hn3; have u1 := (zi_eq _ _).mp c218_; have u2 := (show 0 ≤ Int32.toInt 0 ∧ Int32.toInt 0 ≤ 0 from (by decide)); omega)
                refine pw_blk hT 2 (S' := (35, [some (pvR 3), some (pvR q1), some (pvI n2), some (pvI n3), some (pvI n4)], [pvI 0, pvI n4, pvI 0, pvI 5, pvR 3], M15_)) rfl ⟨trivial, trivial, trivial⟩ ?_
                have e220_ : (M15_.1 3 1) = 0 := ((((pvu_n e16_ 3 1 (Or.inr (by decide))).trans (pvu_n e12_ 3 1 (Or.inr (by decide)))).trans (pvu_n e7_ 3 1 (Or.inr (by decide)))).trans (pvu_s e2_))
                have b221_ : 0 ≤ Int32.toInt (M15_.1 3 1) ∧ Int32.toInt (M15_.1 3 1) ≤ 0 := (by rw [e220_]; exact (show 0 ≤ Int32.toInt 0 ∧ Int32.toInt 0 ≤ 0 from (by decide)))
                refine pw_callGd hT (as := [pvR 3, pvI 5, pvI 0, pvI n4, pvI 0]) (lo1 := [some (pvR 3), some (pvI 5), some (pvI 0), some (pvI n4), some (pvI 0), none, none]) (d1 := d) (rest := []) rfl rfl rfl rfl rfl (fun h => absurd h (by decide)) (Nat.zero_le _) rfl rfl rfl (sf_X0_run_3_5_0_x_0_5 M15_ o17_ n4 (zr_wide b221_ (by decide) (by decide)) b217_ d (Nat.le_trans (by decide) hd)) (fun x223_ M224_ b225_ o226_ g227_ d222_ => ?_)
                have f228_ : pvFr fp_X0_perform_3_x_x_x_x M M224_ := pvfr_t g227_ f18_ fp_X0_perform_3_x_x_x_x_fp_X0_run_3_5_0_x_0_5
                have b229_ : 0 ≤ Int32.toInt (M224_.1 3 1) ∧ Int32.toInt (M224_.1 3 1) ≤ 2 := (by have u0 := b221_; have u1 := d222_; have u2 := pvok_r o226_ 3 1 (lo := 0) (hi := 1000000) rfl; omega)
                exact pw_ret hT rfl (r := some (pvI x223_)) (M' := M224_) ⟨rfl, rfl⟩ ⟨⟨_, rfl, trivial⟩, o226_, f228_⟩
              · have b230_ : 1 ≤ Int32.toInt n3 ∧ Int32.toInt n3 ≤ 2 := (by have u0 := hn3; have u1 := (not_congr (zi_eq _ _)).mp c218_; have u2 := (show 0 ≤ Int32.toInt 0 ∧ Int32.toInt 0 ≤ 0 from (by decide)); omega)
                by_cases c231_ : n3 = 1
                · refine pw_eqI c231_ ?_
                  have b232_ : 1 ≤ Int32.toInt n3 ∧ Int32.toInt n3 ≤ 1 := (by have u0 := b230_; have u1 := (zi_eq _ _).mp c231_; have u2 := (show 1 ≤ Int32.toInt 1 ∧ Int32.toInt 1 ≤ 1 from (by decide)); omega)
                  refine pw_blk hT 2 (S' := (35, [some (pvR 3), some (pvR q1), some (pvI n2), some (pvI n3), some (pvI n4)], [pvI 0, pvI n4, pvI 1, pvI 5, pvR 3], M15_)) rfl ⟨trivial, trivial, trivial⟩ ?_
                  have e233_ : (M15_.1 3 1) = 0 := ((((pvu_n e16_ 3 1 (Or.inr (by decide))).trans (pvu_n e12_ 3 1 (Or.inr (by decide)))).trans (pvu_n e7_ 3 1 (Or.inr (by decide)))).trans (pvu_s e2_))
                  have b234_ : 0 ≤ Int32.toInt (M15_.1 3 1) ∧ Int32.toInt (M15_.1 3 1) ≤ 0 := (by rw [e233_]; exact (show 0 ≤ Int32.toInt 0 ∧ Int32.toInt 0 ≤ 0 from (by decide)))
                  refine pw_callGd hT (as := [pvR 3, pvI 5, pvI 1, pvI n4, pvI 0]) (lo1 := [some (pvR 3), some (pvI 5), some (pvI 1), some (pvI n4), some (pvI 0), none, none]) (d1 := d) (rest := []) rfl rfl rfl rfl rfl (fun h => absurd h (by decide)) (Nat.zero_le _) rfl rfl rfl (sf_X0_run_3_5_1_x_0_5 M15_ o17_ n4 (zr_wide b234_ (by decide) (by decide)) b217_ d (Nat.le_trans (by decide) hd)) (fun x236_ M237_ b238_ o239_ g240_ d235_ => ?_)
                  have f241_ : pvFr fp_X0_perform_3_x_x_x_x M M237_ := pvfr_t g240_ f18_ fp_X0_perform_3_x_x_x_x_fp_X0_run_3_5_1_x_0_5
                  have b242_ : 0 ≤ Int32.toInt (M237_.1 3 1) ∧ Int32.toInt (M237_.1 3 1) ≤ 3 := (by have u0 := b234_; have u1 := d235_; have u2 := pvok_r o239_ 3 1 (lo := 0) (hi := 1000000) rfl; omega)
                  exact pw_ret hT rfl (r := some (pvI x236_)) (M' := M237_) ⟨rfl, rfl⟩ ⟨⟨_, rfl, trivial⟩, o239_, f241_⟩
                · have b243_ : 2 ≤ Int32.toInt n3 ∧ Int32.toInt n3 ≤ 2 := (by have u0 := b230_; have u1 := (not_congr (zi_eq _ _)).mp c231_; have u2 := (show 1 ≤ Int32.toInt 1 ∧ Int32.toInt 1 ≤ 1 from (by decide)); omega)
                  refine pw_eqI ((zi_eq _ (2)).mpr (by have u0 := b243_; have u1 : Int32.toInt (2) = 2 := (by decide); omega)) ?_
                  refine pw_blk hT 2 (S' := (35, [some (pvR 3), some (pvR q1), some (pvI n2), some (pvI n3), some (pvI n4)], [pvI 0, pvI n4, pvI 2, pvI 5, pvR 3], M15_)) rfl ⟨trivial, trivial, trivial⟩ ?_
                  have e244_ : (M15_.1 3 1) = 0 := ((((pvu_n e16_ 3 1 (Or.inr (by decide))).trans (pvu_n e12_ 3 1 (Or.inr (by decide)))).trans (pvu_n e7_ 3 1 (Or.inr (by decide)))).trans (pvu_s e2_))
                  have b245_ : 0 ≤ Int32.toInt (M15_.1 3 1) ∧ Int32.toInt (M15_.1 3 1) ≤ 0 := (by rw [e244_]; exact (show 0 ≤ Int32.toInt 0 ∧ Int32.toInt 0 ≤ 0 from (by decide)))
                  refine pw_callGd hT (as := [pvR 3, pvI 5, pvI 2, pvI n4, pvI 0]) (lo1 := [some (pvR 3), some (pvI 5), some (pvI 2), some (pvI n4), some (pvI 0), none, none]) (d1 := d) (rest := []) rfl rfl rfl rfl rfl (fun h => absurd h (by decide)) (Nat.zero_le _) rfl rfl rfl (sf_X0_run_3_5_2_x_0_5 M15_ o17_ n4 (zr_wide b245_ (by decide) (by decide)) b217_ d (Nat.le_trans (by decide) hd)) (fun x247_ M248_ b249_ o250_ g251_ d246_ => ?_)
                  have f252_ : pvFr fp_X0_perform_3_x_x_x_x M M248_ := pvfr_t g251_ f18_ fp_X0_perform_3_x_x_x_x_fp_X0_run_3_5_2_x_0_5
                  have b253_ : 0 ≤ Int32.toInt (M248_.1 3 1) ∧ Int32.toInt (M248_.1 3 1) ≤ 5 := (by have u0 := b245_; have u1 := d246_; have u2 := pvok_r o250_ 3 1 (lo := 0) (hi := 1000000) rfl; omega)
                  exact pw_ret hT rfl (r := some (pvI x247_)) (M' := M248_) ⟨rfl, rfl⟩ ⟨⟨_, rfl, trivial⟩, o250_, f252_⟩
            · have b254_ : 6 ≤ Int32.toInt (M15_.1 3 2) ∧ Int32.toInt (M15_.1 3 2) ≤ 6 := (by have u0 := b215_; have u1 := (not_congr (zi_eq _ _)).mp c216_; have u2 := (show 5 ≤ Int32.toInt 5 ∧ Int32.toInt 5 ≤ 5 from (by decide)); omega)
              refine pw_eqI ((zi_eq _ (6)).mpr (by have u0 := b254_; have u1 : Int32.toInt (6) = 6 := (by decide); omega)) ?_
              refine pw_blk hT 1 (S' := (32, [some (pvR 3), some (pvR q1), some (pvI n2), some (pvI n3), some (pvI n4)], [pvI n3, pvI 6, pvR 3], M15_)) rfl ⟨trivial, trivial⟩ ?_
              by_cases c255_ : n3 = 0
              · refine pw_eqI c255_ ?_
                have b256_ : 0 ≤ Int32.toInt n3 ∧ Int32.toInt n3 ≤ 0 := (by have u0 := hn3; have u1 := (zi_eq _ _).mp c255_; have u2 := (show 0 ≤ Int32.toInt 0 ∧ Int32.toInt 0 ≤ 0 from (by decide)); omega)
                refine pw_blk hT 2 (S' := (35, [some (pvR 3), some (pvR q1), some (pvI n2), some (pvI n3), some (pvI n4)], [pvI 0, pvI n4, pvI 0, pvI 6, pvR 3], M15_)) rfl ⟨trivial, trivial, trivial⟩ ?_
                have e257_ : (M15_.1 3 1) = 0 := ((((pvu_n e16_ 3 1 (Or.inr (by decide))).trans (pvu_n e12_ 3 1 (Or.inr (by decide)))).trans (pvu_n e7_ 3 1 (Or.inr (by decide)))).trans (pvu_s e2_))
                have b258_ : 0 ≤ Int32.toInt (M15_.1 3 1) ∧ Int32.toInt (M15_.1 3 1) ≤ 0 := (by rw [e257_]; exact (show 0 ≤ Int32.toInt 0 ∧ Int32.toInt 0 ≤ 0 from (by decide)))
                refine pw_callGd hT (as := [pvR 3, pvI 6, pvI 0, pvI n4, pvI 0]) (lo1 := [some (pvR 3), some (pvI 6), some (pvI 0), some (pvI n4), some (pvI 0), none, none]) (d1 := d) (rest := []) rfl rfl rfl rfl rfl (fun h => absurd h (by decide)) (Nat.zero_le _) rfl rfl rfl (sf_X0_run_3_6_0_x_0_6 M15_ o17_ n4 (zr_wide b258_ (by decide) (by decide)) b254_ d (Nat.le_trans (by decide) hd)) (fun x260_ M261_ b262_ o263_ g264_ d259_ => ?_)
                have f265_ : pvFr fp_X0_perform_3_x_x_x_x M M261_ := pvfr_t g264_ f18_ fp_X0_perform_3_x_x_x_x_fp_X0_run_3_6_0_x_0_6
                have b266_ : 0 ≤ Int32.toInt (M261_.1 3 1) ∧ Int32.toInt (M261_.1 3 1) ≤ 2 := (by have u0 := b258_; have u1 := d259_; have u2 := pvok_r o263_ 3 1 (lo := 0) (hi := 1000000) rfl; omega)
                exact pw_ret hT rfl (r := some (pvI x260_)) (M' := M261_) ⟨rfl, rfl⟩ ⟨⟨_, rfl, trivial⟩, o263_, f265_⟩
              · have b267_ : 1 ≤ Int32.toInt n3 ∧ Int32.toInt n3 ≤ 2 := (by have u0 := hn3; have u1 := (not_congr (zi_eq _ _)).mp c255_; have u2 := (show 0 ≤ Int32.toInt 0 ∧ Int32.toInt 0 ≤ 0 from (by decide)); omega)
                by_cases c268_ : n3 = 1
                · refine pw_eqI c268_ ?_
                  have b269_ : 1 ≤ Int32.toInt n3 ∧ Int32.toInt n3 ≤ 1 := (by have u0 := b267_; have u1 := (zi_eq _ _).mp c268_; have u2 := (show 1 ≤ Int32.toInt 1 ∧ Int32.toInt 1 ≤ 1 from (by decide)); omega)
                  refine pw_blk hT 2 (S' := (35, [some (pvR 3), some (pvR q1), some (pvI n2), some (pvI n3), some (pvI n4)], [pvI 0, pvI n4, pvI 1, pvI 6, pvR 3], M15_)) rfl ⟨trivial, trivial, trivial⟩ ?_
                  have e270_ : (M15_.1 3 1) = 0 := ((((pvu_n e16_ 3 1 (Or.inr (by decide))).trans (pvu_n e12_ 3 1 (Or.inr (by decide)))).trans (pvu_n e7_ 3 1 (Or.inr (by decide)))).trans (pvu_s e2_))
                  have b271_ : 0 ≤ Int32.toInt (M15_.1 3 1) ∧ Int32.toInt (M15_.1 3 1) ≤ 0 := (by rw [e270_]; exact (show 0 ≤ Int32.toInt 0 ∧ Int32.toInt 0 ≤ 0 from (by decide)))
                  refine pw_callGd hT (as := [pvR 3, pvI 6, pvI 1, pvI n4, pvI 0]) (lo1 := [some (pvR 3), some (pvI 6), some (pvI 1), some (pvI n4), some (pvI 0), none, none]) (d1 := d) (rest := []) rfl rfl rfl rfl rfl (fun h => absurd h (by decide)) (Nat.zero_le _) rfl rfl rfl (sf_X0_run_3_6_1_x_0_6 M15_ o17_ n4 (zr_wide b271_ (by decide) (by decide)) b254_ d (Nat.le_trans (by decide) hd)) (fun x273_ M274_ b275_ o276_ g277_ d272_ => ?_)
                  have f278_ : pvFr fp_X0_perform_3_x_x_x_x M M274_ := pvfr_t g277_ f18_ fp_X0_perform_3_x_x_x_x_fp_X0_run_3_6_1_x_0_6
                  have b279_ : 0 ≤ Int32.toInt (M274_.1 3 1) ∧ Int32.toInt (M274_.1 3 1) ≤ 5 := (by have u0 := b271_; have u1 := d272_; have u2 := pvok_r o276_ 3 1 (lo := 0) (hi := 1000000) rfl; omega)
                  exact pw_ret hT rfl (r := some (pvI x273_)) (M' := M274_) ⟨rfl, rfl⟩ ⟨⟨_, rfl, trivial⟩, o276_, f278_⟩
                · have b280_ : 2 ≤ Int32.toInt n3 ∧ Int32.toInt n3 ≤ 2 := (by have u0 := b267_; have u1 := (not_congr (zi_eq _ _)).mp c268_; have u2 := (show 1 ≤ Int32.toInt 1 ∧ Int32.toInt 1 ≤ 1 from (by decide)); omega)
                  refine pw_eqI ((zi_eq _ (2)).mpr (by have u0 := b280_; have u1 : Int32.toInt (2) = 2 := (by decide); omega)) ?_
                  refine pw_blk hT 2 (S' := (35, [some (pvR 3), some (pvR q1), some (pvI n2), some (pvI n3), some (pvI n4)], [pvI 0, pvI n4, pvI 2, pvI 6, pvR 3], M15_)) rfl ⟨trivial, trivial, trivial⟩ ?_
                  have e281_ : (M15_.1 3 1) = 0 := ((((pvu_n e16_ 3 1 (Or.inr (by decide))).trans (pvu_n e12_ 3 1 (Or.inr (by decide)))).trans (pvu_n e7_ 3 1 (Or.inr (by decide)))).trans (pvu_s e2_))
                  have b282_ : 0 ≤ Int32.toInt (M15_.1 3 1) ∧ Int32.toInt (M15_.1 3 1) ≤ 0 := (by rw [e281_]; exact (show 0 ≤ Int32.toInt 0 ∧ Int32.toInt 0 ≤ 0 from (by decide)))
                  refine pw_callGd hT (as := [pvR 3, pvI 6, pvI 2, pvI n4, pvI 0]) (lo1 := [some (pvR 3), some (pvI 6), some (pvI 2), some (pvI n4), some (pvI 0), none, none]) (d1 := d) (rest := []) rfl rfl rfl rfl rfl (fun h => absurd h (by decide)) (Nat.zero_le _) rfl rfl rfl (sf_X0_run_3_6_2_x_0_6 M15_ o17_ n4 (zr_wide b282_ (by decide) (by decide)) b254_ d (Nat.le_trans (by decide) hd)) (fun x284_ M285_ b286_ o287_ g288_ d283_ => ?_)
                  have f289_ : pvFr fp_X0_perform_3_x_x_x_x M M285_ := pvfr_t g288_ f18_ fp_X0_perform_3_x_x_x_x_fp_X0_run_3_6_2_x_0_6
                  have b290_ : 0 ≤ Int32.toInt (M285_.1 3 1) ∧ Int32.toInt (M285_.1 3 1) ≤ 12 := (by have u0 := b282_; have u1 := d283_; have u2 := pvok_r o287_ 3 1 (lo := 0) (hi := 1000000) rfl; omega)
                  exact pw_ret hT rfl (r := some (pvI x284_)) (M' := M285_) ⟨rfl, rfl⟩ ⟨⟨_, rfl, trivial⟩, o287_, f289_⟩
def fpL_X9_act_0_x_x_x : List (Nat × Nat × Nat) := [(0, 3, 2), (0, 3, 3), (0, 3, 4), (0, 3, 5), (0, 4, 0)]
def fp_X9_act_0_x_x_x (q k : Nat) : Bool := pvfp fpL_X9_act_0_x_x_x q k
theorem fp_X9_act_0_x_x_x_fp_X0_perform_3_x_x_x_x (a b : Nat) (h : fp_X0_perform_3_x_x_x_x a b = true) : fp_X9_act_0_x_x_x a b = true := pvfp_sub (l1 := fpL_X0_perform_3_x_x_x_x) (l2 := fpL_X9_act_0_x_x_x) (by decide) a b h
set_option maxHeartbeats 4000000 in
set_option maxRecDepth 10000 in
theorem sf_X9_act_0_x_x_x (M : pvM) (hok : pvOk M) (n1 : Int32) (n2 : Int32) (n3 : Int32) (d : Nat) (hd : 5 ≤ d) : PW 166 d (0, [some (pvR 0), some (pvI n1), some (pvI n2), some (pvI n3)], [], M) (fun r X => (∃ x : Int32, r = some (pvI x) ∧ True) ∧ pvOk X ∧ pvFr fp_X9_act_0_x_x_x M X) := by
  have hT : pvdom 166 = pvD_166 := rfl
  refine pw_blkw hT 4 (pc := 8) (lo := [some (pvR 0), some (pvI n1), some (pvI n2), some (pvI n3)]) (st := []) (M := pvu M 3 1 0) rfl ⟨trivial, rfl, trivial, rfl, trivial⟩ (fun M1_ e2_ => ?_)
  have o3_ : pvOk M1_ := pvok_u2 e2_ hok rfl (zr_wide (show 0 ≤ Int32.toInt 0 ∧ Int32.toInt 0 ≤ 0 from (by decide)) (by decide) (by decide))
  have f4_ : pvFr fp_X9_act_0_x_x_x M M1_ := pvfr_u e2_ pvfr_0 rfl
  refine pw_blk hT 3 (S' := (13, [some (pvR 0), some (pvI n1), some (pvI n2), some (pvI n3)], [pvI n1, pvR 8], M1_)) rfl ⟨trivial, rfl, trivial, trivial⟩ ?_
  refine pw_callT hT (as := [pvR 8, pvI n1]) (lo1 := [some (pvR 8), some (pvI n1)]) (d1 := d) (rest := []) rfl rfl rfl rfl rfl (fun _ => rfl) (Nat.zero_le _) rfl rfl rfl (sf_X7_has_8_x M1_ o3_ n1 d) ?_
  by_cases c10_ : n1 < 0
  · refine pw_eqI (if_pos c10_) ?_
    have b11_ : (-2147483648) ≤ Int32.toInt n1 ∧ Int32.toInt n1 ≤ (-1) := zr_lt_l (-1) c10_ (zbnd n1) (show 0 ≤ Int32.toInt 0 ∧ Int32.toInt 0 ≤ 0 from (by decide)) (by decide)
    show PW 166 d (16, [some (pvR 0), some (pvI n1), some (pvI n2), some (pvI n3)], [pvI 0], M1_) _
    refine pw_if hT (c := 0 = 0) rfl rfl (fun c12_ => ?_) (fun c12_ => absurd (by decide) c12_)
    refine pw_blk hT 1 (S' := (29, [some (pvR 0), some (pvI n1), some (pvI n2), some (pvI n3)], [pvI 0], M1_)) rfl ⟨trivial, trivial⟩ ?_
    exact pw_ret hT rfl (r := some (pvI 0)) (M' := M1_) ⟨rfl, rfl⟩ ⟨⟨_, rfl, trivial⟩, o3_, f4_⟩
  · refine pw_eqI (if_neg c10_) ?_
    have b13_ : 0 ≤ Int32.toInt n1 ∧ Int32.toInt n1 ≤ 2147483647 := zr_nlt_l 0 c10_ (zbnd n1) (show 0 ≤ Int32.toInt 0 ∧ Int32.toInt 0 ≤ 0 from (by decide)) (by decide)
    have b14_ : 0 ≤ Int32.toInt (M1_.1 8 1) ∧ Int32.toInt (M1_.1 8 1) ≤ 7 := pvok_r o3_ 8 1 rfl
    by_cases c15_ : (M1_.1 8 1) ≤ n1
    · refine pw_eqI (if_pos c15_) ?_
      have d16_ : Int32.toInt (M1_.1 8 1) ≤ Int32.toInt n1 := (zi_le _ _).mp c15_
      show PW 166 d (16, [some (pvR 0), some (pvI n1), some (pvI n2), some (pvI n3)], [pvI 0], M1_) _
      refine pw_if hT (c := 0 = 0) rfl rfl (fun c17_ => ?_) (fun c17_ => absurd (by decide) c17_)
      refine pw_blk hT 1 (S' := (29, [some (pvR 0), some (pvI n1), some (pvI n2), some (pvI n3)], [pvI 0], M1_)) rfl ⟨trivial, trivial⟩ ?_
      exact pw_ret hT rfl (r := some (pvI 0)) (M' := M1_) ⟨rfl, rfl⟩ ⟨⟨_, rfl, trivial⟩, o3_, f4_⟩
    · refine pw_eqI (if_neg c15_) ?_
      have b18_ : 1 ≤ Int32.toInt (M1_.1 8 1) ∧ Int32.toInt (M1_.1 8 1) ≤ 7 := zr_nle_l 1 c15_ b14_ b13_ (by decide)
      have b19_ : 0 ≤ Int32.toInt n1 ∧ Int32.toInt n1 ≤ 6 := zr_nle_r 6 c15_ b13_ b18_ (by decide)
      have d20_ : Int32.toInt (M1_.1 8 1) > Int32.toInt n1 := Int.not_le.mp ((not_congr (zi_le _ _)).mp c15_)
      show PW 166 d (16, [some (pvR 0), some (pvI n1), some (pvI n2), some (pvI n3)], [pvI 1], M1_) _
      refine pw_if hT (c := 1 = 0) rfl rfl (fun c21_ => absurd c21_ (by decide)) (fun c21_ => ?_)
      refine pw_blk hT 3 (S' := (22, [some (pvR 0), some (pvI n1), some (pvI n2), some (pvI n3)], [pvI 2, pvI 0, pvI n2], M1_)) rfl ⟨trivial, trivial, trivial, trivial⟩ ?_
      refine pw_callT hT (as := [pvI n2, pvI 0, pvI 2]) (lo1 := [some (pvI n2), some (pvI 0), some (pvI 2)]) (d1 := d) (rest := []) rfl rfl rfl rfl rfl (fun h => absurd h (by decide)) (Nat.zero_le _) rfl rfl rfl (sf_X9_within_x_x_x M1_ o3_ n2 0 2 d) ?_
      by_cases c27_ : n2 < 0
      · refine pw_eqI (if_pos c27_) ?_
        have b28_ : (-2147483648) ≤ Int32.toInt n2 ∧ Int32.toInt n2 ≤ (-1) := zr_lt_l (-1) c27_ (zbnd n2) (show 0 ≤ Int32.toInt 0 ∧ Int32.toInt 0 ≤ 0 from (by decide)) (by decide)
        show PW 166 d (25, [some (pvR 0), some (pvI n1), some (pvI n2), some (pvI n3)], [pvI 0], M1_) _
        refine pw_ifn hT (c := 0 = 0) rfl rfl (fun c29_ => absurd (by decide) c29_) (fun c29_ => ?_)
        refine pw_blk hT 1 (S' := (29, [some (pvR 0), some (pvI n1), some (pvI n2), some (pvI n3)], [pvI 0], M1_)) rfl ⟨trivial, trivial⟩ ?_
        exact pw_ret hT rfl (r := some (pvI 0)) (M' := M1_) ⟨rfl, rfl⟩ ⟨⟨_, rfl, trivial⟩, o3_, f4_⟩
      · refine pw_eqI (if_neg c27_) ?_
        have b30_ : 0 ≤ Int32.toInt n2 ∧ Int32.toInt n2 ≤ 2147483647 := zr_nlt_l 0 c27_ (zbnd n2) (show 0 ≤ Int32.toInt 0 ∧ Int32.toInt 0 ≤ 0 from (by decide)) (by decide)
        by_cases c31_ : 2 < n2
        · refine pw_eqI (if_pos c31_) ?_
          have b32_ : 3 ≤ Int32.toInt n2 ∧ Int32.toInt n2 ≤ 2147483647 := zr_lt_r 3 c31_ b30_ (show 2 ≤ Int32.toInt 2 ∧ Int32.toInt 2 ≤ 2 from (by decide)) (by decide)
          show PW 166 d (25, [some (pvR 0), some (pvI n1), some (pvI n2), some (pvI n3)], [pvI 0], M1_) _
          refine pw_ifn hT (c := 0 = 0) rfl rfl (fun c33_ => absurd (by decide) c33_) (fun c33_ => ?_)
          refine pw_blk hT 1 (S' := (29, [some (pvR 0), some (pvI n1), some (pvI n2), some (pvI n3)], [pvI 0], M1_)) rfl ⟨trivial, trivial⟩ ?_
          exact pw_ret hT rfl (r := some (pvI 0)) (M' := M1_) ⟨rfl, rfl⟩ ⟨⟨_, rfl, trivial⟩, o3_, f4_⟩
        · refine pw_eqI (if_neg c31_) ?_
          have b34_ : 0 ≤ Int32.toInt n2 ∧ Int32.toInt n2 ≤ 2 := zr_nlt_r 2 c31_ b30_ (show 2 ≤ Int32.toInt 2 ∧ Int32.toInt 2 ≤ 2 from (by decide)) (by decide)
          show PW 166 d (25, [some (pvR 0), some (pvI n1), some (pvI n2), some (pvI n3)], [pvI 1], M1_) _
          refine pw_ifn hT (c := 1 = 0) rfl rfl (fun c35_ => ?_) (fun c35_ => absurd c35_ (by decide))
          refine pw_blkr hT 7 (pc := 43) (lo := [some (pvR 0), some (pvI n1), some (pvI n2), some (pvI n3)]) (st := [pvR 3]) (M := M1_) (z := (pvbs 10 + Int32.toNatClampNeg n1)) rfl ⟨trivial, rfl, trivial, rfl, rfl, trivial, ⟨rfl, (zr_in (n := 7) b19_ (by decide) (by decide))⟩, trivial⟩ (fun q36_ e38_ => ?_)
          have k37_ : pvkl q36_ = 3 := pvel_10 (zr_in (n := 7) b19_ (by decide) (by decide)) e38_
          refine pw_blk hT 3 (S' := (46, [some (pvR 0), some (pvI n1), some (pvI n2), some (pvI n3)], [pvI n3, pvI n2, pvI n1, pvR q36_, pvR 3], M1_)) rfl ⟨trivial, trivial, trivial, trivial⟩ ?_
          refine pw_callG hT (as := [pvR 3, pvR q36_, pvI n1, pvI n2, pvI n3]) (lo1 := [some (pvR 3), some (pvR q36_), some (pvI n1), some (pvI n2), some (pvI n3)]) (d1 := d) (rest := []) rfl rfl rfl rfl rfl (fun _ => rfl) (Nat.zero_le _) rfl rfl rfl (sf_X0_perform_3_x_x_x_x M1_ o3_ q36_ n1 n2 n3 k37_ b19_ b34_ d (Nat.le_trans (by decide) hd)) (fun x39_ M40_ b41_ o42_ g43_ => ?_)
          have f44_ : pvFr fp_X9_act_0_x_x_x M M40_ := pvfr_t g43_ f4_ fp_X9_act_0_x_x_x_fp_X0_perform_3_x_x_x_x
          exact pw_ret hT rfl (r := some (pvI x39_)) (M' := M40_) ⟨rfl, rfl⟩ ⟨⟨_, rfl, trivial⟩, o42_, f44_⟩
set_option maxHeartbeats 4000000 in
set_option maxRecDepth 10000 in
theorem sf_X6_names_100_x (M : pvM) (hok : pvOk M) (n1 : Int32) (d : Nat) : PW 155 d (0, [some (pvR 100), some (pvI n1), none], [], M) (fun r X => (∃ x : Int32, r = some (pvI x) ∧ 0 ≤ Int32.toInt x ∧ Int32.toInt x ≤ 1) ∧ X = M) := by
  have hT : pvdom 155 = pvD_155 := rfl
  refine pw_blk hT 2 (S' := (2, [some (pvR 100), some (pvI n1), some (pvI 0)], [], M)) rfl ⟨trivial, trivial, trivial⟩ ?_
  have hlz40_ : ∀ (nz40_ : Nat) (i2z40_ : Int32), (0 ≤ Int32.toInt i2z40_ ∧ Int32.toInt i2z40_ ≤ 7) → (zhide ((8 - Int32.toInt i2z40_).toNat < nz40_)) → PW 155 d (2, [some (pvR 100), some (pvI n1), some (pvI i2z40_)], [], M) (fun r X => (∃ x : Int32, r = some (pvI x) ∧ 0 ≤ Int32.toInt x ∧ Int32.toInt x ≤ 1) ∧ X = M) := by
    intro nz40_
    induction nz40_ with
    | zero => intro i2z40_ h2z40_ hmz40_; exact absurd (zshow hmz40_) (Nat.not_lt_zero _)
    | succ nz40_ ihz40_ =>
      intro i2z40_ h2z40_ hmz40_
      have b41_ : 0 ≤ Int32.toInt (M.1 100 0) ∧ Int32.toInt (M.1 100 0) ≤ 7 := pvok_r hok 100 0 rfl
      refine pw_blk hT 3 (S' := (7, [some (pvR 100), some (pvI n1), some (pvI i2z40_)], [pvI (M.1 100 0), pvI i2z40_], M)) rfl ⟨trivial, trivial, rfl, trivial⟩ ?_
      refine pw_ic hT (c := (M.1 100 0) ≤ i2z40_) rfl rfl (fun c42_ => ?_) (fun c42_ => ?_)
      · have d43_ : Int32.toInt (M.1 100 0) ≤ Int32.toInt i2z40_ := (zi_le _ _).mp c42_
        refine pw_blk hT 1 (S' := (29, [some (pvR 100), some (pvI n1), some (pvI i2z40_)], [pvI 0], M)) rfl ⟨trivial, trivial⟩ ?_
        exact pw_ret hT rfl (r := some (pvI 0)) (M' := M) ⟨Or.inl rfl, rfl, rfl⟩ ⟨⟨_, rfl, (zr_wide (show 0 ≤ Int32.toInt 0 ∧ Int32.toInt 0 ≤ 0 from (by decide)) (by decide) (by decide))⟩, rfl⟩
      · have b44_ : 1 ≤ Int32.toInt (M.1 100 0) ∧ Int32.toInt (M.1 100 0) ≤ 7 := zr_nle_l 1 c42_ b41_ h2z40_ (by decide)
        have b45_ : 0 ≤ Int32.toInt i2z40_ ∧ Int32.toInt i2z40_ ≤ 6 := zr_nle_r 6 c42_ h2z40_ b44_ (by decide)
        have d46_ : Int32.toInt (M.1 100 0) > Int32.toInt i2z40_ := Int.not_le.mp ((not_congr (zi_le _ _)).mp c42_)
        have b47_ : 0 ≤ Int32.toInt (M.1 108 (Int32.toNatClampNeg i2z40_)) ∧ Int32.toInt (M.1 108 (Int32.toNatClampNeg i2z40_)) ≤ 6 := pvok_r hok 108 (Int32.toNatClampNeg i2z40_) rfl
        refine pw_blk hT 5 (S' := (17, [some (pvR 100), some (pvI n1), some (pvI i2z40_)], [pvI n1, pvI (M.1 108 (Int32.toNatClampNeg i2z40_))], M)) rfl ⟨trivial, rfl, trivial, ⟨rfl, (zr_in (n := 7) b45_ (by decide) (by decide))⟩, trivial, trivial⟩ ?_
        refine pw_icn hT (c := (M.1 108 (Int32.toNatClampNeg i2z40_)) = n1) rfl rfl (fun c48_ => ?_) (fun c48_ => ?_)
        · obtain ⟨q50_, b49_⟩ : (Int32.toInt (i2z40_ + 1) = Int32.toInt i2z40_ + 1) ∧ (1 ≤ Int32.toInt (i2z40_ + 1) ∧ Int32.toInt (i2z40_ + 1) ≤ 7) := zadd_k i2z40_ 1 1 1 7 b45_ (by decide) (by decide) (by decide) (by decide) (by decide)
          refine pw_blk hT 2 (S' := (2, [some (pvR 100), some (pvI n1), some (pvI (i2z40_ + 1))], [], M)) rfl ⟨trivial, trivial, trivial⟩ ?_
          exact ihz40_ (i2z40_ + 1) (zr_wide b49_ (by decide) (by decide)) (zhid (pvms_up (zshow hmz40_) h2z40_ q50_ (by decide) (by decide)))
        · have b51_ : 0 ≤ Int32.toInt n1 ∧ Int32.toInt n1 ≤ 6 := (by have u0 := (zbnd n1); have u1 := (zi_eq _ _).mp c48_; have u2 := b47_; omega)
          have d52_ : Int32.toInt (M.1 108 (Int32.toNatClampNeg i2z40_)) = Int32.toInt n1 := (zi_eq _ _).mp c48_
          refine pw_blk hT 1 (S' := (21, [some (pvR 100), some (pvI n1), some (pvI i2z40_)], [pvI 1], M)) rfl ⟨trivial, trivial⟩ ?_
          exact pw_ret hT rfl (r := some (pvI 1)) (M' := M) ⟨Or.inr rfl, rfl, rfl⟩ ⟨⟨_, rfl, (zr_wide (show 1 ≤ Int32.toInt 1 ∧ Int32.toInt 1 ≤ 1 from (by decide)) (by decide) (by decide))⟩, rfl⟩
  exact hlz40_ _ 0 (zr_wide (show 0 ≤ Int32.toInt 0 ∧ Int32.toInt 0 ≤ 0 from (by decide)) (by decide) (by decide)) (zhid (Nat.lt_succ_self _))
set_option maxHeartbeats 4000000 in
set_option maxRecDepth 10000 in
theorem sf_X6_isFull_100 (M : pvM) (hok : pvOk M) (d : Nat) : PW 154 d (0, [some (pvR 100)], [], M) (fun r X => r = some (pvI ((if (M.1 100 0) < (Int32.ofNat 7) then 0 else 1))) ∧ X = M) := by
  have hT : pvdom 154 = pvD_154 := rfl
  have b1_ : 0 ≤ Int32.toInt (M.1 100 0) ∧ Int32.toInt (M.1 100 0) ≤ 7 := pvok_r hok 100 0 rfl
  refine pw_blk hT 5 (S' := (9, [some (pvR 100)], [pvI (Int32.ofNat 7), pvI (M.1 100 0)], M)) rfl ⟨trivial, rfl, trivial, rfl, rfl, trivial⟩ ?_
  refine pw_ic hT (c := (M.1 100 0) < (Int32.ofNat 7)) rfl rfl (fun c2_ => ?_) (fun c2_ => ?_)
  · have b3_ : 0 ≤ Int32.toInt (M.1 100 0) ∧ Int32.toInt (M.1 100 0) ≤ 6 := zr_lt_l 6 c2_ b1_ (show 7 ≤ Int32.toInt (Int32.ofNat 7) ∧ Int32.toInt (Int32.ofNat 7) ≤ 7 from (by decide)) (by decide)
    refine pw_blk hT 1 (S' := (17, [some (pvR 100)], [pvI 0], M)) rfl ⟨trivial, trivial⟩ ?_
    exact pw_ret hT rfl (r := some (pvI 0)) (M' := M) ⟨Or.inl rfl, rfl, rfl⟩ ⟨(by rw [if_pos c2_]), rfl⟩
  · have b4_ : 7 ≤ Int32.toInt (M.1 100 0) ∧ Int32.toInt (M.1 100 0) ≤ 7 := zr_nlt_l 7 c2_ b1_ (show 7 ≤ Int32.toInt (Int32.ofNat 7) ∧ Int32.toInt (Int32.ofNat 7) ≤ 7 from (by decide)) (by decide)
    refine pw_blk hT 2 (S' := (17, [some (pvR 100)], [pvI 1], M)) rfl ⟨trivial, trivial, trivial⟩ ?_
    exact pw_ret hT rfl (r := some (pvI 1)) (M' := M) ⟨Or.inr rfl, rfl, rfl⟩ ⟨(by rw [if_neg c2_]), rfl⟩
def fpL_X6_append_100_x_x : List (Nat × Nat × Nat) := [(0, 100, 1), (0, 108, 0), (0, 116, 0)]
def fp_X6_append_100_x_x (q k : Nat) : Bool := pvfp fpL_X6_append_100_x_x q k
set_option maxHeartbeats 4000000 in
set_option maxRecDepth 10000 in
theorem sf_X6_append_100_x_x (M : pvM) (hok : pvOk M) (n1 : Int32) (n2 : Int32) (hn1 : 0 ≤ Int32.toInt n1 ∧ Int32.toInt n1 ≤ 6) (hn2 : 0 ≤ Int32.toInt n2 ∧ Int32.toInt n2 ≤ 9999) (d : Nat) : PW 151 d (0, [some (pvR 100), some (pvI n1), some (pvI n2)], [], M) (fun r X => (∃ x : Int32, r = some (pvI x) ∧ 1 ≤ Int32.toInt x ∧ Int32.toInt x ≤ 7) ∧ pvOk X ∧ pvFr fp_X6_append_100_x_x M X) := by
  have hT : pvdom 151 = pvD_151 := rfl
  refine pw_blk hT 1 (S' := (1, [some (pvR 100), some (pvI n1), some (pvI n2)], [pvR 100], M)) rfl ⟨trivial, trivial⟩ ?_
  refine pw_callT hT (as := [pvR 100]) (lo1 := [some (pvR 100)]) (d1 := d) (rest := []) rfl rfl rfl rfl rfl (fun _ => rfl) (Nat.zero_le _) rfl rfl rfl (sf_X6_isFull_100 M hok d) ?_
  have b6_ : 0 ≤ Int32.toInt (M.1 100 0) ∧ Int32.toInt (M.1 100 0) ≤ 7 := pvok_r hok 100 0 rfl
  by_cases c7_ : (M.1 100 0) < (Int32.ofNat 7)
  · refine pw_eqI (if_pos c7_) ?_
    have b8_ : 0 ≤ Int32.toInt (M.1 100 0) ∧ Int32.toInt (M.1 100 0) ≤ 6 := zr_lt_l 6 c7_ b6_ (show 7 ≤ Int32.toInt (Int32.ofNat 7) ∧ Int32.toInt (Int32.ofNat 7) ≤ 7 from (by decide)) (by decide)
    show PW 151 d (4, [some (pvR 100), some (pvI n1), some (pvI n2)], [pvI 0], M) _
    refine pw_if hT (c := 0 = 0) rfl rfl (fun c9_ => ?_) (fun c9_ => absurd (by decide) c9_)
    refine pw_blkw hT 6 (pc := 22) (lo := [some (pvR 100), some (pvI n1), some (pvI n2)]) (st := []) (M := pvu M 108 (Int32.toNatClampNeg (M.1 100 0)) n1) rfl ⟨trivial, rfl, trivial, rfl, trivial, ⟨rfl, (zr_in (n := 7) b8_ (by decide) (by decide))⟩, trivial⟩ (fun M10_ e11_ => ?_)
    have o12_ : pvOk M10_ := pvok_u2 e11_ hok rfl hn1
    have f13_ : pvFr fp_X6_append_100_x_x M M10_ := pvfr_u e11_ pvfr_0 rfl
    have e14_ : (M10_.1 100 0) = (M.1 100 0) := (pvu_n e11_ 100 0 (Or.inl (by decide)))
    have b15_ : 0 ≤ Int32.toInt (M10_.1 100 0) ∧ Int32.toInt (M10_.1 100 0) ≤ 6 := (by rw [e14_]; exact b8_)
    refine pw_blkw hT 6 (pc := 32) (lo := [some (pvR 100), some (pvI n1), some (pvI n2)]) (st := []) (M := pvu M10_ 116 (Int32.toNatClampNeg (M10_.1 100 0)) n2) rfl ⟨trivial, rfl, trivial, rfl, trivial, ⟨rfl, (zr_in (n := 7) b15_ (by decide) (by decide))⟩, trivial⟩ (fun M16_ e17_ => ?_)
    have o18_ : pvOk M16_ := pvok_u2 e17_ o12_ rfl hn2
    have f19_ : pvFr fp_X6_append_100_x_x M M16_ := pvfr_u e17_ f13_ rfl
    have e20_ : (M16_.1 100 0) = (M10_.1 100 0) := (pvu_n e17_ 100 0 (Or.inl (by decide)))
    have b21_ : 0 ≤ Int32.toInt (M16_.1 100 0) ∧ Int32.toInt (M16_.1 100 0) ≤ 6 := (by rw [e20_]; exact b15_)
    obtain ⟨q23_, b22_⟩ : (Int32.toInt ((M16_.1 100 0) + 1) = Int32.toInt (M16_.1 100 0) + 1) ∧ (1 ≤ Int32.toInt ((M16_.1 100 0) + 1) ∧ Int32.toInt ((M16_.1 100 0) + 1) ≤ 7) := zadd_k (M16_.1 100 0) 1 1 1 7 b21_ (by decide) (by decide) (by decide) (by decide) (by decide)
    refine pw_blkw hT 6 (pc := 42) (lo := [some (pvR 100), some (pvI n1), some (pvI n2)]) (st := []) (M := pvu M16_ 100 0 ((M16_.1 100 0) + 1)) rfl ⟨trivial, trivial, rfl, trivial, trivial, rfl, trivial⟩ (fun M24_ e25_ => ?_)
    have o26_ : pvOk M24_ := pvok_u2 e25_ o18_ rfl (zr_wide b22_ (by decide) (by decide))
    have f27_ : pvFr fp_X6_append_100_x_x M M24_ := pvfr_u e25_ f19_ rfl
    have e28_ : (M24_.1 100 0) = ((M16_.1 100 0) + 1) := (pvu_s e25_)
    have b29_ : 1 ≤ Int32.toInt (M24_.1 100 0) ∧ Int32.toInt (M24_.1 100 0) ≤ 7 := (by rw [e28_]; exact b22_)
    refine pw_blk hT 2 (S' := (46, [some (pvR 100), some (pvI n1), some (pvI n2)], [pvI (M24_.1 100 0)], M24_)) rfl ⟨trivial, rfl, trivial⟩ ?_
    exact pw_ret hT rfl (r := some (pvI (M24_.1 100 0))) (M' := M24_) ⟨rfl, rfl⟩ ⟨⟨_, rfl, b29_⟩, o26_, f27_⟩
  · refine pw_eqI (if_neg c7_) ?_
    have b30_ : 7 ≤ Int32.toInt (M.1 100 0) ∧ Int32.toInt (M.1 100 0) ≤ 7 := zr_nlt_l 7 c7_ b6_ (show 7 ≤ Int32.toInt (Int32.ofNat 7) ∧ Int32.toInt (Int32.ofNat 7) ≤ 7 from (by decide)) (by decide)
    show PW 151 d (4, [some (pvR 100), some (pvI n1), some (pvI n2)], [pvI 1], M) _
    refine pw_if hT (c := 1 = 0) rfl rfl (fun c31_ => absurd c31_ (by decide)) (fun c31_ => ?_)
    refine pw_blk hT 2 (S' := (11, [some (pvR 100), some (pvI n1), some (pvI n2)], [pvI (M.1 100 0)], M)) rfl ⟨trivial, rfl, trivial⟩ ?_
    exact pw_ret hT rfl (r := some (pvI (M.1 100 0))) (M' := M) ⟨rfl, rfl⟩ ⟨⟨_, rfl, (zr_wide b30_ (by decide) (by decide))⟩, hok, pvfr_0⟩
def fpL_X6_clear_100 : List (Nat × Nat × Nat) := [(0, 100, 1)]
def fp_X6_clear_100 (q k : Nat) : Bool := pvfp fpL_X6_clear_100 q k
set_option maxHeartbeats 4000000 in
set_option maxRecDepth 10000 in
theorem sf_X6_clear_100 (M : pvM) (hok : pvOk M) (d : Nat) : PW 153 d (0, [some (pvR 100)], [], M) (fun r X => (∃ x : Int32, r = some (pvI x) ∧ 0 ≤ Int32.toInt x ∧ Int32.toInt x ≤ 0) ∧ pvOk X ∧ pvFr fp_X6_clear_100 M X) := by
  have hT : pvdom 153 = pvD_153 := rfl
  refine pw_blkw hT 3 (pc := 5) (lo := [some (pvR 100)]) (st := []) (M := pvu M 100 0 0) rfl ⟨trivial, trivial, rfl, trivial⟩ (fun M1_ e2_ => ?_)
  have o3_ : pvOk M1_ := pvok_u2 e2_ hok rfl (zr_wide (show 0 ≤ Int32.toInt 0 ∧ Int32.toInt 0 ≤ 0 from (by decide)) (by decide) (by decide))
  have f4_ : pvFr fp_X6_clear_100 M M1_ := pvfr_u e2_ pvfr_0 rfl
  refine pw_blk hT 1 (S' := (6, [some (pvR 100)], [pvI 0], M1_)) rfl ⟨trivial, trivial⟩ ?_
  exact pw_ret hT rfl (r := some (pvI 0)) (M' := M1_) ⟨rfl, rfl⟩ ⟨⟨_, rfl, (show 0 ≤ Int32.toInt 0 ∧ Int32.toInt 0 ≤ 0 from (by decide))⟩, o3_, f4_⟩
def fpL_X9_add_0_x : List (Nat × Nat × Nat) := [(0, 100, 1), (0, 108, 0), (0, 116, 0)]
def fp_X9_add_0_x (q k : Nat) : Bool := pvfp fpL_X9_add_0_x q k
theorem fp_X9_add_0_x_fp_X6_append_100_x_x (a b : Nat) (h : fp_X6_append_100_x_x a b = true) : fp_X9_add_0_x a b = true := pvfp_sub (l1 := fpL_X6_append_100_x_x) (l2 := fpL_X9_add_0_x) (by decide) a b h
theorem fp_X9_add_0_x_fp_X6_clear_100 (a b : Nat) (h : fp_X6_clear_100 a b = true) : fp_X9_add_0_x a b = true := pvfp_sub (l1 := fpL_X6_clear_100) (l2 := fpL_X9_add_0_x) (by decide) a b h
set_option maxHeartbeats 4000000 in
set_option maxRecDepth 10000 in
theorem sf_X9_add_0_x (M : pvM) (hok : pvOk M) (n1 : Int32) (d : Nat) : PW 167 d (0, [some (pvR 0), some (pvI n1)], [], M) (fun r X => (∃ x : Int32, r = some (pvI x) ∧ (-4) ≤ Int32.toInt x ∧ Int32.toInt x ≤ 7) ∧ pvOk X ∧ pvFr fp_X9_add_0_x M X) := by
  have hT : pvdom 167 = pvD_167 := rfl
  refine pw_blk hT 2 (S' := (2, [some (pvR 0), some (pvI n1)], [pvI (-1), pvI n1], M)) rfl ⟨trivial, trivial, trivial⟩ ?_
  refine pw_icn hT (c := n1 = (-1)) rfl rfl (fun c1_ => ?_) (fun c1_ => ?_)
  · refine pw_blk hT 3 (S' := (21, [some (pvR 0), some (pvI n1)], [pvI n1, pvR 8], M)) rfl ⟨trivial, rfl, trivial, trivial⟩ ?_
    refine pw_callT hT (as := [pvR 8, pvI n1]) (lo1 := [some (pvR 8), some (pvI n1)]) (d1 := d) (rest := []) rfl rfl rfl rfl rfl (fun _ => rfl) (Nat.zero_le _) rfl rfl rfl (sf_X7_has_8_x M hok n1 d) ?_
    by_cases c7_ : n1 < 0
    · refine pw_eqI (if_pos c7_) ?_
      have b8_ : (-2147483648) ≤ Int32.toInt n1 ∧ Int32.toInt n1 ≤ (-2) := (by have u0 := (zbnd n1); have u9 := (show _ ∧ _ from ⟨(zi_lt _ _).mp c7_, (show 0 ≤ Int32.toInt 0 ∧ Int32.toInt 0 ≤ 0 from (by decide))⟩); have v1 := (not_congr (zi_eq _ _)).mp c1_; have w1 : ((-1) : Int32).toInt = -1 := (by decide); omega)
      show PW 167 d (24, [some (pvR 0), some (pvI n1)], [pvI 0], M) _
      refine pw_ifn hT (c := 0 = 0) rfl rfl (fun c9_ => absurd (by decide) c9_) (fun c9_ => ?_)
      refine pw_blk hT 1 (S' := (28, [some (pvR 0), some (pvI n1)], [pvI (-1)], M)) rfl ⟨trivial, trivial⟩ ?_
      exact pw_ret hT rfl (r := some (pvI (-1))) (M' := M) ⟨rfl, rfl⟩ ⟨⟨_, rfl, (zr_wide (show (-1) ≤ Int32.toInt (-1) ∧ Int32.toInt (-1) ≤ (-1) from (by decide)) (by decide) (by decide))⟩, hok, pvfr_0⟩
    · refine pw_eqI (if_neg c7_) ?_
      have b10_ : 0 ≤ Int32.toInt n1 ∧ Int32.toInt n1 ≤ 2147483647 := zr_nlt_l 0 c7_ (zbnd n1) (show 0 ≤ Int32.toInt 0 ∧ Int32.toInt 0 ≤ 0 from (by decide)) (by decide)
      have b11_ : 0 ≤ Int32.toInt (M.1 8 1) ∧ Int32.toInt (M.1 8 1) ≤ 7 := pvok_r hok 8 1 rfl
      by_cases c12_ : (M.1 8 1) ≤ n1
      · refine pw_eqI (if_pos c12_) ?_
        have d13_ : Int32.toInt (M.1 8 1) ≤ Int32.toInt n1 := (zi_le _ _).mp c12_
        show PW 167 d (24, [some (pvR 0), some (pvI n1)], [pvI 0], M) _
        refine pw_ifn hT (c := 0 = 0) rfl rfl (fun c14_ => absurd (by decide) c14_) (fun c14_ => ?_)
        refine pw_blk hT 1 (S' := (28, [some (pvR 0), some (pvI n1)], [pvI (-1)], M)) rfl ⟨trivial, trivial⟩ ?_
        exact pw_ret hT rfl (r := some (pvI (-1))) (M' := M) ⟨rfl, rfl⟩ ⟨⟨_, rfl, (zr_wide (show (-1) ≤ Int32.toInt (-1) ∧ Int32.toInt (-1) ≤ (-1) from (by decide)) (by decide) (by decide))⟩, hok, pvfr_0⟩
      · refine pw_eqI (if_neg c12_) ?_
        have b15_ : 1 ≤ Int32.toInt (M.1 8 1) ∧ Int32.toInt (M.1 8 1) ≤ 7 := zr_nle_l 1 c12_ b11_ b10_ (by decide)
        have b16_ : 0 ≤ Int32.toInt n1 ∧ Int32.toInt n1 ≤ 6 := zr_nle_r 6 c12_ b10_ b15_ (by decide)
        have d17_ : Int32.toInt (M.1 8 1) > Int32.toInt n1 := Int.not_le.mp ((not_congr (zi_le _ _)).mp c12_)
        show PW 167 d (24, [some (pvR 0), some (pvI n1)], [pvI 1], M) _
        refine pw_ifn hT (c := 1 = 0) rfl rfl (fun c18_ => ?_) (fun c18_ => absurd c18_ (by decide))
        refine pw_blk hT 4 (S' := (37, [some (pvR 0), some (pvI n1)], [pvI n1, pvR 100], M)) rfl ⟨trivial, rfl, rfl, trivial, trivial⟩ ?_
        refine pw_callGp hT (as := [pvR 100, pvI n1]) (lo1 := [some (pvR 100), some (pvI n1), none]) (d1 := d) (rest := []) rfl rfl rfl rfl rfl (fun _ => rfl) (Nat.zero_le _) rfl rfl rfl (sf_X6_names_100_x M hok n1 d) (fun x19_ b21_ => ?_)
        refine pw_if hT (c := x19_ = 0) rfl rfl (fun c24_ => ?_) (fun c24_ => ?_)
        · have b25_ : 0 ≤ Int32.toInt x19_ ∧ Int32.toInt x19_ ≤ 0 := (by have u0 := b21_; have u1 := (zi_eq _ _).mp c24_; have u2 := (show 0 ≤ Int32.toInt 0 ∧ Int32.toInt 0 ≤ 0 from (by decide)); omega)
          refine pw_blk hT 3 (S' := (53, [some (pvR 0), some (pvI n1)], [pvR 100], M)) rfl ⟨trivial, rfl, rfl, trivial⟩ ?_
          refine pw_callT hT (as := [pvR 100]) (lo1 := [some (pvR 100)]) (d1 := d) (rest := []) rfl rfl rfl rfl rfl (fun _ => rfl) (Nat.zero_le _) rfl rfl rfl (sf_X6_isFull_100 M hok d) ?_
          have b31_ : 0 ≤ Int32.toInt (M.1 100 0) ∧ Int32.toInt (M.1 100 0) ≤ 7 := pvok_r hok 100 0 rfl
          by_cases c32_ : (M.1 100 0) < (Int32.ofNat 7)
          · refine pw_eqI (if_pos c32_) ?_
            have b33_ : 0 ≤ Int32.toInt (M.1 100 0) ∧ Int32.toInt (M.1 100 0) ≤ 6 := zr_lt_l 6 c32_ b31_ (show 7 ≤ Int32.toInt (Int32.ofNat 7) ∧ Int32.toInt (Int32.ofNat 7) ≤ 7 from (by decide)) (by decide)
            show PW 167 d (56, [some (pvR 0), some (pvI n1)], [pvI 0], M) _
            refine pw_if hT (c := 0 = 0) rfl rfl (fun c34_ => ?_) (fun c34_ => absurd (by decide) c34_)
            refine pw_blk hT 5 (S' := (71, [some (pvR 0), some (pvI n1)], [pvI 0, pvI n1, pvR 100], M)) rfl ⟨trivial, rfl, rfl, trivial, trivial, trivial⟩ ?_
            refine pw_callG hT (as := [pvR 100, pvI n1, pvI 0]) (lo1 := [some (pvR 100), some (pvI n1), some (pvI 0)]) (d1 := d) (rest := []) rfl rfl rfl rfl rfl (fun _ => rfl) (Nat.zero_le _) rfl rfl rfl (sf_X6_append_100_x_x M hok n1 0 b16_ (zr_wide (show 0 ≤ Int32.toInt 0 ∧ Int32.toInt 0 ≤ 0 from (by decide)) (by decide) (by decide)) d) (fun x35_ M36_ b37_ o38_ g39_ => ?_)
            have f40_ : pvFr fp_X9_add_0_x M M36_ := pvfr_t g39_ pvfr_0 fp_X9_add_0_x_fp_X6_append_100_x_x
            exact pw_ret hT rfl (r := some (pvI x35_)) (M' := M36_) ⟨rfl, rfl⟩ ⟨⟨_, rfl, (zr_wide b37_ (by decide) (by decide))⟩, o38_, f40_⟩
          · refine pw_eqI (if_neg c32_) ?_
            have b41_ : 7 ≤ Int32.toInt (M.1 100 0) ∧ Int32.toInt (M.1 100 0) ≤ 7 := zr_nlt_l 7 c32_ b31_ (show 7 ≤ Int32.toInt (Int32.ofNat 7) ∧ Int32.toInt (Int32.ofNat 7) ≤ 7 from (by decide)) (by decide)
            show PW 167 d (56, [some (pvR 0), some (pvI n1)], [pvI 1], M) _
            refine pw_if hT (c := 1 = 0) rfl rfl (fun c42_ => absurd c42_ (by decide)) (fun c42_ => ?_)
            refine pw_blk hT 1 (S' := (61, [some (pvR 0), some (pvI n1)], [pvI (-4)], M)) rfl ⟨trivial, trivial⟩ ?_
            exact pw_ret hT rfl (r := some (pvI (-4))) (M' := M) ⟨rfl, rfl⟩ ⟨⟨_, rfl, (zr_wide (show (-4) ≤ Int32.toInt (-4) ∧ Int32.toInt (-4) ≤ (-4) from (by decide)) (by decide) (by decide))⟩, hok, pvfr_0⟩
        · have b43_ : 1 ≤ Int32.toInt x19_ ∧ Int32.toInt x19_ ≤ 1 := (by have u0 := b21_; have u1 := (not_congr (zi_eq _ _)).mp c24_; have u2 := (show 0 ≤ Int32.toInt 0 ∧ Int32.toInt 0 ≤ 0 from (by decide)); omega)
          refine pw_blk hT 1 (S' := (45, [some (pvR 0), some (pvI n1)], [pvI (-2)], M)) rfl ⟨trivial, trivial⟩ ?_
          exact pw_ret hT rfl (r := some (pvI (-2))) (M' := M) ⟨rfl, rfl⟩ ⟨⟨_, rfl, (zr_wide (show (-2) ≤ Int32.toInt (-2) ∧ Int32.toInt (-2) ≤ (-2) from (by decide)) (by decide) (by decide))⟩, hok, pvfr_0⟩
  · have b44_ : (-1) ≤ Int32.toInt n1 ∧ Int32.toInt n1 ≤ (-1) := (by have u0 := (zbnd n1); have u1 := (zi_eq _ _).mp c1_; have u2 := (show (-1) ≤ Int32.toInt (-1) ∧ Int32.toInt (-1) ≤ (-1) from (by decide)); omega)
    refine pw_blk hT 3 (S' := (12, [some (pvR 0), some (pvI n1)], [pvR 100], M)) rfl ⟨trivial, rfl, rfl, trivial⟩ ?_
    refine pw_callG hT (as := [pvR 100]) (lo1 := [some (pvR 100)]) (d1 := d) (rest := []) rfl rfl rfl rfl rfl (fun _ => rfl) (Nat.zero_le _) rfl rfl rfl (sf_X6_clear_100 M hok d) (fun x45_ M46_ b47_ o48_ g49_ => ?_)
    have f50_ : pvFr fp_X9_add_0_x M M46_ := pvfr_t g49_ pvfr_0 fp_X9_add_0_x_fp_X6_clear_100
    exact pw_ret hT rfl (r := some (pvI x45_)) (M' := M46_) ⟨rfl, rfl⟩ ⟨⟨_, rfl, (zr_wide b47_ (by decide) (by decide))⟩, o48_, f50_⟩
set_option maxHeartbeats 4000000 in
set_option maxRecDepth 10000 in
theorem sf_X1_sumPlace_5_x_x (M : pvM) (hok : pvOk M) (n1 : Int32) (n2 : Int32) (hn1 : 0 ≤ Int32.toInt n1 ∧ Int32.toInt n1 ≤ 6) (d : Nat) : PW 120 d (0, [some (pvR 5), some (pvI n1), some (pvI n2)], [], M) (fun r X => (∃ x : Int32, r = some (pvI x) ∧ 0 ≤ Int32.toInt x ∧ Int32.toInt x ≤ 2799) ∧ X = M) := by
  have hT : pvdom 120 = pvD_120 := rfl
  have b1_ : 0 ≤ Int32.toInt (M.1 5 1) ∧ Int32.toInt (M.1 5 1) ≤ 3 := pvok_r hok 5 1 rfl
  have q2_ : Int32.toInt ((M.1 5 1) * 7) = 7 * Int32.toInt (M.1 5 1) := by have u0 : Int32.toInt 7 = 7 := (by decide); have u1 := b1_; have u2 := zmul (M.1 5 1) 7 (by rw [u0]; omega) (by rw [u0]; omega); rw [u0] at u2; omega
  have b3_ : 0 ≤ Int32.toInt ((M.1 5 1) * 7) ∧ Int32.toInt ((M.1 5 1) * 7) ≤ 21 := (by have u1 := b1_; omega)
  obtain ⟨q5_, b4_⟩ : (Int32.toInt (((M.1 5 1) * 7) + n1) = Int32.toInt ((M.1 5 1) * 7) + Int32.toInt n1) ∧ (0 ≤ Int32.toInt (((M.1 5 1) * 7) + n1) ∧ Int32.toInt (((M.1 5 1) * 7) + n1) ≤ 27) := zadd_r ((M.1 5 1) * 7) n1 0 27 b3_ hn1 (by decide) (by decide) (by decide) (by decide)
  have q6_ : Int32.toInt ((((M.1 5 1) * 7) + n1) * 100) = 100 * Int32.toInt (((M.1 5 1) * 7) + n1) := by have u0 : Int32.toInt 100 = 100 := (by decide); have u1 := b4_; have u2 := zmul (((M.1 5 1) * 7) + n1) 100 (by rw [u0]; omega) (by rw [u0]; omega); rw [u0] at u2; omega
  have b7_ : 0 ≤ Int32.toInt ((((M.1 5 1) * 7) + n1) * 100) ∧ Int32.toInt ((((M.1 5 1) * 7) + n1) * 100) ≤ 2700 := (by have u1 := b4_; omega)
  have q8_ : Int32.toInt (if 99 < n2 then 99 else n2) = min (Int32.toInt n2) (Int32.toInt 99) := pvmin n2 99
  have b9_ : (-2147483648) ≤ Int32.toInt (if 99 < n2 then 99 else n2) ∧ Int32.toInt (if 99 < n2 then 99 else n2) ≤ 99 := (by have u0 := (zbnd n2); have u1 := (show 99 ≤ Int32.toInt 99 ∧ Int32.toInt 99 ≤ 99 from (by decide)); omega)
  have q10_ : Int32.toInt (if 0 < (if 99 < n2 then 99 else n2) then (if 99 < n2 then 99 else n2) else 0) = max (Int32.toInt 0) (Int32.toInt (if 99 < n2 then 99 else n2)) := pvmax 0 (if 99 < n2 then 99 else n2)
  have b11_ : 0 ≤ Int32.toInt (if 0 < (if 99 < n2 then 99 else n2) then (if 99 < n2 then 99 else n2) else 0) ∧ Int32.toInt (if 0 < (if 99 < n2 then 99 else n2) then (if 99 < n2 then 99 else n2) else 0) ≤ 99 := (by have u0 := (show 0 ≤ Int32.toInt 0 ∧ Int32.toInt 0 ≤ 0 from (by decide)); have u1 := b9_; omega)
  obtain ⟨q13_, b12_⟩ : (Int32.toInt (((((M.1 5 1) * 7) + n1) * 100) + (if 0 < (if 99 < n2 then 99 else n2) then (if 99 < n2 then 99 else n2) else 0)) = Int32.toInt ((((M.1 5 1) * 7) + n1) * 100) + Int32.toInt (if 0 < (if 99 < n2 then 99 else n2) then (if 99 < n2 then 99 else n2) else 0)) ∧ (0 ≤ Int32.toInt (((((M.1 5 1) * 7) + n1) * 100) + (if 0 < (if 99 < n2 then 99 else n2) then (if 99 < n2 then 99 else n2) else 0)) ∧ Int32.toInt (((((M.1 5 1) * 7) + n1) * 100) + (if 0 < (if 99 < n2 then 99 else n2) then (if 99 < n2 then 99 else n2) else 0)) ≤ 2799) := zadd_r ((((M.1 5 1) * 7) + n1) * 100) (if 0 < (if 99 < n2 then 99 else n2) then (if 99 < n2 then 99 else n2) else 0) 0 2799 b7_ b11_ (by decide) (by decide) (by decide) (by decide)
  refine pw_blk hT 14 (S' := (23, [some (pvR 5), some (pvI n1), some (pvI n2)], [pvI (((((M.1 5 1) * 7) + n1) * 100) + (if 0 < (if 99 < n2 then 99 else n2) then (if 99 < n2 then 99 else n2) else 0))], M)) rfl ⟨trivial, rfl, trivial, trivial, trivial, trivial, trivial, trivial, trivial, trivial, trivial, (Nat.le_of_ble_eq_true rfl), (Nat.le_of_ble_eq_true rfl), trivial, trivial⟩ ?_
  exact pw_ret hT rfl (r := some (pvI (((((M.1 5 1) * 7) + n1) * 100) + (if 0 < (if 99 < n2 then 99 else n2) then (if 99 < n2 then 99 else n2) else 0)))) (M' := M) ⟨rfl, rfl⟩ ⟨⟨_, rfl, b12_⟩, rfl⟩
def fpL_X2_learn_x_x_x_x_x : List (Nat × Nat × Nat) := [(1, 112, 0)]
def fp_X2_learn_x_x_x_x_x (q k : Nat) : Bool := pvfp fpL_X2_learn_x_x_x_x_x q k
set_option maxHeartbeats 4000000 in
set_option maxRecDepth 10000 in
theorem sf_X2_learn_x_x_x_x_x (M : pvM) (hok : pvOk M) (q0 : Nat) (q1 : Nat) (n2 : Int32) (n3 : Int32) (n4 : Int32) (hq0 : pvkl q0 = 2) (hq1 : pvkl q1 = 3) (hn2 : 0 ≤ Int32.toInt n2 ∧ Int32.toInt n2 ≤ 6) (hn3 : 0 ≤ Int32.toInt n3 ∧ Int32.toInt n3 ≤ 3) (hn4 : 0 ≤ Int32.toInt n4 ∧ Int32.toInt n4 ≤ 99) (d : Nat) : PW 128 d (0, [some (pvR q0), some (pvR q1), some (pvI n2), some (pvI n3), some (pvI n4)], [], M) (fun r X => r = none ∧ pvOk X ∧ pvFr fp_X2_learn_x_x_x_x_x M X) := by
  have hT : pvdom 128 = pvD_128 := rfl
  refine pw_blkw hT 5 (pc := 7) (lo := [some (pvR q0), some (pvR q1), some (pvI n2), some (pvI n3), some (pvI n4)]) (st := []) (M := pvu M (q0 + 36) (Int32.toNatClampNeg 0) n2) rfl ⟨trivial, hq0, trivial, trivial, ⟨(pvow_2_36 hq0).1, (by rw [(pvow_2_36 hq0).2.1]; exact (zr_in (n := 6) (show 0 ≤ Int32.toInt 0 ∧ Int32.toInt 0 ≤ 0 from (by decide)) (by decide) (by decide)))⟩, trivial⟩ (fun M1_ e2_ => ?_)
  have o3_ : pvOk M1_ := pvok_u2 e2_ hok ((pvrg_a _ (by rw [(pvow_2_36 hq0).1]; decide)).trans (pvow_2_36 hq0).2.2.2) (zbnd n2)
  have f4_ : pvFr fp_X2_learn_x_x_x_x_x M M1_ := pvfr_u e2_ pvfr_0 (pvfp_r (l := fpL_X2_learn_x_x_x_x_x) (pvow_2_36 hq0).2.2.1 (kk := 0) (by decide) (Or.inl rfl))
  have b5_ : 0 ≤ Int32.toInt (M1_.1 q1 0) ∧ Int32.toInt (M1_.1 q1 0) ≤ 6 := pvok_r o3_ q1 0 ((pvrg_o 0 hq1 (by decide) (by decide)).trans rfl)
  refine pw_blkw hT 6 (pc := 17) (lo := [some (pvR q0), some (pvR q1), some (pvI n2), some (pvI n3), some (pvI n4)]) (st := []) (M := pvu M1_ (q0 + 36) (Int32.toNatClampNeg 1) (M1_.1 q1 0)) rfl ⟨trivial, hq0, trivial, trivial, hq1, ⟨(pvow_2_36 hq0).1, (by rw [(pvow_2_36 hq0).2.1]; exact (zr_in (n := 6) (show 1 ≤ Int32.toInt 1 ∧ Int32.toInt 1 ≤ 1 from (by decide)) (by decide) (by decide)))⟩, trivial⟩ (fun M6_ e7_ => ?_)
  have o8_ : pvOk M6_ := pvok_u2 e7_ o3_ ((pvrg_a _ (by rw [(pvow_2_36 hq0).1]; decide)).trans (pvow_2_36 hq0).2.2.2) (zbnd (M1_.1 q1 0))
  have f9_ : pvFr fp_X2_learn_x_x_x_x_x M M6_ := pvfr_u e7_ f4_ (pvfp_r (l := fpL_X2_learn_x_x_x_x_x) (pvow_2_36 hq0).2.2.1 (kk := 0) (by decide) (Or.inl rfl))
  have b10_ : 0 ≤ Int32.toInt (M6_.1 q1 2) ∧ Int32.toInt (M6_.1 q1 2) ≤ 3 := pvok_r o8_ q1 2 ((pvrg_o 2 hq1 (by decide) (by decide)).trans rfl)
  refine pw_blkw hT 6 (pc := 27) (lo := [some (pvR q0), some (pvR q1), some (pvI n2), some (pvI n3), some (pvI n4)]) (st := []) (M := pvu M6_ (q0 + 36) (Int32.toNatClampNeg 2) (M6_.1 q1 2)) rfl ⟨trivial, hq0, trivial, trivial, hq1, ⟨(pvow_2_36 hq0).1, (by rw [(pvow_2_36 hq0).2.1]; exact (zr_in (n := 6) (show 2 ≤ Int32.toInt 2 ∧ Int32.toInt 2 ≤ 2 from (by decide)) (by decide) (by decide)))⟩, trivial⟩ (fun M11_ e12_ => ?_)
  have o13_ : pvOk M11_ := pvok_u2 e12_ o8_ ((pvrg_a _ (by rw [(pvow_2_36 hq0).1]; decide)).trans (pvow_2_36 hq0).2.2.2) (zbnd (M6_.1 q1 2))
  have f14_ : pvFr fp_X2_learn_x_x_x_x_x M M11_ := pvfr_u e12_ f9_ (pvfp_r (l := fpL_X2_learn_x_x_x_x_x) (pvow_2_36 hq0).2.2.1 (kk := 0) (by decide) (Or.inl rfl))
  have b15_ : 0 ≤ Int32.toInt (M11_.1 q1 3) ∧ Int32.toInt (M11_.1 q1 3) ≤ 4 := pvok_r o13_ q1 3 ((pvrg_o 3 hq1 (by decide) (by decide)).trans rfl)
  refine pw_blkw hT 6 (pc := 37) (lo := [some (pvR q0), some (pvR q1), some (pvI n2), some (pvI n3), some (pvI n4)]) (st := []) (M := pvu M11_ (q0 + 36) (Int32.toNatClampNeg 3) (M11_.1 q1 3)) rfl ⟨trivial, hq0, trivial, trivial, hq1, ⟨(pvow_2_36 hq0).1, (by rw [(pvow_2_36 hq0).2.1]; exact (zr_in (n := 6) (show 3 ≤ Int32.toInt 3 ∧ Int32.toInt 3 ≤ 3 from (by decide)) (by decide) (by decide)))⟩, trivial⟩ (fun M16_ e17_ => ?_)
  have o18_ : pvOk M16_ := pvok_u2 e17_ o13_ ((pvrg_a _ (by rw [(pvow_2_36 hq0).1]; decide)).trans (pvow_2_36 hq0).2.2.2) (zbnd (M11_.1 q1 3))
  have f19_ : pvFr fp_X2_learn_x_x_x_x_x M M16_ := pvfr_u e17_ f14_ (pvfp_r (l := fpL_X2_learn_x_x_x_x_x) (pvow_2_36 hq0).2.2.1 (kk := 0) (by decide) (Or.inl rfl))
  refine pw_blkw hT 5 (pc := 44) (lo := [some (pvR q0), some (pvR q1), some (pvI n2), some (pvI n3), some (pvI n4)]) (st := []) (M := pvu M16_ (q0 + 36) (Int32.toNatClampNeg 4) n3) rfl ⟨trivial, hq0, trivial, trivial, ⟨(pvow_2_36 hq0).1, (by rw [(pvow_2_36 hq0).2.1]; exact (zr_in (n := 6) (show 4 ≤ Int32.toInt 4 ∧ Int32.toInt 4 ≤ 4 from (by decide)) (by decide) (by decide)))⟩, trivial⟩ (fun M20_ e21_ => ?_)
  have o22_ : pvOk M20_ := pvok_u2 e21_ o18_ ((pvrg_a _ (by rw [(pvow_2_36 hq0).1]; decide)).trans (pvow_2_36 hq0).2.2.2) (zbnd n3)
  have f23_ : pvFr fp_X2_learn_x_x_x_x_x M M20_ := pvfr_u e21_ f19_ (pvfp_r (l := fpL_X2_learn_x_x_x_x_x) (pvow_2_36 hq0).2.2.1 (kk := 0) (by decide) (Or.inl rfl))
  have q24_ : Int32.toInt (if 99 < n4 then 99 else n4) = min (Int32.toInt n4) (Int32.toInt 99) := pvmin n4 99
  have b25_ : 0 ≤ Int32.toInt (if 99 < n4 then 99 else n4) ∧ Int32.toInt (if 99 < n4 then 99 else n4) ≤ 99 := (by have u0 := hn4; have u1 := (show 99 ≤ Int32.toInt 99 ∧ Int32.toInt 99 ≤ 99 from (by decide)); omega)
  refine pw_blkw hT 7 (pc := 57) (lo := [some (pvR q0), some (pvR q1), some (pvI n2), some (pvI n3), some (pvI n4)]) (st := []) (M := pvu M20_ (q0 + 36) (Int32.toNatClampNeg 5) (if 99 < n4 then 99 else n4)) rfl ⟨trivial, hq0, trivial, trivial, trivial, (Nat.le_of_ble_eq_true rfl), ⟨(pvow_2_36 hq0).1, (by rw [(pvow_2_36 hq0).2.1]; exact (zr_in (n := 6) (show 5 ≤ Int32.toInt 5 ∧ Int32.toInt 5 ≤ 5 from (by decide)) (by decide) (by decide)))⟩, trivial⟩ (fun M26_ e27_ => ?_)
  have o28_ : pvOk M26_ := pvok_u2 e27_ o22_ ((pvrg_a _ (by rw [(pvow_2_36 hq0).1]; decide)).trans (pvow_2_36 hq0).2.2.2) (zbnd (if 99 < n4 then 99 else n4))
  have f29_ : pvFr fp_X2_learn_x_x_x_x_x M M26_ := pvfr_u e27_ f23_ (pvfp_r (l := fpL_X2_learn_x_x_x_x_x) (pvow_2_36 hq0).2.2.1 (kk := 0) (by decide) (Or.inl rfl))
  exact pw_ret hT rfl (r := none) (M' := M26_) ⟨rfl, rfl⟩ ⟨rfl, o28_, f29_⟩
set_option maxHeartbeats 4000000 in
set_option maxRecDepth 10000 in
theorem sf_X2_passes_x_x (M : pvM) (hok : pvOk M) (q0 : Nat) (n1 : Int32) (hq0 : pvkl q0 = 2) (d : Nat) : PW 129 d (0, [some (pvR q0), some (pvI n1), none, none], [], M) (fun r X => (∃ x : Int32, r = some (pvI x) ∧ 0 ≤ Int32.toInt x ∧ Int32.toInt x ≤ 1) ∧ X = M) := by
  have hT : pvdom 129 = pvD_129 := rfl
  refine pw_blk hT 5 (S' := (7, [some (pvR q0), some (pvI n1), some (pvI (n1 / 300)), none], [pvI (n1 / 300)], M)) rfl ⟨trivial, trivial, (by decide), trivial, trivial, trivial⟩ ?_
  refine pw_if hT (c := (n1 / 300) < 0) rfl rfl (fun c1_ => ?_) (fun c1_ => ?_)
  · have b2_ : (-2147483648) ≤ Int32.toInt (n1 / 300) ∧ Int32.toInt (n1 / 300) ≤ (-1) := zr_lt_l (-1) c1_ (zbnd (n1 / 300)) (show 0 ≤ Int32.toInt 0 ∧ Int32.toInt 0 ≤ 0 from (by decide)) (by decide)
    refine pw_blk hT 1 (S' := (20, [some (pvR q0), some (pvI n1), some (pvI (n1 / 300)), none], [pvI 0], M)) rfl ⟨trivial, trivial⟩ ?_
    exact pw_ret hT rfl (r := some (pvI 0)) (M' := M) ⟨Or.inl rfl, rfl, rfl⟩ ⟨⟨_, rfl, (zr_wide (show 0 ≤ Int32.toInt 0 ∧ Int32.toInt 0 ≤ 0 from (by decide)) (by decide) (by decide))⟩, rfl⟩
  · have b3_ : 0 ≤ Int32.toInt (n1 / 300) ∧ Int32.toInt (n1 / 300) ≤ 2147483647 := zr_nlt_l 0 c1_ (zbnd (n1 / 300)) (show 0 ≤ Int32.toInt 0 ∧ Int32.toInt 0 ≤ 0 from (by decide)) (by decide)
    have b4_ : 6 ≤ Int32.toInt (Int32.ofNat (pvln (q0 + 36))) ∧ Int32.toInt (Int32.ofNat (pvln (q0 + 36))) ≤ 6 := (by rw [(pvow_2_36 hq0).2.1]; decide)
    refine pw_blk hT 4 (S' := (16, [some (pvR q0), some (pvI n1), some (pvI (n1 / 300)), none], [pvI (Int32.ofNat (pvln (q0 + 36))), pvI (n1 / 300)], M)) rfl ⟨trivial, trivial, hq0, (pvow_2_36 hq0).1, trivial⟩ ?_
    refine pw_ic hT (c := (n1 / 300) < (Int32.ofNat (pvln (q0 + 36)))) rfl rfl (fun c5_ => ?_) (fun c5_ => ?_)
    · have b6_ : 0 ≤ Int32.toInt (n1 / 300) ∧ Int32.toInt (n1 / 300) ≤ 5 := zr_lt_l 5 c5_ b3_ b4_ (by decide)
      have d7_ : Int32.toInt (n1 / 300) < Int32.toInt (Int32.ofNat (pvln (q0 + 36))) := (zi_lt _ _).mp c5_
      refine pw_blk hT 9 (S' := (32, [some (pvR q0), some (pvI n1), some (pvI (n1 / 300)), some (pvI (n1 - n1 / 100 * 100))], [pvI ((n1 / 100) - (n1 / 100) / 3 * 3)], M)) rfl ⟨trivial, trivial, (by decide), trivial, trivial, trivial, (by decide), trivial, (by decide), trivial⟩ ?_
      refine pw_sw hT rfl rfl ?_
      refine And.intro (fun c8_ => ?_) (fun c8_ => ?_)
      · show PW 129 d (60, [some (pvR q0), some (pvI n1), some (pvI (n1 / 300)), some (pvI (n1 - n1 / 100 * 100))], [], M) _
        have b9_ : 0 ≤ Int32.toInt ((n1 / 100) - (n1 / 100) / 3 * 3) ∧ Int32.toInt ((n1 / 100) - (n1 / 100) / 3 * 3) ≤ 0 := (by have u0 := (zbnd ((n1 / 100) - (n1 / 100) / 3 * 3)); have u1 := (zi_eq _ _).mp c8_; have u2 := (show 0 ≤ Int32.toInt 0 ∧ Int32.toInt 0 ≤ 0 from (by decide)); omega)
        refine pw_blk hT 5 (S' := (67, [some (pvR q0), some (pvI n1), some (pvI (n1 / 300)), some (pvI (n1 - n1 / 100 * 100))], [pvI (n1 - n1 / 100 * 100), pvI (M.1 (q0 + 36) (Int32.toNatClampNeg (n1 / 300)))], M)) rfl ⟨trivial, hq0, trivial, ⟨(pvow_2_36 hq0).1, (by rw [(pvow_2_36 hq0).2.1]; exact (zr_in (n := 6) b6_ (by decide) (by decide)))⟩, trivial, trivial⟩ ?_
        refine pw_ic hT (c := (n1 - n1 / 100 * 100) ≤ (M.1 (q0 + 36) (Int32.toNatClampNeg (n1 / 300)))) rfl rfl (fun c10_ => ?_) (fun c10_ => ?_)
        · have d11_ : Int32.toInt (n1 - n1 / 100 * 100) ≤ Int32.toInt (M.1 (q0 + 36) (Int32.toNatClampNeg (n1 / 300))) := (zi_le _ _).mp c10_
          refine pw_blk hT 1 (S' := (75, [some (pvR q0), some (pvI n1), some (pvI (n1 / 300)), some (pvI (n1 - n1 / 100 * 100))], [pvI 0], M)) rfl ⟨trivial, trivial⟩ ?_
          exact pw_ret hT rfl (r := some (pvI 0)) (M' := M) ⟨Or.inl rfl, rfl, rfl⟩ ⟨⟨_, rfl, (zr_wide (show 0 ≤ Int32.toInt 0 ∧ Int32.toInt 0 ≤ 0 from (by decide)) (by decide) (by decide))⟩, rfl⟩
        · have b12_ : (-2147483647) ≤ Int32.toInt (n1 - n1 / 100 * 100) ∧ Int32.toInt (n1 - n1 / 100 * 100) ≤ 2147483647 := zr_nle_l (-2147483647) c10_ (zbnd (n1 - n1 / 100 * 100)) (zbnd (M.1 (q0 + 36) (Int32.toNatClampNeg (n1 / 300)))) (by decide)
          have b13_ : (-2147483648) ≤ Int32.toInt (M.1 (q0 + 36) (Int32.toNatClampNeg (n1 / 300))) ∧ Int32.toInt (M.1 (q0 + 36) (Int32.toNatClampNeg (n1 / 300))) ≤ 2147483646 := zr_nle_r 2147483646 c10_ (zbnd (M.1 (q0 + 36) (Int32.toNatClampNeg (n1 / 300)))) b12_ (by decide)
          have d14_ : Int32.toInt (n1 - n1 / 100 * 100) > Int32.toInt (M.1 (q0 + 36) (Int32.toNatClampNeg (n1 / 300))) := Int.not_le.mp ((not_congr (zi_le _ _)).mp c10_)
          refine pw_blk hT 2 (S' := (75, [some (pvR q0), some (pvI n1), some (pvI (n1 / 300)), some (pvI (n1 - n1 / 100 * 100))], [pvI 1], M)) rfl ⟨trivial, trivial, trivial⟩ ?_
          exact pw_ret hT rfl (r := some (pvI 1)) (M' := M) ⟨Or.inr rfl, rfl, rfl⟩ ⟨⟨_, rfl, (zr_wide (show 1 ≤ Int32.toInt 1 ∧ Int32.toInt 1 ≤ 1 from (by decide)) (by decide) (by decide))⟩, rfl⟩
      · refine And.intro (fun c15_ => ?_) (fun c15_ => ?_)
        · show PW 129 d (76, [some (pvR q0), some (pvI n1), some (pvI (n1 / 300)), some (pvI (n1 - n1 / 100 * 100))], [], M) _
          have b16_ : 1 ≤ Int32.toInt ((n1 / 100) - (n1 / 100) / 3 * 3) ∧ Int32.toInt ((n1 / 100) - (n1 / 100) / 3 * 3) ≤ 1 := (by have u0 := (zbnd ((n1 / 100) - (n1 / 100) / 3 * 3)); have u1 := (zi_eq _ _).mp c15_; have u2 := (show 1 ≤ Int32.toInt 1 ∧ Int32.toInt 1 ≤ 1 from (by decide)); omega)
          refine pw_blk hT 5 (S' := (83, [some (pvR q0), some (pvI n1), some (pvI (n1 / 300)), some (pvI (n1 - n1 / 100 * 100))], [pvI (n1 - n1 / 100 * 100), pvI (M.1 (q0 + 36) (Int32.toNatClampNeg (n1 / 300)))], M)) rfl ⟨trivial, hq0, trivial, ⟨(pvow_2_36 hq0).1, (by rw [(pvow_2_36 hq0).2.1]; exact (zr_in (n := 6) b6_ (by decide) (by decide)))⟩, trivial, trivial⟩ ?_
          refine pw_icn hT (c := (M.1 (q0 + 36) (Int32.toNatClampNeg (n1 / 300))) = (n1 - n1 / 100 * 100)) rfl rfl (fun c17_ => ?_) (fun c17_ => ?_)
          · refine pw_blk hT 1 (S' := (91, [some (pvR q0), some (pvI n1), some (pvI (n1 / 300)), some (pvI (n1 - n1 / 100 * 100))], [pvI 0], M)) rfl ⟨trivial, trivial⟩ ?_
            exact pw_ret hT rfl (r := some (pvI 0)) (M' := M) ⟨Or.inl rfl, rfl, rfl⟩ ⟨⟨_, rfl, (zr_wide (show 0 ≤ Int32.toInt 0 ∧ Int32.toInt 0 ≤ 0 from (by decide)) (by decide) (by decide))⟩, rfl⟩
          · have d18_ : Int32.toInt (M.1 (q0 + 36) (Int32.toNatClampNeg (n1 / 300))) = Int32.toInt (n1 - n1 / 100 * 100) := (zi_eq _ _).mp c17_
            refine pw_blk hT 2 (S' := (91, [some (pvR q0), some (pvI n1), some (pvI (n1 / 300)), some (pvI (n1 - n1 / 100 * 100))], [pvI 1], M)) rfl ⟨trivial, trivial, trivial⟩ ?_
            exact pw_ret hT rfl (r := some (pvI 1)) (M' := M) ⟨Or.inr rfl, rfl, rfl⟩ ⟨⟨_, rfl, (zr_wide (show 1 ≤ Int32.toInt 1 ∧ Int32.toInt 1 ≤ 1 from (by decide)) (by decide) (by decide))⟩, rfl⟩
        · show PW 129 d (92, [some (pvR q0), some (pvI n1), some (pvI (n1 / 300)), some (pvI (n1 - n1 / 100 * 100))], [], M) _
          refine pw_blk hT 5 (S' := (99, [some (pvR q0), some (pvI n1), some (pvI (n1 / 300)), some (pvI (n1 - n1 / 100 * 100))], [pvI (n1 - n1 / 100 * 100), pvI (M.1 (q0 + 36) (Int32.toNatClampNeg (n1 / 300)))], M)) rfl ⟨trivial, hq0, trivial, ⟨(pvow_2_36 hq0).1, (by rw [(pvow_2_36 hq0).2.1]; exact (zr_in (n := 6) b6_ (by decide) (by decide)))⟩, trivial, trivial⟩ ?_
          refine pw_ic hT (c := (M.1 (q0 + 36) (Int32.toNatClampNeg (n1 / 300))) ≤ (n1 - n1 / 100 * 100)) rfl rfl (fun c19_ => ?_) (fun c19_ => ?_)
          · have d20_ : Int32.toInt (M.1 (q0 + 36) (Int32.toNatClampNeg (n1 / 300))) ≤ Int32.toInt (n1 - n1 / 100 * 100) := (zi_le _ _).mp c19_
            refine pw_blk hT 1 (S' := (107, [some (pvR q0), some (pvI n1), some (pvI (n1 / 300)), some (pvI (n1 - n1 / 100 * 100))], [pvI 0], M)) rfl ⟨trivial, trivial⟩ ?_
            exact pw_ret hT rfl (r := some (pvI 0)) (M' := M) ⟨Or.inl rfl, rfl, rfl⟩ ⟨⟨_, rfl, (zr_wide (show 0 ≤ Int32.toInt 0 ∧ Int32.toInt 0 ≤ 0 from (by decide)) (by decide) (by decide))⟩, rfl⟩
          · have b21_ : (-2147483647) ≤ Int32.toInt (M.1 (q0 + 36) (Int32.toNatClampNeg (n1 / 300))) ∧ Int32.toInt (M.1 (q0 + 36) (Int32.toNatClampNeg (n1 / 300))) ≤ 2147483647 := zr_nle_l (-2147483647) c19_ (zbnd (M.1 (q0 + 36) (Int32.toNatClampNeg (n1 / 300)))) (zbnd (n1 - n1 / 100 * 100)) (by decide)
            have b22_ : (-2147483648) ≤ Int32.toInt (n1 - n1 / 100 * 100) ∧ Int32.toInt (n1 - n1 / 100 * 100) ≤ 2147483646 := zr_nle_r 2147483646 c19_ (zbnd (n1 - n1 / 100 * 100)) b21_ (by decide)
            have d23_ : Int32.toInt (M.1 (q0 + 36) (Int32.toNatClampNeg (n1 / 300))) > Int32.toInt (n1 - n1 / 100 * 100) := Int.not_le.mp ((not_congr (zi_le _ _)).mp c19_)
            refine pw_blk hT 2 (S' := (107, [some (pvR q0), some (pvI n1), some (pvI (n1 / 300)), some (pvI (n1 - n1 / 100 * 100))], [pvI 1], M)) rfl ⟨trivial, trivial, trivial⟩ ?_
            exact pw_ret hT rfl (r := some (pvI 1)) (M' := M) ⟨Or.inr rfl, rfl, rfl⟩ ⟨⟨_, rfl, (zr_wide (show 1 ≤ Int32.toInt 1 ∧ Int32.toInt 1 ≤ 1 from (by decide)) (by decide) (by decide))⟩, rfl⟩
    · have b24_ : 6 ≤ Int32.toInt (n1 / 300) ∧ Int32.toInt (n1 / 300) ≤ 2147483647 := zr_nlt_l 6 c5_ b3_ b4_ (by decide)
      have d25_ : Int32.toInt (n1 / 300) ≥ Int32.toInt (Int32.ofNat (pvln (q0 + 36))) := Int.not_lt.mp ((not_congr (zi_lt _ _)).mp c5_)
      refine pw_blk hT 1 (S' := (20, [some (pvR q0), some (pvI n1), some (pvI (n1 / 300)), none], [pvI 0], M)) rfl ⟨trivial, trivial⟩ ?_
      exact pw_ret hT rfl (r := some (pvI 0)) (M' := M) ⟨Or.inl rfl, rfl, rfl⟩ ⟨⟨_, rfl, (zr_wide (show 0 ≤ Int32.toInt 0 ∧ Int32.toInt 0 ≤ 0 from (by decide)) (by decide) (by decide))⟩, rfl⟩
set_option maxHeartbeats 4000000 in
set_option maxRecDepth 10000 in
theorem sf_X2_isTrue_x_x_x (M : pvM) (hok : pvOk M) (q0 : Nat) (n1 : Int32) (n2 : Int32) (hq0 : pvkl q0 = 2) (hn1 : 0 ≤ Int32.toInt n1 ∧ Int32.toInt n1 ≤ 100) (hn2 : 0 ≤ Int32.toInt n2 ∧ Int32.toInt n2 ≤ 100) (d : Nat) : PW 127 d (0, [some (pvR q0), some (pvI n1), some (pvI n2), none, none, none], [], M) (fun r X => (∃ x : Int32, r = some (pvI x) ∧ 0 ≤ Int32.toInt x ∧ Int32.toInt x ≤ 1) ∧ X = M) := by
  have hT : pvdom 127 = pvD_127 := rfl
  refine pw_blk hT 4 (S' := (5, [some (pvR q0), some (pvI n1), some (pvI n2), some (pvI 0), some (pvI n1), none], [], M)) rfl ⟨trivial, trivial, trivial, trivial, trivial⟩ ?_
  have hlz79_ : ∀ (nz79_ : Nat) (i3z79_ : Int32) (i4z79_ : Int32) (v5z79_ : Option pvV), (0 ≤ Int32.toInt i4z79_ ∧ Int32.toInt i4z79_ ≤ 100) → (zhide ((101 - Int32.toInt i4z79_).toNat < nz79_)) → PW 127 d (5, [some (pvR q0), some (pvI n1), some (pvI n2), some (pvI i3z79_), some (pvI i4z79_), v5z79_], [], M) (fun r X => (∃ x : Int32, r = some (pvI x) ∧ 0 ≤ Int32.toInt x ∧ Int32.toInt x ≤ 1) ∧ X = M) := by
    intro nz79_
    induction nz79_ with
    | zero => intro i3z79_ i4z79_ v5z79_ h4z79_ hmz79_; exact absurd (zshow hmz79_) (Nat.not_lt_zero _)
    | succ nz79_ ihz79_ =>
      intro i3z79_ i4z79_ v5z79_ h4z79_ hmz79_
      refine pw_blk hT 2 (S' := (8, [some (pvR q0), some (pvI n1), some (pvI n2), some (pvI i3z79_), some (pvI i4z79_), v5z79_], [pvI n2, pvI i4z79_], M)) rfl ⟨trivial, trivial, trivial⟩ ?_
      refine pw_ic hT (c := n2 ≤ i4z79_) rfl rfl (fun c80_ => ?_) (fun c80_ => ?_)
      · have d81_ : Int32.toInt n2 ≤ Int32.toInt i4z79_ := (zi_le _ _).mp c80_
        have b82_ : 0 ≤ Int32.toInt (i3z79_ &&& 1) ∧ Int32.toInt (i3z79_ &&& 1) ≤ 1 := (pvand1 i3z79_)
        refine pw_blk hT 4 (S' := (112, [some (pvR q0), some (pvI n1), some (pvI n2), some (pvI i3z79_), some (pvI i4z79_), v5z79_], [pvI 1, pvI (i3z79_ &&& 1)], M)) rfl ⟨trivial, trivial, trivial, trivial, trivial⟩ ?_
        refine pw_icn hT (c := (i3z79_ &&& 1) = 1) rfl rfl (fun c83_ => ?_) (fun c83_ => ?_)
        · have b84_ : 0 ≤ Int32.toInt (i3z79_ &&& 1) ∧ Int32.toInt (i3z79_ &&& 1) ≤ 0 := (by have u0 := b82_; have u1 := (not_congr (zi_eq _ _)).mp c83_; have u2 := (show 1 ≤ Int32.toInt 1 ∧ Int32.toInt 1 ≤ 1 from (by decide)); omega)
          refine pw_blk hT 1 (S' := (120, [some (pvR q0), some (pvI n1), some (pvI n2), some (pvI i3z79_), some (pvI i4z79_), v5z79_], [pvI 0], M)) rfl ⟨trivial, trivial⟩ ?_
          exact pw_ret hT rfl (r := some (pvI 0)) (M' := M) ⟨Or.inl rfl, rfl, rfl⟩ ⟨⟨_, rfl, (zr_wide (show 0 ≤ Int32.toInt 0 ∧ Int32.toInt 0 ≤ 0 from (by decide)) (by decide) (by decide))⟩, rfl⟩
        · have b85_ : 1 ≤ Int32.toInt (i3z79_ &&& 1) ∧ Int32.toInt (i3z79_ &&& 1) ≤ 1 := (by have u0 := b82_; have u1 := (zi_eq _ _).mp c83_; have u2 := (show 1 ≤ Int32.toInt 1 ∧ Int32.toInt 1 ≤ 1 from (by decide)); omega)
          refine pw_blk hT 2 (S' := (120, [some (pvR q0), some (pvI n1), some (pvI n2), some (pvI i3z79_), some (pvI i4z79_), v5z79_], [pvI 1], M)) rfl ⟨trivial, trivial, trivial⟩ ?_
          exact pw_ret hT rfl (r := some (pvI 1)) (M' := M) ⟨Or.inr rfl, rfl, rfl⟩ ⟨⟨_, rfl, (zr_wide (show 1 ≤ Int32.toInt 1 ∧ Int32.toInt 1 ≤ 1 from (by decide)) (by decide) (by decide))⟩, rfl⟩
      · have b86_ : 1 ≤ Int32.toInt n2 ∧ Int32.toInt n2 ≤ 100 := zr_nle_l 1 c80_ hn2 h4z79_ (by decide)
        have b87_ : 0 ≤ Int32.toInt i4z79_ ∧ Int32.toInt i4z79_ ≤ 99 := zr_nle_r 99 c80_ h4z79_ b86_ (by decide)
        have d88_ : Int32.toInt n2 > Int32.toInt i4z79_ := Int.not_le.mp ((not_congr (zi_le _ _)).mp c80_)
        have b89_ : 0 ≤ Int32.toInt (i3z79_ &&& 1) ∧ Int32.toInt (i3z79_ &&& 1) ≤ 1 := (pvand1 i3z79_)
        have b90_ : (-3) ≤ Int32.toInt (M.1 (q0 + 27) (Int32.toNatClampNeg i4z79_)) ∧ Int32.toInt (M.1 (q0 + 27) (Int32.toNatClampNeg i4z79_)) ≤ 2099 := pvok_r hok (q0 + 27) (Int32.toNatClampNeg i4z79_) ((pvrg_a _ (by rw [(pvow_2_27 hq0).1]; decide)).trans (pvow_2_27 hq0).2.2.2)
        refine pw_blk hT 8 (S' := (23, [some (pvR q0), some (pvI n1), some (pvI n2), some (pvI i3z79_), some (pvI i4z79_), some (pvI (i3z79_ &&& 1))], [pvI (M.1 (q0 + 27) (Int32.toNatClampNeg i4z79_))], M)) rfl ⟨trivial, trivial, trivial, trivial, trivial, hq0, trivial, ⟨(pvow_2_27 hq0).1, (by rw [(pvow_2_27 hq0).2.1]; exact (zr_in (n := 100) b87_ (by decide) (by decide)))⟩, trivial⟩ ?_
        refine pw_sw hT rfl rfl ?_
        refine And.intro (fun c91_ => ?_) (fun c91_ => ?_)
        · show PW 127 d (68, [some (pvR q0), some (pvI n1), some (pvI n2), some (pvI i3z79_), some (pvI i4z79_), some (pvI (i3z79_ &&& 1))], [], M) _
          have b92_ : (-3) ≤ Int32.toInt (M.1 (q0 + 27) (Int32.toNatClampNeg i4z79_)) ∧ Int32.toInt (M.1 (q0 + 27) (Int32.toNatClampNeg i4z79_)) ≤ (-3) := (by have u0 := b90_; have u1 := (zi_eq _ _).mp c91_; have u2 := (show (-3) ≤ Int32.toInt (-3) ∧ Int32.toInt (-3) ≤ (-3) from (by decide)); omega)
          obtain ⟨q94_, b93_⟩ : (Int32.toInt (i4z79_ + 1) = Int32.toInt i4z79_ + 1) ∧ (1 ≤ Int32.toInt (i4z79_ + 1) ∧ Int32.toInt (i4z79_ + 1) ≤ 100) := zadd_k i4z79_ 1 1 1 100 b87_ (by decide) (by decide) (by decide) (by decide) (by decide)
          refine pw_blk hT 9 (S' := (5, [some (pvR q0), some (pvI n1), some (pvI n2), some (pvI ((i3z79_ >>> (1 &&& 31)) ||| (i3z79_ &&& 1))), some (pvI (i4z79_ + 1)), some (pvI (i3z79_ &&& 1))], [], M)) rfl ⟨trivial, trivial, trivial, trivial, trivial, trivial, trivial, trivial, trivial, trivial⟩ ?_
          exact ihz79_ ((i3z79_ >>> (1 &&& 31)) ||| (i3z79_ &&& 1)) (i4z79_ + 1) (some (pvI (i3z79_ &&& 1))) (zr_wide b93_ (by decide) (by decide)) (zhid (pvms_up (zshow hmz79_) h4z79_ q94_ (by decide) (by decide)))
        · have b95_ : (-2) ≤ Int32.toInt (M.1 (q0 + 27) (Int32.toNatClampNeg i4z79_)) ∧ Int32.toInt (M.1 (q0 + 27) (Int32.toNatClampNeg i4z79_)) ≤ 2099 := (by have u0 := b90_; have u1 := (not_congr (zi_eq _ _)).mp c91_; have u2 := (show (-3) ≤ Int32.toInt (-3) ∧ Int32.toInt (-3) ≤ (-3) from (by decide)); omega)
          refine And.intro (fun c96_ => ?_) (fun c96_ => ?_)
          · show PW 127 d (55, [some (pvR q0), some (pvI n1), some (pvI n2), some (pvI i3z79_), some (pvI i4z79_), some (pvI (i3z79_ &&& 1))], [], M) _
            have b97_ : (-2) ≤ Int32.toInt (M.1 (q0 + 27) (Int32.toNatClampNeg i4z79_)) ∧ Int32.toInt (M.1 (q0 + 27) (Int32.toNatClampNeg i4z79_)) ≤ (-2) := (by have u0 := b95_; have u1 := (zi_eq _ _).mp c96_; have u2 := (show (-2) ≤ Int32.toInt (-2) ∧ Int32.toInt (-2) ≤ (-2) from (by decide)); omega)
            obtain ⟨q99_, b98_⟩ : (Int32.toInt (i4z79_ + 1) = Int32.toInt i4z79_ + 1) ∧ (1 ≤ Int32.toInt (i4z79_ + 1) ∧ Int32.toInt (i4z79_ + 1) ≤ 100) := zadd_k i4z79_ 1 1 1 100 b87_ (by decide) (by decide) (by decide) (by decide) (by decide)
            refine pw_blk hT 11 (S' := (5, [some (pvR q0), some (pvI n1), some (pvI n2), some (pvI ((i3z79_ >>> (1 &&& 31)) &&& ((i3z79_ &&& 1) ||| (-2)))), some (pvI (i4z79_ + 1)), some (pvI (i3z79_ &&& 1))], [], M)) rfl ⟨trivial, trivial, trivial, trivial, trivial, trivial, trivial, trivial, trivial, trivial, trivial, trivial⟩ ?_
            exact ihz79_ ((i3z79_ >>> (1 &&& 31)) &&& ((i3z79_ &&& 1) ||| (-2))) (i4z79_ + 1) (some (pvI (i3z79_ &&& 1))) (zr_wide b98_ (by decide) (by decide)) (zhid (pvms_up (zshow hmz79_) h4z79_ q99_ (by decide) (by decide)))
          · have b100_ : (-1) ≤ Int32.toInt (M.1 (q0 + 27) (Int32.toNatClampNeg i4z79_)) ∧ Int32.toInt (M.1 (q0 + 27) (Int32.toNatClampNeg i4z79_)) ≤ 2099 := (by have u0 := b95_; have u1 := (not_congr (zi_eq _ _)).mp c96_; have u2 := (show (-2) ≤ Int32.toInt (-2) ∧ Int32.toInt (-2) ≤ (-2) from (by decide)); omega)
            refine And.intro (fun c101_ => ?_) (fun c101_ => ?_)
            · show PW 127 d (48, [some (pvR q0), some (pvI n1), some (pvI n2), some (pvI i3z79_), some (pvI i4z79_), some (pvI (i3z79_ &&& 1))], [], M) _
              have b102_ : (-1) ≤ Int32.toInt (M.1 (q0 + 27) (Int32.toNatClampNeg i4z79_)) ∧ Int32.toInt (M.1 (q0 + 27) (Int32.toNatClampNeg i4z79_)) ≤ (-1) := (by have u0 := b100_; have u1 := (zi_eq _ _).mp c101_; have u2 := (show (-1) ≤ Int32.toInt (-1) ∧ Int32.toInt (-1) ≤ (-1) from (by decide)); omega)
              obtain ⟨q104_, b103_⟩ : (Int32.toInt (i4z79_ + 1) = Int32.toInt i4z79_ + 1) ∧ (1 ≤ Int32.toInt (i4z79_ + 1) ∧ Int32.toInt (i4z79_ + 1) ≤ 100) := zadd_k i4z79_ 1 1 1 100 b87_ (by decide) (by decide) (by decide) (by decide) (by decide)
              refine pw_blk hT 7 (S' := (5, [some (pvR q0), some (pvI n1), some (pvI n2), some (pvI (i3z79_ ^^^ 1)), some (pvI (i4z79_ + 1)), some (pvI (i3z79_ &&& 1))], [], M)) rfl ⟨trivial, trivial, trivial, trivial, trivial, trivial, trivial, trivial⟩ ?_
              exact ihz79_ (i3z79_ ^^^ 1) (i4z79_ + 1) (some (pvI (i3z79_ &&& 1))) (zr_wide b103_ (by decide) (by decide)) (zhid (pvms_up (zshow hmz79_) h4z79_ q104_ (by decide) (by decide)))
            · have b105_ : 0 ≤ Int32.toInt (M.1 (q0 + 27) (Int32.toNatClampNeg i4z79_)) ∧ Int32.toInt (M.1 (q0 + 27) (Int32.toNatClampNeg i4z79_)) ≤ 2099 := (by have u0 := b100_; have u1 := (not_congr (zi_eq _ _)).mp c101_; have u2 := (show (-1) ≤ Int32.toInt (-1) ∧ Int32.toInt (-1) ≤ (-1) from (by decide)); omega)
              show PW 127 d (78, [some (pvR q0), some (pvI n1), some (pvI n2), some (pvI i3z79_), some (pvI i4z79_), some (pvI (i3z79_ &&& 1))], [], M) _
              refine pw_blk hT 8 (S' := (89, [some (pvR q0), some (pvI n1), some (pvI n2), some (pvI i3z79_), some (pvI i4z79_), some (pvI (i3z79_ &&& 1))], [pvI (M.1 (q0 + 27) (Int32.toNatClampNeg i4z79_)), pvR q0, pvI (i3z79_ <<< (1 &&& 31))], M)) rfl ⟨trivial, trivial, trivial, trivial, trivial, hq0, trivial, ⟨(pvow_2_27 hq0).1, (by rw [(pvow_2_27 hq0).2.1]; exact (zr_in (n := 100) b87_ (by decide) (by decide)))⟩, trivial⟩ ?_
              refine pw_callGp hT (as := [pvR q0, pvI (M.1 (q0 + 27) (Int32.toNatClampNeg i4z79_))]) (lo1 := [some (pvR q0), some (pvI (M.1 (q0 + 27) (Int32.toNatClampNeg i4z79_))), none, none]) (d1 := d) (rest := [pvI (i3z79_ <<< (1 &&& 31))]) rfl rfl rfl rfl rfl (fun _ => hq0) (Nat.zero_le _) rfl rfl rfl (sf_X2_passes_x_x M hok q0 (M.1 (q0 + 27) (Int32.toNatClampNeg i4z79_)) hq0 d) (fun x106_ b108_ => ?_)
              refine pw_if hT (c := x106_ = 0) rfl rfl (fun c111_ => ?_) (fun c111_ => ?_)
              · have b112_ : 0 ≤ Int32.toInt x106_ ∧ Int32.toInt x106_ ≤ 0 := (by have u0 := b108_; have u1 := (zi_eq _ _).mp c111_; have u2 := (show 0 ≤ Int32.toInt 0 ∧ Int32.toInt 0 ≤ 0 from (by decide)); omega)
                obtain ⟨q114_, b113_⟩ : (Int32.toInt (i4z79_ + 1) = Int32.toInt i4z79_ + 1) ∧ (1 ≤ Int32.toInt (i4z79_ + 1) ∧ Int32.toInt (i4z79_ + 1) ≤ 100) := zadd_k i4z79_ 1 1 1 100 b87_ (by decide) (by decide) (by decide) (by decide) (by decide)
                refine pw_blk hT 5 (S' := (5, [some (pvR q0), some (pvI n1), some (pvI n2), some (pvI ((i3z79_ <<< (1 &&& 31)) ||| 0)), some (pvI (i4z79_ + 1)), some (pvI (i3z79_ &&& 1))], [], M)) rfl ⟨trivial, trivial, trivial, trivial, trivial, trivial⟩ ?_
                exact ihz79_ ((i3z79_ <<< (1 &&& 31)) ||| 0) (i4z79_ + 1) (some (pvI (i3z79_ &&& 1))) (zr_wide b113_ (by decide) (by decide)) (zhid (pvms_up (zshow hmz79_) h4z79_ q114_ (by decide) (by decide)))
              · have b115_ : 1 ≤ Int32.toInt x106_ ∧ Int32.toInt x106_ ≤ 1 := (by have u0 := b108_; have u1 := (not_congr (zi_eq _ _)).mp c111_; have u2 := (show 0 ≤ Int32.toInt 0 ∧ Int32.toInt 0 ≤ 0 from (by decide)); omega)
                obtain ⟨q117_, b116_⟩ : (Int32.toInt (i4z79_ + 1) = Int32.toInt i4z79_ + 1) ∧ (1 ≤ Int32.toInt (i4z79_ + 1) ∧ Int32.toInt (i4z79_ + 1) ≤ 100) := zadd_k i4z79_ 1 1 1 100 b87_ (by decide) (by decide) (by decide) (by decide) (by decide)
                refine pw_blk hT 6 (S' := (5, [some (pvR q0), some (pvI n1), some (pvI n2), some (pvI ((i3z79_ <<< (1 &&& 31)) ||| 1)), some (pvI (i4z79_ + 1)), some (pvI (i3z79_ &&& 1))], [], M)) rfl ⟨trivial, trivial, trivial, trivial, trivial, trivial, trivial⟩ ?_
                exact ihz79_ ((i3z79_ <<< (1 &&& 31)) ||| 1) (i4z79_ + 1) (some (pvI (i3z79_ &&& 1))) (zr_wide b116_ (by decide) (by decide)) (zhid (pvms_up (zshow hmz79_) h4z79_ q117_ (by decide) (by decide)))
  exact hlz79_ _ 0 n1 none hn1 (zhid (Nat.lt_succ_self _))
