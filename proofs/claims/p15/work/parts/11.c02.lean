def fpL_X0_run_3_0_2_x_1_3 : List (Nat × Nat × Nat) := [(0, 3, 2), (0, 4, 0)]
def fp_X0_run_3_0_2_x_1_3 (q k : Nat) : Bool := pvfp fpL_X0_run_3_0_2_x_1_3 q k
theorem fp_X0_run_3_0_2_x_1_3_fp_X0_note_3_x (a b : Nat) (h : fp_X0_note_3_x a b = true) : fp_X0_run_3_0_2_x_1_3 a b = true := pvfp_sub (l1 := fpL_X0_note_3_x) (l2 := fpL_X0_run_3_0_2_x_1_3) (by decide) a b h
theorem fp_X0_run_3_0_2_x_1_3_fp_X0_run_3_3_1_x_2_3 (a b : Nat) (h : fp_X0_run_3_3_1_x_2_3 a b = true) : fp_X0_run_3_0_2_x_1_3 a b = true := pvfp_sub (l1 := fpL_X0_run_3_3_1_x_2_3) (l2 := fpL_X0_run_3_0_2_x_1_3) (by decide) a b h
set_option maxHeartbeats 4000000 in
set_option maxRecDepth 10000 in
theorem sf_X0_run_3_0_2_x_1_3 (M : pvM) (hok : pvOk M) (n3 : Int32) (hc3_1 : 0 ≤ Int32.toInt (M.1 3 1) ∧ Int32.toInt (M.1 3 1) ≤ 996) (hc3_2 : 3 ≤ Int32.toInt (M.1 3 2) ∧ Int32.toInt (M.1 3 2) ≤ 3) (d : Nat) (hd : 2 ≤ d) : PW 4 d (0, [some (pvR 3), some (pvI 0), some (pvI 2), some (pvI n3), some (pvI 1), none, none], [], M) (fun r X => (∃ x : Int32, r = some (pvI x) ∧ True) ∧ pvOk X ∧ pvFr fp_X0_run_3_0_2_x_1_3 M X ∧ Int32.toInt (X.1 3 1) ≤ Int32.toInt (M.1 3 1) + 3) := by
  have hT : pvdom 4 = pvD_4 := rfl
  refine pw_blk hT 2 (S' := (4, [some (pvR 3), some (pvI 0), some (pvI 2), some (pvI n3), some (pvI 1), none, none], [pvI 40, pvI 1], M)) rfl ⟨trivial, trivial, trivial⟩ ?_
  refine pw_ic hT (c := 1 ≤ 40) rfl rfl (fun c1_ => ?_) (fun c1_ => absurd (by decide) c1_)
  refine pw_blk hT 2 (S' := (11, [some (pvR 3), some (pvI 0), some (pvI 2), some (pvI n3), some (pvI 1), none, none], [pvI 2, pvI 0], M)) rfl ⟨trivial, trivial, trivial⟩ ?_
  refine pw_callT hT (as := [pvI 0, pvI 2]) (lo1 := [some (pvI 0), some (pvI 2), none, none, none]) (d1 := d) (rest := []) rfl rfl rfl rfl rfl (fun h => absurd h (by decide)) (Nat.zero_le _) rfl rfl rfl (sf_X0_bodyFrom_0_2 M hok d) ?_
  refine pw_eqI (show ((pvstab 1041).getD (Int32.toNatClampNeg ((0 * 3) + 2)) 0) = 12 from by decide) ?_
  show PW 4 d (14, [some (pvR 3), some (pvI 0), some (pvI 2), some (pvI n3), some (pvI 1), none, none], [pvI 12], M) _
  refine pw_blk hT 7 (S' := (25, [some (pvR 3), some (pvI 0), some (pvI 2), some (pvI n3), some (pvI 1), some (pvI 12), some (pvI (1 + 1))], [pvI 12, pvR 3], M)) rfl ⟨trivial, trivial, trivial, trivial, trivial, trivial, trivial, trivial⟩ ?_
  refine pw_callVd hT (as := [pvR 3, pvI 12]) (lo1 := [some (pvR 3), some (pvI 12)]) (d1 := d) (rest := []) rfl rfl rfl rfl rfl (fun _ => rfl) (Nat.zero_le _) rfl rfl rfl (sf_X0_note_3_x M hok 12 (zr_wide (show 12 ≤ Int32.toInt 12 ∧ Int32.toInt 12 ≤ 12 from (by decide)) (by decide) (by decide)) (zr_wide hc3_1 (by decide) (by decide)) d) (fun M9_ o11_ g12_ d7_ => ?_)
  have f13_ : pvFr fp_X0_run_3_0_2_x_1_3 M M9_ := pvfr_t g12_ pvfr_0 fp_X0_run_3_0_2_x_1_3_fp_X0_note_3_x
  have b14_ : 0 ≤ Int32.toInt (M9_.1 3 1) ∧ Int32.toInt (M9_.1 3 1) ≤ 997 := (by have u0 := hc3_1; have u1 := d7_; have u2 := pvok_r o11_ 3 1 (lo := 0) (hi := 1000000) rfl; omega)
  refine pw_blk hT 1 (S' := (30, [some (pvR 3), some (pvI 0), some (pvI 2), some (pvI n3), some (pvI 1), some (pvI 12), some (pvI (1 + 1))], [pvI 12], M9_)) rfl ⟨trivial, trivial⟩ ?_
  refine pw_sw hT rfl rfl ?_
  refine And.intro (fun c15_ => absurd c15_ (by decide)) (fun c15_ => ?_)
  refine And.intro (fun c16_ => absurd c16_ (by decide)) (fun c16_ => ?_)
  refine And.intro (fun c17_ => ?_) (fun c17_ => absurd (by decide) c17_)
  show PW 4 d (153, [some (pvR 3), some (pvI 0), some (pvI 2), some (pvI n3), some (pvI 1), some (pvI 12), some (pvI (1 + 1))], [], M9_) _
  have e18_ : (M9_.1 3 2) = (M.1 3 2) := (g12_ 3 2 rfl)
  have b19_ : 3 ≤ Int32.toInt (M9_.1 3 2) ∧ Int32.toInt (M9_.1 3 2) ≤ 3 := (by rw [e18_]; exact hc3_2)
  refine pw_blk hT 3 (S' := (158, [some (pvR 3), some (pvI 0), some (pvI 2), some (pvI n3), some (pvI 1), some (pvI 12), some (pvI (1 + 1))], [pvI (M9_.1 3 2), pvR 3], M9_)) rfl ⟨trivial, trivial, rfl, trivial⟩ ?_
  refine pw_eqI ((zi_eq _ (3)).mpr (by have u0 := b19_; have u1 : Int32.toInt (3) = 3 := (by decide); omega)) ?_
  refine pw_blk hT 3 (S' := (162, [some (pvR 3), some (pvI 0), some (pvI 2), some (pvI n3), some (pvI 1), some (pvI 12), some (pvI (1 + 1))], [pvI (1 + 1), pvI n3, pvI 1, pvI 3, pvR 3], M9_)) rfl ⟨trivial, trivial, trivial, trivial⟩ ?_
  refine pw_callGd hT (as := [pvR 3, pvI 3, pvI 1, pvI n3, pvI (1 + 1)]) (lo1 := [some (pvR 3), some (pvI 3), some (pvI 1), some (pvI n3), some (pvI (1 + 1)), none, none]) (d1 := (d - 1)) (rest := []) rfl rfl rfl rfl rfl (fun h => absurd h (by decide)) (show 1 ≤ d by omega) rfl rfl rfl (sf_X0_run_3_3_1_x_2_3 M9_ o11_ n3 b14_ b19_ (d - 1) (by omega)) (fun x21_ M22_ b23_ o24_ g25_ d20_ => ?_)
  have f26_ : pvFr fp_X0_run_3_0_2_x_1_3 M M22_ := pvfr_t g25_ f13_ fp_X0_run_3_0_2_x_1_3_fp_X0_run_3_3_1_x_2_3
  have b27_ : 0 ≤ Int32.toInt (M22_.1 3 1) ∧ Int32.toInt (M22_.1 3 1) ≤ 999 := (by have u0 := b14_; have u1 := d20_; have u2 := pvok_r o24_ 3 1 (lo := 0) (hi := 1000000) rfl; omega)
  refine pw_blk hT 2 (S' := (167, [some (pvR 3), some (pvI 0), some (pvI 2), some (pvI n3), some (pvI 1), some (pvI 12), some (pvI (1 + 1))], [pvI (x21_ * 2)], M22_)) rfl ⟨trivial, trivial, trivial⟩ ?_
  exact pw_ret hT rfl (r := some (pvI (x21_ * 2))) (M' := M22_) ⟨rfl, rfl⟩ ⟨⟨_, rfl, trivial⟩, o24_, f26_, (by omega)⟩
def fpL_X0_run_3_3_0_x_2_3 : List (Nat × Nat × Nat) := [(0, 3, 2), (0, 4, 0)]
def fp_X0_run_3_3_0_x_2_3 (q k : Nat) : Bool := pvfp fpL_X0_run_3_3_0_x_2_3 q k
theorem fp_X0_run_3_3_0_x_2_3_fp_X0_note_3_x (a b : Nat) (h : fp_X0_note_3_x a b = true) : fp_X0_run_3_3_0_x_2_3 a b = true := pvfp_sub (l1 := fpL_X0_note_3_x) (l2 := fpL_X0_run_3_3_0_x_2_3) (by decide) a b h
set_option maxHeartbeats 4000000 in
set_option maxRecDepth 10000 in
theorem sf_X0_run_3_3_0_x_2_3 (M : pvM) (hok : pvOk M) (n3 : Int32) (hc3_1 : 0 ≤ Int32.toInt (M.1 3 1) ∧ Int32.toInt (M.1 3 1) ≤ 998) (hc3_2 : 3 ≤ Int32.toInt (M.1 3 2) ∧ Int32.toInt (M.1 3 2) ≤ 3) (d : Nat) : PW 4 d (0, [some (pvR 3), some (pvI 3), some (pvI 0), some (pvI n3), some (pvI 2), none, none], [], M) (fun r X => (∃ x : Int32, r = some (pvI x) ∧ True) ∧ pvOk X ∧ pvFr fp_X0_run_3_3_0_x_2_3 M X ∧ Int32.toInt (X.1 3 1) ≤ Int32.toInt (M.1 3 1) + 1) := by
  have hT : pvdom 4 = pvD_4 := rfl
  refine pw_blk hT 2 (S' := (4, [some (pvR 3), some (pvI 3), some (pvI 0), some (pvI n3), some (pvI 2), none, none], [pvI 40, pvI 2], M)) rfl ⟨trivial, trivial, trivial⟩ ?_
  refine pw_ic hT (c := 2 ≤ 40) rfl rfl (fun c1_ => ?_) (fun c1_ => absurd (by decide) c1_)
  refine pw_blk hT 2 (S' := (11, [some (pvR 3), some (pvI 3), some (pvI 0), some (pvI n3), some (pvI 2), none, none], [pvI 0, pvI 3], M)) rfl ⟨trivial, trivial, trivial⟩ ?_
  refine pw_callT hT (as := [pvI 3, pvI 0]) (lo1 := [some (pvI 3), some (pvI 0), none, none, none]) (d1 := d) (rest := []) rfl rfl rfl rfl rfl (fun h => absurd h (by decide)) (Nat.zero_le _) rfl rfl rfl (sf_X0_bodyFrom_3_0 M hok d) ?_
  refine pw_eqI (show ((pvstab 1041).getD (Int32.toNatClampNeg ((0 * 3) + 0)) 0) = 10 from by decide) ?_
  show PW 4 d (14, [some (pvR 3), some (pvI 3), some (pvI 0), some (pvI n3), some (pvI 2), none, none], [pvI 10], M) _
  refine pw_blk hT 7 (S' := (25, [some (pvR 3), some (pvI 3), some (pvI 0), some (pvI n3), some (pvI 2), some (pvI 10), some (pvI (2 + 1))], [pvI 10, pvR 3], M)) rfl ⟨trivial, trivial, trivial, trivial, trivial, trivial, trivial, trivial⟩ ?_
  refine pw_callVd hT (as := [pvR 3, pvI 10]) (lo1 := [some (pvR 3), some (pvI 10)]) (d1 := d) (rest := []) rfl rfl rfl rfl rfl (fun _ => rfl) (Nat.zero_le _) rfl rfl rfl (sf_X0_note_3_x M hok 10 (zr_wide (show 10 ≤ Int32.toInt 10 ∧ Int32.toInt 10 ≤ 10 from (by decide)) (by decide) (by decide)) (zr_wide hc3_1 (by decide) (by decide)) d) (fun M9_ o11_ g12_ d7_ => ?_)
  have f13_ : pvFr fp_X0_run_3_3_0_x_2_3 M M9_ := pvfr_t g12_ pvfr_0 fp_X0_run_3_3_0_x_2_3_fp_X0_note_3_x
  have b14_ : 0 ≤ Int32.toInt (M9_.1 3 1) ∧ Int32.toInt (M9_.1 3 1) ≤ 999 := (by have u0 := hc3_1; have u1 := d7_; have u2 := pvok_r o11_ 3 1 (lo := 0) (hi := 1000000) rfl; omega)
  refine pw_blk hT 1 (S' := (30, [some (pvR 3), some (pvI 3), some (pvI 0), some (pvI n3), some (pvI 2), some (pvI 10), some (pvI (2 + 1))], [pvI 10], M9_)) rfl ⟨trivial, trivial⟩ ?_
  refine pw_sw hT rfl rfl ?_
  refine And.intro (fun c15_ => ?_) (fun c15_ => absurd (by decide) c15_)
  show PW 4 d (128, [some (pvR 3), some (pvI 3), some (pvI 0), some (pvI n3), some (pvI 2), some (pvI 10), some (pvI (2 + 1))], [], M9_) _
  refine pw_blk hT 4 (S' := (134, [some (pvR 3), some (pvI 3), some (pvI 0), some (pvI n3), some (pvI 2), some (pvI 10), some (pvI (2 + 1))], [pvI (n3 + (M9_.1 3 4))], M9_)) rfl ⟨trivial, trivial, rfl, trivial, trivial⟩ ?_
  exact pw_ret hT rfl (r := some (pvI (n3 + (M9_.1 3 4)))) (M' := M9_) ⟨rfl, rfl⟩ ⟨⟨_, rfl, trivial⟩, o11_, f13_, (by omega)⟩
def fpL_X0_run_3_3_1_x_1_3 : List (Nat × Nat × Nat) := [(0, 3, 2), (0, 4, 0)]
def fp_X0_run_3_3_1_x_1_3 (q k : Nat) : Bool := pvfp fpL_X0_run_3_3_1_x_1_3 q k
theorem fp_X0_run_3_3_1_x_1_3_fp_X0_note_3_x (a b : Nat) (h : fp_X0_note_3_x a b = true) : fp_X0_run_3_3_1_x_1_3 a b = true := pvfp_sub (l1 := fpL_X0_note_3_x) (l2 := fpL_X0_run_3_3_1_x_1_3) (by decide) a b h
theorem fp_X0_run_3_3_1_x_1_3_fp_X0_run_3_3_0_x_2_3 (a b : Nat) (h : fp_X0_run_3_3_0_x_2_3 a b = true) : fp_X0_run_3_3_1_x_1_3 a b = true := pvfp_sub (l1 := fpL_X0_run_3_3_0_x_2_3) (l2 := fpL_X0_run_3_3_1_x_1_3) (by decide) a b h
set_option maxHeartbeats 4000000 in
set_option maxRecDepth 10000 in
theorem sf_X0_run_3_3_1_x_1_3 (M : pvM) (hok : pvOk M) (n3 : Int32) (hc3_1 : 0 ≤ Int32.toInt (M.1 3 1) ∧ Int32.toInt (M.1 3 1) ≤ 997) (hc3_2 : 3 ≤ Int32.toInt (M.1 3 2) ∧ Int32.toInt (M.1 3 2) ≤ 3) (d : Nat) (hd : 1 ≤ d) : PW 4 d (0, [some (pvR 3), some (pvI 3), some (pvI 1), some (pvI n3), some (pvI 1), none, none], [], M) (fun r X => (∃ x : Int32, r = some (pvI x) ∧ True) ∧ pvOk X ∧ pvFr fp_X0_run_3_3_1_x_1_3 M X ∧ Int32.toInt (X.1 3 1) ≤ Int32.toInt (M.1 3 1) + 2) := by
  have hT : pvdom 4 = pvD_4 := rfl
  refine pw_blk hT 2 (S' := (4, [some (pvR 3), some (pvI 3), some (pvI 1), some (pvI n3), some (pvI 1), none, none], [pvI 40, pvI 1], M)) rfl ⟨trivial, trivial, trivial⟩ ?_
  refine pw_ic hT (c := 1 ≤ 40) rfl rfl (fun c1_ => ?_) (fun c1_ => absurd (by decide) c1_)
  refine pw_blk hT 2 (S' := (11, [some (pvR 3), some (pvI 3), some (pvI 1), some (pvI n3), some (pvI 1), none, none], [pvI 1, pvI 3], M)) rfl ⟨trivial, trivial, trivial⟩ ?_
  refine pw_callT hT (as := [pvI 3, pvI 1]) (lo1 := [some (pvI 3), some (pvI 1), none, none, none]) (d1 := d) (rest := []) rfl rfl rfl rfl rfl (fun h => absurd h (by decide)) (Nat.zero_le _) rfl rfl rfl (sf_X0_bodyFrom_3_1 M hok d) ?_
  refine pw_eqI (show ((pvstab 1041).getD (Int32.toNatClampNeg ((0 * 3) + 1)) 0) = 11 from by decide) ?_
  show PW 4 d (14, [some (pvR 3), some (pvI 3), some (pvI 1), some (pvI n3), some (pvI 1), none, none], [pvI 11], M) _
  refine pw_blk hT 7 (S' := (25, [some (pvR 3), some (pvI 3), some (pvI 1), some (pvI n3), some (pvI 1), some (pvI 11), some (pvI (1 + 1))], [pvI 11, pvR 3], M)) rfl ⟨trivial, trivial, trivial, trivial, trivial, trivial, trivial, trivial⟩ ?_
  refine pw_callVd hT (as := [pvR 3, pvI 11]) (lo1 := [some (pvR 3), some (pvI 11)]) (d1 := d) (rest := []) rfl rfl rfl rfl rfl (fun _ => rfl) (Nat.zero_le _) rfl rfl rfl (sf_X0_note_3_x M hok 11 (zr_wide (show 11 ≤ Int32.toInt 11 ∧ Int32.toInt 11 ≤ 11 from (by decide)) (by decide) (by decide)) (zr_wide hc3_1 (by decide) (by decide)) d) (fun M9_ o11_ g12_ d7_ => ?_)
  have f13_ : pvFr fp_X0_run_3_3_1_x_1_3 M M9_ := pvfr_t g12_ pvfr_0 fp_X0_run_3_3_1_x_1_3_fp_X0_note_3_x
  have b14_ : 0 ≤ Int32.toInt (M9_.1 3 1) ∧ Int32.toInt (M9_.1 3 1) ≤ 998 := (by have u0 := hc3_1; have u1 := d7_; have u2 := pvok_r o11_ 3 1 (lo := 0) (hi := 1000000) rfl; omega)
  refine pw_blk hT 1 (S' := (30, [some (pvR 3), some (pvI 3), some (pvI 1), some (pvI n3), some (pvI 1), some (pvI 11), some (pvI (1 + 1))], [pvI 11], M9_)) rfl ⟨trivial, trivial⟩ ?_
  refine pw_sw hT rfl rfl ?_
  refine And.intro (fun c15_ => absurd c15_ (by decide)) (fun c15_ => ?_)
  refine And.intro (fun c16_ => ?_) (fun c16_ => absurd (by decide) c16_)
  show PW 4 d (135, [some (pvR 3), some (pvI 3), some (pvI 1), some (pvI n3), some (pvI 1), some (pvI 11), some (pvI (1 + 1))], [], M9_) _
  have e17_ : (M9_.1 3 2) = (M.1 3 2) := (g12_ 3 2 rfl)
  have b18_ : 3 ≤ Int32.toInt (M9_.1 3 2) ∧ Int32.toInt (M9_.1 3 2) ≤ 3 := (by rw [e17_]; exact hc3_2)
  refine pw_blk hT 3 (S' := (140, [some (pvR 3), some (pvI 3), some (pvI 1), some (pvI n3), some (pvI 1), some (pvI 11), some (pvI (1 + 1))], [pvI (M9_.1 3 2), pvR 3], M9_)) rfl ⟨trivial, trivial, rfl, trivial⟩ ?_
  refine pw_eqI ((zi_eq _ (3)).mpr (by have u0 := b18_; have u1 : Int32.toInt (3) = 3 := (by decide); omega)) ?_
  refine pw_blk hT 3 (S' := (144, [some (pvR 3), some (pvI 3), some (pvI 1), some (pvI n3), some (pvI 1), some (pvI 11), some (pvI (1 + 1))], [pvI (1 + 1), pvI n3, pvI 0, pvI 3, pvR 3], M9_)) rfl ⟨trivial, trivial, trivial, trivial⟩ ?_
  refine pw_callGd hT (as := [pvR 3, pvI 3, pvI 0, pvI n3, pvI (1 + 1)]) (lo1 := [some (pvR 3), some (pvI 3), some (pvI 0), some (pvI n3), some (pvI (1 + 1)), none, none]) (d1 := (d - 1)) (rest := []) rfl rfl rfl rfl rfl (fun h => absurd h (by decide)) (show 1 ≤ d by omega) rfl rfl rfl (sf_X0_run_3_3_0_x_2_3 M9_ o11_ n3 b14_ b18_ (d - 1)) (fun x20_ M21_ b22_ o23_ g24_ d19_ => ?_)
  have f25_ : pvFr fp_X0_run_3_3_1_x_1_3 M M21_ := pvfr_t g24_ f13_ fp_X0_run_3_3_1_x_1_3_fp_X0_run_3_3_0_x_2_3
  have b26_ : 0 ≤ Int32.toInt (M21_.1 3 1) ∧ Int32.toInt (M21_.1 3 1) ≤ 999 := (by have u0 := b14_; have u1 := d19_; have u2 := pvok_r o23_ 3 1 (lo := 0) (hi := 1000000) rfl; omega)
  refine pw_blk hT 3 (S' := (152, [some (pvR 3), some (pvI 3), some (pvI 1), some (pvI n3), some (pvI 1), some (pvI 11), some (pvI (1 + 1))], [pvI (x20_ - (M21_.1 3 3))], M21_)) rfl ⟨trivial, rfl, trivial, trivial⟩ ?_
  exact pw_ret hT rfl (r := some (pvI (x20_ - (M21_.1 3 3)))) (M' := M21_) ⟨rfl, rfl⟩ ⟨⟨_, rfl, trivial⟩, o23_, f25_, (by omega)⟩
def fpL_X0_run_3_3_2_x_0_3 : List (Nat × Nat × Nat) := [(0, 3, 2), (0, 4, 0)]
def fp_X0_run_3_3_2_x_0_3 (q k : Nat) : Bool := pvfp fpL_X0_run_3_3_2_x_0_3 q k
theorem fp_X0_run_3_3_2_x_0_3_fp_X0_note_3_x (a b : Nat) (h : fp_X0_note_3_x a b = true) : fp_X0_run_3_3_2_x_0_3 a b = true := pvfp_sub (l1 := fpL_X0_note_3_x) (l2 := fpL_X0_run_3_3_2_x_0_3) (by decide) a b h
theorem fp_X0_run_3_3_2_x_0_3_fp_X0_run_3_0_2_x_1_3 (a b : Nat) (h : fp_X0_run_3_0_2_x_1_3 a b = true) : fp_X0_run_3_3_2_x_0_3 a b = true := pvfp_sub (l1 := fpL_X0_run_3_0_2_x_1_3) (l2 := fpL_X0_run_3_3_2_x_0_3) (by decide) a b h
theorem fp_X0_run_3_3_2_x_0_3_fp_X0_run_3_3_1_x_1_3 (a b : Nat) (h : fp_X0_run_3_3_1_x_1_3 a b = true) : fp_X0_run_3_3_2_x_0_3 a b = true := pvfp_sub (l1 := fpL_X0_run_3_3_1_x_1_3) (l2 := fpL_X0_run_3_3_2_x_0_3) (by decide) a b h
set_option maxHeartbeats 4000000 in
set_option maxRecDepth 10000 in
theorem sf_X0_run_3_3_2_x_0_3 (M : pvM) (hok : pvOk M) (n3 : Int32) (hc3_1 : 0 ≤ Int32.toInt (M.1 3 1) ∧ Int32.toInt (M.1 3 1) ≤ 993) (hc3_2 : 3 ≤ Int32.toInt (M.1 3 2) ∧ Int32.toInt (M.1 3 2) ≤ 3) (d : Nat) (hd : 3 ≤ d) : PW 4 d (0, [some (pvR 3), some (pvI 3), some (pvI 2), some (pvI n3), some (pvI 0), none, none], [], M) (fun r X => (∃ x : Int32, r = some (pvI x) ∧ True) ∧ pvOk X ∧ pvFr fp_X0_run_3_3_2_x_0_3 M X ∧ Int32.toInt (X.1 3 1) ≤ Int32.toInt (M.1 3 1) + 6) := by
  have hT : pvdom 4 = pvD_4 := rfl
  refine pw_blk hT 2 (S' := (4, [some (pvR 3), some (pvI 3), some (pvI 2), some (pvI n3), some (pvI 0), none, none], [pvI 40, pvI 0], M)) rfl ⟨trivial, trivial, trivial⟩ ?_
  refine pw_ic hT (c := 0 ≤ 40) rfl rfl (fun c1_ => ?_) (fun c1_ => absurd (by decide) c1_)
  refine pw_blk hT 2 (S' := (11, [some (pvR 3), some (pvI 3), some (pvI 2), some (pvI n3), some (pvI 0), none, none], [pvI 2, pvI 3], M)) rfl ⟨trivial, trivial, trivial⟩ ?_
  refine pw_callT hT (as := [pvI 3, pvI 2]) (lo1 := [some (pvI 3), some (pvI 2), none, none, none]) (d1 := d) (rest := []) rfl rfl rfl rfl rfl (fun h => absurd h (by decide)) (Nat.zero_le _) rfl rfl rfl (sf_X0_bodyFrom_3_2 M hok d) ?_
  refine pw_eqI (show ((pvstab 1041).getD (Int32.toNatClampNeg ((3 * 3) + 2)) 0) = 40 from by decide) ?_
  show PW 4 d (14, [some (pvR 3), some (pvI 3), some (pvI 2), some (pvI n3), some (pvI 0), none, none], [pvI 40], M) _
  refine pw_blk hT 7 (S' := (25, [some (pvR 3), some (pvI 3), some (pvI 2), some (pvI n3), some (pvI 0), some (pvI 40), some (pvI (0 + 1))], [pvI 40, pvR 3], M)) rfl ⟨trivial, trivial, trivial, trivial, trivial, trivial, trivial, trivial⟩ ?_
  refine pw_callVd hT (as := [pvR 3, pvI 40]) (lo1 := [some (pvR 3), some (pvI 40)]) (d1 := d) (rest := []) rfl rfl rfl rfl rfl (fun _ => rfl) (Nat.zero_le _) rfl rfl rfl (sf_X0_note_3_x M hok 40 (zr_wide (show 40 ≤ Int32.toInt 40 ∧ Int32.toInt 40 ≤ 40 from (by decide)) (by decide) (by decide)) (zr_wide hc3_1 (by decide) (by decide)) d) (fun M9_ o11_ g12_ d7_ => ?_)
  have f13_ : pvFr fp_X0_run_3_3_2_x_0_3 M M9_ := pvfr_t g12_ pvfr_0 fp_X0_run_3_3_2_x_0_3_fp_X0_note_3_x
  have b14_ : 0 ≤ Int32.toInt (M9_.1 3 1) ∧ Int32.toInt (M9_.1 3 1) ≤ 994 := (by have u0 := hc3_1; have u1 := d7_; have u2 := pvok_r o11_ 3 1 (lo := 0) (hi := 1000000) rfl; omega)
  refine pw_blk hT 1 (S' := (30, [some (pvR 3), some (pvI 3), some (pvI 2), some (pvI n3), some (pvI 0), some (pvI 40), some (pvI (0 + 1))], [pvI 40], M9_)) rfl ⟨trivial, trivial⟩ ?_
  refine pw_sw hT rfl rfl ?_
  refine And.intro (fun c15_ => absurd c15_ (by decide)) (fun c15_ => ?_)
  refine And.intro (fun c16_ => absurd c16_ (by decide)) (fun c16_ => ?_)
  refine And.intro (fun c17_ => absurd c17_ (by decide)) (fun c17_ => ?_)
  refine And.intro (fun c18_ => absurd c18_ (by decide)) (fun c18_ => ?_)
  refine And.intro (fun c19_ => absurd c19_ (by decide)) (fun c19_ => ?_)
  refine And.intro (fun c20_ => ?_) (fun c20_ => absurd (by decide) c20_)
  show PW 4 d (193, [some (pvR 3), some (pvI 3), some (pvI 2), some (pvI n3), some (pvI 0), some (pvI 40), some (pvI (0 + 1))], [], M9_) _
  refine pw_blk hT 5 (S' := (199, [some (pvR 3), some (pvI 3), some (pvI 2), some (pvI n3), some (pvI 0), some (pvI 40), some (pvI (0 + 1))], [pvI (0 + 1), pvI n3, pvI 2, pvI 0, pvR 3], M9_)) rfl ⟨trivial, trivial, trivial, trivial, trivial, trivial⟩ ?_
  have e21_ : (M9_.1 3 2) = (M.1 3 2) := (g12_ 3 2 rfl)
  have b22_ : 3 ≤ Int32.toInt (M9_.1 3 2) ∧ Int32.toInt (M9_.1 3 2) ≤ 3 := (by rw [e21_]; exact hc3_2)
  refine pw_callGd hT (as := [pvR 3, pvI 0, pvI 2, pvI n3, pvI (0 + 1)]) (lo1 := [some (pvR 3), some (pvI 0), some (pvI 2), some (pvI n3), some (pvI (0 + 1)), none, none]) (d1 := (d - 1)) (rest := []) rfl rfl rfl rfl rfl (fun h => absurd h (by decide)) (show 1 ≤ d by omega) rfl rfl rfl (sf_X0_run_3_0_2_x_1_3 M9_ o11_ n3 (zr_wide b14_ (by decide) (by decide)) b22_ (d - 1) (by omega)) (fun x24_ M25_ b26_ o27_ g28_ d23_ => ?_)
  have f29_ : pvFr fp_X0_run_3_3_2_x_0_3 M M25_ := pvfr_t g28_ f13_ fp_X0_run_3_3_2_x_0_3_fp_X0_run_3_0_2_x_1_3
  have b30_ : 0 ≤ Int32.toInt (M25_.1 3 1) ∧ Int32.toInt (M25_.1 3 1) ≤ 997 := (by have u0 := b14_; have u1 := d23_; have u2 := pvok_r o27_ 3 1 (lo := 0) (hi := 1000000) rfl; omega)
  have e31_ : (M25_.1 3 2) = (M9_.1 3 2) := (g28_ 3 2 rfl)
  have b32_ : 3 ≤ Int32.toInt (M25_.1 3 2) ∧ Int32.toInt (M25_.1 3 2) ≤ 3 := (by rw [e31_]; exact b22_)
  refine pw_blk hT 3 (S' := (207, [some (pvR 3), some (pvI 3), some (pvI 2), some (pvI n3), some (pvI 0), some (pvI 40), some (pvI (0 + 1))], [pvI (M25_.1 3 2), pvR 3, pvI x24_], M25_)) rfl ⟨trivial, trivial, rfl, trivial⟩ ?_
  refine pw_eqI ((zi_eq _ (3)).mpr (by have u0 := b32_; have u1 : Int32.toInt (3) = 3 := (by decide); omega)) ?_
  refine pw_blk hT 3 (S' := (211, [some (pvR 3), some (pvI 3), some (pvI 2), some (pvI n3), some (pvI 0), some (pvI 40), some (pvI (0 + 1))], [pvI (0 + 1), pvI 1, pvI 1, pvI 3, pvR 3, pvI x24_], M25_)) rfl ⟨trivial, trivial, trivial, trivial⟩ ?_
  refine pw_callGd hT (as := [pvR 3, pvI 3, pvI 1, pvI 1, pvI (0 + 1)]) (lo1 := [some (pvR 3), some (pvI 3), some (pvI 1), some (pvI 1), some (pvI (0 + 1)), none, none]) (d1 := (d - 1)) (rest := [pvI x24_]) rfl rfl rfl rfl rfl (fun h => absurd h (by decide)) (show 1 ≤ d by omega) rfl rfl rfl (sf_X0_run_3_3_1_x_1_3 M25_ o27_ 1 b30_ b32_ (d - 1) (by omega)) (fun x34_ M35_ b36_ o37_ g38_ d33_ => ?_)
  have f39_ : pvFr fp_X0_run_3_3_2_x_0_3 M M35_ := pvfr_t g38_ f29_ fp_X0_run_3_3_2_x_0_3_fp_X0_run_3_3_1_x_1_3
  have b40_ : 0 ≤ Int32.toInt (M35_.1 3 1) ∧ Int32.toInt (M35_.1 3 1) ≤ 999 := (by have u0 := b30_; have u1 := d33_; have u2 := pvok_r o37_ 3 1 (lo := 0) (hi := 1000000) rfl; omega)
  refine pw_blk hT 1 (S' := (215, [some (pvR 3), some (pvI 3), some (pvI 2), some (pvI n3), some (pvI 0), some (pvI 40), some (pvI (0 + 1))], [pvI (x24_ + x34_)], M35_)) rfl ⟨trivial, trivial⟩ ?_
  exact pw_ret hT rfl (r := some (pvI (x24_ + x34_))) (M' := M35_) ⟨rfl, rfl⟩ ⟨⟨_, rfl, trivial⟩, o37_, f39_, (by omega)⟩
set_option maxHeartbeats 4000000 in
set_option maxRecDepth 10000 in
theorem sf_X0_bodyFrom_4_0 (M : pvM) (hok : pvOk M) (d : Nat) : PW 1 d (0, [some (pvI 4), some (pvI 0), none, none, none], [], M) (fun r X => r = some (pvI (((pvstab 1041).getD (Int32.toNatClampNeg ((4 * 3) + 0)) 0))) ∧ X = M) := by
  have hT : pvdom 1 = pvD_1 := rfl
  refine pw_blk hT 4 (S' := (4, [some (pvI 4), some (pvI 0), some (pvI 4), some (pvI 0), none], [], M)) rfl ⟨trivial, trivial, trivial, trivial, trivial⟩ ?_
  refine pw_blk hT 3 (S' := (9, [some (pvI 4), some (pvI 0), some (pvI 4), some (pvI 0), none], [pvI (Int32.ofNat (pvstab 1041).length), pvI 0], M)) rfl ⟨trivial, trivial, (by decide), trivial⟩ ?_
  refine pw_ic hT (c := (Int32.ofNat (pvstab 1041).length) ≤ 0) rfl rfl (fun c1_ => absurd c1_ (by decide)) (fun c1_ => ?_)
  refine pw_blk hT 1 (S' := (13, [some (pvI 4), some (pvI 0), some (pvI 4), some (pvI 0), none], [pvI 4], M)) rfl ⟨trivial, trivial⟩ ?_
  refine pw_if hT (c := 4 < 0) rfl rfl (fun c2_ => absurd c2_ (by decide)) (fun c2_ => ?_)
  refine pw_blk hT 7 (S' := (25, [some (pvI 4), some (pvI 0), some (pvI 4), some (pvI 0), some (pvI ((4 * 3) + 0))], [pvI ((4 * 3) + 0)], M)) rfl ⟨trivial, trivial, trivial, trivial, trivial, trivial, trivial, trivial⟩ ?_
  refine pw_if hT (c := ((4 * 3) + 0) < 0) rfl rfl (fun c3_ => absurd c3_ (by decide)) (fun c3_ => ?_)
  refine pw_blk hT 3 (S' := (34, [some (pvI 4), some (pvI 0), some (pvI 4), some (pvI 0), some (pvI ((4 * 3) + 0))], [pvI (Int32.ofNat (pvstab 1041).length), pvI ((4 * 3) + 0)], M)) rfl ⟨trivial, trivial, (by decide), trivial⟩ ?_
  refine pw_ic hT (c := (Int32.ofNat (pvstab 1041).length) ≤ ((4 * 3) + 0)) rfl rfl (fun c4_ => absurd c4_ (by decide)) (fun c4_ => ?_)
  refine pw_blk hT 3 (S' := (43, [some (pvI 4), some (pvI 0), some (pvI 4), some (pvI 0), some (pvI ((4 * 3) + 0))], [pvI ((pvstab 1041).getD (Int32.toNatClampNeg ((4 * 3) + 0)) 0)], M)) rfl ⟨trivial, trivial, ⟨by decide, (zr_in (n := 21) (show 12 ≤ Int32.toInt ((4 * 3) + 0) ∧ Int32.toInt ((4 * 3) + 0) ≤ 12 from (by decide)) (by decide) (by decide))⟩, trivial⟩ ?_
  refine pw_if hT (c := ((pvstab 1041).getD (Int32.toNatClampNeg ((4 * 3) + 0)) 0) = 0) rfl rfl (fun c5_ => absurd c5_ (by decide)) (fun c5_ => ?_)
  refine pw_blk hT 3 (S' := (52, [some (pvI 4), some (pvI 0), some (pvI 4), some (pvI 0), some (pvI ((4 * 3) + 0))], [pvI ((pvstab 1041).getD (Int32.toNatClampNeg ((4 * 3) + 0)) 0)], M)) rfl ⟨trivial, trivial, ⟨by decide, (zr_in (n := 21) (show 12 ≤ Int32.toInt ((4 * 3) + 0) ∧ Int32.toInt ((4 * 3) + 0) ≤ 12 from (by decide)) (by decide) (by decide))⟩, trivial⟩ ?_
  exact pw_ret hT rfl (r := some (pvI ((pvstab 1041).getD (Int32.toNatClampNeg ((4 * 3) + 0)) 0))) (M' := M) ⟨rfl, rfl⟩ ⟨rfl, rfl⟩
def fpL_X0_run_3_1_0_x_1_4 : List (Nat × Nat × Nat) := [(0, 3, 2), (0, 4, 0)]
def fp_X0_run_3_1_0_x_1_4 (q k : Nat) : Bool := pvfp fpL_X0_run_3_1_0_x_1_4 q k
theorem fp_X0_run_3_1_0_x_1_4_fp_X0_note_3_x (a b : Nat) (h : fp_X0_note_3_x a b = true) : fp_X0_run_3_1_0_x_1_4 a b = true := pvfp_sub (l1 := fpL_X0_note_3_x) (l2 := fpL_X0_run_3_1_0_x_1_4) (by decide) a b h
set_option maxHeartbeats 4000000 in
set_option maxRecDepth 10000 in
theorem sf_X0_run_3_1_0_x_1_4 (M : pvM) (hok : pvOk M) (n3 : Int32) (hc3_1 : 0 ≤ Int32.toInt (M.1 3 1) ∧ Int32.toInt (M.1 3 1) ≤ 998) (hc3_2 : 4 ≤ Int32.toInt (M.1 3 2) ∧ Int32.toInt (M.1 3 2) ≤ 4) (d : Nat) : PW 4 d (0, [some (pvR 3), some (pvI 1), some (pvI 0), some (pvI n3), some (pvI 1), none, none], [], M) (fun r X => (∃ x : Int32, r = some (pvI x) ∧ True) ∧ pvOk X ∧ pvFr fp_X0_run_3_1_0_x_1_4 M X ∧ Int32.toInt (X.1 3 1) ≤ Int32.toInt (M.1 3 1) + 1) := by
  have hT : pvdom 4 = pvD_4 := rfl
  refine pw_blk hT 2 (S' := (4, [some (pvR 3), some (pvI 1), some (pvI 0), some (pvI n3), some (pvI 1), none, none], [pvI 40, pvI 1], M)) rfl ⟨trivial, trivial, trivial⟩ ?_
  refine pw_ic hT (c := 1 ≤ 40) rfl rfl (fun c1_ => ?_) (fun c1_ => absurd (by decide) c1_)
  refine pw_blk hT 2 (S' := (11, [some (pvR 3), some (pvI 1), some (pvI 0), some (pvI n3), some (pvI 1), none, none], [pvI 0, pvI 1], M)) rfl ⟨trivial, trivial, trivial⟩ ?_
  refine pw_callT hT (as := [pvI 1, pvI 0]) (lo1 := [some (pvI 1), some (pvI 0), none, none, none]) (d1 := d) (rest := []) rfl rfl rfl rfl rfl (fun h => absurd h (by decide)) (Nat.zero_le _) rfl rfl rfl (sf_X0_bodyFrom_1_0 M hok d) ?_
  refine pw_eqI (show ((pvstab 1041).getD (Int32.toNatClampNeg ((0 * 3) + 0)) 0) = 10 from by decide) ?_
  show PW 4 d (14, [some (pvR 3), some (pvI 1), some (pvI 0), some (pvI n3), some (pvI 1), none, none], [pvI 10], M) _
  refine pw_blk hT 7 (S' := (25, [some (pvR 3), some (pvI 1), some (pvI 0), some (pvI n3), some (pvI 1), some (pvI 10), some (pvI (1 + 1))], [pvI 10, pvR 3], M)) rfl ⟨trivial, trivial, trivial, trivial, trivial, trivial, trivial, trivial⟩ ?_
  refine pw_callVd hT (as := [pvR 3, pvI 10]) (lo1 := [some (pvR 3), some (pvI 10)]) (d1 := d) (rest := []) rfl rfl rfl rfl rfl (fun _ => rfl) (Nat.zero_le _) rfl rfl rfl (sf_X0_note_3_x M hok 10 (zr_wide (show 10 ≤ Int32.toInt 10 ∧ Int32.toInt 10 ≤ 10 from (by decide)) (by decide) (by decide)) (zr_wide hc3_1 (by decide) (by decide)) d) (fun M9_ o11_ g12_ d7_ => ?_)
  have f13_ : pvFr fp_X0_run_3_1_0_x_1_4 M M9_ := pvfr_t g12_ pvfr_0 fp_X0_run_3_1_0_x_1_4_fp_X0_note_3_x
  have b14_ : 0 ≤ Int32.toInt (M9_.1 3 1) ∧ Int32.toInt (M9_.1 3 1) ≤ 999 := (by have u0 := hc3_1; have u1 := d7_; have u2 := pvok_r o11_ 3 1 (lo := 0) (hi := 1000000) rfl; omega)
  refine pw_blk hT 1 (S' := (30, [some (pvR 3), some (pvI 1), some (pvI 0), some (pvI n3), some (pvI 1), some (pvI 10), some (pvI (1 + 1))], [pvI 10], M9_)) rfl ⟨trivial, trivial⟩ ?_
  refine pw_sw hT rfl rfl ?_
  refine And.intro (fun c15_ => ?_) (fun c15_ => absurd (by decide) c15_)
  show PW 4 d (128, [some (pvR 3), some (pvI 1), some (pvI 0), some (pvI n3), some (pvI 1), some (pvI 10), some (pvI (1 + 1))], [], M9_) _
  refine pw_blk hT 4 (S' := (134, [some (pvR 3), some (pvI 1), some (pvI 0), some (pvI n3), some (pvI 1), some (pvI 10), some (pvI (1 + 1))], [pvI (n3 + (M9_.1 3 4))], M9_)) rfl ⟨trivial, trivial, rfl, trivial, trivial⟩ ?_
  exact pw_ret hT rfl (r := some (pvI (n3 + (M9_.1 3 4)))) (M' := M9_) ⟨rfl, rfl⟩ ⟨⟨_, rfl, trivial⟩, o11_, f13_, (by omega)⟩
def fpL_X0_run_3_4_0_x_0_4 : List (Nat × Nat × Nat) := [(0, 3, 2), (0, 4, 0)]
def fp_X0_run_3_4_0_x_0_4 (q k : Nat) : Bool := pvfp fpL_X0_run_3_4_0_x_0_4 q k
theorem fp_X0_run_3_4_0_x_0_4_fp_X0_note_3_x (a b : Nat) (h : fp_X0_note_3_x a b = true) : fp_X0_run_3_4_0_x_0_4 a b = true := pvfp_sub (l1 := fpL_X0_note_3_x) (l2 := fpL_X0_run_3_4_0_x_0_4) (by decide) a b h
theorem fp_X0_run_3_4_0_x_0_4_fp_X0_run_3_1_0_x_1_4 (a b : Nat) (h : fp_X0_run_3_1_0_x_1_4 a b = true) : fp_X0_run_3_4_0_x_0_4 a b = true := pvfp_sub (l1 := fpL_X0_run_3_1_0_x_1_4) (l2 := fpL_X0_run_3_4_0_x_0_4) (by decide) a b h
set_option maxHeartbeats 4000000 in
set_option maxRecDepth 10000 in
theorem sf_X0_run_3_4_0_x_0_4 (M : pvM) (hok : pvOk M) (n3 : Int32) (hc3_1 : 0 ≤ Int32.toInt (M.1 3 1) ∧ Int32.toInt (M.1 3 1) ≤ 997) (hc3_2 : 4 ≤ Int32.toInt (M.1 3 2) ∧ Int32.toInt (M.1 3 2) ≤ 4) (d : Nat) (hd : 1 ≤ d) : PW 4 d (0, [some (pvR 3), some (pvI 4), some (pvI 0), some (pvI n3), some (pvI 0), none, none], [], M) (fun r X => (∃ x : Int32, r = some (pvI x) ∧ True) ∧ pvOk X ∧ pvFr fp_X0_run_3_4_0_x_0_4 M X ∧ Int32.toInt (X.1 3 1) ≤ Int32.toInt (M.1 3 1) + 2) := by
  have hT : pvdom 4 = pvD_4 := rfl
  refine pw_blk hT 2 (S' := (4, [some (pvR 3), some (pvI 4), some (pvI 0), some (pvI n3), some (pvI 0), none, none], [pvI 40, pvI 0], M)) rfl ⟨trivial, trivial, trivial⟩ ?_
  refine pw_ic hT (c := 0 ≤ 40) rfl rfl (fun c1_ => ?_) (fun c1_ => absurd (by decide) c1_)
  refine pw_blk hT 2 (S' := (11, [some (pvR 3), some (pvI 4), some (pvI 0), some (pvI n3), some (pvI 0), none, none], [pvI 0, pvI 4], M)) rfl ⟨trivial, trivial, trivial⟩ ?_
  refine pw_callT hT (as := [pvI 4, pvI 0]) (lo1 := [some (pvI 4), some (pvI 0), none, none, none]) (d1 := d) (rest := []) rfl rfl rfl rfl rfl (fun h => absurd h (by decide)) (Nat.zero_le _) rfl rfl rfl (sf_X0_bodyFrom_4_0 M hok d) ?_
  refine pw_eqI (show ((pvstab 1041).getD (Int32.toNatClampNeg ((4 * 3) + 0)) 0) = 50 from by decide) ?_
  show PW 4 d (14, [some (pvR 3), some (pvI 4), some (pvI 0), some (pvI n3), some (pvI 0), none, none], [pvI 50], M) _
  refine pw_blk hT 7 (S' := (25, [some (pvR 3), some (pvI 4), some (pvI 0), some (pvI n3), some (pvI 0), some (pvI 50), some (pvI (0 + 1))], [pvI 50, pvR 3], M)) rfl ⟨trivial, trivial, trivial, trivial, trivial, trivial, trivial, trivial⟩ ?_
  refine pw_callVd hT (as := [pvR 3, pvI 50]) (lo1 := [some (pvR 3), some (pvI 50)]) (d1 := d) (rest := []) rfl rfl rfl rfl rfl (fun _ => rfl) (Nat.zero_le _) rfl rfl rfl (sf_X0_note_3_x M hok 50 (zr_wide (show 50 ≤ Int32.toInt 50 ∧ Int32.toInt 50 ≤ 50 from (by decide)) (by decide) (by decide)) (zr_wide hc3_1 (by decide) (by decide)) d) (fun M9_ o11_ g12_ d7_ => ?_)
  have f13_ : pvFr fp_X0_run_3_4_0_x_0_4 M M9_ := pvfr_t g12_ pvfr_0 fp_X0_run_3_4_0_x_0_4_fp_X0_note_3_x
  have b14_ : 0 ≤ Int32.toInt (M9_.1 3 1) ∧ Int32.toInt (M9_.1 3 1) ≤ 998 := (by have u0 := hc3_1; have u1 := d7_; have u2 := pvok_r o11_ 3 1 (lo := 0) (hi := 1000000) rfl; omega)
  refine pw_blk hT 1 (S' := (30, [some (pvR 3), some (pvI 4), some (pvI 0), some (pvI n3), some (pvI 0), some (pvI 50), some (pvI (0 + 1))], [pvI 50], M9_)) rfl ⟨trivial, trivial⟩ ?_
  refine pw_sw hT rfl rfl ?_
  refine And.intro (fun c15_ => absurd c15_ (by decide)) (fun c15_ => ?_)
  refine And.intro (fun c16_ => absurd c16_ (by decide)) (fun c16_ => ?_)
  refine And.intro (fun c17_ => absurd c17_ (by decide)) (fun c17_ => ?_)
  refine And.intro (fun c18_ => absurd c18_ (by decide)) (fun c18_ => ?_)
  refine And.intro (fun c19_ => absurd c19_ (by decide)) (fun c19_ => ?_)
  refine And.intro (fun c20_ => absurd c20_ (by decide)) (fun c20_ => ?_)
  refine And.intro (fun c21_ => ?_) (fun c21_ => absurd (by decide) c21_)
  show PW 4 d (216, [some (pvR 3), some (pvI 4), some (pvI 0), some (pvI n3), some (pvI 0), some (pvI 50), some (pvI (0 + 1))], [], M9_) _
  refine pw_blk hT 5 (S' := (222, [some (pvR 3), some (pvI 4), some (pvI 0), some (pvI n3), some (pvI 0), some (pvI 50), some (pvI (0 + 1))], [pvI (0 + 1), pvI n3, pvI 0, pvI 1, pvR 3], M9_)) rfl ⟨trivial, trivial, trivial, trivial, trivial, trivial⟩ ?_
  have e22_ : (M9_.1 3 2) = (M.1 3 2) := (g12_ 3 2 rfl)
  have b23_ : 4 ≤ Int32.toInt (M9_.1 3 2) ∧ Int32.toInt (M9_.1 3 2) ≤ 4 := (by rw [e22_]; exact hc3_2)
  refine pw_callGd hT (as := [pvR 3, pvI 1, pvI 0, pvI n3, pvI (0 + 1)]) (lo1 := [some (pvR 3), some (pvI 1), some (pvI 0), some (pvI n3), some (pvI (0 + 1)), none, none]) (d1 := (d - 1)) (rest := []) rfl rfl rfl rfl rfl (fun h => absurd h (by decide)) (show 1 ≤ d by omega) rfl rfl rfl (sf_X0_run_3_1_0_x_1_4 M9_ o11_ n3 b14_ b23_ (d - 1)) (fun x25_ M26_ b27_ o28_ g29_ d24_ => ?_)
  have f30_ : pvFr fp_X0_run_3_4_0_x_0_4 M M26_ := pvfr_t g29_ f13_ fp_X0_run_3_4_0_x_0_4_fp_X0_run_3_1_0_x_1_4
  have b31_ : 0 ≤ Int32.toInt (M26_.1 3 1) ∧ Int32.toInt (M26_.1 3 1) ≤ 999 := (by have u0 := b14_; have u1 := d24_; have u2 := pvok_r o28_ 3 1 (lo := 0) (hi := 1000000) rfl; omega)
  refine pw_blk hT 1 (S' := (226, [some (pvR 3), some (pvI 4), some (pvI 0), some (pvI n3), some (pvI 0), some (pvI 50), some (pvI (0 + 1))], [pvI (-x25_)], M26_)) rfl ⟨trivial, trivial⟩ ?_
  exact pw_ret hT rfl (r := some (pvI (-x25_))) (M' := M26_) ⟨rfl, rfl⟩ ⟨⟨_, rfl, trivial⟩, o28_, f30_, (by omega)⟩
set_option maxHeartbeats 4000000 in
set_option maxRecDepth 10000 in
theorem sf_X0_bodyFrom_4_1 (M : pvM) (hok : pvOk M) (d : Nat) : PW 1 d (0, [some (pvI 4), some (pvI 1), none, none, none], [], M) (fun r X => r = some (pvI (((pvstab 1041).getD (Int32.toNatClampNeg ((4 * 3) + 1)) 0))) ∧ X = M) := by
  have hT : pvdom 1 = pvD_1 := rfl
  refine pw_blk hT 4 (S' := (4, [some (pvI 4), some (pvI 1), some (pvI 4), some (pvI 0), none], [], M)) rfl ⟨trivial, trivial, trivial, trivial, trivial⟩ ?_
  refine pw_blk hT 3 (S' := (9, [some (pvI 4), some (pvI 1), some (pvI 4), some (pvI 0), none], [pvI (Int32.ofNat (pvstab 1041).length), pvI 0], M)) rfl ⟨trivial, trivial, (by decide), trivial⟩ ?_
  refine pw_ic hT (c := (Int32.ofNat (pvstab 1041).length) ≤ 0) rfl rfl (fun c1_ => absurd c1_ (by decide)) (fun c1_ => ?_)
  refine pw_blk hT 1 (S' := (13, [some (pvI 4), some (pvI 1), some (pvI 4), some (pvI 0), none], [pvI 4], M)) rfl ⟨trivial, trivial⟩ ?_
  refine pw_if hT (c := 4 < 0) rfl rfl (fun c2_ => absurd c2_ (by decide)) (fun c2_ => ?_)
  refine pw_blk hT 7 (S' := (25, [some (pvI 4), some (pvI 1), some (pvI 4), some (pvI 0), some (pvI ((4 * 3) + 1))], [pvI ((4 * 3) + 1)], M)) rfl ⟨trivial, trivial, trivial, trivial, trivial, trivial, trivial, trivial⟩ ?_
  refine pw_if hT (c := ((4 * 3) + 1) < 0) rfl rfl (fun c3_ => absurd c3_ (by decide)) (fun c3_ => ?_)
  refine pw_blk hT 3 (S' := (34, [some (pvI 4), some (pvI 1), some (pvI 4), some (pvI 0), some (pvI ((4 * 3) + 1))], [pvI (Int32.ofNat (pvstab 1041).length), pvI ((4 * 3) + 1)], M)) rfl ⟨trivial, trivial, (by decide), trivial⟩ ?_
  refine pw_ic hT (c := (Int32.ofNat (pvstab 1041).length) ≤ ((4 * 3) + 1)) rfl rfl (fun c4_ => absurd c4_ (by decide)) (fun c4_ => ?_)
  refine pw_blk hT 3 (S' := (43, [some (pvI 4), some (pvI 1), some (pvI 4), some (pvI 0), some (pvI ((4 * 3) + 1))], [pvI ((pvstab 1041).getD (Int32.toNatClampNeg ((4 * 3) + 1)) 0)], M)) rfl ⟨trivial, trivial, ⟨by decide, (zr_in (n := 21) (show 13 ≤ Int32.toInt ((4 * 3) + 1) ∧ Int32.toInt ((4 * 3) + 1) ≤ 13 from (by decide)) (by decide) (by decide))⟩, trivial⟩ ?_
  refine pw_if hT (c := ((pvstab 1041).getD (Int32.toNatClampNeg ((4 * 3) + 1)) 0) = 0) rfl rfl (fun c5_ => absurd c5_ (by decide)) (fun c5_ => ?_)
  refine pw_blk hT 3 (S' := (52, [some (pvI 4), some (pvI 1), some (pvI 4), some (pvI 0), some (pvI ((4 * 3) + 1))], [pvI ((pvstab 1041).getD (Int32.toNatClampNeg ((4 * 3) + 1)) 0)], M)) rfl ⟨trivial, trivial, ⟨by decide, (zr_in (n := 21) (show 13 ≤ Int32.toInt ((4 * 3) + 1) ∧ Int32.toInt ((4 * 3) + 1) ≤ 13 from (by decide)) (by decide) (by decide))⟩, trivial⟩ ?_
  exact pw_ret hT rfl (r := some (pvI ((pvstab 1041).getD (Int32.toNatClampNeg ((4 * 3) + 1)) 0))) (M' := M) ⟨rfl, rfl⟩ ⟨rfl, rfl⟩
def fpL_X0_run_3_1_0_x_4_4 : List (Nat × Nat × Nat) := [(0, 3, 2), (0, 4, 0)]
def fp_X0_run_3_1_0_x_4_4 (q k : Nat) : Bool := pvfp fpL_X0_run_3_1_0_x_4_4 q k
theorem fp_X0_run_3_1_0_x_4_4_fp_X0_note_3_x (a b : Nat) (h : fp_X0_note_3_x a b = true) : fp_X0_run_3_1_0_x_4_4 a b = true := pvfp_sub (l1 := fpL_X0_note_3_x) (l2 := fpL_X0_run_3_1_0_x_4_4) (by decide) a b h
set_option maxHeartbeats 4000000 in
set_option maxRecDepth 10000 in
theorem sf_X0_run_3_1_0_x_4_4 (M : pvM) (hok : pvOk M) (n3 : Int32) (hc3_1 : 0 ≤ Int32.toInt (M.1 3 1) ∧ Int32.toInt (M.1 3 1) ≤ 998) (hc3_2 : 4 ≤ Int32.toInt (M.1 3 2) ∧ Int32.toInt (M.1 3 2) ≤ 4) (d : Nat) : PW 4 d (0, [some (pvR 3), some (pvI 1), some (pvI 0), some (pvI n3), some (pvI 4), none, none], [], M) (fun r X => (∃ x : Int32, r = some (pvI x) ∧ True) ∧ pvOk X ∧ pvFr fp_X0_run_3_1_0_x_4_4 M X ∧ Int32.toInt (X.1 3 1) ≤ Int32.toInt (M.1 3 1) + 1) := by
  have hT : pvdom 4 = pvD_4 := rfl
  refine pw_blk hT 2 (S' := (4, [some (pvR 3), some (pvI 1), some (pvI 0), some (pvI n3), some (pvI 4), none, none], [pvI 40, pvI 4], M)) rfl ⟨trivial, trivial, trivial⟩ ?_
  refine pw_ic hT (c := 4 ≤ 40) rfl rfl (fun c1_ => ?_) (fun c1_ => absurd (by decide) c1_)
  refine pw_blk hT 2 (S' := (11, [some (pvR 3), some (pvI 1), some (pvI 0), some (pvI n3), some (pvI 4), none, none], [pvI 0, pvI 1], M)) rfl ⟨trivial, trivial, trivial⟩ ?_
  refine pw_callT hT (as := [pvI 1, pvI 0]) (lo1 := [some (pvI 1), some (pvI 0), none, none, none]) (d1 := d) (rest := []) rfl rfl rfl rfl rfl (fun h => absurd h (by decide)) (Nat.zero_le _) rfl rfl rfl (sf_X0_bodyFrom_1_0 M hok d) ?_
  refine pw_eqI (show ((pvstab 1041).getD (Int32.toNatClampNeg ((0 * 3) + 0)) 0) = 10 from by decide) ?_
  show PW 4 d (14, [some (pvR 3), some (pvI 1), some (pvI 0), some (pvI n3), some (pvI 4), none, none], [pvI 10], M) _
  refine pw_blk hT 7 (S' := (25, [some (pvR 3), some (pvI 1), some (pvI 0), some (pvI n3), some (pvI 4), some (pvI 10), some (pvI (4 + 1))], [pvI 10, pvR 3], M)) rfl ⟨trivial, trivial, trivial, trivial, trivial, trivial, trivial, trivial⟩ ?_
  refine pw_callVd hT (as := [pvR 3, pvI 10]) (lo1 := [some (pvR 3), some (pvI 10)]) (d1 := d) (rest := []) rfl rfl rfl rfl rfl (fun _ => rfl) (Nat.zero_le _) rfl rfl rfl (sf_X0_note_3_x M hok 10 (zr_wide (show 10 ≤ Int32.toInt 10 ∧ Int32.toInt 10 ≤ 10 from (by decide)) (by decide) (by decide)) (zr_wide hc3_1 (by decide) (by decide)) d) (fun M9_ o11_ g12_ d7_ => ?_)
  have f13_ : pvFr fp_X0_run_3_1_0_x_4_4 M M9_ := pvfr_t g12_ pvfr_0 fp_X0_run_3_1_0_x_4_4_fp_X0_note_3_x
  have b14_ : 0 ≤ Int32.toInt (M9_.1 3 1) ∧ Int32.toInt (M9_.1 3 1) ≤ 999 := (by have u0 := hc3_1; have u1 := d7_; have u2 := pvok_r o11_ 3 1 (lo := 0) (hi := 1000000) rfl; omega)
  refine pw_blk hT 1 (S' := (30, [some (pvR 3), some (pvI 1), some (pvI 0), some (pvI n3), some (pvI 4), some (pvI 10), some (pvI (4 + 1))], [pvI 10], M9_)) rfl ⟨trivial, trivial⟩ ?_
  refine pw_sw hT rfl rfl ?_
  refine And.intro (fun c15_ => ?_) (fun c15_ => absurd (by decide) c15_)
  show PW 4 d (128, [some (pvR 3), some (pvI 1), some (pvI 0), some (pvI n3), some (pvI 4), some (pvI 10), some (pvI (4 + 1))], [], M9_) _
  refine pw_blk hT 4 (S' := (134, [some (pvR 3), some (pvI 1), some (pvI 0), some (pvI n3), some (pvI 4), some (pvI 10), some (pvI (4 + 1))], [pvI (n3 + (M9_.1 3 4))], M9_)) rfl ⟨trivial, trivial, rfl, trivial, trivial⟩ ?_
  exact pw_ret hT rfl (r := some (pvI (n3 + (M9_.1 3 4)))) (M' := M9_) ⟨rfl, rfl⟩ ⟨⟨_, rfl, trivial⟩, o11_, f13_, (by omega)⟩
def fpL_X0_run_3_4_0_x_3_4 : List (Nat × Nat × Nat) := [(0, 3, 2), (0, 4, 0)]
def fp_X0_run_3_4_0_x_3_4 (q k : Nat) : Bool := pvfp fpL_X0_run_3_4_0_x_3_4 q k
theorem fp_X0_run_3_4_0_x_3_4_fp_X0_note_3_x (a b : Nat) (h : fp_X0_note_3_x a b = true) : fp_X0_run_3_4_0_x_3_4 a b = true := pvfp_sub (l1 := fpL_X0_note_3_x) (l2 := fpL_X0_run_3_4_0_x_3_4) (by decide) a b h
theorem fp_X0_run_3_4_0_x_3_4_fp_X0_run_3_1_0_x_4_4 (a b : Nat) (h : fp_X0_run_3_1_0_x_4_4 a b = true) : fp_X0_run_3_4_0_x_3_4 a b = true := pvfp_sub (l1 := fpL_X0_run_3_1_0_x_4_4) (l2 := fpL_X0_run_3_4_0_x_3_4) (by decide) a b h
set_option maxHeartbeats 4000000 in
set_option maxRecDepth 10000 in
theorem sf_X0_run_3_4_0_x_3_4 (M : pvM) (hok : pvOk M) (n3 : Int32) (hc3_1 : 0 ≤ Int32.toInt (M.1 3 1) ∧ Int32.toInt (M.1 3 1) ≤ 997) (hc3_2 : 4 ≤ Int32.toInt (M.1 3 2) ∧ Int32.toInt (M.1 3 2) ≤ 4) (d : Nat) (hd : 1 ≤ d) : PW 4 d (0, [some (pvR 3), some (pvI 4), some (pvI 0), some (pvI n3), some (pvI 3), none, none], [], M) (fun r X => (∃ x : Int32, r = some (pvI x) ∧ True) ∧ pvOk X ∧ pvFr fp_X0_run_3_4_0_x_3_4 M X ∧ Int32.toInt (X.1 3 1) ≤ Int32.toInt (M.1 3 1) + 2) := by
  have hT : pvdom 4 = pvD_4 := rfl
  refine pw_blk hT 2 (S' := (4, [some (pvR 3), some (pvI 4), some (pvI 0), some (pvI n3), some (pvI 3), none, none], [pvI 40, pvI 3], M)) rfl ⟨trivial, trivial, trivial⟩ ?_
  refine pw_ic hT (c := 3 ≤ 40) rfl rfl (fun c1_ => ?_) (fun c1_ => absurd (by decide) c1_)
  refine pw_blk hT 2 (S' := (11, [some (pvR 3), some (pvI 4), some (pvI 0), some (pvI n3), some (pvI 3), none, none], [pvI 0, pvI 4], M)) rfl ⟨trivial, trivial, trivial⟩ ?_
  refine pw_callT hT (as := [pvI 4, pvI 0]) (lo1 := [some (pvI 4), some (pvI 0), none, none, none]) (d1 := d) (rest := []) rfl rfl rfl rfl rfl (fun h => absurd h (by decide)) (Nat.zero_le _) rfl rfl rfl (sf_X0_bodyFrom_4_0 M hok d) ?_
  refine pw_eqI (show ((pvstab 1041).getD (Int32.toNatClampNeg ((4 * 3) + 0)) 0) = 50 from by decide) ?_
  show PW 4 d (14, [some (pvR 3), some (pvI 4), some (pvI 0), some (pvI n3), some (pvI 3), none, none], [pvI 50], M) _
  refine pw_blk hT 7 (S' := (25, [some (pvR 3), some (pvI 4), some (pvI 0), some (pvI n3), some (pvI 3), some (pvI 50), some (pvI (3 + 1))], [pvI 50, pvR 3], M)) rfl ⟨trivial, trivial, trivial, trivial, trivial, trivial, trivial, trivial⟩ ?_
  refine pw_callVd hT (as := [pvR 3, pvI 50]) (lo1 := [some (pvR 3), some (pvI 50)]) (d1 := d) (rest := []) rfl rfl rfl rfl rfl (fun _ => rfl) (Nat.zero_le _) rfl rfl rfl (sf_X0_note_3_x M hok 50 (zr_wide (show 50 ≤ Int32.toInt 50 ∧ Int32.toInt 50 ≤ 50 from (by decide)) (by decide) (by decide)) (zr_wide hc3_1 (by decide) (by decide)) d) (fun M9_ o11_ g12_ d7_ => ?_)
  have f13_ : pvFr fp_X0_run_3_4_0_x_3_4 M M9_ := pvfr_t g12_ pvfr_0 fp_X0_run_3_4_0_x_3_4_fp_X0_note_3_x
  have b14_ : 0 ≤ Int32.toInt (M9_.1 3 1) ∧ Int32.toInt (M9_.1 3 1) ≤ 998 := (by have u0 := hc3_1; have u1 := d7_; have u2 := pvok_r o11_ 3 1 (lo := 0) (hi := 1000000) rfl; omega)
  refine pw_blk hT 1 (S' := (30, [some (pvR 3), some (pvI 4), some (pvI 0), some (pvI n3), some (pvI 3), some (pvI 50), some (pvI (3 + 1))], [pvI 50], M9_)) rfl ⟨trivial, trivial⟩ ?_
  refine pw_sw hT rfl rfl ?_
  refine And.intro (fun c15_ => absurd c15_ (by decide)) (fun c15_ => ?_)
  refine And.intro (fun c16_ => absurd c16_ (by decide)) (fun c16_ => ?_)
  refine And.intro (fun c17_ => absurd c17_ (by decide)) (fun c17_ => ?_)
  refine And.intro (fun c18_ => absurd c18_ (by decide)) (fun c18_ => ?_)
  refine And.intro (fun c19_ => absurd c19_ (by decide)) (fun c19_ => ?_)
  refine And.intro (fun c20_ => absurd c20_ (by decide)) (fun c20_ => ?_)
  refine And.intro (fun c21_ => ?_) (fun c21_ => absurd (by decide) c21_)
  show PW 4 d (216, [some (pvR 3), some (pvI 4), some (pvI 0), some (pvI n3), some (pvI 3), some (pvI 50), some (pvI (3 + 1))], [], M9_) _
  refine pw_blk hT 5 (S' := (222, [some (pvR 3), some (pvI 4), some (pvI 0), some (pvI n3), some (pvI 3), some (pvI 50), some (pvI (3 + 1))], [pvI (3 + 1), pvI n3, pvI 0, pvI 1, pvR 3], M9_)) rfl ⟨trivial, trivial, trivial, trivial, trivial, trivial⟩ ?_
  have e22_ : (M9_.1 3 2) = (M.1 3 2) := (g12_ 3 2 rfl)
  have b23_ : 4 ≤ Int32.toInt (M9_.1 3 2) ∧ Int32.toInt (M9_.1 3 2) ≤ 4 := (by rw [e22_]; exact hc3_2)
  refine pw_callGd hT (as := [pvR 3, pvI 1, pvI 0, pvI n3, pvI (3 + 1)]) (lo1 := [some (pvR 3), some (pvI 1), some (pvI 0), some (pvI n3), some (pvI (3 + 1)), none, none]) (d1 := (d - 1)) (rest := []) rfl rfl rfl rfl rfl (fun h => absurd h (by decide)) (show 1 ≤ d by omega) rfl rfl rfl (sf_X0_run_3_1_0_x_4_4 M9_ o11_ n3 b14_ b23_ (d - 1)) (fun x25_ M26_ b27_ o28_ g29_ d24_ => ?_)
  have f30_ : pvFr fp_X0_run_3_4_0_x_3_4 M M26_ := pvfr_t g29_ f13_ fp_X0_run_3_4_0_x_3_4_fp_X0_run_3_1_0_x_4_4
  have b31_ : 0 ≤ Int32.toInt (M26_.1 3 1) ∧ Int32.toInt (M26_.1 3 1) ≤ 999 := (by have u0 := b14_; have u1 := d24_; have u2 := pvok_r o28_ 3 1 (lo := 0) (hi := 1000000) rfl; omega)
  refine pw_blk hT 1 (S' := (226, [some (pvR 3), some (pvI 4), some (pvI 0), some (pvI n3), some (pvI 3), some (pvI 50), some (pvI (3 + 1))], [pvI (-x25_)], M26_)) rfl ⟨trivial, trivial⟩ ?_
  exact pw_ret hT rfl (r := some (pvI (-x25_))) (M' := M26_) ⟨rfl, rfl⟩ ⟨⟨_, rfl, trivial⟩, o28_, f30_, (by omega)⟩
def fpL_X0_run_3_0_1_x_2_4 : List (Nat × Nat × Nat) := [(0, 3, 2), (0, 4, 0)]
def fp_X0_run_3_0_1_x_2_4 (q k : Nat) : Bool := pvfp fpL_X0_run_3_0_1_x_2_4 q k
theorem fp_X0_run_3_0_1_x_2_4_fp_X0_note_3_x (a b : Nat) (h : fp_X0_note_3_x a b = true) : fp_X0_run_3_0_1_x_2_4 a b = true := pvfp_sub (l1 := fpL_X0_note_3_x) (l2 := fpL_X0_run_3_0_1_x_2_4) (by decide) a b h
theorem fp_X0_run_3_0_1_x_2_4_fp_X0_run_3_4_0_x_3_4 (a b : Nat) (h : fp_X0_run_3_4_0_x_3_4 a b = true) : fp_X0_run_3_0_1_x_2_4 a b = true := pvfp_sub (l1 := fpL_X0_run_3_4_0_x_3_4) (l2 := fpL_X0_run_3_0_1_x_2_4) (by decide) a b h
set_option maxHeartbeats 4000000 in
set_option maxRecDepth 10000 in
theorem sf_X0_run_3_0_1_x_2_4 (M : pvM) (hok : pvOk M) (n3 : Int32) (hc3_1 : 0 ≤ Int32.toInt (M.1 3 1) ∧ Int32.toInt (M.1 3 1) ≤ 996) (hc3_2 : 4 ≤ Int32.toInt (M.1 3 2) ∧ Int32.toInt (M.1 3 2) ≤ 4) (d : Nat) (hd : 2 ≤ d) : PW 4 d (0, [some (pvR 3), some (pvI 0), some (pvI 1), some (pvI n3), some (pvI 2), none, none], [], M) (fun r X => (∃ x : Int32, r = some (pvI x) ∧ True) ∧ pvOk X ∧ pvFr fp_X0_run_3_0_1_x_2_4 M X ∧ Int32.toInt (X.1 3 1) ≤ Int32.toInt (M.1 3 1) + 3) := by
  have hT : pvdom 4 = pvD_4 := rfl
  refine pw_blk hT 2 (S' := (4, [some (pvR 3), some (pvI 0), some (pvI 1), some (pvI n3), some (pvI 2), none, none], [pvI 40, pvI 2], M)) rfl ⟨trivial, trivial, trivial⟩ ?_
  refine pw_ic hT (c := 2 ≤ 40) rfl rfl (fun c1_ => ?_) (fun c1_ => absurd (by decide) c1_)
  refine pw_blk hT 2 (S' := (11, [some (pvR 3), some (pvI 0), some (pvI 1), some (pvI n3), some (pvI 2), none, none], [pvI 1, pvI 0], M)) rfl ⟨trivial, trivial, trivial⟩ ?_
  refine pw_callT hT (as := [pvI 0, pvI 1]) (lo1 := [some (pvI 0), some (pvI 1), none, none, none]) (d1 := d) (rest := []) rfl rfl rfl rfl rfl (fun h => absurd h (by decide)) (Nat.zero_le _) rfl rfl rfl (sf_X0_bodyFrom_0_1 M hok d) ?_
  refine pw_eqI (show ((pvstab 1041).getD (Int32.toNatClampNeg ((0 * 3) + 1)) 0) = 11 from by decide) ?_
  show PW 4 d (14, [some (pvR 3), some (pvI 0), some (pvI 1), some (pvI n3), some (pvI 2), none, none], [pvI 11], M) _
  refine pw_blk hT 7 (S' := (25, [some (pvR 3), some (pvI 0), some (pvI 1), some (pvI n3), some (pvI 2), some (pvI 11), some (pvI (2 + 1))], [pvI 11, pvR 3], M)) rfl ⟨trivial, trivial, trivial, trivial, trivial, trivial, trivial, trivial⟩ ?_
  refine pw_callVd hT (as := [pvR 3, pvI 11]) (lo1 := [some (pvR 3), some (pvI 11)]) (d1 := d) (rest := []) rfl rfl rfl rfl rfl (fun _ => rfl) (Nat.zero_le _) rfl rfl rfl (sf_X0_note_3_x M hok 11 (zr_wide (show 11 ≤ Int32.toInt 11 ∧ Int32.toInt 11 ≤ 11 from (by decide)) (by decide) (by decide)) (zr_wide hc3_1 (by decide) (by decide)) d) (fun M9_ o11_ g12_ d7_ => ?_)
  have f13_ : pvFr fp_X0_run_3_0_1_x_2_4 M M9_ := pvfr_t g12_ pvfr_0 fp_X0_run_3_0_1_x_2_4_fp_X0_note_3_x
  have b14_ : 0 ≤ Int32.toInt (M9_.1 3 1) ∧ Int32.toInt (M9_.1 3 1) ≤ 997 := (by have u0 := hc3_1; have u1 := d7_; have u2 := pvok_r o11_ 3 1 (lo := 0) (hi := 1000000) rfl; omega)
  refine pw_blk hT 1 (S' := (30, [some (pvR 3), some (pvI 0), some (pvI 1), some (pvI n3), some (pvI 2), some (pvI 11), some (pvI (2 + 1))], [pvI 11], M9_)) rfl ⟨trivial, trivial⟩ ?_
  refine pw_sw hT rfl rfl ?_
  refine And.intro (fun c15_ => absurd c15_ (by decide)) (fun c15_ => ?_)
  refine And.intro (fun c16_ => ?_) (fun c16_ => absurd (by decide) c16_)
  show PW 4 d (135, [some (pvR 3), some (pvI 0), some (pvI 1), some (pvI n3), some (pvI 2), some (pvI 11), some (pvI (2 + 1))], [], M9_) _
  have e17_ : (M9_.1 3 2) = (M.1 3 2) := (g12_ 3 2 rfl)
  have b18_ : 4 ≤ Int32.toInt (M9_.1 3 2) ∧ Int32.toInt (M9_.1 3 2) ≤ 4 := (by rw [e17_]; exact hc3_2)
  refine pw_blk hT 3 (S' := (140, [some (pvR 3), some (pvI 0), some (pvI 1), some (pvI n3), some (pvI 2), some (pvI 11), some (pvI (2 + 1))], [pvI (M9_.1 3 2), pvR 3], M9_)) rfl ⟨trivial, trivial, rfl, trivial⟩ ?_
  refine pw_eqI ((zi_eq _ (4)).mpr (by have u0 := b18_; have u1 : Int32.toInt (4) = 4 := (by decide); omega)) ?_
  refine pw_blk hT 3 (S' := (144, [some (pvR 3), some (pvI 0), some (pvI 1), some (pvI n3), some (pvI 2), some (pvI 11), some (pvI (2 + 1))], [pvI (2 + 1), pvI n3, pvI 0, pvI 4, pvR 3], M9_)) rfl ⟨trivial, trivial, trivial, trivial⟩ ?_
  refine pw_callGd hT (as := [pvR 3, pvI 4, pvI 0, pvI n3, pvI (2 + 1)]) (lo1 := [some (pvR 3), some (pvI 4), some (pvI 0), some (pvI n3), some (pvI (2 + 1)), none, none]) (d1 := (d - 1)) (rest := []) rfl rfl rfl rfl rfl (fun h => absurd h (by decide)) (show 1 ≤ d by omega) rfl rfl rfl (sf_X0_run_3_4_0_x_3_4 M9_ o11_ n3 b14_ b18_ (d - 1) (by omega)) (fun x20_ M21_ b22_ o23_ g24_ d19_ => ?_)
  have f25_ : pvFr fp_X0_run_3_0_1_x_2_4 M M21_ := pvfr_t g24_ f13_ fp_X0_run_3_0_1_x_2_4_fp_X0_run_3_4_0_x_3_4
  have b26_ : 0 ≤ Int32.toInt (M21_.1 3 1) ∧ Int32.toInt (M21_.1 3 1) ≤ 999 := (by have u0 := b14_; have u1 := d19_; have u2 := pvok_r o23_ 3 1 (lo := 0) (hi := 1000000) rfl; omega)
  refine pw_blk hT 3 (S' := (152, [some (pvR 3), some (pvI 0), some (pvI 1), some (pvI n3), some (pvI 2), some (pvI 11), some (pvI (2 + 1))], [pvI (x20_ - (M21_.1 3 3))], M21_)) rfl ⟨trivial, rfl, trivial, trivial⟩ ?_
  exact pw_ret hT rfl (r := some (pvI (x20_ - (M21_.1 3 3)))) (M' := M21_) ⟨rfl, rfl⟩ ⟨⟨_, rfl, trivial⟩, o23_, f25_, (by omega)⟩
def fpL_X0_run_3_1_1_x_1_4 : List (Nat × Nat × Nat) := [(0, 3, 2), (0, 4, 0)]
def fp_X0_run_3_1_1_x_1_4 (q k : Nat) : Bool := pvfp fpL_X0_run_3_1_1_x_1_4 q k
theorem fp_X0_run_3_1_1_x_1_4_fp_X0_note_3_x (a b : Nat) (h : fp_X0_note_3_x a b = true) : fp_X0_run_3_1_1_x_1_4 a b = true := pvfp_sub (l1 := fpL_X0_note_3_x) (l2 := fpL_X0_run_3_1_1_x_1_4) (by decide) a b h
theorem fp_X0_run_3_1_1_x_1_4_fp_X0_run_3_0_1_x_2_4 (a b : Nat) (h : fp_X0_run_3_0_1_x_2_4 a b = true) : fp_X0_run_3_1_1_x_1_4 a b = true := pvfp_sub (l1 := fpL_X0_run_3_0_1_x_2_4) (l2 := fpL_X0_run_3_1_1_x_1_4) (by decide) a b h
set_option maxHeartbeats 4000000 in
set_option maxRecDepth 10000 in
theorem sf_X0_run_3_1_1_x_1_4 (M : pvM) (hok : pvOk M) (n3 : Int32) (hc3_1 : 0 ≤ Int32.toInt (M.1 3 1) ∧ Int32.toInt (M.1 3 1) ≤ 995) (hc3_2 : 4 ≤ Int32.toInt (M.1 3 2) ∧ Int32.toInt (M.1 3 2) ≤ 4) (d : Nat) (hd : 3 ≤ d) : PW 4 d (0, [some (pvR 3), some (pvI 1), some (pvI 1), some (pvI n3), some (pvI 1), none, none], [], M) (fun r X => (∃ x : Int32, r = some (pvI x) ∧ True) ∧ pvOk X ∧ pvFr fp_X0_run_3_1_1_x_1_4 M X ∧ Int32.toInt (X.1 3 1) ≤ Int32.toInt (M.1 3 1) + 4) := by
  have hT : pvdom 4 = pvD_4 := rfl
  refine pw_blk hT 2 (S' := (4, [some (pvR 3), some (pvI 1), some (pvI 1), some (pvI n3), some (pvI 1), none, none], [pvI 40, pvI 1], M)) rfl ⟨trivial, trivial, trivial⟩ ?_
  refine pw_ic hT (c := 1 ≤ 40) rfl rfl (fun c1_ => ?_) (fun c1_ => absurd (by decide) c1_)
  refine pw_blk hT 2 (S' := (11, [some (pvR 3), some (pvI 1), some (pvI 1), some (pvI n3), some (pvI 1), none, none], [pvI 1, pvI 1], M)) rfl ⟨trivial, trivial, trivial⟩ ?_
  refine pw_callT hT (as := [pvI 1, pvI 1]) (lo1 := [some (pvI 1), some (pvI 1), none, none, none]) (d1 := d) (rest := []) rfl rfl rfl rfl rfl (fun h => absurd h (by decide)) (Nat.zero_le _) rfl rfl rfl (sf_X0_bodyFrom_1_1 M hok d) ?_
  refine pw_eqI (show ((pvstab 1041).getD (Int32.toNatClampNeg ((1 * 3) + 1)) 0) = 20 from by decide) ?_
  show PW 4 d (14, [some (pvR 3), some (pvI 1), some (pvI 1), some (pvI n3), some (pvI 1), none, none], [pvI 20], M) _
  refine pw_blk hT 7 (S' := (25, [some (pvR 3), some (pvI 1), some (pvI 1), some (pvI n3), some (pvI 1), some (pvI 20), some (pvI (1 + 1))], [pvI 20, pvR 3], M)) rfl ⟨trivial, trivial, trivial, trivial, trivial, trivial, trivial, trivial⟩ ?_
  refine pw_callVd hT (as := [pvR 3, pvI 20]) (lo1 := [some (pvR 3), some (pvI 20)]) (d1 := d) (rest := []) rfl rfl rfl rfl rfl (fun _ => rfl) (Nat.zero_le _) rfl rfl rfl (sf_X0_note_3_x M hok 20 (zr_wide (show 20 ≤ Int32.toInt 20 ∧ Int32.toInt 20 ≤ 20 from (by decide)) (by decide) (by decide)) (zr_wide hc3_1 (by decide) (by decide)) d) (fun M9_ o11_ g12_ d7_ => ?_)
  have f13_ : pvFr fp_X0_run_3_1_1_x_1_4 M M9_ := pvfr_t g12_ pvfr_0 fp_X0_run_3_1_1_x_1_4_fp_X0_note_3_x
  have b14_ : 0 ≤ Int32.toInt (M9_.1 3 1) ∧ Int32.toInt (M9_.1 3 1) ≤ 996 := (by have u0 := hc3_1; have u1 := d7_; have u2 := pvok_r o11_ 3 1 (lo := 0) (hi := 1000000) rfl; omega)
  refine pw_blk hT 1 (S' := (30, [some (pvR 3), some (pvI 1), some (pvI 1), some (pvI n3), some (pvI 1), some (pvI 20), some (pvI (1 + 1))], [pvI 20], M9_)) rfl ⟨trivial, trivial⟩ ?_
  refine pw_sw hT rfl rfl ?_
  refine And.intro (fun c15_ => absurd c15_ (by decide)) (fun c15_ => ?_)
  refine And.intro (fun c16_ => absurd c16_ (by decide)) (fun c16_ => ?_)
  refine And.intro (fun c17_ => absurd c17_ (by decide)) (fun c17_ => ?_)
  refine And.intro (fun c18_ => ?_) (fun c18_ => absurd (by decide) c18_)
  show PW 4 d (168, [some (pvR 3), some (pvI 1), some (pvI 1), some (pvI n3), some (pvI 1), some (pvI 20), some (pvI (1 + 1))], [], M9_) _
  refine pw_blk hT 5 (S' := (174, [some (pvR 3), some (pvI 1), some (pvI 1), some (pvI n3), some (pvI 1), some (pvI 20), some (pvI (1 + 1))], [pvI (1 + 1), pvI n3, pvI 1, pvI 0, pvR 3], M9_)) rfl ⟨trivial, trivial, trivial, trivial, trivial, trivial⟩ ?_
  have e19_ : (M9_.1 3 2) = (M.1 3 2) := (g12_ 3 2 rfl)
  have b20_ : 4 ≤ Int32.toInt (M9_.1 3 2) ∧ Int32.toInt (M9_.1 3 2) ≤ 4 := (by rw [e19_]; exact hc3_2)
  refine pw_callGd hT (as := [pvR 3, pvI 0, pvI 1, pvI n3, pvI (1 + 1)]) (lo1 := [some (pvR 3), some (pvI 0), some (pvI 1), some (pvI n3), some (pvI (1 + 1)), none, none]) (d1 := (d - 1)) (rest := []) rfl rfl rfl rfl rfl (fun h => absurd h (by decide)) (show 1 ≤ d by omega) rfl rfl rfl (sf_X0_run_3_0_1_x_2_4 M9_ o11_ n3 b14_ b20_ (d - 1) (by omega)) (fun x22_ M23_ b24_ o25_ g26_ d21_ => ?_)
  have f27_ : pvFr fp_X0_run_3_1_1_x_1_4 M M23_ := pvfr_t g26_ f13_ fp_X0_run_3_1_1_x_1_4_fp_X0_run_3_0_1_x_2_4
  have b28_ : 0 ≤ Int32.toInt (M23_.1 3 1) ∧ Int32.toInt (M23_.1 3 1) ≤ 999 := (by have u0 := b14_; have u1 := d21_; have u2 := pvok_r o25_ 3 1 (lo := 0) (hi := 1000000) rfl; omega)
  refine pw_blk hT 2 (S' := (180, [some (pvR 3), some (pvI 1), some (pvI 1), some (pvI n3), some (pvI 1), some (pvI 20), some (pvI (1 + 1))], [pvI (x22_ ^^^ 6)], M23_)) rfl ⟨trivial, trivial, trivial⟩ ?_
  exact pw_ret hT rfl (r := some (pvI (x22_ ^^^ 6))) (M' := M23_) ⟨rfl, rfl⟩ ⟨⟨_, rfl, trivial⟩, o25_, f27_, (by omega)⟩
def fpL_X0_run_3_4_1_x_0_4 : List (Nat × Nat × Nat) := [(0, 3, 2), (0, 4, 0)]
def fp_X0_run_3_4_1_x_0_4 (q k : Nat) : Bool := pvfp fpL_X0_run_3_4_1_x_0_4 q k
theorem fp_X0_run_3_4_1_x_0_4_fp_X0_note_3_x (a b : Nat) (h : fp_X0_note_3_x a b = true) : fp_X0_run_3_4_1_x_0_4 a b = true := pvfp_sub (l1 := fpL_X0_note_3_x) (l2 := fpL_X0_run_3_4_1_x_0_4) (by decide) a b h
theorem fp_X0_run_3_4_1_x_0_4_fp_X0_run_3_1_1_x_1_4 (a b : Nat) (h : fp_X0_run_3_1_1_x_1_4 a b = true) : fp_X0_run_3_4_1_x_0_4 a b = true := pvfp_sub (l1 := fpL_X0_run_3_1_1_x_1_4) (l2 := fpL_X0_run_3_4_1_x_0_4) (by decide) a b h
set_option maxHeartbeats 4000000 in
set_option maxRecDepth 10000 in
theorem sf_X0_run_3_4_1_x_0_4 (M : pvM) (hok : pvOk M) (n3 : Int32) (hc3_1 : 0 ≤ Int32.toInt (M.1 3 1) ∧ Int32.toInt (M.1 3 1) ≤ 994) (hc3_2 : 4 ≤ Int32.toInt (M.1 3 2) ∧ Int32.toInt (M.1 3 2) ≤ 4) (d : Nat) (hd : 4 ≤ d) : PW 4 d (0, [some (pvR 3), some (pvI 4), some (pvI 1), some (pvI n3), some (pvI 0), none, none], [], M) (fun r X => (∃ x : Int32, r = some (pvI x) ∧ True) ∧ pvOk X ∧ pvFr fp_X0_run_3_4_1_x_0_4 M X ∧ Int32.toInt (X.1 3 1) ≤ Int32.toInt (M.1 3 1) + 5) := by
  have hT : pvdom 4 = pvD_4 := rfl
  refine pw_blk hT 2 (S' := (4, [some (pvR 3), some (pvI 4), some (pvI 1), some (pvI n3), some (pvI 0), none, none], [pvI 40, pvI 0], M)) rfl ⟨trivial, trivial, trivial⟩ ?_
  refine pw_ic hT (c := 0 ≤ 40) rfl rfl (fun c1_ => ?_) (fun c1_ => absurd (by decide) c1_)
  refine pw_blk hT 2 (S' := (11, [some (pvR 3), some (pvI 4), some (pvI 1), some (pvI n3), some (pvI 0), none, none], [pvI 1, pvI 4], M)) rfl ⟨trivial, trivial, trivial⟩ ?_
  refine pw_callT hT (as := [pvI 4, pvI 1]) (lo1 := [some (pvI 4), some (pvI 1), none, none, none]) (d1 := d) (rest := []) rfl rfl rfl rfl rfl (fun h => absurd h (by decide)) (Nat.zero_le _) rfl rfl rfl (sf_X0_bodyFrom_4_1 M hok d) ?_
  refine pw_eqI (show ((pvstab 1041).getD (Int32.toNatClampNeg ((4 * 3) + 1)) 0) = 51 from by decide) ?_
  show PW 4 d (14, [some (pvR 3), some (pvI 4), some (pvI 1), some (pvI n3), some (pvI 0), none, none], [pvI 51], M) _
  refine pw_blk hT 7 (S' := (25, [some (pvR 3), some (pvI 4), some (pvI 1), some (pvI n3), some (pvI 0), some (pvI 51), some (pvI (0 + 1))], [pvI 51, pvR 3], M)) rfl ⟨trivial, trivial, trivial, trivial, trivial, trivial, trivial, trivial⟩ ?_
  refine pw_callVd hT (as := [pvR 3, pvI 51]) (lo1 := [some (pvR 3), some (pvI 51)]) (d1 := d) (rest := []) rfl rfl rfl rfl rfl (fun _ => rfl) (Nat.zero_le _) rfl rfl rfl (sf_X0_note_3_x M hok 51 (zr_wide (show 51 ≤ Int32.toInt 51 ∧ Int32.toInt 51 ≤ 51 from (by decide)) (by decide) (by decide)) (zr_wide hc3_1 (by decide) (by decide)) d) (fun M9_ o11_ g12_ d7_ => ?_)
  have f13_ : pvFr fp_X0_run_3_4_1_x_0_4 M M9_ := pvfr_t g12_ pvfr_0 fp_X0_run_3_4_1_x_0_4_fp_X0_note_3_x
  have b14_ : 0 ≤ Int32.toInt (M9_.1 3 1) ∧ Int32.toInt (M9_.1 3 1) ≤ 995 := (by have u0 := hc3_1; have u1 := d7_; have u2 := pvok_r o11_ 3 1 (lo := 0) (hi := 1000000) rfl; omega)
  refine pw_blk hT 1 (S' := (30, [some (pvR 3), some (pvI 4), some (pvI 1), some (pvI n3), some (pvI 0), some (pvI 51), some (pvI (0 + 1))], [pvI 51], M9_)) rfl ⟨trivial, trivial⟩ ?_
  refine pw_sw hT rfl rfl ?_
  refine And.intro (fun c15_ => absurd c15_ (by decide)) (fun c15_ => ?_)
  refine And.intro (fun c16_ => absurd c16_ (by decide)) (fun c16_ => ?_)
  refine And.intro (fun c17_ => absurd c17_ (by decide)) (fun c17_ => ?_)
  refine And.intro (fun c18_ => absurd c18_ (by decide)) (fun c18_ => ?_)
  refine And.intro (fun c19_ => absurd c19_ (by decide)) (fun c19_ => ?_)
  refine And.intro (fun c20_ => absurd c20_ (by decide)) (fun c20_ => ?_)
  refine And.intro (fun c21_ => absurd c21_ (by decide)) (fun c21_ => ?_)
  refine And.intro (fun c22_ => ?_) (fun c22_ => absurd (by decide) c22_)
  show PW 4 d (227, [some (pvR 3), some (pvI 4), some (pvI 1), some (pvI n3), some (pvI 0), some (pvI 51), some (pvI (0 + 1))], [], M9_) _
  refine pw_blk hT 7 (S' := (235, [some (pvR 3), some (pvI 4), some (pvI 1), some (pvI n3), some (pvI 0), some (pvI 51), some (pvI (0 + 1))], [pvI (0 + 1), pvI (n3 + 1), pvI 1, pvI 1, pvR 3], M9_)) rfl ⟨trivial, trivial, trivial, trivial, trivial, trivial, trivial, trivial⟩ ?_
  have e23_ : (M9_.1 3 2) = (M.1 3 2) := (g12_ 3 2 rfl)
  have b24_ : 4 ≤ Int32.toInt (M9_.1 3 2) ∧ Int32.toInt (M9_.1 3 2) ≤ 4 := (by rw [e23_]; exact hc3_2)
  refine pw_callGd hT (as := [pvR 3, pvI 1, pvI 1, pvI (n3 + 1), pvI (0 + 1)]) (lo1 := [some (pvR 3), some (pvI 1), some (pvI 1), some (pvI (n3 + 1)), some (pvI (0 + 1)), none, none]) (d1 := (d - 1)) (rest := []) rfl rfl rfl rfl rfl (fun h => absurd h (by decide)) (show 1 ≤ d by omega) rfl rfl rfl (sf_X0_run_3_1_1_x_1_4 M9_ o11_ (n3 + 1) b14_ b24_ (d - 1) (by omega)) (fun x26_ M27_ b28_ o29_ g30_ d25_ => ?_)
  have f31_ : pvFr fp_X0_run_3_4_1_x_0_4 M M27_ := pvfr_t g30_ f13_ fp_X0_run_3_4_1_x_0_4_fp_X0_run_3_1_1_x_1_4
  have b32_ : 0 ≤ Int32.toInt (M27_.1 3 1) ∧ Int32.toInt (M27_.1 3 1) ≤ 999 := (by have u0 := b14_; have u1 := d25_; have u2 := pvok_r o29_ 3 1 (lo := 0) (hi := 1000000) rfl; omega)
  exact pw_ret hT rfl (r := some (pvI x26_)) (M' := M27_) ⟨rfl, rfl⟩ ⟨⟨_, rfl, trivial⟩, o29_, f31_, (by omega)⟩
set_option maxHeartbeats 4000000 in
set_option maxRecDepth 10000 in
theorem sf_X3_above_4 (M : pvM) (hok : pvOk M) (d : Nat) : PW 131 d (0, [some (pvI 4)], [], M) (fun r X => r = some (pvI (((pvstab 1040).getD (Int32.toNatClampNeg 4) 0))) ∧ X = M) := by
  have hT : pvdom 131 = pvD_131 := rfl
  refine pw_blk hT 1 (S' := (1, [some (pvI 4)], [pvI 4], M)) rfl ⟨trivial, trivial⟩ ?_
  refine pw_if hT (c := 4 < 0) rfl rfl (fun c1_ => absurd c1_ (by decide)) (fun c1_ => ?_)
  refine pw_blk hT 3 (S' := (9, [some (pvI 4)], [pvI (Int32.ofNat (pvstab 1040).length), pvI 4], M)) rfl ⟨trivial, trivial, (by decide), trivial⟩ ?_
  refine pw_ic hT (c := 4 < (Int32.ofNat (pvstab 1040).length)) rfl rfl (fun c2_ => ?_) (fun c2_ => absurd (by decide) c2_)
  refine pw_blk hT 3 (S' := (21, [some (pvI 4)], [pvI ((pvstab 1040).getD (Int32.toNatClampNeg 4) 0)], M)) rfl ⟨trivial, trivial, ⟨by decide, (zr_in (n := 7) (show 4 ≤ Int32.toInt 4 ∧ Int32.toInt 4 ≤ 4 from (by decide)) (by decide) (by decide))⟩, trivial⟩ ?_
  exact pw_ret hT rfl (r := some (pvI ((pvstab 1040).getD (Int32.toNatClampNeg 4) 0))) (M' := M) ⟨rfl, rfl⟩ ⟨rfl, rfl⟩
set_option maxHeartbeats 4000000 in
set_option maxRecDepth 10000 in
theorem sf_X0_bodyFrom_4_2 (M : pvM) (hok : pvOk M) (d : Nat) : PW 1 d (0, [some (pvI 4), some (pvI 2), none, none, none], [], M) (fun r X => r = some (pvI (((pvstab 1041).getD (Int32.toNatClampNeg ((0 * 3) + 2)) 0))) ∧ X = M) := by
  have hT : pvdom 1 = pvD_1 := rfl
  refine pw_blk hT 4 (S' := (4, [some (pvI 4), some (pvI 2), some (pvI 4), some (pvI 0), none], [], M)) rfl ⟨trivial, trivial, trivial, trivial, trivial⟩ ?_
  refine pw_blk hT 3 (S' := (9, [some (pvI 4), some (pvI 2), some (pvI 4), some (pvI 0), none], [pvI (Int32.ofNat (pvstab 1041).length), pvI 0], M)) rfl ⟨trivial, trivial, (by decide), trivial⟩ ?_
  refine pw_ic hT (c := (Int32.ofNat (pvstab 1041).length) ≤ 0) rfl rfl (fun c1_ => absurd c1_ (by decide)) (fun c1_ => ?_)
  refine pw_blk hT 1 (S' := (13, [some (pvI 4), some (pvI 2), some (pvI 4), some (pvI 0), none], [pvI 4], M)) rfl ⟨trivial, trivial⟩ ?_
  refine pw_if hT (c := 4 < 0) rfl rfl (fun c2_ => absurd c2_ (by decide)) (fun c2_ => ?_)
  refine pw_blk hT 7 (S' := (25, [some (pvI 4), some (pvI 2), some (pvI 4), some (pvI 0), some (pvI ((4 * 3) + 2))], [pvI ((4 * 3) + 2)], M)) rfl ⟨trivial, trivial, trivial, trivial, trivial, trivial, trivial, trivial⟩ ?_
  refine pw_if hT (c := ((4 * 3) + 2) < 0) rfl rfl (fun c3_ => absurd c3_ (by decide)) (fun c3_ => ?_)
  refine pw_blk hT 3 (S' := (34, [some (pvI 4), some (pvI 2), some (pvI 4), some (pvI 0), some (pvI ((4 * 3) + 2))], [pvI (Int32.ofNat (pvstab 1041).length), pvI ((4 * 3) + 2)], M)) rfl ⟨trivial, trivial, (by decide), trivial⟩ ?_
  refine pw_ic hT (c := (Int32.ofNat (pvstab 1041).length) ≤ ((4 * 3) + 2)) rfl rfl (fun c4_ => absurd c4_ (by decide)) (fun c4_ => ?_)
  refine pw_blk hT 3 (S' := (43, [some (pvI 4), some (pvI 2), some (pvI 4), some (pvI 0), some (pvI ((4 * 3) + 2))], [pvI ((pvstab 1041).getD (Int32.toNatClampNeg ((4 * 3) + 2)) 0)], M)) rfl ⟨trivial, trivial, ⟨by decide, (zr_in (n := 21) (show 14 ≤ Int32.toInt ((4 * 3) + 2) ∧ Int32.toInt ((4 * 3) + 2) ≤ 14 from (by decide)) (by decide) (by decide))⟩, trivial⟩ ?_
  refine pw_if hT (c := ((pvstab 1041).getD (Int32.toNatClampNeg ((4 * 3) + 2)) 0) = 0) rfl rfl (fun c5_ => ?_) (fun c5_ => absurd (by decide) c5_)
  refine pw_blk hT 1 (S' := (54, [some (pvI 4), some (pvI 2), some (pvI 4), some (pvI 0), some (pvI ((4 * 3) + 2))], [pvI 4], M)) rfl ⟨trivial, trivial⟩ ?_
  refine pw_callT hT (as := [pvI 4]) (lo1 := [some (pvI 4)]) (d1 := d) (rest := []) rfl rfl rfl rfl rfl (fun h => absurd h (by decide)) (Nat.zero_le _) rfl rfl rfl (sf_X3_above_4 M hok d) ?_
  refine pw_eqI (show ((pvstab 1040).getD (Int32.toNatClampNeg 4) 0) = 1 from by decide) ?_
  show PW 1 d (57, [some (pvI 4), some (pvI 2), some (pvI 4), some (pvI 0), some (pvI ((4 * 3) + 2))], [pvI 1], M) _
  refine pw_blk hT 3 (S' := (4, [some (pvI 4), some (pvI 2), some (pvI 1), some (pvI (0 + 1)), some (pvI ((4 * 3) + 2))], [], M)) rfl ⟨trivial, trivial, trivial, trivial⟩ ?_
  refine pw_blk hT 3 (S' := (9, [some (pvI 4), some (pvI 2), some (pvI 1), some (pvI (0 + 1)), some (pvI ((4 * 3) + 2))], [pvI (Int32.ofNat (pvstab 1041).length), pvI (0 + 1)], M)) rfl ⟨trivial, trivial, (by decide), trivial⟩ ?_
  refine pw_ic hT (c := (Int32.ofNat (pvstab 1041).length) ≤ (0 + 1)) rfl rfl (fun c11_ => absurd c11_ (by decide)) (fun c11_ => ?_)
  refine pw_blk hT 1 (S' := (13, [some (pvI 4), some (pvI 2), some (pvI 1), some (pvI (0 + 1)), some (pvI ((4 * 3) + 2))], [pvI 1], M)) rfl ⟨trivial, trivial⟩ ?_
  refine pw_if hT (c := 1 < 0) rfl rfl (fun c12_ => absurd c12_ (by decide)) (fun c12_ => ?_)
  refine pw_blk hT 7 (S' := (25, [some (pvI 4), some (pvI 2), some (pvI 1), some (pvI (0 + 1)), some (pvI ((1 * 3) + 2))], [pvI ((1 * 3) + 2)], M)) rfl ⟨trivial, trivial, trivial, trivial, trivial, trivial, trivial, trivial⟩ ?_
  refine pw_if hT (c := ((1 * 3) + 2) < 0) rfl rfl (fun c13_ => absurd c13_ (by decide)) (fun c13_ => ?_)
  refine pw_blk hT 3 (S' := (34, [some (pvI 4), some (pvI 2), some (pvI 1), some (pvI (0 + 1)), some (pvI ((1 * 3) + 2))], [pvI (Int32.ofNat (pvstab 1041).length), pvI ((1 * 3) + 2)], M)) rfl ⟨trivial, trivial, (by decide), trivial⟩ ?_
  refine pw_ic hT (c := (Int32.ofNat (pvstab 1041).length) ≤ ((1 * 3) + 2)) rfl rfl (fun c14_ => absurd c14_ (by decide)) (fun c14_ => ?_)
  refine pw_blk hT 3 (S' := (43, [some (pvI 4), some (pvI 2), some (pvI 1), some (pvI (0 + 1)), some (pvI ((1 * 3) + 2))], [pvI ((pvstab 1041).getD (Int32.toNatClampNeg ((1 * 3) + 2)) 0)], M)) rfl ⟨trivial, trivial, ⟨by decide, (zr_in (n := 21) (show 5 ≤ Int32.toInt ((1 * 3) + 2) ∧ Int32.toInt ((1 * 3) + 2) ≤ 5 from (by decide)) (by decide) (by decide))⟩, trivial⟩ ?_
  refine pw_if hT (c := ((pvstab 1041).getD (Int32.toNatClampNeg ((1 * 3) + 2)) 0) = 0) rfl rfl (fun c15_ => ?_) (fun c15_ => absurd (by decide) c15_)
  refine pw_blk hT 1 (S' := (54, [some (pvI 4), some (pvI 2), some (pvI 1), some (pvI (0 + 1)), some (pvI ((1 * 3) + 2))], [pvI 1], M)) rfl ⟨trivial, trivial⟩ ?_
  refine pw_callT hT (as := [pvI 1]) (lo1 := [some (pvI 1)]) (d1 := d) (rest := []) rfl rfl rfl rfl rfl (fun h => absurd h (by decide)) (Nat.zero_le _) rfl rfl rfl (sf_X3_above_1 M hok d) ?_
  refine pw_eqI (show ((pvstab 1040).getD (Int32.toNatClampNeg 1) 0) = 0 from by decide) ?_
  show PW 1 d (57, [some (pvI 4), some (pvI 2), some (pvI 1), some (pvI (0 + 1)), some (pvI ((1 * 3) + 2))], [pvI 0], M) _
  refine pw_blk hT 3 (S' := (4, [some (pvI 4), some (pvI 2), some (pvI 0), some (pvI ((0 + 1) + 1)), some (pvI ((1 * 3) + 2))], [], M)) rfl ⟨trivial, trivial, trivial, trivial⟩ ?_
  refine pw_blk hT 3 (S' := (9, [some (pvI 4), some (pvI 2), some (pvI 0), some (pvI ((0 + 1) + 1)), some (pvI ((1 * 3) + 2))], [pvI (Int32.ofNat (pvstab 1041).length), pvI ((0 + 1) + 1)], M)) rfl ⟨trivial, trivial, (by decide), trivial⟩ ?_
  refine pw_ic hT (c := (Int32.ofNat (pvstab 1041).length) ≤ ((0 + 1) + 1)) rfl rfl (fun c21_ => absurd c21_ (by decide)) (fun c21_ => ?_)
  refine pw_blk hT 1 (S' := (13, [some (pvI 4), some (pvI 2), some (pvI 0), some (pvI ((0 + 1) + 1)), some (pvI ((1 * 3) + 2))], [pvI 0], M)) rfl ⟨trivial, trivial⟩ ?_
  refine pw_if hT (c := 0 < 0) rfl rfl (fun c22_ => absurd c22_ (by decide)) (fun c22_ => ?_)
  refine pw_blk hT 7 (S' := (25, [some (pvI 4), some (pvI 2), some (pvI 0), some (pvI ((0 + 1) + 1)), some (pvI ((0 * 3) + 2))], [pvI ((0 * 3) + 2)], M)) rfl ⟨trivial, trivial, trivial, trivial, trivial, trivial, trivial, trivial⟩ ?_
  refine pw_if hT (c := ((0 * 3) + 2) < 0) rfl rfl (fun c23_ => absurd c23_ (by decide)) (fun c23_ => ?_)
  refine pw_blk hT 3 (S' := (34, [some (pvI 4), some (pvI 2), some (pvI 0), some (pvI ((0 + 1) + 1)), some (pvI ((0 * 3) + 2))], [pvI (Int32.ofNat (pvstab 1041).length), pvI ((0 * 3) + 2)], M)) rfl ⟨trivial, trivial, (by decide), trivial⟩ ?_
  refine pw_ic hT (c := (Int32.ofNat (pvstab 1041).length) ≤ ((0 * 3) + 2)) rfl rfl (fun c24_ => absurd c24_ (by decide)) (fun c24_ => ?_)
  refine pw_blk hT 3 (S' := (43, [some (pvI 4), some (pvI 2), some (pvI 0), some (pvI ((0 + 1) + 1)), some (pvI ((0 * 3) + 2))], [pvI ((pvstab 1041).getD (Int32.toNatClampNeg ((0 * 3) + 2)) 0)], M)) rfl ⟨trivial, trivial, ⟨by decide, (zr_in (n := 21) (show 2 ≤ Int32.toInt ((0 * 3) + 2) ∧ Int32.toInt ((0 * 3) + 2) ≤ 2 from (by decide)) (by decide) (by decide))⟩, trivial⟩ ?_
  refine pw_if hT (c := ((pvstab 1041).getD (Int32.toNatClampNeg ((0 * 3) + 2)) 0) = 0) rfl rfl (fun c25_ => absurd c25_ (by decide)) (fun c25_ => ?_)
  refine pw_blk hT 3 (S' := (52, [some (pvI 4), some (pvI 2), some (pvI 0), some (pvI ((0 + 1) + 1)), some (pvI ((0 * 3) + 2))], [pvI ((pvstab 1041).getD (Int32.toNatClampNeg ((0 * 3) + 2)) 0)], M)) rfl ⟨trivial, trivial, ⟨by decide, (zr_in (n := 21) (show 2 ≤ Int32.toInt ((0 * 3) + 2) ∧ Int32.toInt ((0 * 3) + 2) ≤ 2 from (by decide)) (by decide) (by decide))⟩, trivial⟩ ?_
  exact pw_ret hT rfl (r := some (pvI ((pvstab 1041).getD (Int32.toNatClampNeg ((0 * 3) + 2)) 0))) (M' := M) ⟨rfl, rfl⟩ ⟨rfl, rfl⟩
def fpL_X0_run_3_1_0_x_5_4 : List (Nat × Nat × Nat) := [(0, 3, 2), (0, 4, 0)]
def fp_X0_run_3_1_0_x_5_4 (q k : Nat) : Bool := pvfp fpL_X0_run_3_1_0_x_5_4 q k
theorem fp_X0_run_3_1_0_x_5_4_fp_X0_note_3_x (a b : Nat) (h : fp_X0_note_3_x a b = true) : fp_X0_run_3_1_0_x_5_4 a b = true := pvfp_sub (l1 := fpL_X0_note_3_x) (l2 := fpL_X0_run_3_1_0_x_5_4) (by decide) a b h
set_option maxHeartbeats 4000000 in
set_option maxRecDepth 10000 in
theorem sf_X0_run_3_1_0_x_5_4 (M : pvM) (hok : pvOk M) (n3 : Int32) (hc3_1 : 0 ≤ Int32.toInt (M.1 3 1) ∧ Int32.toInt (M.1 3 1) ≤ 998) (hc3_2 : 4 ≤ Int32.toInt (M.1 3 2) ∧ Int32.toInt (M.1 3 2) ≤ 4) (d : Nat) : PW 4 d (0, [some (pvR 3), some (pvI 1), some (pvI 0), some (pvI n3), some (pvI 5), none, none], [], M) (fun r X => (∃ x : Int32, r = some (pvI x) ∧ True) ∧ pvOk X ∧ pvFr fp_X0_run_3_1_0_x_5_4 M X ∧ Int32.toInt (X.1 3 1) ≤ Int32.toInt (M.1 3 1) + 1) := by
  have hT : pvdom 4 = pvD_4 := rfl
  refine pw_blk hT 2 (S' := (4, [some (pvR 3), some (pvI 1), some (pvI 0), some (pvI n3), some (pvI 5), none, none], [pvI 40, pvI 5], M)) rfl ⟨trivial, trivial, trivial⟩ ?_
  refine pw_ic hT (c := 5 ≤ 40) rfl rfl (fun c1_ => ?_) (fun c1_ => absurd (by decide) c1_)
  refine pw_blk hT 2 (S' := (11, [some (pvR 3), some (pvI 1), some (pvI 0), some (pvI n3), some (pvI 5), none, none], [pvI 0, pvI 1], M)) rfl ⟨trivial, trivial, trivial⟩ ?_
  refine pw_callT hT (as := [pvI 1, pvI 0]) (lo1 := [some (pvI 1), some (pvI 0), none, none, none]) (d1 := d) (rest := []) rfl rfl rfl rfl rfl (fun h => absurd h (by decide)) (Nat.zero_le _) rfl rfl rfl (sf_X0_bodyFrom_1_0 M hok d) ?_
  refine pw_eqI (show ((pvstab 1041).getD (Int32.toNatClampNeg ((0 * 3) + 0)) 0) = 10 from by decide) ?_
  show PW 4 d (14, [some (pvR 3), some (pvI 1), some (pvI 0), some (pvI n3), some (pvI 5), none, none], [pvI 10], M) _
  refine pw_blk hT 7 (S' := (25, [some (pvR 3), some (pvI 1), some (pvI 0), some (pvI n3), some (pvI 5), some (pvI 10), some (pvI (5 + 1))], [pvI 10, pvR 3], M)) rfl ⟨trivial, trivial, trivial, trivial, trivial, trivial, trivial, trivial⟩ ?_
  refine pw_callVd hT (as := [pvR 3, pvI 10]) (lo1 := [some (pvR 3), some (pvI 10)]) (d1 := d) (rest := []) rfl rfl rfl rfl rfl (fun _ => rfl) (Nat.zero_le _) rfl rfl rfl (sf_X0_note_3_x M hok 10 (zr_wide (show 10 ≤ Int32.toInt 10 ∧ Int32.toInt 10 ≤ 10 from (by decide)) (by decide) (by decide)) (zr_wide hc3_1 (by decide) (by decide)) d) (fun M9_ o11_ g12_ d7_ => ?_)
  have f13_ : pvFr fp_X0_run_3_1_0_x_5_4 M M9_ := pvfr_t g12_ pvfr_0 fp_X0_run_3_1_0_x_5_4_fp_X0_note_3_x
  have b14_ : 0 ≤ Int32.toInt (M9_.1 3 1) ∧ Int32.toInt (M9_.1 3 1) ≤ 999 := (by have u0 := hc3_1; have u1 := d7_; have u2 := pvok_r o11_ 3 1 (lo := 0) (hi := 1000000) rfl; omega)
  refine pw_blk hT 1 (S' := (30, [some (pvR 3), some (pvI 1), some (pvI 0), some (pvI n3), some (pvI 5), some (pvI 10), some (pvI (5 + 1))], [pvI 10], M9_)) rfl ⟨trivial, trivial⟩ ?_
  refine pw_sw hT rfl rfl ?_
  refine And.intro (fun c15_ => ?_) (fun c15_ => absurd (by decide) c15_)
  show PW 4 d (128, [some (pvR 3), some (pvI 1), some (pvI 0), some (pvI n3), some (pvI 5), some (pvI 10), some (pvI (5 + 1))], [], M9_) _
  refine pw_blk hT 4 (S' := (134, [some (pvR 3), some (pvI 1), some (pvI 0), some (pvI n3), some (pvI 5), some (pvI 10), some (pvI (5 + 1))], [pvI (n3 + (M9_.1 3 4))], M9_)) rfl ⟨trivial, trivial, rfl, trivial, trivial⟩ ?_
  exact pw_ret hT rfl (r := some (pvI (n3 + (M9_.1 3 4)))) (M' := M9_) ⟨rfl, rfl⟩ ⟨⟨_, rfl, trivial⟩, o11_, f13_, (by omega)⟩
def fpL_X0_run_3_4_0_x_4_4 : List (Nat × Nat × Nat) := [(0, 3, 2), (0, 4, 0)]
def fp_X0_run_3_4_0_x_4_4 (q k : Nat) : Bool := pvfp fpL_X0_run_3_4_0_x_4_4 q k
theorem fp_X0_run_3_4_0_x_4_4_fp_X0_note_3_x (a b : Nat) (h : fp_X0_note_3_x a b = true) : fp_X0_run_3_4_0_x_4_4 a b = true := pvfp_sub (l1 := fpL_X0_note_3_x) (l2 := fpL_X0_run_3_4_0_x_4_4) (by decide) a b h
theorem fp_X0_run_3_4_0_x_4_4_fp_X0_run_3_1_0_x_5_4 (a b : Nat) (h : fp_X0_run_3_1_0_x_5_4 a b = true) : fp_X0_run_3_4_0_x_4_4 a b = true := pvfp_sub (l1 := fpL_X0_run_3_1_0_x_5_4) (l2 := fpL_X0_run_3_4_0_x_4_4) (by decide) a b h
set_option maxHeartbeats 4000000 in
set_option maxRecDepth 10000 in
theorem sf_X0_run_3_4_0_x_4_4 (M : pvM) (hok : pvOk M) (n3 : Int32) (hc3_1 : 0 ≤ Int32.toInt (M.1 3 1) ∧ Int32.toInt (M.1 3 1) ≤ 997) (hc3_2 : 4 ≤ Int32.toInt (M.1 3 2) ∧ Int32.toInt (M.1 3 2) ≤ 4) (d : Nat) (hd : 1 ≤ d) : PW 4 d (0, [some (pvR 3), some (pvI 4), some (pvI 0), some (pvI n3), some (pvI 4), none, none], [], M) (fun r X => (∃ x : Int32, r = some (pvI x) ∧ True) ∧ pvOk X ∧ pvFr fp_X0_run_3_4_0_x_4_4 M X ∧ Int32.toInt (X.1 3 1) ≤ Int32.toInt (M.1 3 1) + 2) := by
  have hT : pvdom 4 = pvD_4 := rfl
  refine pw_blk hT 2 (S' := (4, [some (pvR 3), some (pvI 4), some (pvI 0), some (pvI n3), some (pvI 4), none, none], [pvI 40, pvI 4], M)) rfl ⟨trivial, trivial, trivial⟩ ?_
  refine pw_ic hT (c := 4 ≤ 40) rfl rfl (fun c1_ => ?_) (fun c1_ => absurd (by decide) c1_)
  refine pw_blk hT 2 (S' := (11, [some (pvR 3), some (pvI 4), some (pvI 0), some (pvI n3), some (pvI 4), none, none], [pvI 0, pvI 4], M)) rfl ⟨trivial, trivial, trivial⟩ ?_
  refine pw_callT hT (as := [pvI 4, pvI 0]) (lo1 := [some (pvI 4), some (pvI 0), none, none, none]) (d1 := d) (rest := []) rfl rfl rfl rfl rfl (fun h => absurd h (by decide)) (Nat.zero_le _) rfl rfl rfl (sf_X0_bodyFrom_4_0 M hok d) ?_
  refine pw_eqI (show ((pvstab 1041).getD (Int32.toNatClampNeg ((4 * 3) + 0)) 0) = 50 from by decide) ?_
  show PW 4 d (14, [some (pvR 3), some (pvI 4), some (pvI 0), some (pvI n3), some (pvI 4), none, none], [pvI 50], M) _
  refine pw_blk hT 7 (S' := (25, [some (pvR 3), some (pvI 4), some (pvI 0), some (pvI n3), some (pvI 4), some (pvI 50), some (pvI (4 + 1))], [pvI 50, pvR 3], M)) rfl ⟨trivial, trivial, trivial, trivial, trivial, trivial, trivial, trivial⟩ ?_
  refine pw_callVd hT (as := [pvR 3, pvI 50]) (lo1 := [some (pvR 3), some (pvI 50)]) (d1 := d) (rest := []) rfl rfl rfl rfl rfl (fun _ => rfl) (Nat.zero_le _) rfl rfl rfl (sf_X0_note_3_x M hok 50 (zr_wide (show 50 ≤ Int32.toInt 50 ∧ Int32.toInt 50 ≤ 50 from (by decide)) (by decide) (by decide)) (zr_wide hc3_1 (by decide) (by decide)) d) (fun M9_ o11_ g12_ d7_ => ?_)
  have f13_ : pvFr fp_X0_run_3_4_0_x_4_4 M M9_ := pvfr_t g12_ pvfr_0 fp_X0_run_3_4_0_x_4_4_fp_X0_note_3_x
  have b14_ : 0 ≤ Int32.toInt (M9_.1 3 1) ∧ Int32.toInt (M9_.1 3 1) ≤ 998 := (by have u0 := hc3_1; have u1 := d7_; have u2 := pvok_r o11_ 3 1 (lo := 0) (hi := 1000000) rfl; omega)
  refine pw_blk hT 1 (S' := (30, [some (pvR 3), some (pvI 4), some (pvI 0), some (pvI n3), some (pvI 4), some (pvI 50), some (pvI (4 + 1))], [pvI 50], M9_)) rfl ⟨trivial, trivial⟩ ?_
  refine pw_sw hT rfl rfl ?_
  refine And.intro (fun c15_ => absurd c15_ (by decide)) (fun c15_ => ?_)
  refine And.intro (fun c16_ => absurd c16_ (by decide)) (fun c16_ => ?_)
  refine And.intro (fun c17_ => absurd c17_ (by decide)) (fun c17_ => ?_)
  refine And.intro (fun c18_ => absurd c18_ (by decide)) (fun c18_ => ?_)
  refine And.intro (fun c19_ => absurd c19_ (by decide)) (fun c19_ => ?_)
  refine And.intro (fun c20_ => absurd c20_ (by decide)) (fun c20_ => ?_)
  refine And.intro (fun c21_ => ?_) (fun c21_ => absurd (by decide) c21_)
  show PW 4 d (216, [some (pvR 3), some (pvI 4), some (pvI 0), some (pvI n3), some (pvI 4), some (pvI 50), some (pvI (4 + 1))], [], M9_) _
  refine pw_blk hT 5 (S' := (222, [some (pvR 3), some (pvI 4), some (pvI 0), some (pvI n3), some (pvI 4), some (pvI 50), some (pvI (4 + 1))], [pvI (4 + 1), pvI n3, pvI 0, pvI 1, pvR 3], M9_)) rfl ⟨trivial, trivial, trivial, trivial, trivial, trivial⟩ ?_
  have e22_ : (M9_.1 3 2) = (M.1 3 2) := (g12_ 3 2 rfl)
  have b23_ : 4 ≤ Int32.toInt (M9_.1 3 2) ∧ Int32.toInt (M9_.1 3 2) ≤ 4 := (by rw [e22_]; exact hc3_2)
  refine pw_callGd hT (as := [pvR 3, pvI 1, pvI 0, pvI n3, pvI (4 + 1)]) (lo1 := [some (pvR 3), some (pvI 1), some (pvI 0), some (pvI n3), some (pvI (4 + 1)), none, none]) (d1 := (d - 1)) (rest := []) rfl rfl rfl rfl rfl (fun h => absurd h (by decide)) (show 1 ≤ d by omega) rfl rfl rfl (sf_X0_run_3_1_0_x_5_4 M9_ o11_ n3 b14_ b23_ (d - 1)) (fun x25_ M26_ b27_ o28_ g29_ d24_ => ?_)
  have f30_ : pvFr fp_X0_run_3_4_0_x_4_4 M M26_ := pvfr_t g29_ f13_ fp_X0_run_3_4_0_x_4_4_fp_X0_run_3_1_0_x_5_4
  have b31_ : 0 ≤ Int32.toInt (M26_.1 3 1) ∧ Int32.toInt (M26_.1 3 1) ≤ 999 := (by have u0 := b14_; have u1 := d24_; have u2 := pvok_r o28_ 3 1 (lo := 0) (hi := 1000000) rfl; omega)
  refine pw_blk hT 1 (S' := (226, [some (pvR 3), some (pvI 4), some (pvI 0), some (pvI n3), some (pvI 4), some (pvI 50), some (pvI (4 + 1))], [pvI (-x25_)], M26_)) rfl ⟨trivial, trivial⟩ ?_
  exact pw_ret hT rfl (r := some (pvI (-x25_))) (M' := M26_) ⟨rfl, rfl⟩ ⟨⟨_, rfl, trivial⟩, o28_, f30_, (by omega)⟩
def fpL_X0_run_3_0_1_x_3_4 : List (Nat × Nat × Nat) := [(0, 3, 2), (0, 4, 0)]
def fp_X0_run_3_0_1_x_3_4 (q k : Nat) : Bool := pvfp fpL_X0_run_3_0_1_x_3_4 q k
theorem fp_X0_run_3_0_1_x_3_4_fp_X0_note_3_x (a b : Nat) (h : fp_X0_note_3_x a b = true) : fp_X0_run_3_0_1_x_3_4 a b = true := pvfp_sub (l1 := fpL_X0_note_3_x) (l2 := fpL_X0_run_3_0_1_x_3_4) (by decide) a b h
theorem fp_X0_run_3_0_1_x_3_4_fp_X0_run_3_4_0_x_4_4 (a b : Nat) (h : fp_X0_run_3_4_0_x_4_4 a b = true) : fp_X0_run_3_0_1_x_3_4 a b = true := pvfp_sub (l1 := fpL_X0_run_3_4_0_x_4_4) (l2 := fpL_X0_run_3_0_1_x_3_4) (by decide) a b h
set_option maxHeartbeats 4000000 in
set_option maxRecDepth 10000 in
theorem sf_X0_run_3_0_1_x_3_4 (M : pvM) (hok : pvOk M) (n3 : Int32) (hc3_1 : 0 ≤ Int32.toInt (M.1 3 1) ∧ Int32.toInt (M.1 3 1) ≤ 996) (hc3_2 : 4 ≤ Int32.toInt (M.1 3 2) ∧ Int32.toInt (M.1 3 2) ≤ 4) (d : Nat) (hd : 2 ≤ d) : PW 4 d (0, [some (pvR 3), some (pvI 0), some (pvI 1), some (pvI n3), some (pvI 3), none, none], [], M) (fun r X => (∃ x : Int32, r = some (pvI x) ∧ True) ∧ pvOk X ∧ pvFr fp_X0_run_3_0_1_x_3_4 M X ∧ Int32.toInt (X.1 3 1) ≤ Int32.toInt (M.1 3 1) + 3) := by
  have hT : pvdom 4 = pvD_4 := rfl
  refine pw_blk hT 2 (S' := (4, [some (pvR 3), some (pvI 0), some (pvI 1), some (pvI n3), some (pvI 3), none, none], [pvI 40, pvI 3], M)) rfl ⟨trivial, trivial, trivial⟩ ?_
  refine pw_ic hT (c := 3 ≤ 40) rfl rfl (fun c1_ => ?_) (fun c1_ => absurd (by decide) c1_)
  refine pw_blk hT 2 (S' := (11, [some (pvR 3), some (pvI 0), some (pvI 1), some (pvI n3), some (pvI 3), none, none], [pvI 1, pvI 0], M)) rfl ⟨trivial, trivial, trivial⟩ ?_
  refine pw_callT hT (as := [pvI 0, pvI 1]) (lo1 := [some (pvI 0), some (pvI 1), none, none, none]) (d1 := d) (rest := []) rfl rfl rfl rfl rfl (fun h => absurd h (by decide)) (Nat.zero_le _) rfl rfl rfl (sf_X0_bodyFrom_0_1 M hok d) ?_
  refine pw_eqI (show ((pvstab 1041).getD (Int32.toNatClampNeg ((0 * 3) + 1)) 0) = 11 from by decide) ?_
  show PW 4 d (14, [some (pvR 3), some (pvI 0), some (pvI 1), some (pvI n3), some (pvI 3), none, none], [pvI 11], M) _
  refine pw_blk hT 7 (S' := (25, [some (pvR 3), some (pvI 0), some (pvI 1), some (pvI n3), some (pvI 3), some (pvI 11), some (pvI (3 + 1))], [pvI 11, pvR 3], M)) rfl ⟨trivial, trivial, trivial, trivial, trivial, trivial, trivial, trivial⟩ ?_
  refine pw_callVd hT (as := [pvR 3, pvI 11]) (lo1 := [some (pvR 3), some (pvI 11)]) (d1 := d) (rest := []) rfl rfl rfl rfl rfl (fun _ => rfl) (Nat.zero_le _) rfl rfl rfl (sf_X0_note_3_x M hok 11 (zr_wide (show 11 ≤ Int32.toInt 11 ∧ Int32.toInt 11 ≤ 11 from (by decide)) (by decide) (by decide)) (zr_wide hc3_1 (by decide) (by decide)) d) (fun M9_ o11_ g12_ d7_ => ?_)
  have f13_ : pvFr fp_X0_run_3_0_1_x_3_4 M M9_ := pvfr_t g12_ pvfr_0 fp_X0_run_3_0_1_x_3_4_fp_X0_note_3_x
  have b14_ : 0 ≤ Int32.toInt (M9_.1 3 1) ∧ Int32.toInt (M9_.1 3 1) ≤ 997 := (by have u0 := hc3_1; have u1 := d7_; have u2 := pvok_r o11_ 3 1 (lo := 0) (hi := 1000000) rfl; omega)
  refine pw_blk hT 1 (S' := (30, [some (pvR 3), some (pvI 0), some (pvI 1), some (pvI n3), some (pvI 3), some (pvI 11), some (pvI (3 + 1))], [pvI 11], M9_)) rfl ⟨trivial, trivial⟩ ?_
  refine pw_sw hT rfl rfl ?_
  refine And.intro (fun c15_ => absurd c15_ (by decide)) (fun c15_ => ?_)
  refine And.intro (fun c16_ => ?_) (fun c16_ => absurd (by decide) c16_)
  show PW 4 d (135, [some (pvR 3), some (pvI 0), some (pvI 1), some (pvI n3), some (pvI 3), some (pvI 11), some (pvI (3 + 1))], [], M9_) _
  have e17_ : (M9_.1 3 2) = (M.1 3 2) := (g12_ 3 2 rfl)
  have b18_ : 4 ≤ Int32.toInt (M9_.1 3 2) ∧ Int32.toInt (M9_.1 3 2) ≤ 4 := (by rw [e17_]; exact hc3_2)
  refine pw_blk hT 3 (S' := (140, [some (pvR 3), some (pvI 0), some (pvI 1), some (pvI n3), some (pvI 3), some (pvI 11), some (pvI (3 + 1))], [pvI (M9_.1 3 2), pvR 3], M9_)) rfl ⟨trivial, trivial, rfl, trivial⟩ ?_
  refine pw_eqI ((zi_eq _ (4)).mpr (by have u0 := b18_; have u1 : Int32.toInt (4) = 4 := (by decide); omega)) ?_
  refine pw_blk hT 3 (S' := (144, [some (pvR 3), some (pvI 0), some (pvI 1), some (pvI n3), some (pvI 3), some (pvI 11), some (pvI (3 + 1))], [pvI (3 + 1), pvI n3, pvI 0, pvI 4, pvR 3], M9_)) rfl ⟨trivial, trivial, trivial, trivial⟩ ?_
  refine pw_callGd hT (as := [pvR 3, pvI 4, pvI 0, pvI n3, pvI (3 + 1)]) (lo1 := [some (pvR 3), some (pvI 4), some (pvI 0), some (pvI n3), some (pvI (3 + 1)), none, none]) (d1 := (d - 1)) (rest := []) rfl rfl rfl rfl rfl (fun h => absurd h (by decide)) (show 1 ≤ d by omega) rfl rfl rfl (sf_X0_run_3_4_0_x_4_4 M9_ o11_ n3 b14_ b18_ (d - 1) (by omega)) (fun x20_ M21_ b22_ o23_ g24_ d19_ => ?_)
  have f25_ : pvFr fp_X0_run_3_0_1_x_3_4 M M21_ := pvfr_t g24_ f13_ fp_X0_run_3_0_1_x_3_4_fp_X0_run_3_4_0_x_4_4
  have b26_ : 0 ≤ Int32.toInt (M21_.1 3 1) ∧ Int32.toInt (M21_.1 3 1) ≤ 999 := (by have u0 := b14_; have u1 := d19_; have u2 := pvok_r o23_ 3 1 (lo := 0) (hi := 1000000) rfl; omega)
  refine pw_blk hT 3 (S' := (152, [some (pvR 3), some (pvI 0), some (pvI 1), some (pvI n3), some (pvI 3), some (pvI 11), some (pvI (3 + 1))], [pvI (x20_ - (M21_.1 3 3))], M21_)) rfl ⟨trivial, rfl, trivial, trivial⟩ ?_
  exact pw_ret hT rfl (r := some (pvI (x20_ - (M21_.1 3 3)))) (M' := M21_) ⟨rfl, rfl⟩ ⟨⟨_, rfl, trivial⟩, o23_, f25_, (by omega)⟩
def fpL_X0_run_3_1_1_x_2_4 : List (Nat × Nat × Nat) := [(0, 3, 2), (0, 4, 0)]
def fp_X0_run_3_1_1_x_2_4 (q k : Nat) : Bool := pvfp fpL_X0_run_3_1_1_x_2_4 q k
theorem fp_X0_run_3_1_1_x_2_4_fp_X0_note_3_x (a b : Nat) (h : fp_X0_note_3_x a b = true) : fp_X0_run_3_1_1_x_2_4 a b = true := pvfp_sub (l1 := fpL_X0_note_3_x) (l2 := fpL_X0_run_3_1_1_x_2_4) (by decide) a b h
theorem fp_X0_run_3_1_1_x_2_4_fp_X0_run_3_0_1_x_3_4 (a b : Nat) (h : fp_X0_run_3_0_1_x_3_4 a b = true) : fp_X0_run_3_1_1_x_2_4 a b = true := pvfp_sub (l1 := fpL_X0_run_3_0_1_x_3_4) (l2 := fpL_X0_run_3_1_1_x_2_4) (by decide) a b h
set_option maxHeartbeats 4000000 in
set_option maxRecDepth 10000 in
theorem sf_X0_run_3_1_1_x_2_4 (M : pvM) (hok : pvOk M) (n3 : Int32) (hc3_1 : 0 ≤ Int32.toInt (M.1 3 1) ∧ Int32.toInt (M.1 3 1) ≤ 995) (hc3_2 : 4 ≤ Int32.toInt (M.1 3 2) ∧ Int32.toInt (M.1 3 2) ≤ 4) (d : Nat) (hd : 3 ≤ d) : PW 4 d (0, [some (pvR 3), some (pvI 1), some (pvI 1), some (pvI n3), some (pvI 2), none, none], [], M) (fun r X => (∃ x : Int32, r = some (pvI x) ∧ True) ∧ pvOk X ∧ pvFr fp_X0_run_3_1_1_x_2_4 M X ∧ Int32.toInt (X.1 3 1) ≤ Int32.toInt (M.1 3 1) + 4) := by
  have hT : pvdom 4 = pvD_4 := rfl
  refine pw_blk hT 2 (S' := (4, [some (pvR 3), some (pvI 1), some (pvI 1), some (pvI n3), some (pvI 2), none, none], [pvI 40, pvI 2], M)) rfl ⟨trivial, trivial, trivial⟩ ?_
  refine pw_ic hT (c := 2 ≤ 40) rfl rfl (fun c1_ => ?_) (fun c1_ => absurd (by decide) c1_)
  refine pw_blk hT 2 (S' := (11, [some (pvR 3), some (pvI 1), some (pvI 1), some (pvI n3), some (pvI 2), none, none], [pvI 1, pvI 1], M)) rfl ⟨trivial, trivial, trivial⟩ ?_
  refine pw_callT hT (as := [pvI 1, pvI 1]) (lo1 := [some (pvI 1), some (pvI 1), none, none, none]) (d1 := d) (rest := []) rfl rfl rfl rfl rfl (fun h => absurd h (by decide)) (Nat.zero_le _) rfl rfl rfl (sf_X0_bodyFrom_1_1 M hok d) ?_
  refine pw_eqI (show ((pvstab 1041).getD (Int32.toNatClampNeg ((1 * 3) + 1)) 0) = 20 from by decide) ?_
  show PW 4 d (14, [some (pvR 3), some (pvI 1), some (pvI 1), some (pvI n3), some (pvI 2), none, none], [pvI 20], M) _
  refine pw_blk hT 7 (S' := (25, [some (pvR 3), some (pvI 1), some (pvI 1), some (pvI n3), some (pvI 2), some (pvI 20), some (pvI (2 + 1))], [pvI 20, pvR 3], M)) rfl ⟨trivial, trivial, trivial, trivial, trivial, trivial, trivial, trivial⟩ ?_
  refine pw_callVd hT (as := [pvR 3, pvI 20]) (lo1 := [some (pvR 3), some (pvI 20)]) (d1 := d) (rest := []) rfl rfl rfl rfl rfl (fun _ => rfl) (Nat.zero_le _) rfl rfl rfl (sf_X0_note_3_x M hok 20 (zr_wide (show 20 ≤ Int32.toInt 20 ∧ Int32.toInt 20 ≤ 20 from (by decide)) (by decide) (by decide)) (zr_wide hc3_1 (by decide) (by decide)) d) (fun M9_ o11_ g12_ d7_ => ?_)
  have f13_ : pvFr fp_X0_run_3_1_1_x_2_4 M M9_ := pvfr_t g12_ pvfr_0 fp_X0_run_3_1_1_x_2_4_fp_X0_note_3_x
  have b14_ : 0 ≤ Int32.toInt (M9_.1 3 1) ∧ Int32.toInt (M9_.1 3 1) ≤ 996 := (by have u0 := hc3_1; have u1 := d7_; have u2 := pvok_r o11_ 3 1 (lo := 0) (hi := 1000000) rfl; omega)
  refine pw_blk hT 1 (S' := (30, [some (pvR 3), some (pvI 1), some (pvI 1), some (pvI n3), some (pvI 2), some (pvI 20), some (pvI (2 + 1))], [pvI 20], M9_)) rfl ⟨trivial, trivial⟩ ?_
  refine pw_sw hT rfl rfl ?_
  refine And.intro (fun c15_ => absurd c15_ (by decide)) (fun c15_ => ?_)
  refine And.intro (fun c16_ => absurd c16_ (by decide)) (fun c16_ => ?_)
  refine And.intro (fun c17_ => absurd c17_ (by decide)) (fun c17_ => ?_)
  refine And.intro (fun c18_ => ?_) (fun c18_ => absurd (by decide) c18_)
  show PW 4 d (168, [some (pvR 3), some (pvI 1), some (pvI 1), some (pvI n3), some (pvI 2), some (pvI 20), some (pvI (2 + 1))], [], M9_) _
  refine pw_blk hT 5 (S' := (174, [some (pvR 3), some (pvI 1), some (pvI 1), some (pvI n3), some (pvI 2), some (pvI 20), some (pvI (2 + 1))], [pvI (2 + 1), pvI n3, pvI 1, pvI 0, pvR 3], M9_)) rfl ⟨trivial, trivial, trivial, trivial, trivial, trivial⟩ ?_
  have e19_ : (M9_.1 3 2) = (M.1 3 2) := (g12_ 3 2 rfl)
  have b20_ : 4 ≤ Int32.toInt (M9_.1 3 2) ∧ Int32.toInt (M9_.1 3 2) ≤ 4 := (by rw [e19_]; exact hc3_2)
  refine pw_callGd hT (as := [pvR 3, pvI 0, pvI 1, pvI n3, pvI (2 + 1)]) (lo1 := [some (pvR 3), some (pvI 0), some (pvI 1), some (pvI n3), some (pvI (2 + 1)), none, none]) (d1 := (d - 1)) (rest := []) rfl rfl rfl rfl rfl (fun h => absurd h (by decide)) (show 1 ≤ d by omega) rfl rfl rfl (sf_X0_run_3_0_1_x_3_4 M9_ o11_ n3 b14_ b20_ (d - 1) (by omega)) (fun x22_ M23_ b24_ o25_ g26_ d21_ => ?_)
  have f27_ : pvFr fp_X0_run_3_1_1_x_2_4 M M23_ := pvfr_t g26_ f13_ fp_X0_run_3_1_1_x_2_4_fp_X0_run_3_0_1_x_3_4
  have b28_ : 0 ≤ Int32.toInt (M23_.1 3 1) ∧ Int32.toInt (M23_.1 3 1) ≤ 999 := (by have u0 := b14_; have u1 := d21_; have u2 := pvok_r o25_ 3 1 (lo := 0) (hi := 1000000) rfl; omega)
  refine pw_blk hT 2 (S' := (180, [some (pvR 3), some (pvI 1), some (pvI 1), some (pvI n3), some (pvI 2), some (pvI 20), some (pvI (2 + 1))], [pvI (x22_ ^^^ 6)], M23_)) rfl ⟨trivial, trivial, trivial⟩ ?_
  exact pw_ret hT rfl (r := some (pvI (x22_ ^^^ 6))) (M' := M23_) ⟨rfl, rfl⟩ ⟨⟨_, rfl, trivial⟩, o25_, f27_, (by omega)⟩
def fpL_X0_run_3_4_1_x_1_4 : List (Nat × Nat × Nat) := [(0, 3, 2), (0, 4, 0)]
def fp_X0_run_3_4_1_x_1_4 (q k : Nat) : Bool := pvfp fpL_X0_run_3_4_1_x_1_4 q k
theorem fp_X0_run_3_4_1_x_1_4_fp_X0_note_3_x (a b : Nat) (h : fp_X0_note_3_x a b = true) : fp_X0_run_3_4_1_x_1_4 a b = true := pvfp_sub (l1 := fpL_X0_note_3_x) (l2 := fpL_X0_run_3_4_1_x_1_4) (by decide) a b h
theorem fp_X0_run_3_4_1_x_1_4_fp_X0_run_3_1_1_x_2_4 (a b : Nat) (h : fp_X0_run_3_1_1_x_2_4 a b = true) : fp_X0_run_3_4_1_x_1_4 a b = true := pvfp_sub (l1 := fpL_X0_run_3_1_1_x_2_4) (l2 := fpL_X0_run_3_4_1_x_1_4) (by decide) a b h
set_option maxHeartbeats 4000000 in
set_option maxRecDepth 10000 in
theorem sf_X0_run_3_4_1_x_1_4 (M : pvM) (hok : pvOk M) (n3 : Int32) (hc3_1 : 0 ≤ Int32.toInt (M.1 3 1) ∧ Int32.toInt (M.1 3 1) ≤ 994) (hc3_2 : 4 ≤ Int32.toInt (M.1 3 2) ∧ Int32.toInt (M.1 3 2) ≤ 4) (d : Nat) (hd : 4 ≤ d) : PW 4 d (0, [some (pvR 3), some (pvI 4), some (pvI 1), some (pvI n3), some (pvI 1), none, none], [], M) (fun r X => (∃ x : Int32, r = some (pvI x) ∧ True) ∧ pvOk X ∧ pvFr fp_X0_run_3_4_1_x_1_4 M X ∧ Int32.toInt (X.1 3 1) ≤ Int32.toInt (M.1 3 1) + 5) := by
  have hT : pvdom 4 = pvD_4 := rfl
  refine pw_blk hT 2 (S' := (4, [some (pvR 3), some (pvI 4), some (pvI 1), some (pvI n3), some (pvI 1), none, none], [pvI 40, pvI 1], M)) rfl ⟨trivial, trivial, trivial⟩ ?_
  refine pw_ic hT (c := 1 ≤ 40) rfl rfl (fun c1_ => ?_) (fun c1_ => absurd (by decide) c1_)
  refine pw_blk hT 2 (S' := (11, [some (pvR 3), some (pvI 4), some (pvI 1), some (pvI n3), some (pvI 1), none, none], [pvI 1, pvI 4], M)) rfl ⟨trivial, trivial, trivial⟩ ?_
  refine pw_callT hT (as := [pvI 4, pvI 1]) (lo1 := [some (pvI 4), some (pvI 1), none, none, none]) (d1 := d) (rest := []) rfl rfl rfl rfl rfl (fun h => absurd h (by decide)) (Nat.zero_le _) rfl rfl rfl (sf_X0_bodyFrom_4_1 M hok d) ?_
  refine pw_eqI (show ((pvstab 1041).getD (Int32.toNatClampNeg ((4 * 3) + 1)) 0) = 51 from by decide) ?_
  show PW 4 d (14, [some (pvR 3), some (pvI 4), some (pvI 1), some (pvI n3), some (pvI 1), none, none], [pvI 51], M) _
  refine pw_blk hT 7 (S' := (25, [some (pvR 3), some (pvI 4), some (pvI 1), some (pvI n3), some (pvI 1), some (pvI 51), some (pvI (1 + 1))], [pvI 51, pvR 3], M)) rfl ⟨trivial, trivial, trivial, trivial, trivial, trivial, trivial, trivial⟩ ?_
  refine pw_callVd hT (as := [pvR 3, pvI 51]) (lo1 := [some (pvR 3), some (pvI 51)]) (d1 := d) (rest := []) rfl rfl rfl rfl rfl (fun _ => rfl) (Nat.zero_le _) rfl rfl rfl (sf_X0_note_3_x M hok 51 (zr_wide (show 51 ≤ Int32.toInt 51 ∧ Int32.toInt 51 ≤ 51 from (by decide)) (by decide) (by decide)) (zr_wide hc3_1 (by decide) (by decide)) d) (fun M9_ o11_ g12_ d7_ => ?_)
  have f13_ : pvFr fp_X0_run_3_4_1_x_1_4 M M9_ := pvfr_t g12_ pvfr_0 fp_X0_run_3_4_1_x_1_4_fp_X0_note_3_x
  have b14_ : 0 ≤ Int32.toInt (M9_.1 3 1) ∧ Int32.toInt (M9_.1 3 1) ≤ 995 := (by have u0 := hc3_1; have u1 := d7_; have u2 := pvok_r o11_ 3 1 (lo := 0) (hi := 1000000) rfl; omega)
  refine pw_blk hT 1 (S' := (30, [some (pvR 3), some (pvI 4), some (pvI 1), some (pvI n3), some (pvI 1), some (pvI 51), some (pvI (1 + 1))], [pvI 51], M9_)) rfl ⟨trivial, trivial⟩ ?_
  refine pw_sw hT rfl rfl ?_
  refine And.intro (fun c15_ => absurd c15_ (by decide)) (fun c15_ => ?_)
  refine And.intro (fun c16_ => absurd c16_ (by decide)) (fun c16_ => ?_)
  refine And.intro (fun c17_ => absurd c17_ (by decide)) (fun c17_ => ?_)
  refine And.intro (fun c18_ => absurd c18_ (by decide)) (fun c18_ => ?_)
  refine And.intro (fun c19_ => absurd c19_ (by decide)) (fun c19_ => ?_)
  refine And.intro (fun c20_ => absurd c20_ (by decide)) (fun c20_ => ?_)
  refine And.intro (fun c21_ => absurd c21_ (by decide)) (fun c21_ => ?_)
  refine And.intro (fun c22_ => ?_) (fun c22_ => absurd (by decide) c22_)
  show PW 4 d (227, [some (pvR 3), some (pvI 4), some (pvI 1), some (pvI n3), some (pvI 1), some (pvI 51), some (pvI (1 + 1))], [], M9_) _
  refine pw_blk hT 7 (S' := (235, [some (pvR 3), some (pvI 4), some (pvI 1), some (pvI n3), some (pvI 1), some (pvI 51), some (pvI (1 + 1))], [pvI (1 + 1), pvI (n3 + 1), pvI 1, pvI 1, pvR 3], M9_)) rfl ⟨trivial, trivial, trivial, trivial, trivial, trivial, trivial, trivial⟩ ?_
  have e23_ : (M9_.1 3 2) = (M.1 3 2) := (g12_ 3 2 rfl)
  have b24_ : 4 ≤ Int32.toInt (M9_.1 3 2) ∧ Int32.toInt (M9_.1 3 2) ≤ 4 := (by rw [e23_]; exact hc3_2)
  refine pw_callGd hT (as := [pvR 3, pvI 1, pvI 1, pvI (n3 + 1), pvI (1 + 1)]) (lo1 := [some (pvR 3), some (pvI 1), some (pvI 1), some (pvI (n3 + 1)), some (pvI (1 + 1)), none, none]) (d1 := (d - 1)) (rest := []) rfl rfl rfl rfl rfl (fun h => absurd h (by decide)) (show 1 ≤ d by omega) rfl rfl rfl (sf_X0_run_3_1_1_x_2_4 M9_ o11_ (n3 + 1) b14_ b24_ (d - 1) (by omega)) (fun x26_ M27_ b28_ o29_ g30_ d25_ => ?_)
  have f31_ : pvFr fp_X0_run_3_4_1_x_1_4 M M27_ := pvfr_t g30_ f13_ fp_X0_run_3_4_1_x_1_4_fp_X0_run_3_1_1_x_2_4
  have b32_ : 0 ≤ Int32.toInt (M27_.1 3 1) ∧ Int32.toInt (M27_.1 3 1) ≤ 999 := (by have u0 := b14_; have u1 := d25_; have u2 := pvok_r o29_ 3 1 (lo := 0) (hi := 1000000) rfl; omega)
  exact pw_ret hT rfl (r := some (pvI x26_)) (M' := M27_) ⟨rfl, rfl⟩ ⟨⟨_, rfl, trivial⟩, o29_, f31_, (by omega)⟩
