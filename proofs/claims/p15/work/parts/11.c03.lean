def fpL_X0_run_3_4_2_x_0_4 : List (Nat × Nat × Nat) := [(0, 3, 2), (0, 4, 0)]
def fp_X0_run_3_4_2_x_0_4 (q k : Nat) : Bool := pvfp fpL_X0_run_3_4_2_x_0_4 q k
theorem fp_X0_run_3_4_2_x_0_4_fp_X0_note_3_x (a b : Nat) (h : fp_X0_note_3_x a b = true) : fp_X0_run_3_4_2_x_0_4 a b = true := pvfp_sub (l1 := fpL_X0_note_3_x) (l2 := fpL_X0_run_3_4_2_x_0_4) (by decide) a b h
theorem fp_X0_run_3_4_2_x_0_4_fp_X0_run_3_4_1_x_1_4 (a b : Nat) (h : fp_X0_run_3_4_1_x_1_4 a b = true) : fp_X0_run_3_4_2_x_0_4 a b = true := pvfp_sub (l1 := fpL_X0_run_3_4_1_x_1_4) (l2 := fpL_X0_run_3_4_2_x_0_4) (by decide) a b h
set_option maxHeartbeats 4000000 in
set_option maxRecDepth 10000 in
theorem sf_X0_run_3_4_2_x_0_4 (M : pvM) (hok : pvOk M) (n3 : Int32) (hc3_1 : 0 ≤ Int32.toInt (M.1 3 1) ∧ Int32.toInt (M.1 3 1) ≤ 993) (hc3_2 : 4 ≤ Int32.toInt (M.1 3 2) ∧ Int32.toInt (M.1 3 2) ≤ 4) (d : Nat) (hd : 5 ≤ d) : PW 4 d (0, [some (pvR 3), some (pvI 4), some (pvI 2), some (pvI n3), some (pvI 0), none, none], [], M) (fun r X => (∃ x : Int32, r = some (pvI x) ∧ True) ∧ pvOk X ∧ pvFr fp_X0_run_3_4_2_x_0_4 M X ∧ Int32.toInt (X.1 3 1) ≤ Int32.toInt (M.1 3 1) + 6) := by
  have hT : pvdom 4 = pvD_4 := rfl
  refine pw_blk hT 2 (S' := (4, [some (pvR 3), some (pvI 4), some (pvI 2), some (pvI n3), some (pvI 0), none, none], [pvI 40, pvI 0], M)) rfl ⟨trivial, trivial, trivial⟩ ?_
  refine pw_ic hT (c := 0 ≤ 40) rfl rfl (fun c1_ => ?_) (fun c1_ => absurd (by decide) c1_)
  refine pw_blk hT 2 (S' := (11, [some (pvR 3), some (pvI 4), some (pvI 2), some (pvI n3), some (pvI 0), none, none], [pvI 2, pvI 4], M)) rfl ⟨trivial, trivial, trivial⟩ ?_
  refine pw_callT hT (as := [pvI 4, pvI 2]) (lo1 := [some (pvI 4), some (pvI 2), none, none, none]) (d1 := d) (rest := []) rfl rfl rfl rfl rfl (fun h => absurd h (by decide)) (Nat.zero_le _) rfl rfl rfl (sf_X0_bodyFrom_4_2 M hok d) ?_
  refine pw_eqI (show ((pvstab 1041).getD (Int32.toNatClampNeg ((0 * 3) + 2)) 0) = 12 from by decide) ?_
  show PW 4 d (14, [some (pvR 3), some (pvI 4), some (pvI 2), some (pvI n3), some (pvI 0), none, none], [pvI 12], M) _
  refine pw_blk hT 7 (S' := (25, [some (pvR 3), some (pvI 4), some (pvI 2), some (pvI n3), some (pvI 0), some (pvI 12), some (pvI (0 + 1))], [pvI 12, pvR 3], M)) rfl ⟨trivial, trivial, trivial, trivial, trivial, trivial, trivial, trivial⟩ ?_
  refine pw_callVd hT (as := [pvR 3, pvI 12]) (lo1 := [some (pvR 3), some (pvI 12)]) (d1 := d) (rest := []) rfl rfl rfl rfl rfl (fun _ => rfl) (Nat.zero_le _) rfl rfl rfl (sf_X0_note_3_x M hok 12 (zr_wide (show 12 ≤ Int32.toInt 12 ∧ Int32.toInt 12 ≤ 12 from (by decide)) (by decide) (by decide)) (zr_wide hc3_1 (by decide) (by decide)) d) (fun M9_ o11_ g12_ d7_ => ?_)
  have f13_ : pvFr fp_X0_run_3_4_2_x_0_4 M M9_ := pvfr_t g12_ pvfr_0 fp_X0_run_3_4_2_x_0_4_fp_X0_note_3_x
  have b14_ : 0 ≤ Int32.toInt (M9_.1 3 1) ∧ Int32.toInt (M9_.1 3 1) ≤ 994 := (by have u0 := hc3_1; have u1 := d7_; have u2 := pvok_r o11_ 3 1 (lo := 0) (hi := 1000000) rfl; omega)
  refine pw_blk hT 1 (S' := (30, [some (pvR 3), some (pvI 4), some (pvI 2), some (pvI n3), some (pvI 0), some (pvI 12), some (pvI (0 + 1))], [pvI 12], M9_)) rfl ⟨trivial, trivial⟩ ?_
  refine pw_sw hT rfl rfl ?_
  refine And.intro (fun c15_ => absurd c15_ (by decide)) (fun c15_ => ?_)
  refine And.intro (fun c16_ => absurd c16_ (by decide)) (fun c16_ => ?_)
  refine And.intro (fun c17_ => ?_) (fun c17_ => absurd (by decide) c17_)
  show PW 4 d (153, [some (pvR 3), some (pvI 4), some (pvI 2), some (pvI n3), some (pvI 0), some (pvI 12), some (pvI (0 + 1))], [], M9_) _
  have e18_ : (M9_.1 3 2) = (M.1 3 2) := (g12_ 3 2 rfl)
  have b19_ : 4 ≤ Int32.toInt (M9_.1 3 2) ∧ Int32.toInt (M9_.1 3 2) ≤ 4 := (by rw [e18_]; exact hc3_2)
  refine pw_blk hT 3 (S' := (158, [some (pvR 3), some (pvI 4), some (pvI 2), some (pvI n3), some (pvI 0), some (pvI 12), some (pvI (0 + 1))], [pvI (M9_.1 3 2), pvR 3], M9_)) rfl ⟨trivial, trivial, rfl, trivial⟩ ?_
  refine pw_eqI ((zi_eq _ (4)).mpr (by have u0 := b19_; have u1 : Int32.toInt (4) = 4 := (by decide); omega)) ?_
  refine pw_blk hT 3 (S' := (162, [some (pvR 3), some (pvI 4), some (pvI 2), some (pvI n3), some (pvI 0), some (pvI 12), some (pvI (0 + 1))], [pvI (0 + 1), pvI n3, pvI 1, pvI 4, pvR 3], M9_)) rfl ⟨trivial, trivial, trivial, trivial⟩ ?_
  refine pw_callGd hT (as := [pvR 3, pvI 4, pvI 1, pvI n3, pvI (0 + 1)]) (lo1 := [some (pvR 3), some (pvI 4), some (pvI 1), some (pvI n3), some (pvI (0 + 1)), none, none]) (d1 := (d - 1)) (rest := []) rfl rfl rfl rfl rfl (fun h => absurd h (by decide)) (show 1 ≤ d by omega) rfl rfl rfl (sf_X0_run_3_4_1_x_1_4 M9_ o11_ n3 b14_ b19_ (d - 1) (by omega)) (fun x21_ M22_ b23_ o24_ g25_ d20_ => ?_)
  have f26_ : pvFr fp_X0_run_3_4_2_x_0_4 M M22_ := pvfr_t g25_ f13_ fp_X0_run_3_4_2_x_0_4_fp_X0_run_3_4_1_x_1_4
  have b27_ : 0 ≤ Int32.toInt (M22_.1 3 1) ∧ Int32.toInt (M22_.1 3 1) ≤ 999 := (by have u0 := b14_; have u1 := d20_; have u2 := pvok_r o24_ 3 1 (lo := 0) (hi := 1000000) rfl; omega)
  refine pw_blk hT 2 (S' := (167, [some (pvR 3), some (pvI 4), some (pvI 2), some (pvI n3), some (pvI 0), some (pvI 12), some (pvI (0 + 1))], [pvI (x21_ * 2)], M22_)) rfl ⟨trivial, trivial, trivial⟩ ?_
  exact pw_ret hT rfl (r := some (pvI (x21_ * 2))) (M' := M22_) ⟨rfl, rfl⟩ ⟨⟨_, rfl, trivial⟩, o24_, f26_, (by omega)⟩
set_option maxHeartbeats 4000000 in
set_option maxRecDepth 10000 in
theorem sf_X3_above_5 (M : pvM) (hok : pvOk M) (d : Nat) : PW 131 d (0, [some (pvI 5)], [], M) (fun r X => r = some (pvI (((pvstab 1040).getD (Int32.toNatClampNeg 5) 0))) ∧ X = M) := by
  have hT : pvdom 131 = pvD_131 := rfl
  refine pw_blk hT 1 (S' := (1, [some (pvI 5)], [pvI 5], M)) rfl ⟨trivial, trivial⟩ ?_
  refine pw_if hT (c := 5 < 0) rfl rfl (fun c1_ => absurd c1_ (by decide)) (fun c1_ => ?_)
  refine pw_blk hT 3 (S' := (9, [some (pvI 5)], [pvI (Int32.ofNat (pvstab 1040).length), pvI 5], M)) rfl ⟨trivial, trivial, (by decide), trivial⟩ ?_
  refine pw_ic hT (c := 5 < (Int32.ofNat (pvstab 1040).length)) rfl rfl (fun c2_ => ?_) (fun c2_ => absurd (by decide) c2_)
  refine pw_blk hT 3 (S' := (21, [some (pvI 5)], [pvI ((pvstab 1040).getD (Int32.toNatClampNeg 5) 0)], M)) rfl ⟨trivial, trivial, ⟨by decide, (zr_in (n := 7) (show 5 ≤ Int32.toInt 5 ∧ Int32.toInt 5 ≤ 5 from (by decide)) (by decide) (by decide))⟩, trivial⟩ ?_
  exact pw_ret hT rfl (r := some (pvI ((pvstab 1040).getD (Int32.toNatClampNeg 5) 0))) (M' := M) ⟨rfl, rfl⟩ ⟨rfl, rfl⟩
set_option maxHeartbeats 4000000 in
set_option maxRecDepth 10000 in
theorem sf_X0_bodyFrom_5_0 (M : pvM) (hok : pvOk M) (d : Nat) : PW 1 d (0, [some (pvI 5), some (pvI 0), none, none, none], [], M) (fun r X => r = some (pvI (((pvstab 1041).getD (Int32.toNatClampNeg ((2 * 3) + 0)) 0))) ∧ X = M) := by
  have hT : pvdom 1 = pvD_1 := rfl
  refine pw_blk hT 4 (S' := (4, [some (pvI 5), some (pvI 0), some (pvI 5), some (pvI 0), none], [], M)) rfl ⟨trivial, trivial, trivial, trivial, trivial⟩ ?_
  refine pw_blk hT 3 (S' := (9, [some (pvI 5), some (pvI 0), some (pvI 5), some (pvI 0), none], [pvI (Int32.ofNat (pvstab 1041).length), pvI 0], M)) rfl ⟨trivial, trivial, (by decide), trivial⟩ ?_
  refine pw_ic hT (c := (Int32.ofNat (pvstab 1041).length) ≤ 0) rfl rfl (fun c1_ => absurd c1_ (by decide)) (fun c1_ => ?_)
  refine pw_blk hT 1 (S' := (13, [some (pvI 5), some (pvI 0), some (pvI 5), some (pvI 0), none], [pvI 5], M)) rfl ⟨trivial, trivial⟩ ?_
  refine pw_if hT (c := 5 < 0) rfl rfl (fun c2_ => absurd c2_ (by decide)) (fun c2_ => ?_)
  refine pw_blk hT 7 (S' := (25, [some (pvI 5), some (pvI 0), some (pvI 5), some (pvI 0), some (pvI ((5 * 3) + 0))], [pvI ((5 * 3) + 0)], M)) rfl ⟨trivial, trivial, trivial, trivial, trivial, trivial, trivial, trivial⟩ ?_
  refine pw_if hT (c := ((5 * 3) + 0) < 0) rfl rfl (fun c3_ => absurd c3_ (by decide)) (fun c3_ => ?_)
  refine pw_blk hT 3 (S' := (34, [some (pvI 5), some (pvI 0), some (pvI 5), some (pvI 0), some (pvI ((5 * 3) + 0))], [pvI (Int32.ofNat (pvstab 1041).length), pvI ((5 * 3) + 0)], M)) rfl ⟨trivial, trivial, (by decide), trivial⟩ ?_
  refine pw_ic hT (c := (Int32.ofNat (pvstab 1041).length) ≤ ((5 * 3) + 0)) rfl rfl (fun c4_ => absurd c4_ (by decide)) (fun c4_ => ?_)
  refine pw_blk hT 3 (S' := (43, [some (pvI 5), some (pvI 0), some (pvI 5), some (pvI 0), some (pvI ((5 * 3) + 0))], [pvI ((pvstab 1041).getD (Int32.toNatClampNeg ((5 * 3) + 0)) 0)], M)) rfl ⟨trivial, trivial, ⟨by decide, (zr_in (n := 21) (show 15 ≤ Int32.toInt ((5 * 3) + 0) ∧ Int32.toInt ((5 * 3) + 0) ≤ 15 from (by decide)) (by decide) (by decide))⟩, trivial⟩ ?_
  refine pw_if hT (c := ((pvstab 1041).getD (Int32.toNatClampNeg ((5 * 3) + 0)) 0) = 0) rfl rfl (fun c5_ => ?_) (fun c5_ => absurd (by decide) c5_)
  refine pw_blk hT 1 (S' := (54, [some (pvI 5), some (pvI 0), some (pvI 5), some (pvI 0), some (pvI ((5 * 3) + 0))], [pvI 5], M)) rfl ⟨trivial, trivial⟩ ?_
  refine pw_callT hT (as := [pvI 5]) (lo1 := [some (pvI 5)]) (d1 := d) (rest := []) rfl rfl rfl rfl rfl (fun h => absurd h (by decide)) (Nat.zero_le _) rfl rfl rfl (sf_X3_above_5 M hok d) ?_
  refine pw_eqI (show ((pvstab 1040).getD (Int32.toNatClampNeg 5) 0) = 2 from by decide) ?_
  show PW 1 d (57, [some (pvI 5), some (pvI 0), some (pvI 5), some (pvI 0), some (pvI ((5 * 3) + 0))], [pvI 2], M) _
  refine pw_blk hT 3 (S' := (4, [some (pvI 5), some (pvI 0), some (pvI 2), some (pvI (0 + 1)), some (pvI ((5 * 3) + 0))], [], M)) rfl ⟨trivial, trivial, trivial, trivial⟩ ?_
  refine pw_blk hT 3 (S' := (9, [some (pvI 5), some (pvI 0), some (pvI 2), some (pvI (0 + 1)), some (pvI ((5 * 3) + 0))], [pvI (Int32.ofNat (pvstab 1041).length), pvI (0 + 1)], M)) rfl ⟨trivial, trivial, (by decide), trivial⟩ ?_
  refine pw_ic hT (c := (Int32.ofNat (pvstab 1041).length) ≤ (0 + 1)) rfl rfl (fun c11_ => absurd c11_ (by decide)) (fun c11_ => ?_)
  refine pw_blk hT 1 (S' := (13, [some (pvI 5), some (pvI 0), some (pvI 2), some (pvI (0 + 1)), some (pvI ((5 * 3) + 0))], [pvI 2], M)) rfl ⟨trivial, trivial⟩ ?_
  refine pw_if hT (c := 2 < 0) rfl rfl (fun c12_ => absurd c12_ (by decide)) (fun c12_ => ?_)
  refine pw_blk hT 7 (S' := (25, [some (pvI 5), some (pvI 0), some (pvI 2), some (pvI (0 + 1)), some (pvI ((2 * 3) + 0))], [pvI ((2 * 3) + 0)], M)) rfl ⟨trivial, trivial, trivial, trivial, trivial, trivial, trivial, trivial⟩ ?_
  refine pw_if hT (c := ((2 * 3) + 0) < 0) rfl rfl (fun c13_ => absurd c13_ (by decide)) (fun c13_ => ?_)
  refine pw_blk hT 3 (S' := (34, [some (pvI 5), some (pvI 0), some (pvI 2), some (pvI (0 + 1)), some (pvI ((2 * 3) + 0))], [pvI (Int32.ofNat (pvstab 1041).length), pvI ((2 * 3) + 0)], M)) rfl ⟨trivial, trivial, (by decide), trivial⟩ ?_
  refine pw_ic hT (c := (Int32.ofNat (pvstab 1041).length) ≤ ((2 * 3) + 0)) rfl rfl (fun c14_ => absurd c14_ (by decide)) (fun c14_ => ?_)
  refine pw_blk hT 3 (S' := (43, [some (pvI 5), some (pvI 0), some (pvI 2), some (pvI (0 + 1)), some (pvI ((2 * 3) + 0))], [pvI ((pvstab 1041).getD (Int32.toNatClampNeg ((2 * 3) + 0)) 0)], M)) rfl ⟨trivial, trivial, ⟨by decide, (zr_in (n := 21) (show 6 ≤ Int32.toInt ((2 * 3) + 0) ∧ Int32.toInt ((2 * 3) + 0) ≤ 6 from (by decide)) (by decide) (by decide))⟩, trivial⟩ ?_
  refine pw_if hT (c := ((pvstab 1041).getD (Int32.toNatClampNeg ((2 * 3) + 0)) 0) = 0) rfl rfl (fun c15_ => absurd c15_ (by decide)) (fun c15_ => ?_)
  refine pw_blk hT 3 (S' := (52, [some (pvI 5), some (pvI 0), some (pvI 2), some (pvI (0 + 1)), some (pvI ((2 * 3) + 0))], [pvI ((pvstab 1041).getD (Int32.toNatClampNeg ((2 * 3) + 0)) 0)], M)) rfl ⟨trivial, trivial, ⟨by decide, (zr_in (n := 21) (show 6 ≤ Int32.toInt ((2 * 3) + 0) ∧ Int32.toInt ((2 * 3) + 0) ≤ 6 from (by decide)) (by decide) (by decide))⟩, trivial⟩ ?_
  exact pw_ret hT rfl (r := some (pvI ((pvstab 1041).getD (Int32.toNatClampNeg ((2 * 3) + 0)) 0))) (M' := M) ⟨rfl, rfl⟩ ⟨rfl, rfl⟩
def fpL_X0_run_3_0_0_x_1_5 : List (Nat × Nat × Nat) := [(0, 3, 2), (0, 4, 0)]
def fp_X0_run_3_0_0_x_1_5 (q k : Nat) : Bool := pvfp fpL_X0_run_3_0_0_x_1_5 q k
theorem fp_X0_run_3_0_0_x_1_5_fp_X0_note_3_x (a b : Nat) (h : fp_X0_note_3_x a b = true) : fp_X0_run_3_0_0_x_1_5 a b = true := pvfp_sub (l1 := fpL_X0_note_3_x) (l2 := fpL_X0_run_3_0_0_x_1_5) (by decide) a b h
set_option maxHeartbeats 4000000 in
set_option maxRecDepth 10000 in
theorem sf_X0_run_3_0_0_x_1_5 (M : pvM) (hok : pvOk M) (n3 : Int32) (hc3_1 : 0 ≤ Int32.toInt (M.1 3 1) ∧ Int32.toInt (M.1 3 1) ≤ 998) (hc3_2 : 5 ≤ Int32.toInt (M.1 3 2) ∧ Int32.toInt (M.1 3 2) ≤ 5) (d : Nat) : PW 4 d (0, [some (pvR 3), some (pvI 0), some (pvI 0), some (pvI n3), some (pvI 1), none, none], [], M) (fun r X => (∃ x : Int32, r = some (pvI x) ∧ True) ∧ pvOk X ∧ pvFr fp_X0_run_3_0_0_x_1_5 M X ∧ Int32.toInt (X.1 3 1) ≤ Int32.toInt (M.1 3 1) + 1) := by
  have hT : pvdom 4 = pvD_4 := rfl
  refine pw_blk hT 2 (S' := (4, [some (pvR 3), some (pvI 0), some (pvI 0), some (pvI n3), some (pvI 1), none, none], [pvI 40, pvI 1], M)) rfl ⟨trivial, trivial, trivial⟩ ?_
  refine pw_ic hT (c := 1 ≤ 40) rfl rfl (fun c1_ => ?_) (fun c1_ => absurd (by decide) c1_)
  refine pw_blk hT 2 (S' := (11, [some (pvR 3), some (pvI 0), some (pvI 0), some (pvI n3), some (pvI 1), none, none], [pvI 0, pvI 0], M)) rfl ⟨trivial, trivial, trivial⟩ ?_
  refine pw_callT hT (as := [pvI 0, pvI 0]) (lo1 := [some (pvI 0), some (pvI 0), none, none, none]) (d1 := d) (rest := []) rfl rfl rfl rfl rfl (fun h => absurd h (by decide)) (Nat.zero_le _) rfl rfl rfl (sf_X0_bodyFrom_0_0 M hok d) ?_
  refine pw_eqI (show ((pvstab 1041).getD (Int32.toNatClampNeg ((0 * 3) + 0)) 0) = 10 from by decide) ?_
  show PW 4 d (14, [some (pvR 3), some (pvI 0), some (pvI 0), some (pvI n3), some (pvI 1), none, none], [pvI 10], M) _
  refine pw_blk hT 7 (S' := (25, [some (pvR 3), some (pvI 0), some (pvI 0), some (pvI n3), some (pvI 1), some (pvI 10), some (pvI (1 + 1))], [pvI 10, pvR 3], M)) rfl ⟨trivial, trivial, trivial, trivial, trivial, trivial, trivial, trivial⟩ ?_
  refine pw_callVd hT (as := [pvR 3, pvI 10]) (lo1 := [some (pvR 3), some (pvI 10)]) (d1 := d) (rest := []) rfl rfl rfl rfl rfl (fun _ => rfl) (Nat.zero_le _) rfl rfl rfl (sf_X0_note_3_x M hok 10 (zr_wide (show 10 ≤ Int32.toInt 10 ∧ Int32.toInt 10 ≤ 10 from (by decide)) (by decide) (by decide)) (zr_wide hc3_1 (by decide) (by decide)) d) (fun M9_ o11_ g12_ d7_ => ?_)
  have f13_ : pvFr fp_X0_run_3_0_0_x_1_5 M M9_ := pvfr_t g12_ pvfr_0 fp_X0_run_3_0_0_x_1_5_fp_X0_note_3_x
  have b14_ : 0 ≤ Int32.toInt (M9_.1 3 1) ∧ Int32.toInt (M9_.1 3 1) ≤ 999 := (by have u0 := hc3_1; have u1 := d7_; have u2 := pvok_r o11_ 3 1 (lo := 0) (hi := 1000000) rfl; omega)
  refine pw_blk hT 1 (S' := (30, [some (pvR 3), some (pvI 0), some (pvI 0), some (pvI n3), some (pvI 1), some (pvI 10), some (pvI (1 + 1))], [pvI 10], M9_)) rfl ⟨trivial, trivial⟩ ?_
  refine pw_sw hT rfl rfl ?_
  refine And.intro (fun c15_ => ?_) (fun c15_ => absurd (by decide) c15_)
  show PW 4 d (128, [some (pvR 3), some (pvI 0), some (pvI 0), some (pvI n3), some (pvI 1), some (pvI 10), some (pvI (1 + 1))], [], M9_) _
  refine pw_blk hT 4 (S' := (134, [some (pvR 3), some (pvI 0), some (pvI 0), some (pvI n3), some (pvI 1), some (pvI 10), some (pvI (1 + 1))], [pvI (n3 + (M9_.1 3 4))], M9_)) rfl ⟨trivial, trivial, rfl, trivial, trivial⟩ ?_
  exact pw_ret hT rfl (r := some (pvI (n3 + (M9_.1 3 4)))) (M' := M9_) ⟨rfl, rfl⟩ ⟨⟨_, rfl, trivial⟩, o11_, f13_, (by omega)⟩
def fpL_X0_run_3_5_0_x_0_5 : List (Nat × Nat × Nat) := [(0, 3, 2), (0, 4, 0)]
def fp_X0_run_3_5_0_x_0_5 (q k : Nat) : Bool := pvfp fpL_X0_run_3_5_0_x_0_5 q k
theorem fp_X0_run_3_5_0_x_0_5_fp_X0_note_3_x (a b : Nat) (h : fp_X0_note_3_x a b = true) : fp_X0_run_3_5_0_x_0_5 a b = true := pvfp_sub (l1 := fpL_X0_note_3_x) (l2 := fpL_X0_run_3_5_0_x_0_5) (by decide) a b h
theorem fp_X0_run_3_5_0_x_0_5_fp_X0_run_3_0_0_x_1_5 (a b : Nat) (h : fp_X0_run_3_0_0_x_1_5 a b = true) : fp_X0_run_3_5_0_x_0_5 a b = true := pvfp_sub (l1 := fpL_X0_run_3_0_0_x_1_5) (l2 := fpL_X0_run_3_5_0_x_0_5) (by decide) a b h
set_option maxHeartbeats 4000000 in
set_option maxRecDepth 10000 in
theorem sf_X0_run_3_5_0_x_0_5 (M : pvM) (hok : pvOk M) (n3 : Int32) (hc3_1 : 0 ≤ Int32.toInt (M.1 3 1) ∧ Int32.toInt (M.1 3 1) ≤ 997) (hc3_2 : 5 ≤ Int32.toInt (M.1 3 2) ∧ Int32.toInt (M.1 3 2) ≤ 5) (d : Nat) (hd : 1 ≤ d) : PW 4 d (0, [some (pvR 3), some (pvI 5), some (pvI 0), some (pvI n3), some (pvI 0), none, none], [], M) (fun r X => (∃ x : Int32, r = some (pvI x) ∧ True) ∧ pvOk X ∧ pvFr fp_X0_run_3_5_0_x_0_5 M X ∧ Int32.toInt (X.1 3 1) ≤ Int32.toInt (M.1 3 1) + 2) := by
  have hT : pvdom 4 = pvD_4 := rfl
  refine pw_blk hT 2 (S' := (4, [some (pvR 3), some (pvI 5), some (pvI 0), some (pvI n3), some (pvI 0), none, none], [pvI 40, pvI 0], M)) rfl ⟨trivial, trivial, trivial⟩ ?_
  refine pw_ic hT (c := 0 ≤ 40) rfl rfl (fun c1_ => ?_) (fun c1_ => absurd (by decide) c1_)
  refine pw_blk hT 2 (S' := (11, [some (pvR 3), some (pvI 5), some (pvI 0), some (pvI n3), some (pvI 0), none, none], [pvI 0, pvI 5], M)) rfl ⟨trivial, trivial, trivial⟩ ?_
  refine pw_callT hT (as := [pvI 5, pvI 0]) (lo1 := [some (pvI 5), some (pvI 0), none, none, none]) (d1 := d) (rest := []) rfl rfl rfl rfl rfl (fun h => absurd h (by decide)) (Nat.zero_le _) rfl rfl rfl (sf_X0_bodyFrom_5_0 M hok d) ?_
  refine pw_eqI (show ((pvstab 1041).getD (Int32.toNatClampNeg ((2 * 3) + 0)) 0) = 30 from by decide) ?_
  show PW 4 d (14, [some (pvR 3), some (pvI 5), some (pvI 0), some (pvI n3), some (pvI 0), none, none], [pvI 30], M) _
  refine pw_blk hT 7 (S' := (25, [some (pvR 3), some (pvI 5), some (pvI 0), some (pvI n3), some (pvI 0), some (pvI 30), some (pvI (0 + 1))], [pvI 30, pvR 3], M)) rfl ⟨trivial, trivial, trivial, trivial, trivial, trivial, trivial, trivial⟩ ?_
  refine pw_callVd hT (as := [pvR 3, pvI 30]) (lo1 := [some (pvR 3), some (pvI 30)]) (d1 := d) (rest := []) rfl rfl rfl rfl rfl (fun _ => rfl) (Nat.zero_le _) rfl rfl rfl (sf_X0_note_3_x M hok 30 (zr_wide (show 30 ≤ Int32.toInt 30 ∧ Int32.toInt 30 ≤ 30 from (by decide)) (by decide) (by decide)) (zr_wide hc3_1 (by decide) (by decide)) d) (fun M9_ o11_ g12_ d7_ => ?_)
  have f13_ : pvFr fp_X0_run_3_5_0_x_0_5 M M9_ := pvfr_t g12_ pvfr_0 fp_X0_run_3_5_0_x_0_5_fp_X0_note_3_x
  have b14_ : 0 ≤ Int32.toInt (M9_.1 3 1) ∧ Int32.toInt (M9_.1 3 1) ≤ 998 := (by have u0 := hc3_1; have u1 := d7_; have u2 := pvok_r o11_ 3 1 (lo := 0) (hi := 1000000) rfl; omega)
  refine pw_blk hT 1 (S' := (30, [some (pvR 3), some (pvI 5), some (pvI 0), some (pvI n3), some (pvI 0), some (pvI 30), some (pvI (0 + 1))], [pvI 30], M9_)) rfl ⟨trivial, trivial⟩ ?_
  refine pw_sw hT rfl rfl ?_
  refine And.intro (fun c15_ => absurd c15_ (by decide)) (fun c15_ => ?_)
  refine And.intro (fun c16_ => absurd c16_ (by decide)) (fun c16_ => ?_)
  refine And.intro (fun c17_ => absurd c17_ (by decide)) (fun c17_ => ?_)
  refine And.intro (fun c18_ => absurd c18_ (by decide)) (fun c18_ => ?_)
  refine And.intro (fun c19_ => ?_) (fun c19_ => absurd (by decide) c19_)
  show PW 4 d (181, [some (pvR 3), some (pvI 5), some (pvI 0), some (pvI n3), some (pvI 0), some (pvI 30), some (pvI (0 + 1))], [], M9_) _
  refine pw_blk hT 7 (S' := (189, [some (pvR 3), some (pvI 5), some (pvI 0), some (pvI n3), some (pvI 0), some (pvI 30), some (pvI (0 + 1))], [pvI (0 + 1), pvI (n3 * 3), pvI 0, pvI 0, pvR 3], M9_)) rfl ⟨trivial, trivial, trivial, trivial, trivial, trivial, trivial, trivial⟩ ?_
  have e20_ : (M9_.1 3 2) = (M.1 3 2) := (g12_ 3 2 rfl)
  have b21_ : 5 ≤ Int32.toInt (M9_.1 3 2) ∧ Int32.toInt (M9_.1 3 2) ≤ 5 := (by rw [e20_]; exact hc3_2)
  refine pw_callGd hT (as := [pvR 3, pvI 0, pvI 0, pvI (n3 * 3), pvI (0 + 1)]) (lo1 := [some (pvR 3), some (pvI 0), some (pvI 0), some (pvI (n3 * 3)), some (pvI (0 + 1)), none, none]) (d1 := (d - 1)) (rest := []) rfl rfl rfl rfl rfl (fun h => absurd h (by decide)) (show 1 ≤ d by omega) rfl rfl rfl (sf_X0_run_3_0_0_x_1_5 M9_ o11_ (n3 * 3) b14_ b21_ (d - 1)) (fun x23_ M24_ b25_ o26_ g27_ d22_ => ?_)
  have f28_ : pvFr fp_X0_run_3_5_0_x_0_5 M M24_ := pvfr_t g27_ f13_ fp_X0_run_3_5_0_x_0_5_fp_X0_run_3_0_0_x_1_5
  have b29_ : 0 ≤ Int32.toInt (M24_.1 3 1) ∧ Int32.toInt (M24_.1 3 1) ≤ 999 := (by have u0 := b14_; have u1 := d22_; have u2 := pvok_r o26_ 3 1 (lo := 0) (hi := 1000000) rfl; omega)
  exact pw_ret hT rfl (r := some (pvI x23_)) (M' := M24_) ⟨rfl, rfl⟩ ⟨⟨_, rfl, trivial⟩, o26_, f28_, (by omega)⟩
set_option maxHeartbeats 4000000 in
set_option maxRecDepth 10000 in
theorem sf_X0_bodyFrom_5_1 (M : pvM) (hok : pvOk M) (d : Nat) : PW 1 d (0, [some (pvI 5), some (pvI 1), none, none, none], [], M) (fun r X => r = some (pvI (((pvstab 1041).getD (Int32.toNatClampNeg ((0 * 3) + 1)) 0))) ∧ X = M) := by
  have hT : pvdom 1 = pvD_1 := rfl
  refine pw_blk hT 4 (S' := (4, [some (pvI 5), some (pvI 1), some (pvI 5), some (pvI 0), none], [], M)) rfl ⟨trivial, trivial, trivial, trivial, trivial⟩ ?_
  refine pw_blk hT 3 (S' := (9, [some (pvI 5), some (pvI 1), some (pvI 5), some (pvI 0), none], [pvI (Int32.ofNat (pvstab 1041).length), pvI 0], M)) rfl ⟨trivial, trivial, (by decide), trivial⟩ ?_
  refine pw_ic hT (c := (Int32.ofNat (pvstab 1041).length) ≤ 0) rfl rfl (fun c1_ => absurd c1_ (by decide)) (fun c1_ => ?_)
  refine pw_blk hT 1 (S' := (13, [some (pvI 5), some (pvI 1), some (pvI 5), some (pvI 0), none], [pvI 5], M)) rfl ⟨trivial, trivial⟩ ?_
  refine pw_if hT (c := 5 < 0) rfl rfl (fun c2_ => absurd c2_ (by decide)) (fun c2_ => ?_)
  refine pw_blk hT 7 (S' := (25, [some (pvI 5), some (pvI 1), some (pvI 5), some (pvI 0), some (pvI ((5 * 3) + 1))], [pvI ((5 * 3) + 1)], M)) rfl ⟨trivial, trivial, trivial, trivial, trivial, trivial, trivial, trivial⟩ ?_
  refine pw_if hT (c := ((5 * 3) + 1) < 0) rfl rfl (fun c3_ => absurd c3_ (by decide)) (fun c3_ => ?_)
  refine pw_blk hT 3 (S' := (34, [some (pvI 5), some (pvI 1), some (pvI 5), some (pvI 0), some (pvI ((5 * 3) + 1))], [pvI (Int32.ofNat (pvstab 1041).length), pvI ((5 * 3) + 1)], M)) rfl ⟨trivial, trivial, (by decide), trivial⟩ ?_
  refine pw_ic hT (c := (Int32.ofNat (pvstab 1041).length) ≤ ((5 * 3) + 1)) rfl rfl (fun c4_ => absurd c4_ (by decide)) (fun c4_ => ?_)
  refine pw_blk hT 3 (S' := (43, [some (pvI 5), some (pvI 1), some (pvI 5), some (pvI 0), some (pvI ((5 * 3) + 1))], [pvI ((pvstab 1041).getD (Int32.toNatClampNeg ((5 * 3) + 1)) 0)], M)) rfl ⟨trivial, trivial, ⟨by decide, (zr_in (n := 21) (show 16 ≤ Int32.toInt ((5 * 3) + 1) ∧ Int32.toInt ((5 * 3) + 1) ≤ 16 from (by decide)) (by decide) (by decide))⟩, trivial⟩ ?_
  refine pw_if hT (c := ((pvstab 1041).getD (Int32.toNatClampNeg ((5 * 3) + 1)) 0) = 0) rfl rfl (fun c5_ => ?_) (fun c5_ => absurd (by decide) c5_)
  refine pw_blk hT 1 (S' := (54, [some (pvI 5), some (pvI 1), some (pvI 5), some (pvI 0), some (pvI ((5 * 3) + 1))], [pvI 5], M)) rfl ⟨trivial, trivial⟩ ?_
  refine pw_callT hT (as := [pvI 5]) (lo1 := [some (pvI 5)]) (d1 := d) (rest := []) rfl rfl rfl rfl rfl (fun h => absurd h (by decide)) (Nat.zero_le _) rfl rfl rfl (sf_X3_above_5 M hok d) ?_
  refine pw_eqI (show ((pvstab 1040).getD (Int32.toNatClampNeg 5) 0) = 2 from by decide) ?_
  show PW 1 d (57, [some (pvI 5), some (pvI 1), some (pvI 5), some (pvI 0), some (pvI ((5 * 3) + 1))], [pvI 2], M) _
  refine pw_blk hT 3 (S' := (4, [some (pvI 5), some (pvI 1), some (pvI 2), some (pvI (0 + 1)), some (pvI ((5 * 3) + 1))], [], M)) rfl ⟨trivial, trivial, trivial, trivial⟩ ?_
  refine pw_blk hT 3 (S' := (9, [some (pvI 5), some (pvI 1), some (pvI 2), some (pvI (0 + 1)), some (pvI ((5 * 3) + 1))], [pvI (Int32.ofNat (pvstab 1041).length), pvI (0 + 1)], M)) rfl ⟨trivial, trivial, (by decide), trivial⟩ ?_
  refine pw_ic hT (c := (Int32.ofNat (pvstab 1041).length) ≤ (0 + 1)) rfl rfl (fun c11_ => absurd c11_ (by decide)) (fun c11_ => ?_)
  refine pw_blk hT 1 (S' := (13, [some (pvI 5), some (pvI 1), some (pvI 2), some (pvI (0 + 1)), some (pvI ((5 * 3) + 1))], [pvI 2], M)) rfl ⟨trivial, trivial⟩ ?_
  refine pw_if hT (c := 2 < 0) rfl rfl (fun c12_ => absurd c12_ (by decide)) (fun c12_ => ?_)
  refine pw_blk hT 7 (S' := (25, [some (pvI 5), some (pvI 1), some (pvI 2), some (pvI (0 + 1)), some (pvI ((2 * 3) + 1))], [pvI ((2 * 3) + 1)], M)) rfl ⟨trivial, trivial, trivial, trivial, trivial, trivial, trivial, trivial⟩ ?_
  refine pw_if hT (c := ((2 * 3) + 1) < 0) rfl rfl (fun c13_ => absurd c13_ (by decide)) (fun c13_ => ?_)
  refine pw_blk hT 3 (S' := (34, [some (pvI 5), some (pvI 1), some (pvI 2), some (pvI (0 + 1)), some (pvI ((2 * 3) + 1))], [pvI (Int32.ofNat (pvstab 1041).length), pvI ((2 * 3) + 1)], M)) rfl ⟨trivial, trivial, (by decide), trivial⟩ ?_
  refine pw_ic hT (c := (Int32.ofNat (pvstab 1041).length) ≤ ((2 * 3) + 1)) rfl rfl (fun c14_ => absurd c14_ (by decide)) (fun c14_ => ?_)
  refine pw_blk hT 3 (S' := (43, [some (pvI 5), some (pvI 1), some (pvI 2), some (pvI (0 + 1)), some (pvI ((2 * 3) + 1))], [pvI ((pvstab 1041).getD (Int32.toNatClampNeg ((2 * 3) + 1)) 0)], M)) rfl ⟨trivial, trivial, ⟨by decide, (zr_in (n := 21) (show 7 ≤ Int32.toInt ((2 * 3) + 1) ∧ Int32.toInt ((2 * 3) + 1) ≤ 7 from (by decide)) (by decide) (by decide))⟩, trivial⟩ ?_
  refine pw_if hT (c := ((pvstab 1041).getD (Int32.toNatClampNeg ((2 * 3) + 1)) 0) = 0) rfl rfl (fun c15_ => ?_) (fun c15_ => absurd (by decide) c15_)
  refine pw_blk hT 1 (S' := (54, [some (pvI 5), some (pvI 1), some (pvI 2), some (pvI (0 + 1)), some (pvI ((2 * 3) + 1))], [pvI 2], M)) rfl ⟨trivial, trivial⟩ ?_
  refine pw_callT hT (as := [pvI 2]) (lo1 := [some (pvI 2)]) (d1 := d) (rest := []) rfl rfl rfl rfl rfl (fun h => absurd h (by decide)) (Nat.zero_le _) rfl rfl rfl (sf_X3_above_2 M hok d) ?_
  refine pw_eqI (show ((pvstab 1040).getD (Int32.toNatClampNeg 2) 0) = 0 from by decide) ?_
  show PW 1 d (57, [some (pvI 5), some (pvI 1), some (pvI 2), some (pvI (0 + 1)), some (pvI ((2 * 3) + 1))], [pvI 0], M) _
  refine pw_blk hT 3 (S' := (4, [some (pvI 5), some (pvI 1), some (pvI 0), some (pvI ((0 + 1) + 1)), some (pvI ((2 * 3) + 1))], [], M)) rfl ⟨trivial, trivial, trivial, trivial⟩ ?_
  refine pw_blk hT 3 (S' := (9, [some (pvI 5), some (pvI 1), some (pvI 0), some (pvI ((0 + 1) + 1)), some (pvI ((2 * 3) + 1))], [pvI (Int32.ofNat (pvstab 1041).length), pvI ((0 + 1) + 1)], M)) rfl ⟨trivial, trivial, (by decide), trivial⟩ ?_
  refine pw_ic hT (c := (Int32.ofNat (pvstab 1041).length) ≤ ((0 + 1) + 1)) rfl rfl (fun c21_ => absurd c21_ (by decide)) (fun c21_ => ?_)
  refine pw_blk hT 1 (S' := (13, [some (pvI 5), some (pvI 1), some (pvI 0), some (pvI ((0 + 1) + 1)), some (pvI ((2 * 3) + 1))], [pvI 0], M)) rfl ⟨trivial, trivial⟩ ?_
  refine pw_if hT (c := 0 < 0) rfl rfl (fun c22_ => absurd c22_ (by decide)) (fun c22_ => ?_)
  refine pw_blk hT 7 (S' := (25, [some (pvI 5), some (pvI 1), some (pvI 0), some (pvI ((0 + 1) + 1)), some (pvI ((0 * 3) + 1))], [pvI ((0 * 3) + 1)], M)) rfl ⟨trivial, trivial, trivial, trivial, trivial, trivial, trivial, trivial⟩ ?_
  refine pw_if hT (c := ((0 * 3) + 1) < 0) rfl rfl (fun c23_ => absurd c23_ (by decide)) (fun c23_ => ?_)
  refine pw_blk hT 3 (S' := (34, [some (pvI 5), some (pvI 1), some (pvI 0), some (pvI ((0 + 1) + 1)), some (pvI ((0 * 3) + 1))], [pvI (Int32.ofNat (pvstab 1041).length), pvI ((0 * 3) + 1)], M)) rfl ⟨trivial, trivial, (by decide), trivial⟩ ?_
  refine pw_ic hT (c := (Int32.ofNat (pvstab 1041).length) ≤ ((0 * 3) + 1)) rfl rfl (fun c24_ => absurd c24_ (by decide)) (fun c24_ => ?_)
  refine pw_blk hT 3 (S' := (43, [some (pvI 5), some (pvI 1), some (pvI 0), some (pvI ((0 + 1) + 1)), some (pvI ((0 * 3) + 1))], [pvI ((pvstab 1041).getD (Int32.toNatClampNeg ((0 * 3) + 1)) 0)], M)) rfl ⟨trivial, trivial, ⟨by decide, (zr_in (n := 21) (show 1 ≤ Int32.toInt ((0 * 3) + 1) ∧ Int32.toInt ((0 * 3) + 1) ≤ 1 from (by decide)) (by decide) (by decide))⟩, trivial⟩ ?_
  refine pw_if hT (c := ((pvstab 1041).getD (Int32.toNatClampNeg ((0 * 3) + 1)) 0) = 0) rfl rfl (fun c25_ => absurd c25_ (by decide)) (fun c25_ => ?_)
  refine pw_blk hT 3 (S' := (52, [some (pvI 5), some (pvI 1), some (pvI 0), some (pvI ((0 + 1) + 1)), some (pvI ((0 * 3) + 1))], [pvI ((pvstab 1041).getD (Int32.toNatClampNeg ((0 * 3) + 1)) 0)], M)) rfl ⟨trivial, trivial, ⟨by decide, (zr_in (n := 21) (show 1 ≤ Int32.toInt ((0 * 3) + 1) ∧ Int32.toInt ((0 * 3) + 1) ≤ 1 from (by decide)) (by decide) (by decide))⟩, trivial⟩ ?_
  exact pw_ret hT rfl (r := some (pvI ((pvstab 1041).getD (Int32.toNatClampNeg ((0 * 3) + 1)) 0))) (M' := M) ⟨rfl, rfl⟩ ⟨rfl, rfl⟩
def fpL_X0_run_3_0_0_x_2_5 : List (Nat × Nat × Nat) := [(0, 3, 2), (0, 4, 0)]
def fp_X0_run_3_0_0_x_2_5 (q k : Nat) : Bool := pvfp fpL_X0_run_3_0_0_x_2_5 q k
theorem fp_X0_run_3_0_0_x_2_5_fp_X0_note_3_x (a b : Nat) (h : fp_X0_note_3_x a b = true) : fp_X0_run_3_0_0_x_2_5 a b = true := pvfp_sub (l1 := fpL_X0_note_3_x) (l2 := fpL_X0_run_3_0_0_x_2_5) (by decide) a b h
set_option maxHeartbeats 4000000 in
set_option maxRecDepth 10000 in
theorem sf_X0_run_3_0_0_x_2_5 (M : pvM) (hok : pvOk M) (n3 : Int32) (hc3_1 : 0 ≤ Int32.toInt (M.1 3 1) ∧ Int32.toInt (M.1 3 1) ≤ 998) (hc3_2 : 5 ≤ Int32.toInt (M.1 3 2) ∧ Int32.toInt (M.1 3 2) ≤ 5) (d : Nat) : PW 4 d (0, [some (pvR 3), some (pvI 0), some (pvI 0), some (pvI n3), some (pvI 2), none, none], [], M) (fun r X => (∃ x : Int32, r = some (pvI x) ∧ True) ∧ pvOk X ∧ pvFr fp_X0_run_3_0_0_x_2_5 M X ∧ Int32.toInt (X.1 3 1) ≤ Int32.toInt (M.1 3 1) + 1) := by
  have hT : pvdom 4 = pvD_4 := rfl
  refine pw_blk hT 2 (S' := (4, [some (pvR 3), some (pvI 0), some (pvI 0), some (pvI n3), some (pvI 2), none, none], [pvI 40, pvI 2], M)) rfl ⟨trivial, trivial, trivial⟩ ?_
  refine pw_ic hT (c := 2 ≤ 40) rfl rfl (fun c1_ => ?_) (fun c1_ => absurd (by decide) c1_)
  refine pw_blk hT 2 (S' := (11, [some (pvR 3), some (pvI 0), some (pvI 0), some (pvI n3), some (pvI 2), none, none], [pvI 0, pvI 0], M)) rfl ⟨trivial, trivial, trivial⟩ ?_
  refine pw_callT hT (as := [pvI 0, pvI 0]) (lo1 := [some (pvI 0), some (pvI 0), none, none, none]) (d1 := d) (rest := []) rfl rfl rfl rfl rfl (fun h => absurd h (by decide)) (Nat.zero_le _) rfl rfl rfl (sf_X0_bodyFrom_0_0 M hok d) ?_
  refine pw_eqI (show ((pvstab 1041).getD (Int32.toNatClampNeg ((0 * 3) + 0)) 0) = 10 from by decide) ?_
  show PW 4 d (14, [some (pvR 3), some (pvI 0), some (pvI 0), some (pvI n3), some (pvI 2), none, none], [pvI 10], M) _
  refine pw_blk hT 7 (S' := (25, [some (pvR 3), some (pvI 0), some (pvI 0), some (pvI n3), some (pvI 2), some (pvI 10), some (pvI (2 + 1))], [pvI 10, pvR 3], M)) rfl ⟨trivial, trivial, trivial, trivial, trivial, trivial, trivial, trivial⟩ ?_
  refine pw_callVd hT (as := [pvR 3, pvI 10]) (lo1 := [some (pvR 3), some (pvI 10)]) (d1 := d) (rest := []) rfl rfl rfl rfl rfl (fun _ => rfl) (Nat.zero_le _) rfl rfl rfl (sf_X0_note_3_x M hok 10 (zr_wide (show 10 ≤ Int32.toInt 10 ∧ Int32.toInt 10 ≤ 10 from (by decide)) (by decide) (by decide)) (zr_wide hc3_1 (by decide) (by decide)) d) (fun M9_ o11_ g12_ d7_ => ?_)
  have f13_ : pvFr fp_X0_run_3_0_0_x_2_5 M M9_ := pvfr_t g12_ pvfr_0 fp_X0_run_3_0_0_x_2_5_fp_X0_note_3_x
  have b14_ : 0 ≤ Int32.toInt (M9_.1 3 1) ∧ Int32.toInt (M9_.1 3 1) ≤ 999 := (by have u0 := hc3_1; have u1 := d7_; have u2 := pvok_r o11_ 3 1 (lo := 0) (hi := 1000000) rfl; omega)
  refine pw_blk hT 1 (S' := (30, [some (pvR 3), some (pvI 0), some (pvI 0), some (pvI n3), some (pvI 2), some (pvI 10), some (pvI (2 + 1))], [pvI 10], M9_)) rfl ⟨trivial, trivial⟩ ?_
  refine pw_sw hT rfl rfl ?_
  refine And.intro (fun c15_ => ?_) (fun c15_ => absurd (by decide) c15_)
  show PW 4 d (128, [some (pvR 3), some (pvI 0), some (pvI 0), some (pvI n3), some (pvI 2), some (pvI 10), some (pvI (2 + 1))], [], M9_) _
  refine pw_blk hT 4 (S' := (134, [some (pvR 3), some (pvI 0), some (pvI 0), some (pvI n3), some (pvI 2), some (pvI 10), some (pvI (2 + 1))], [pvI (n3 + (M9_.1 3 4))], M9_)) rfl ⟨trivial, trivial, rfl, trivial, trivial⟩ ?_
  exact pw_ret hT rfl (r := some (pvI (n3 + (M9_.1 3 4)))) (M' := M9_) ⟨rfl, rfl⟩ ⟨⟨_, rfl, trivial⟩, o11_, f13_, (by omega)⟩
def fpL_X0_run_3_5_0_x_1_5 : List (Nat × Nat × Nat) := [(0, 3, 2), (0, 4, 0)]
def fp_X0_run_3_5_0_x_1_5 (q k : Nat) : Bool := pvfp fpL_X0_run_3_5_0_x_1_5 q k
theorem fp_X0_run_3_5_0_x_1_5_fp_X0_note_3_x (a b : Nat) (h : fp_X0_note_3_x a b = true) : fp_X0_run_3_5_0_x_1_5 a b = true := pvfp_sub (l1 := fpL_X0_note_3_x) (l2 := fpL_X0_run_3_5_0_x_1_5) (by decide) a b h
theorem fp_X0_run_3_5_0_x_1_5_fp_X0_run_3_0_0_x_2_5 (a b : Nat) (h : fp_X0_run_3_0_0_x_2_5 a b = true) : fp_X0_run_3_5_0_x_1_5 a b = true := pvfp_sub (l1 := fpL_X0_run_3_0_0_x_2_5) (l2 := fpL_X0_run_3_5_0_x_1_5) (by decide) a b h
set_option maxHeartbeats 4000000 in
set_option maxRecDepth 10000 in
theorem sf_X0_run_3_5_0_x_1_5 (M : pvM) (hok : pvOk M) (n3 : Int32) (hc3_1 : 0 ≤ Int32.toInt (M.1 3 1) ∧ Int32.toInt (M.1 3 1) ≤ 997) (hc3_2 : 5 ≤ Int32.toInt (M.1 3 2) ∧ Int32.toInt (M.1 3 2) ≤ 5) (d : Nat) (hd : 1 ≤ d) : PW 4 d (0, [some (pvR 3), some (pvI 5), some (pvI 0), some (pvI n3), some (pvI 1), none, none], [], M) (fun r X => (∃ x : Int32, r = some (pvI x) ∧ True) ∧ pvOk X ∧ pvFr fp_X0_run_3_5_0_x_1_5 M X ∧ Int32.toInt (X.1 3 1) ≤ Int32.toInt (M.1 3 1) + 2) := by
  have hT : pvdom 4 = pvD_4 := rfl
  refine pw_blk hT 2 (S' := (4, [some (pvR 3), some (pvI 5), some (pvI 0), some (pvI n3), some (pvI 1), none, none], [pvI 40, pvI 1], M)) rfl ⟨trivial, trivial, trivial⟩ ?_
  refine pw_ic hT (c := 1 ≤ 40) rfl rfl (fun c1_ => ?_) (fun c1_ => absurd (by decide) c1_)
  refine pw_blk hT 2 (S' := (11, [some (pvR 3), some (pvI 5), some (pvI 0), some (pvI n3), some (pvI 1), none, none], [pvI 0, pvI 5], M)) rfl ⟨trivial, trivial, trivial⟩ ?_
  refine pw_callT hT (as := [pvI 5, pvI 0]) (lo1 := [some (pvI 5), some (pvI 0), none, none, none]) (d1 := d) (rest := []) rfl rfl rfl rfl rfl (fun h => absurd h (by decide)) (Nat.zero_le _) rfl rfl rfl (sf_X0_bodyFrom_5_0 M hok d) ?_
  refine pw_eqI (show ((pvstab 1041).getD (Int32.toNatClampNeg ((2 * 3) + 0)) 0) = 30 from by decide) ?_
  show PW 4 d (14, [some (pvR 3), some (pvI 5), some (pvI 0), some (pvI n3), some (pvI 1), none, none], [pvI 30], M) _
  refine pw_blk hT 7 (S' := (25, [some (pvR 3), some (pvI 5), some (pvI 0), some (pvI n3), some (pvI 1), some (pvI 30), some (pvI (1 + 1))], [pvI 30, pvR 3], M)) rfl ⟨trivial, trivial, trivial, trivial, trivial, trivial, trivial, trivial⟩ ?_
  refine pw_callVd hT (as := [pvR 3, pvI 30]) (lo1 := [some (pvR 3), some (pvI 30)]) (d1 := d) (rest := []) rfl rfl rfl rfl rfl (fun _ => rfl) (Nat.zero_le _) rfl rfl rfl (sf_X0_note_3_x M hok 30 (zr_wide (show 30 ≤ Int32.toInt 30 ∧ Int32.toInt 30 ≤ 30 from (by decide)) (by decide) (by decide)) (zr_wide hc3_1 (by decide) (by decide)) d) (fun M9_ o11_ g12_ d7_ => ?_)
  have f13_ : pvFr fp_X0_run_3_5_0_x_1_5 M M9_ := pvfr_t g12_ pvfr_0 fp_X0_run_3_5_0_x_1_5_fp_X0_note_3_x
  have b14_ : 0 ≤ Int32.toInt (M9_.1 3 1) ∧ Int32.toInt (M9_.1 3 1) ≤ 998 := (by have u0 := hc3_1; have u1 := d7_; have u2 := pvok_r o11_ 3 1 (lo := 0) (hi := 1000000) rfl; omega)
  refine pw_blk hT 1 (S' := (30, [some (pvR 3), some (pvI 5), some (pvI 0), some (pvI n3), some (pvI 1), some (pvI 30), some (pvI (1 + 1))], [pvI 30], M9_)) rfl ⟨trivial, trivial⟩ ?_
  refine pw_sw hT rfl rfl ?_
  refine And.intro (fun c15_ => absurd c15_ (by decide)) (fun c15_ => ?_)
  refine And.intro (fun c16_ => absurd c16_ (by decide)) (fun c16_ => ?_)
  refine And.intro (fun c17_ => absurd c17_ (by decide)) (fun c17_ => ?_)
  refine And.intro (fun c18_ => absurd c18_ (by decide)) (fun c18_ => ?_)
  refine And.intro (fun c19_ => ?_) (fun c19_ => absurd (by decide) c19_)
  show PW 4 d (181, [some (pvR 3), some (pvI 5), some (pvI 0), some (pvI n3), some (pvI 1), some (pvI 30), some (pvI (1 + 1))], [], M9_) _
  refine pw_blk hT 7 (S' := (189, [some (pvR 3), some (pvI 5), some (pvI 0), some (pvI n3), some (pvI 1), some (pvI 30), some (pvI (1 + 1))], [pvI (1 + 1), pvI (n3 * 3), pvI 0, pvI 0, pvR 3], M9_)) rfl ⟨trivial, trivial, trivial, trivial, trivial, trivial, trivial, trivial⟩ ?_
  have e20_ : (M9_.1 3 2) = (M.1 3 2) := (g12_ 3 2 rfl)
  have b21_ : 5 ≤ Int32.toInt (M9_.1 3 2) ∧ Int32.toInt (M9_.1 3 2) ≤ 5 := (by rw [e20_]; exact hc3_2)
  refine pw_callGd hT (as := [pvR 3, pvI 0, pvI 0, pvI (n3 * 3), pvI (1 + 1)]) (lo1 := [some (pvR 3), some (pvI 0), some (pvI 0), some (pvI (n3 * 3)), some (pvI (1 + 1)), none, none]) (d1 := (d - 1)) (rest := []) rfl rfl rfl rfl rfl (fun h => absurd h (by decide)) (show 1 ≤ d by omega) rfl rfl rfl (sf_X0_run_3_0_0_x_2_5 M9_ o11_ (n3 * 3) b14_ b21_ (d - 1)) (fun x23_ M24_ b25_ o26_ g27_ d22_ => ?_)
  have f28_ : pvFr fp_X0_run_3_5_0_x_1_5 M M24_ := pvfr_t g27_ f13_ fp_X0_run_3_5_0_x_1_5_fp_X0_run_3_0_0_x_2_5
  have b29_ : 0 ≤ Int32.toInt (M24_.1 3 1) ∧ Int32.toInt (M24_.1 3 1) ≤ 999 := (by have u0 := b14_; have u1 := d22_; have u2 := pvok_r o26_ 3 1 (lo := 0) (hi := 1000000) rfl; omega)
  exact pw_ret hT rfl (r := some (pvI x23_)) (M' := M24_) ⟨rfl, rfl⟩ ⟨⟨_, rfl, trivial⟩, o26_, f28_, (by omega)⟩
def fpL_X0_run_3_5_1_x_0_5 : List (Nat × Nat × Nat) := [(0, 3, 2), (0, 4, 0)]
def fp_X0_run_3_5_1_x_0_5 (q k : Nat) : Bool := pvfp fpL_X0_run_3_5_1_x_0_5 q k
theorem fp_X0_run_3_5_1_x_0_5_fp_X0_note_3_x (a b : Nat) (h : fp_X0_note_3_x a b = true) : fp_X0_run_3_5_1_x_0_5 a b = true := pvfp_sub (l1 := fpL_X0_note_3_x) (l2 := fpL_X0_run_3_5_1_x_0_5) (by decide) a b h
theorem fp_X0_run_3_5_1_x_0_5_fp_X0_run_3_5_0_x_1_5 (a b : Nat) (h : fp_X0_run_3_5_0_x_1_5 a b = true) : fp_X0_run_3_5_1_x_0_5 a b = true := pvfp_sub (l1 := fpL_X0_run_3_5_0_x_1_5) (l2 := fpL_X0_run_3_5_1_x_0_5) (by decide) a b h
set_option maxHeartbeats 4000000 in
set_option maxRecDepth 10000 in
theorem sf_X0_run_3_5_1_x_0_5 (M : pvM) (hok : pvOk M) (n3 : Int32) (hc3_1 : 0 ≤ Int32.toInt (M.1 3 1) ∧ Int32.toInt (M.1 3 1) ≤ 996) (hc3_2 : 5 ≤ Int32.toInt (M.1 3 2) ∧ Int32.toInt (M.1 3 2) ≤ 5) (d : Nat) (hd : 2 ≤ d) : PW 4 d (0, [some (pvR 3), some (pvI 5), some (pvI 1), some (pvI n3), some (pvI 0), none, none], [], M) (fun r X => (∃ x : Int32, r = some (pvI x) ∧ True) ∧ pvOk X ∧ pvFr fp_X0_run_3_5_1_x_0_5 M X ∧ Int32.toInt (X.1 3 1) ≤ Int32.toInt (M.1 3 1) + 3) := by
  have hT : pvdom 4 = pvD_4 := rfl
  refine pw_blk hT 2 (S' := (4, [some (pvR 3), some (pvI 5), some (pvI 1), some (pvI n3), some (pvI 0), none, none], [pvI 40, pvI 0], M)) rfl ⟨trivial, trivial, trivial⟩ ?_
  refine pw_ic hT (c := 0 ≤ 40) rfl rfl (fun c1_ => ?_) (fun c1_ => absurd (by decide) c1_)
  refine pw_blk hT 2 (S' := (11, [some (pvR 3), some (pvI 5), some (pvI 1), some (pvI n3), some (pvI 0), none, none], [pvI 1, pvI 5], M)) rfl ⟨trivial, trivial, trivial⟩ ?_
  refine pw_callT hT (as := [pvI 5, pvI 1]) (lo1 := [some (pvI 5), some (pvI 1), none, none, none]) (d1 := d) (rest := []) rfl rfl rfl rfl rfl (fun h => absurd h (by decide)) (Nat.zero_le _) rfl rfl rfl (sf_X0_bodyFrom_5_1 M hok d) ?_
  refine pw_eqI (show ((pvstab 1041).getD (Int32.toNatClampNeg ((0 * 3) + 1)) 0) = 11 from by decide) ?_
  show PW 4 d (14, [some (pvR 3), some (pvI 5), some (pvI 1), some (pvI n3), some (pvI 0), none, none], [pvI 11], M) _
  refine pw_blk hT 7 (S' := (25, [some (pvR 3), some (pvI 5), some (pvI 1), some (pvI n3), some (pvI 0), some (pvI 11), some (pvI (0 + 1))], [pvI 11, pvR 3], M)) rfl ⟨trivial, trivial, trivial, trivial, trivial, trivial, trivial, trivial⟩ ?_
  refine pw_callVd hT (as := [pvR 3, pvI 11]) (lo1 := [some (pvR 3), some (pvI 11)]) (d1 := d) (rest := []) rfl rfl rfl rfl rfl (fun _ => rfl) (Nat.zero_le _) rfl rfl rfl (sf_X0_note_3_x M hok 11 (zr_wide (show 11 ≤ Int32.toInt 11 ∧ Int32.toInt 11 ≤ 11 from (by decide)) (by decide) (by decide)) (zr_wide hc3_1 (by decide) (by decide)) d) (fun M9_ o11_ g12_ d7_ => ?_)
  have f13_ : pvFr fp_X0_run_3_5_1_x_0_5 M M9_ := pvfr_t g12_ pvfr_0 fp_X0_run_3_5_1_x_0_5_fp_X0_note_3_x
  have b14_ : 0 ≤ Int32.toInt (M9_.1 3 1) ∧ Int32.toInt (M9_.1 3 1) ≤ 997 := (by have u0 := hc3_1; have u1 := d7_; have u2 := pvok_r o11_ 3 1 (lo := 0) (hi := 1000000) rfl; omega)
  refine pw_blk hT 1 (S' := (30, [some (pvR 3), some (pvI 5), some (pvI 1), some (pvI n3), some (pvI 0), some (pvI 11), some (pvI (0 + 1))], [pvI 11], M9_)) rfl ⟨trivial, trivial⟩ ?_
  refine pw_sw hT rfl rfl ?_
  refine And.intro (fun c15_ => absurd c15_ (by decide)) (fun c15_ => ?_)
  refine And.intro (fun c16_ => ?_) (fun c16_ => absurd (by decide) c16_)
  show PW 4 d (135, [some (pvR 3), some (pvI 5), some (pvI 1), some (pvI n3), some (pvI 0), some (pvI 11), some (pvI (0 + 1))], [], M9_) _
  have e17_ : (M9_.1 3 2) = (M.1 3 2) := (g12_ 3 2 rfl)
  have b18_ : 5 ≤ Int32.toInt (M9_.1 3 2) ∧ Int32.toInt (M9_.1 3 2) ≤ 5 := (by rw [e17_]; exact hc3_2)
  refine pw_blk hT 3 (S' := (140, [some (pvR 3), some (pvI 5), some (pvI 1), some (pvI n3), some (pvI 0), some (pvI 11), some (pvI (0 + 1))], [pvI (M9_.1 3 2), pvR 3], M9_)) rfl ⟨trivial, trivial, rfl, trivial⟩ ?_
  refine pw_eqI ((zi_eq _ (5)).mpr (by have u0 := b18_; have u1 : Int32.toInt (5) = 5 := (by decide); omega)) ?_
  refine pw_blk hT 3 (S' := (144, [some (pvR 3), some (pvI 5), some (pvI 1), some (pvI n3), some (pvI 0), some (pvI 11), some (pvI (0 + 1))], [pvI (0 + 1), pvI n3, pvI 0, pvI 5, pvR 3], M9_)) rfl ⟨trivial, trivial, trivial, trivial⟩ ?_
  refine pw_callGd hT (as := [pvR 3, pvI 5, pvI 0, pvI n3, pvI (0 + 1)]) (lo1 := [some (pvR 3), some (pvI 5), some (pvI 0), some (pvI n3), some (pvI (0 + 1)), none, none]) (d1 := (d - 1)) (rest := []) rfl rfl rfl rfl rfl (fun h => absurd h (by decide)) (show 1 ≤ d by omega) rfl rfl rfl (sf_X0_run_3_5_0_x_1_5 M9_ o11_ n3 b14_ b18_ (d - 1) (by omega)) (fun x20_ M21_ b22_ o23_ g24_ d19_ => ?_)
  have f25_ : pvFr fp_X0_run_3_5_1_x_0_5 M M21_ := pvfr_t g24_ f13_ fp_X0_run_3_5_1_x_0_5_fp_X0_run_3_5_0_x_1_5
  have b26_ : 0 ≤ Int32.toInt (M21_.1 3 1) ∧ Int32.toInt (M21_.1 3 1) ≤ 999 := (by have u0 := b14_; have u1 := d19_; have u2 := pvok_r o23_ 3 1 (lo := 0) (hi := 1000000) rfl; omega)
  refine pw_blk hT 3 (S' := (152, [some (pvR 3), some (pvI 5), some (pvI 1), some (pvI n3), some (pvI 0), some (pvI 11), some (pvI (0 + 1))], [pvI (x20_ - (M21_.1 3 3))], M21_)) rfl ⟨trivial, rfl, trivial, trivial⟩ ?_
  exact pw_ret hT rfl (r := some (pvI (x20_ - (M21_.1 3 3)))) (M' := M21_) ⟨rfl, rfl⟩ ⟨⟨_, rfl, trivial⟩, o23_, f25_, (by omega)⟩
set_option maxHeartbeats 4000000 in
set_option maxRecDepth 10000 in
theorem sf_X0_bodyFrom_5_2 (M : pvM) (hok : pvOk M) (d : Nat) : PW 1 d (0, [some (pvI 5), some (pvI 2), none, none, none], [], M) (fun r X => r = some (pvI (((pvstab 1041).getD (Int32.toNatClampNeg ((5 * 3) + 2)) 0))) ∧ X = M) := by
  have hT : pvdom 1 = pvD_1 := rfl
  refine pw_blk hT 4 (S' := (4, [some (pvI 5), some (pvI 2), some (pvI 5), some (pvI 0), none], [], M)) rfl ⟨trivial, trivial, trivial, trivial, trivial⟩ ?_
  refine pw_blk hT 3 (S' := (9, [some (pvI 5), some (pvI 2), some (pvI 5), some (pvI 0), none], [pvI (Int32.ofNat (pvstab 1041).length), pvI 0], M)) rfl ⟨trivial, trivial, (by decide), trivial⟩ ?_
  refine pw_ic hT (c := (Int32.ofNat (pvstab 1041).length) ≤ 0) rfl rfl (fun c1_ => absurd c1_ (by decide)) (fun c1_ => ?_)
  refine pw_blk hT 1 (S' := (13, [some (pvI 5), some (pvI 2), some (pvI 5), some (pvI 0), none], [pvI 5], M)) rfl ⟨trivial, trivial⟩ ?_
  refine pw_if hT (c := 5 < 0) rfl rfl (fun c2_ => absurd c2_ (by decide)) (fun c2_ => ?_)
  refine pw_blk hT 7 (S' := (25, [some (pvI 5), some (pvI 2), some (pvI 5), some (pvI 0), some (pvI ((5 * 3) + 2))], [pvI ((5 * 3) + 2)], M)) rfl ⟨trivial, trivial, trivial, trivial, trivial, trivial, trivial, trivial⟩ ?_
  refine pw_if hT (c := ((5 * 3) + 2) < 0) rfl rfl (fun c3_ => absurd c3_ (by decide)) (fun c3_ => ?_)
  refine pw_blk hT 3 (S' := (34, [some (pvI 5), some (pvI 2), some (pvI 5), some (pvI 0), some (pvI ((5 * 3) + 2))], [pvI (Int32.ofNat (pvstab 1041).length), pvI ((5 * 3) + 2)], M)) rfl ⟨trivial, trivial, (by decide), trivial⟩ ?_
  refine pw_ic hT (c := (Int32.ofNat (pvstab 1041).length) ≤ ((5 * 3) + 2)) rfl rfl (fun c4_ => absurd c4_ (by decide)) (fun c4_ => ?_)
  refine pw_blk hT 3 (S' := (43, [some (pvI 5), some (pvI 2), some (pvI 5), some (pvI 0), some (pvI ((5 * 3) + 2))], [pvI ((pvstab 1041).getD (Int32.toNatClampNeg ((5 * 3) + 2)) 0)], M)) rfl ⟨trivial, trivial, ⟨by decide, (zr_in (n := 21) (show 17 ≤ Int32.toInt ((5 * 3) + 2) ∧ Int32.toInt ((5 * 3) + 2) ≤ 17 from (by decide)) (by decide) (by decide))⟩, trivial⟩ ?_
  refine pw_if hT (c := ((pvstab 1041).getD (Int32.toNatClampNeg ((5 * 3) + 2)) 0) = 0) rfl rfl (fun c5_ => absurd c5_ (by decide)) (fun c5_ => ?_)
  refine pw_blk hT 3 (S' := (52, [some (pvI 5), some (pvI 2), some (pvI 5), some (pvI 0), some (pvI ((5 * 3) + 2))], [pvI ((pvstab 1041).getD (Int32.toNatClampNeg ((5 * 3) + 2)) 0)], M)) rfl ⟨trivial, trivial, ⟨by decide, (zr_in (n := 21) (show 17 ≤ Int32.toInt ((5 * 3) + 2) ∧ Int32.toInt ((5 * 3) + 2) ≤ 17 from (by decide)) (by decide) (by decide))⟩, trivial⟩ ?_
  exact pw_ret hT rfl (r := some (pvI ((pvstab 1041).getD (Int32.toNatClampNeg ((5 * 3) + 2)) 0))) (M' := M) ⟨rfl, rfl⟩ ⟨rfl, rfl⟩
def fpL_X0_run_3_0_0_x_4_5 : List (Nat × Nat × Nat) := [(0, 3, 2), (0, 4, 0)]
def fp_X0_run_3_0_0_x_4_5 (q k : Nat) : Bool := pvfp fpL_X0_run_3_0_0_x_4_5 q k
theorem fp_X0_run_3_0_0_x_4_5_fp_X0_note_3_x (a b : Nat) (h : fp_X0_note_3_x a b = true) : fp_X0_run_3_0_0_x_4_5 a b = true := pvfp_sub (l1 := fpL_X0_note_3_x) (l2 := fpL_X0_run_3_0_0_x_4_5) (by decide) a b h
set_option maxHeartbeats 4000000 in
set_option maxRecDepth 10000 in
theorem sf_X0_run_3_0_0_x_4_5 (M : pvM) (hok : pvOk M) (n3 : Int32) (hc3_1 : 0 ≤ Int32.toInt (M.1 3 1) ∧ Int32.toInt (M.1 3 1) ≤ 998) (hc3_2 : 5 ≤ Int32.toInt (M.1 3 2) ∧ Int32.toInt (M.1 3 2) ≤ 5) (d : Nat) : PW 4 d (0, [some (pvR 3), some (pvI 0), some (pvI 0), some (pvI n3), some (pvI 4), none, none], [], M) (fun r X => (∃ x : Int32, r = some (pvI x) ∧ True) ∧ pvOk X ∧ pvFr fp_X0_run_3_0_0_x_4_5 M X ∧ Int32.toInt (X.1 3 1) ≤ Int32.toInt (M.1 3 1) + 1) := by
  have hT : pvdom 4 = pvD_4 := rfl
  refine pw_blk hT 2 (S' := (4, [some (pvR 3), some (pvI 0), some (pvI 0), some (pvI n3), some (pvI 4), none, none], [pvI 40, pvI 4], M)) rfl ⟨trivial, trivial, trivial⟩ ?_
  refine pw_ic hT (c := 4 ≤ 40) rfl rfl (fun c1_ => ?_) (fun c1_ => absurd (by decide) c1_)
  refine pw_blk hT 2 (S' := (11, [some (pvR 3), some (pvI 0), some (pvI 0), some (pvI n3), some (pvI 4), none, none], [pvI 0, pvI 0], M)) rfl ⟨trivial, trivial, trivial⟩ ?_
  refine pw_callT hT (as := [pvI 0, pvI 0]) (lo1 := [some (pvI 0), some (pvI 0), none, none, none]) (d1 := d) (rest := []) rfl rfl rfl rfl rfl (fun h => absurd h (by decide)) (Nat.zero_le _) rfl rfl rfl (sf_X0_bodyFrom_0_0 M hok d) ?_
  refine pw_eqI (show ((pvstab 1041).getD (Int32.toNatClampNeg ((0 * 3) + 0)) 0) = 10 from by decide) ?_
  show PW 4 d (14, [some (pvR 3), some (pvI 0), some (pvI 0), some (pvI n3), some (pvI 4), none, none], [pvI 10], M) _
  refine pw_blk hT 7 (S' := (25, [some (pvR 3), some (pvI 0), some (pvI 0), some (pvI n3), some (pvI 4), some (pvI 10), some (pvI (4 + 1))], [pvI 10, pvR 3], M)) rfl ⟨trivial, trivial, trivial, trivial, trivial, trivial, trivial, trivial⟩ ?_
  refine pw_callVd hT (as := [pvR 3, pvI 10]) (lo1 := [some (pvR 3), some (pvI 10)]) (d1 := d) (rest := []) rfl rfl rfl rfl rfl (fun _ => rfl) (Nat.zero_le _) rfl rfl rfl (sf_X0_note_3_x M hok 10 (zr_wide (show 10 ≤ Int32.toInt 10 ∧ Int32.toInt 10 ≤ 10 from (by decide)) (by decide) (by decide)) (zr_wide hc3_1 (by decide) (by decide)) d) (fun M9_ o11_ g12_ d7_ => ?_)
  have f13_ : pvFr fp_X0_run_3_0_0_x_4_5 M M9_ := pvfr_t g12_ pvfr_0 fp_X0_run_3_0_0_x_4_5_fp_X0_note_3_x
  have b14_ : 0 ≤ Int32.toInt (M9_.1 3 1) ∧ Int32.toInt (M9_.1 3 1) ≤ 999 := (by have u0 := hc3_1; have u1 := d7_; have u2 := pvok_r o11_ 3 1 (lo := 0) (hi := 1000000) rfl; omega)
  refine pw_blk hT 1 (S' := (30, [some (pvR 3), some (pvI 0), some (pvI 0), some (pvI n3), some (pvI 4), some (pvI 10), some (pvI (4 + 1))], [pvI 10], M9_)) rfl ⟨trivial, trivial⟩ ?_
  refine pw_sw hT rfl rfl ?_
  refine And.intro (fun c15_ => ?_) (fun c15_ => absurd (by decide) c15_)
  show PW 4 d (128, [some (pvR 3), some (pvI 0), some (pvI 0), some (pvI n3), some (pvI 4), some (pvI 10), some (pvI (4 + 1))], [], M9_) _
  refine pw_blk hT 4 (S' := (134, [some (pvR 3), some (pvI 0), some (pvI 0), some (pvI n3), some (pvI 4), some (pvI 10), some (pvI (4 + 1))], [pvI (n3 + (M9_.1 3 4))], M9_)) rfl ⟨trivial, trivial, rfl, trivial, trivial⟩ ?_
  exact pw_ret hT rfl (r := some (pvI (n3 + (M9_.1 3 4)))) (M' := M9_) ⟨rfl, rfl⟩ ⟨⟨_, rfl, trivial⟩, o11_, f13_, (by omega)⟩
def fpL_X0_run_3_5_0_x_3_5 : List (Nat × Nat × Nat) := [(0, 3, 2), (0, 4, 0)]
def fp_X0_run_3_5_0_x_3_5 (q k : Nat) : Bool := pvfp fpL_X0_run_3_5_0_x_3_5 q k
theorem fp_X0_run_3_5_0_x_3_5_fp_X0_note_3_x (a b : Nat) (h : fp_X0_note_3_x a b = true) : fp_X0_run_3_5_0_x_3_5 a b = true := pvfp_sub (l1 := fpL_X0_note_3_x) (l2 := fpL_X0_run_3_5_0_x_3_5) (by decide) a b h
theorem fp_X0_run_3_5_0_x_3_5_fp_X0_run_3_0_0_x_4_5 (a b : Nat) (h : fp_X0_run_3_0_0_x_4_5 a b = true) : fp_X0_run_3_5_0_x_3_5 a b = true := pvfp_sub (l1 := fpL_X0_run_3_0_0_x_4_5) (l2 := fpL_X0_run_3_5_0_x_3_5) (by decide) a b h
set_option maxHeartbeats 4000000 in
set_option maxRecDepth 10000 in
theorem sf_X0_run_3_5_0_x_3_5 (M : pvM) (hok : pvOk M) (n3 : Int32) (hc3_1 : 0 ≤ Int32.toInt (M.1 3 1) ∧ Int32.toInt (M.1 3 1) ≤ 997) (hc3_2 : 5 ≤ Int32.toInt (M.1 3 2) ∧ Int32.toInt (M.1 3 2) ≤ 5) (d : Nat) (hd : 1 ≤ d) : PW 4 d (0, [some (pvR 3), some (pvI 5), some (pvI 0), some (pvI n3), some (pvI 3), none, none], [], M) (fun r X => (∃ x : Int32, r = some (pvI x) ∧ True) ∧ pvOk X ∧ pvFr fp_X0_run_3_5_0_x_3_5 M X ∧ Int32.toInt (X.1 3 1) ≤ Int32.toInt (M.1 3 1) + 2) := by
  have hT : pvdom 4 = pvD_4 := rfl
  refine pw_blk hT 2 (S' := (4, [some (pvR 3), some (pvI 5), some (pvI 0), some (pvI n3), some (pvI 3), none, none], [pvI 40, pvI 3], M)) rfl ⟨trivial, trivial, trivial⟩ ?_
  refine pw_ic hT (c := 3 ≤ 40) rfl rfl (fun c1_ => ?_) (fun c1_ => absurd (by decide) c1_)
  refine pw_blk hT 2 (S' := (11, [some (pvR 3), some (pvI 5), some (pvI 0), some (pvI n3), some (pvI 3), none, none], [pvI 0, pvI 5], M)) rfl ⟨trivial, trivial, trivial⟩ ?_
  refine pw_callT hT (as := [pvI 5, pvI 0]) (lo1 := [some (pvI 5), some (pvI 0), none, none, none]) (d1 := d) (rest := []) rfl rfl rfl rfl rfl (fun h => absurd h (by decide)) (Nat.zero_le _) rfl rfl rfl (sf_X0_bodyFrom_5_0 M hok d) ?_
  refine pw_eqI (show ((pvstab 1041).getD (Int32.toNatClampNeg ((2 * 3) + 0)) 0) = 30 from by decide) ?_
  show PW 4 d (14, [some (pvR 3), some (pvI 5), some (pvI 0), some (pvI n3), some (pvI 3), none, none], [pvI 30], M) _
  refine pw_blk hT 7 (S' := (25, [some (pvR 3), some (pvI 5), some (pvI 0), some (pvI n3), some (pvI 3), some (pvI 30), some (pvI (3 + 1))], [pvI 30, pvR 3], M)) rfl ⟨trivial, trivial, trivial, trivial, trivial, trivial, trivial, trivial⟩ ?_
  refine pw_callVd hT (as := [pvR 3, pvI 30]) (lo1 := [some (pvR 3), some (pvI 30)]) (d1 := d) (rest := []) rfl rfl rfl rfl rfl (fun _ => rfl) (Nat.zero_le _) rfl rfl rfl (sf_X0_note_3_x M hok 30 (zr_wide (show 30 ≤ Int32.toInt 30 ∧ Int32.toInt 30 ≤ 30 from (by decide)) (by decide) (by decide)) (zr_wide hc3_1 (by decide) (by decide)) d) (fun M9_ o11_ g12_ d7_ => ?_)
  have f13_ : pvFr fp_X0_run_3_5_0_x_3_5 M M9_ := pvfr_t g12_ pvfr_0 fp_X0_run_3_5_0_x_3_5_fp_X0_note_3_x
  have b14_ : 0 ≤ Int32.toInt (M9_.1 3 1) ∧ Int32.toInt (M9_.1 3 1) ≤ 998 := (by have u0 := hc3_1; have u1 := d7_; have u2 := pvok_r o11_ 3 1 (lo := 0) (hi := 1000000) rfl; omega)
  refine pw_blk hT 1 (S' := (30, [some (pvR 3), some (pvI 5), some (pvI 0), some (pvI n3), some (pvI 3), some (pvI 30), some (pvI (3 + 1))], [pvI 30], M9_)) rfl ⟨trivial, trivial⟩ ?_
  refine pw_sw hT rfl rfl ?_
  refine And.intro (fun c15_ => absurd c15_ (by decide)) (fun c15_ => ?_)
  refine And.intro (fun c16_ => absurd c16_ (by decide)) (fun c16_ => ?_)
  refine And.intro (fun c17_ => absurd c17_ (by decide)) (fun c17_ => ?_)
  refine And.intro (fun c18_ => absurd c18_ (by decide)) (fun c18_ => ?_)
  refine And.intro (fun c19_ => ?_) (fun c19_ => absurd (by decide) c19_)
  show PW 4 d (181, [some (pvR 3), some (pvI 5), some (pvI 0), some (pvI n3), some (pvI 3), some (pvI 30), some (pvI (3 + 1))], [], M9_) _
  refine pw_blk hT 7 (S' := (189, [some (pvR 3), some (pvI 5), some (pvI 0), some (pvI n3), some (pvI 3), some (pvI 30), some (pvI (3 + 1))], [pvI (3 + 1), pvI (n3 * 3), pvI 0, pvI 0, pvR 3], M9_)) rfl ⟨trivial, trivial, trivial, trivial, trivial, trivial, trivial, trivial⟩ ?_
  have e20_ : (M9_.1 3 2) = (M.1 3 2) := (g12_ 3 2 rfl)
  have b21_ : 5 ≤ Int32.toInt (M9_.1 3 2) ∧ Int32.toInt (M9_.1 3 2) ≤ 5 := (by rw [e20_]; exact hc3_2)
  refine pw_callGd hT (as := [pvR 3, pvI 0, pvI 0, pvI (n3 * 3), pvI (3 + 1)]) (lo1 := [some (pvR 3), some (pvI 0), some (pvI 0), some (pvI (n3 * 3)), some (pvI (3 + 1)), none, none]) (d1 := (d - 1)) (rest := []) rfl rfl rfl rfl rfl (fun h => absurd h (by decide)) (show 1 ≤ d by omega) rfl rfl rfl (sf_X0_run_3_0_0_x_4_5 M9_ o11_ (n3 * 3) b14_ b21_ (d - 1)) (fun x23_ M24_ b25_ o26_ g27_ d22_ => ?_)
  have f28_ : pvFr fp_X0_run_3_5_0_x_3_5 M M24_ := pvfr_t g27_ f13_ fp_X0_run_3_5_0_x_3_5_fp_X0_run_3_0_0_x_4_5
  have b29_ : 0 ≤ Int32.toInt (M24_.1 3 1) ∧ Int32.toInt (M24_.1 3 1) ≤ 999 := (by have u0 := b14_; have u1 := d22_; have u2 := pvok_r o26_ 3 1 (lo := 0) (hi := 1000000) rfl; omega)
  exact pw_ret hT rfl (r := some (pvI x23_)) (M' := M24_) ⟨rfl, rfl⟩ ⟨⟨_, rfl, trivial⟩, o26_, f28_, (by omega)⟩
def fpL_X0_run_3_5_1_x_2_5 : List (Nat × Nat × Nat) := [(0, 3, 2), (0, 4, 0)]
def fp_X0_run_3_5_1_x_2_5 (q k : Nat) : Bool := pvfp fpL_X0_run_3_5_1_x_2_5 q k
theorem fp_X0_run_3_5_1_x_2_5_fp_X0_note_3_x (a b : Nat) (h : fp_X0_note_3_x a b = true) : fp_X0_run_3_5_1_x_2_5 a b = true := pvfp_sub (l1 := fpL_X0_note_3_x) (l2 := fpL_X0_run_3_5_1_x_2_5) (by decide) a b h
theorem fp_X0_run_3_5_1_x_2_5_fp_X0_run_3_5_0_x_3_5 (a b : Nat) (h : fp_X0_run_3_5_0_x_3_5 a b = true) : fp_X0_run_3_5_1_x_2_5 a b = true := pvfp_sub (l1 := fpL_X0_run_3_5_0_x_3_5) (l2 := fpL_X0_run_3_5_1_x_2_5) (by decide) a b h
set_option maxHeartbeats 4000000 in
set_option maxRecDepth 10000 in
theorem sf_X0_run_3_5_1_x_2_5 (M : pvM) (hok : pvOk M) (n3 : Int32) (hc3_1 : 0 ≤ Int32.toInt (M.1 3 1) ∧ Int32.toInt (M.1 3 1) ≤ 996) (hc3_2 : 5 ≤ Int32.toInt (M.1 3 2) ∧ Int32.toInt (M.1 3 2) ≤ 5) (d : Nat) (hd : 2 ≤ d) : PW 4 d (0, [some (pvR 3), some (pvI 5), some (pvI 1), some (pvI n3), some (pvI 2), none, none], [], M) (fun r X => (∃ x : Int32, r = some (pvI x) ∧ True) ∧ pvOk X ∧ pvFr fp_X0_run_3_5_1_x_2_5 M X ∧ Int32.toInt (X.1 3 1) ≤ Int32.toInt (M.1 3 1) + 3) := by
  have hT : pvdom 4 = pvD_4 := rfl
  refine pw_blk hT 2 (S' := (4, [some (pvR 3), some (pvI 5), some (pvI 1), some (pvI n3), some (pvI 2), none, none], [pvI 40, pvI 2], M)) rfl ⟨trivial, trivial, trivial⟩ ?_
  refine pw_ic hT (c := 2 ≤ 40) rfl rfl (fun c1_ => ?_) (fun c1_ => absurd (by decide) c1_)
  refine pw_blk hT 2 (S' := (11, [some (pvR 3), some (pvI 5), some (pvI 1), some (pvI n3), some (pvI 2), none, none], [pvI 1, pvI 5], M)) rfl ⟨trivial, trivial, trivial⟩ ?_
  refine pw_callT hT (as := [pvI 5, pvI 1]) (lo1 := [some (pvI 5), some (pvI 1), none, none, none]) (d1 := d) (rest := []) rfl rfl rfl rfl rfl (fun h => absurd h (by decide)) (Nat.zero_le _) rfl rfl rfl (sf_X0_bodyFrom_5_1 M hok d) ?_
  refine pw_eqI (show ((pvstab 1041).getD (Int32.toNatClampNeg ((0 * 3) + 1)) 0) = 11 from by decide) ?_
  show PW 4 d (14, [some (pvR 3), some (pvI 5), some (pvI 1), some (pvI n3), some (pvI 2), none, none], [pvI 11], M) _
  refine pw_blk hT 7 (S' := (25, [some (pvR 3), some (pvI 5), some (pvI 1), some (pvI n3), some (pvI 2), some (pvI 11), some (pvI (2 + 1))], [pvI 11, pvR 3], M)) rfl ⟨trivial, trivial, trivial, trivial, trivial, trivial, trivial, trivial⟩ ?_
  refine pw_callVd hT (as := [pvR 3, pvI 11]) (lo1 := [some (pvR 3), some (pvI 11)]) (d1 := d) (rest := []) rfl rfl rfl rfl rfl (fun _ => rfl) (Nat.zero_le _) rfl rfl rfl (sf_X0_note_3_x M hok 11 (zr_wide (show 11 ≤ Int32.toInt 11 ∧ Int32.toInt 11 ≤ 11 from (by decide)) (by decide) (by decide)) (zr_wide hc3_1 (by decide) (by decide)) d) (fun M9_ o11_ g12_ d7_ => ?_)
  have f13_ : pvFr fp_X0_run_3_5_1_x_2_5 M M9_ := pvfr_t g12_ pvfr_0 fp_X0_run_3_5_1_x_2_5_fp_X0_note_3_x
  have b14_ : 0 ≤ Int32.toInt (M9_.1 3 1) ∧ Int32.toInt (M9_.1 3 1) ≤ 997 := (by have u0 := hc3_1; have u1 := d7_; have u2 := pvok_r o11_ 3 1 (lo := 0) (hi := 1000000) rfl; omega)
  refine pw_blk hT 1 (S' := (30, [some (pvR 3), some (pvI 5), some (pvI 1), some (pvI n3), some (pvI 2), some (pvI 11), some (pvI (2 + 1))], [pvI 11], M9_)) rfl ⟨trivial, trivial⟩ ?_
  refine pw_sw hT rfl rfl ?_
  refine And.intro (fun c15_ => absurd c15_ (by decide)) (fun c15_ => ?_)
  refine And.intro (fun c16_ => ?_) (fun c16_ => absurd (by decide) c16_)
  show PW 4 d (135, [some (pvR 3), some (pvI 5), some (pvI 1), some (pvI n3), some (pvI 2), some (pvI 11), some (pvI (2 + 1))], [], M9_) _
  have e17_ : (M9_.1 3 2) = (M.1 3 2) := (g12_ 3 2 rfl)
  have b18_ : 5 ≤ Int32.toInt (M9_.1 3 2) ∧ Int32.toInt (M9_.1 3 2) ≤ 5 := (by rw [e17_]; exact hc3_2)
  refine pw_blk hT 3 (S' := (140, [some (pvR 3), some (pvI 5), some (pvI 1), some (pvI n3), some (pvI 2), some (pvI 11), some (pvI (2 + 1))], [pvI (M9_.1 3 2), pvR 3], M9_)) rfl ⟨trivial, trivial, rfl, trivial⟩ ?_
  refine pw_eqI ((zi_eq _ (5)).mpr (by have u0 := b18_; have u1 : Int32.toInt (5) = 5 := (by decide); omega)) ?_
  refine pw_blk hT 3 (S' := (144, [some (pvR 3), some (pvI 5), some (pvI 1), some (pvI n3), some (pvI 2), some (pvI 11), some (pvI (2 + 1))], [pvI (2 + 1), pvI n3, pvI 0, pvI 5, pvR 3], M9_)) rfl ⟨trivial, trivial, trivial, trivial⟩ ?_
  refine pw_callGd hT (as := [pvR 3, pvI 5, pvI 0, pvI n3, pvI (2 + 1)]) (lo1 := [some (pvR 3), some (pvI 5), some (pvI 0), some (pvI n3), some (pvI (2 + 1)), none, none]) (d1 := (d - 1)) (rest := []) rfl rfl rfl rfl rfl (fun h => absurd h (by decide)) (show 1 ≤ d by omega) rfl rfl rfl (sf_X0_run_3_5_0_x_3_5 M9_ o11_ n3 b14_ b18_ (d - 1) (by omega)) (fun x20_ M21_ b22_ o23_ g24_ d19_ => ?_)
  have f25_ : pvFr fp_X0_run_3_5_1_x_2_5 M M21_ := pvfr_t g24_ f13_ fp_X0_run_3_5_1_x_2_5_fp_X0_run_3_5_0_x_3_5
  have b26_ : 0 ≤ Int32.toInt (M21_.1 3 1) ∧ Int32.toInt (M21_.1 3 1) ≤ 999 := (by have u0 := b14_; have u1 := d19_; have u2 := pvok_r o23_ 3 1 (lo := 0) (hi := 1000000) rfl; omega)
  refine pw_blk hT 3 (S' := (152, [some (pvR 3), some (pvI 5), some (pvI 1), some (pvI n3), some (pvI 2), some (pvI 11), some (pvI (2 + 1))], [pvI (x20_ - (M21_.1 3 3))], M21_)) rfl ⟨trivial, rfl, trivial, trivial⟩ ?_
  exact pw_ret hT rfl (r := some (pvI (x20_ - (M21_.1 3 3)))) (M' := M21_) ⟨rfl, rfl⟩ ⟨⟨_, rfl, trivial⟩, o23_, f25_, (by omega)⟩
def fpL_X0_run_3_2_2_x_1_5 : List (Nat × Nat × Nat) := [(0, 3, 2), (0, 4, 0)]
def fp_X0_run_3_2_2_x_1_5 (q k : Nat) : Bool := pvfp fpL_X0_run_3_2_2_x_1_5 q k
theorem fp_X0_run_3_2_2_x_1_5_fp_X0_note_3_x (a b : Nat) (h : fp_X0_note_3_x a b = true) : fp_X0_run_3_2_2_x_1_5 a b = true := pvfp_sub (l1 := fpL_X0_note_3_x) (l2 := fpL_X0_run_3_2_2_x_1_5) (by decide) a b h
theorem fp_X0_run_3_2_2_x_1_5_fp_X0_run_3_5_1_x_2_5 (a b : Nat) (h : fp_X0_run_3_5_1_x_2_5 a b = true) : fp_X0_run_3_2_2_x_1_5 a b = true := pvfp_sub (l1 := fpL_X0_run_3_5_1_x_2_5) (l2 := fpL_X0_run_3_2_2_x_1_5) (by decide) a b h
set_option maxHeartbeats 4000000 in
set_option maxRecDepth 10000 in
theorem sf_X0_run_3_2_2_x_1_5 (M : pvM) (hok : pvOk M) (n3 : Int32) (hc3_1 : 0 ≤ Int32.toInt (M.1 3 1) ∧ Int32.toInt (M.1 3 1) ≤ 995) (hc3_2 : 5 ≤ Int32.toInt (M.1 3 2) ∧ Int32.toInt (M.1 3 2) ≤ 5) (d : Nat) (hd : 3 ≤ d) : PW 4 d (0, [some (pvR 3), some (pvI 2), some (pvI 2), some (pvI n3), some (pvI 1), none, none], [], M) (fun r X => (∃ x : Int32, r = some (pvI x) ∧ True) ∧ pvOk X ∧ pvFr fp_X0_run_3_2_2_x_1_5 M X ∧ Int32.toInt (X.1 3 1) ≤ Int32.toInt (M.1 3 1) + 4) := by
  have hT : pvdom 4 = pvD_4 := rfl
  refine pw_blk hT 2 (S' := (4, [some (pvR 3), some (pvI 2), some (pvI 2), some (pvI n3), some (pvI 1), none, none], [pvI 40, pvI 1], M)) rfl ⟨trivial, trivial, trivial⟩ ?_
  refine pw_ic hT (c := 1 ≤ 40) rfl rfl (fun c1_ => ?_) (fun c1_ => absurd (by decide) c1_)
  refine pw_blk hT 2 (S' := (11, [some (pvR 3), some (pvI 2), some (pvI 2), some (pvI n3), some (pvI 1), none, none], [pvI 2, pvI 2], M)) rfl ⟨trivial, trivial, trivial⟩ ?_
  refine pw_callT hT (as := [pvI 2, pvI 2]) (lo1 := [some (pvI 2), some (pvI 2), none, none, none]) (d1 := d) (rest := []) rfl rfl rfl rfl rfl (fun h => absurd h (by decide)) (Nat.zero_le _) rfl rfl rfl (sf_X0_bodyFrom_2_2 M hok d) ?_
  refine pw_eqI (show ((pvstab 1041).getD (Int32.toNatClampNeg ((0 * 3) + 2)) 0) = 12 from by decide) ?_
  show PW 4 d (14, [some (pvR 3), some (pvI 2), some (pvI 2), some (pvI n3), some (pvI 1), none, none], [pvI 12], M) _
  refine pw_blk hT 7 (S' := (25, [some (pvR 3), some (pvI 2), some (pvI 2), some (pvI n3), some (pvI 1), some (pvI 12), some (pvI (1 + 1))], [pvI 12, pvR 3], M)) rfl ⟨trivial, trivial, trivial, trivial, trivial, trivial, trivial, trivial⟩ ?_
  refine pw_callVd hT (as := [pvR 3, pvI 12]) (lo1 := [some (pvR 3), some (pvI 12)]) (d1 := d) (rest := []) rfl rfl rfl rfl rfl (fun _ => rfl) (Nat.zero_le _) rfl rfl rfl (sf_X0_note_3_x M hok 12 (zr_wide (show 12 ≤ Int32.toInt 12 ∧ Int32.toInt 12 ≤ 12 from (by decide)) (by decide) (by decide)) (zr_wide hc3_1 (by decide) (by decide)) d) (fun M9_ o11_ g12_ d7_ => ?_)
  have f13_ : pvFr fp_X0_run_3_2_2_x_1_5 M M9_ := pvfr_t g12_ pvfr_0 fp_X0_run_3_2_2_x_1_5_fp_X0_note_3_x
  have b14_ : 0 ≤ Int32.toInt (M9_.1 3 1) ∧ Int32.toInt (M9_.1 3 1) ≤ 996 := (by have u0 := hc3_1; have u1 := d7_; have u2 := pvok_r o11_ 3 1 (lo := 0) (hi := 1000000) rfl; omega)
  refine pw_blk hT 1 (S' := (30, [some (pvR 3), some (pvI 2), some (pvI 2), some (pvI n3), some (pvI 1), some (pvI 12), some (pvI (1 + 1))], [pvI 12], M9_)) rfl ⟨trivial, trivial⟩ ?_
  refine pw_sw hT rfl rfl ?_
  refine And.intro (fun c15_ => absurd c15_ (by decide)) (fun c15_ => ?_)
  refine And.intro (fun c16_ => absurd c16_ (by decide)) (fun c16_ => ?_)
  refine And.intro (fun c17_ => ?_) (fun c17_ => absurd (by decide) c17_)
  show PW 4 d (153, [some (pvR 3), some (pvI 2), some (pvI 2), some (pvI n3), some (pvI 1), some (pvI 12), some (pvI (1 + 1))], [], M9_) _
  have e18_ : (M9_.1 3 2) = (M.1 3 2) := (g12_ 3 2 rfl)
  have b19_ : 5 ≤ Int32.toInt (M9_.1 3 2) ∧ Int32.toInt (M9_.1 3 2) ≤ 5 := (by rw [e18_]; exact hc3_2)
  refine pw_blk hT 3 (S' := (158, [some (pvR 3), some (pvI 2), some (pvI 2), some (pvI n3), some (pvI 1), some (pvI 12), some (pvI (1 + 1))], [pvI (M9_.1 3 2), pvR 3], M9_)) rfl ⟨trivial, trivial, rfl, trivial⟩ ?_
  refine pw_eqI ((zi_eq _ (5)).mpr (by have u0 := b19_; have u1 : Int32.toInt (5) = 5 := (by decide); omega)) ?_
  refine pw_blk hT 3 (S' := (162, [some (pvR 3), some (pvI 2), some (pvI 2), some (pvI n3), some (pvI 1), some (pvI 12), some (pvI (1 + 1))], [pvI (1 + 1), pvI n3, pvI 1, pvI 5, pvR 3], M9_)) rfl ⟨trivial, trivial, trivial, trivial⟩ ?_
  refine pw_callGd hT (as := [pvR 3, pvI 5, pvI 1, pvI n3, pvI (1 + 1)]) (lo1 := [some (pvR 3), some (pvI 5), some (pvI 1), some (pvI n3), some (pvI (1 + 1)), none, none]) (d1 := (d - 1)) (rest := []) rfl rfl rfl rfl rfl (fun h => absurd h (by decide)) (show 1 ≤ d by omega) rfl rfl rfl (sf_X0_run_3_5_1_x_2_5 M9_ o11_ n3 b14_ b19_ (d - 1) (by omega)) (fun x21_ M22_ b23_ o24_ g25_ d20_ => ?_)
  have f26_ : pvFr fp_X0_run_3_2_2_x_1_5 M M22_ := pvfr_t g25_ f13_ fp_X0_run_3_2_2_x_1_5_fp_X0_run_3_5_1_x_2_5
  have b27_ : 0 ≤ Int32.toInt (M22_.1 3 1) ∧ Int32.toInt (M22_.1 3 1) ≤ 999 := (by have u0 := b14_; have u1 := d20_; have u2 := pvok_r o24_ 3 1 (lo := 0) (hi := 1000000) rfl; omega)
  refine pw_blk hT 2 (S' := (167, [some (pvR 3), some (pvI 2), some (pvI 2), some (pvI n3), some (pvI 1), some (pvI 12), some (pvI (1 + 1))], [pvI (x21_ * 2)], M22_)) rfl ⟨trivial, trivial, trivial⟩ ?_
  exact pw_ret hT rfl (r := some (pvI (x21_ * 2))) (M' := M22_) ⟨rfl, rfl⟩ ⟨⟨_, rfl, trivial⟩, o24_, f26_, (by omega)⟩
def fpL_X0_run_3_5_2_x_0_5 : List (Nat × Nat × Nat) := [(0, 3, 2), (0, 4, 0)]
def fp_X0_run_3_5_2_x_0_5 (q k : Nat) : Bool := pvfp fpL_X0_run_3_5_2_x_0_5 q k
theorem fp_X0_run_3_5_2_x_0_5_fp_X0_note_3_x (a b : Nat) (h : fp_X0_note_3_x a b = true) : fp_X0_run_3_5_2_x_0_5 a b = true := pvfp_sub (l1 := fpL_X0_note_3_x) (l2 := fpL_X0_run_3_5_2_x_0_5) (by decide) a b h
theorem fp_X0_run_3_5_2_x_0_5_fp_X0_run_3_2_2_x_1_5 (a b : Nat) (h : fp_X0_run_3_2_2_x_1_5 a b = true) : fp_X0_run_3_5_2_x_0_5 a b = true := pvfp_sub (l1 := fpL_X0_run_3_2_2_x_1_5) (l2 := fpL_X0_run_3_5_2_x_0_5) (by decide) a b h
set_option maxHeartbeats 4000000 in
set_option maxRecDepth 10000 in
theorem sf_X0_run_3_5_2_x_0_5 (M : pvM) (hok : pvOk M) (n3 : Int32) (hc3_1 : 0 ≤ Int32.toInt (M.1 3 1) ∧ Int32.toInt (M.1 3 1) ≤ 994) (hc3_2 : 5 ≤ Int32.toInt (M.1 3 2) ∧ Int32.toInt (M.1 3 2) ≤ 5) (d : Nat) (hd : 4 ≤ d) : PW 4 d (0, [some (pvR 3), some (pvI 5), some (pvI 2), some (pvI n3), some (pvI 0), none, none], [], M) (fun r X => (∃ x : Int32, r = some (pvI x) ∧ True) ∧ pvOk X ∧ pvFr fp_X0_run_3_5_2_x_0_5 M X ∧ Int32.toInt (X.1 3 1) ≤ Int32.toInt (M.1 3 1) + 5) := by
  have hT : pvdom 4 = pvD_4 := rfl
  refine pw_blk hT 2 (S' := (4, [some (pvR 3), some (pvI 5), some (pvI 2), some (pvI n3), some (pvI 0), none, none], [pvI 40, pvI 0], M)) rfl ⟨trivial, trivial, trivial⟩ ?_
  refine pw_ic hT (c := 0 ≤ 40) rfl rfl (fun c1_ => ?_) (fun c1_ => absurd (by decide) c1_)
  refine pw_blk hT 2 (S' := (11, [some (pvR 3), some (pvI 5), some (pvI 2), some (pvI n3), some (pvI 0), none, none], [pvI 2, pvI 5], M)) rfl ⟨trivial, trivial, trivial⟩ ?_
  refine pw_callT hT (as := [pvI 5, pvI 2]) (lo1 := [some (pvI 5), some (pvI 2), none, none, none]) (d1 := d) (rest := []) rfl rfl rfl rfl rfl (fun h => absurd h (by decide)) (Nat.zero_le _) rfl rfl rfl (sf_X0_bodyFrom_5_2 M hok d) ?_
  refine pw_eqI (show ((pvstab 1041).getD (Int32.toNatClampNeg ((5 * 3) + 2)) 0) = 60 from by decide) ?_
  show PW 4 d (14, [some (pvR 3), some (pvI 5), some (pvI 2), some (pvI n3), some (pvI 0), none, none], [pvI 60], M) _
  refine pw_blk hT 7 (S' := (25, [some (pvR 3), some (pvI 5), some (pvI 2), some (pvI n3), some (pvI 0), some (pvI 60), some (pvI (0 + 1))], [pvI 60, pvR 3], M)) rfl ⟨trivial, trivial, trivial, trivial, trivial, trivial, trivial, trivial⟩ ?_
  refine pw_callVd hT (as := [pvR 3, pvI 60]) (lo1 := [some (pvR 3), some (pvI 60)]) (d1 := d) (rest := []) rfl rfl rfl rfl rfl (fun _ => rfl) (Nat.zero_le _) rfl rfl rfl (sf_X0_note_3_x M hok 60 (zr_wide (show 60 ≤ Int32.toInt 60 ∧ Int32.toInt 60 ≤ 60 from (by decide)) (by decide) (by decide)) (zr_wide hc3_1 (by decide) (by decide)) d) (fun M9_ o11_ g12_ d7_ => ?_)
  have f13_ : pvFr fp_X0_run_3_5_2_x_0_5 M M9_ := pvfr_t g12_ pvfr_0 fp_X0_run_3_5_2_x_0_5_fp_X0_note_3_x
  have b14_ : 0 ≤ Int32.toInt (M9_.1 3 1) ∧ Int32.toInt (M9_.1 3 1) ≤ 995 := (by have u0 := hc3_1; have u1 := d7_; have u2 := pvok_r o11_ 3 1 (lo := 0) (hi := 1000000) rfl; omega)
  refine pw_blk hT 1 (S' := (30, [some (pvR 3), some (pvI 5), some (pvI 2), some (pvI n3), some (pvI 0), some (pvI 60), some (pvI (0 + 1))], [pvI 60], M9_)) rfl ⟨trivial, trivial⟩ ?_
  refine pw_sw hT rfl rfl ?_
  refine And.intro (fun c15_ => absurd c15_ (by decide)) (fun c15_ => ?_)
  refine And.intro (fun c16_ => absurd c16_ (by decide)) (fun c16_ => ?_)
  refine And.intro (fun c17_ => absurd c17_ (by decide)) (fun c17_ => ?_)
  refine And.intro (fun c18_ => absurd c18_ (by decide)) (fun c18_ => ?_)
  refine And.intro (fun c19_ => absurd c19_ (by decide)) (fun c19_ => ?_)
  refine And.intro (fun c20_ => absurd c20_ (by decide)) (fun c20_ => ?_)
  refine And.intro (fun c21_ => absurd c21_ (by decide)) (fun c21_ => ?_)
  refine And.intro (fun c22_ => absurd c22_ (by decide)) (fun c22_ => ?_)
  refine And.intro (fun c23_ => ?_) (fun c23_ => absurd (by decide) c23_)
  show PW 4 d (239, [some (pvR 3), some (pvI 5), some (pvI 2), some (pvI n3), some (pvI 0), some (pvI 60), some (pvI (0 + 1))], [], M9_) _
  refine pw_blk hT 8 (S' := (250, [some (pvR 3), some (pvI 5), some (pvI 2), some (pvI n3), some (pvI 0), some (pvI 60), some (pvI (0 + 1))], [pvI (0 + 1), pvI (n3 - (M9_.1 3 4)), pvI 2, pvI 2, pvR 3], M9_)) rfl ⟨trivial, trivial, trivial, trivial, trivial, rfl, trivial, trivial, trivial⟩ ?_
  have e24_ : (M9_.1 3 2) = (M.1 3 2) := (g12_ 3 2 rfl)
  have b25_ : 5 ≤ Int32.toInt (M9_.1 3 2) ∧ Int32.toInt (M9_.1 3 2) ≤ 5 := (by rw [e24_]; exact hc3_2)
  refine pw_callGd hT (as := [pvR 3, pvI 2, pvI 2, pvI (n3 - (M9_.1 3 4)), pvI (0 + 1)]) (lo1 := [some (pvR 3), some (pvI 2), some (pvI 2), some (pvI (n3 - (M9_.1 3 4))), some (pvI (0 + 1)), none, none]) (d1 := (d - 1)) (rest := []) rfl rfl rfl rfl rfl (fun h => absurd h (by decide)) (show 1 ≤ d by omega) rfl rfl rfl (sf_X0_run_3_2_2_x_1_5 M9_ o11_ (n3 - (M9_.1 3 4)) b14_ b25_ (d - 1) (by omega)) (fun x27_ M28_ b29_ o30_ g31_ d26_ => ?_)
  have f32_ : pvFr fp_X0_run_3_5_2_x_0_5 M M28_ := pvfr_t g31_ f13_ fp_X0_run_3_5_2_x_0_5_fp_X0_run_3_2_2_x_1_5
  have b33_ : 0 ≤ Int32.toInt (M28_.1 3 1) ∧ Int32.toInt (M28_.1 3 1) ≤ 999 := (by have u0 := b14_; have u1 := d26_; have u2 := pvok_r o30_ 3 1 (lo := 0) (hi := 1000000) rfl; omega)
  exact pw_ret hT rfl (r := some (pvI x27_)) (M' := M28_) ⟨rfl, rfl⟩ ⟨⟨_, rfl, trivial⟩, o30_, f32_, (by omega)⟩
set_option maxHeartbeats 4000000 in
set_option maxRecDepth 10000 in
theorem sf_X0_bodyFrom_6_0 (M : pvM) (hok : pvOk M) (d : Nat) : PW 1 d (0, [some (pvI 6), some (pvI 0), none, none, none], [], M) (fun r X => r = some (pvI (((pvstab 1041).getD (Int32.toNatClampNeg ((6 * 3) + 0)) 0))) ∧ X = M) := by
  have hT : pvdom 1 = pvD_1 := rfl
  refine pw_blk hT 4 (S' := (4, [some (pvI 6), some (pvI 0), some (pvI 6), some (pvI 0), none], [], M)) rfl ⟨trivial, trivial, trivial, trivial, trivial⟩ ?_
  refine pw_blk hT 3 (S' := (9, [some (pvI 6), some (pvI 0), some (pvI 6), some (pvI 0), none], [pvI (Int32.ofNat (pvstab 1041).length), pvI 0], M)) rfl ⟨trivial, trivial, (by decide), trivial⟩ ?_
  refine pw_ic hT (c := (Int32.ofNat (pvstab 1041).length) ≤ 0) rfl rfl (fun c1_ => absurd c1_ (by decide)) (fun c1_ => ?_)
  refine pw_blk hT 1 (S' := (13, [some (pvI 6), some (pvI 0), some (pvI 6), some (pvI 0), none], [pvI 6], M)) rfl ⟨trivial, trivial⟩ ?_
  refine pw_if hT (c := 6 < 0) rfl rfl (fun c2_ => absurd c2_ (by decide)) (fun c2_ => ?_)
  refine pw_blk hT 7 (S' := (25, [some (pvI 6), some (pvI 0), some (pvI 6), some (pvI 0), some (pvI ((6 * 3) + 0))], [pvI ((6 * 3) + 0)], M)) rfl ⟨trivial, trivial, trivial, trivial, trivial, trivial, trivial, trivial⟩ ?_
  refine pw_if hT (c := ((6 * 3) + 0) < 0) rfl rfl (fun c3_ => absurd c3_ (by decide)) (fun c3_ => ?_)
  refine pw_blk hT 3 (S' := (34, [some (pvI 6), some (pvI 0), some (pvI 6), some (pvI 0), some (pvI ((6 * 3) + 0))], [pvI (Int32.ofNat (pvstab 1041).length), pvI ((6 * 3) + 0)], M)) rfl ⟨trivial, trivial, (by decide), trivial⟩ ?_
  refine pw_ic hT (c := (Int32.ofNat (pvstab 1041).length) ≤ ((6 * 3) + 0)) rfl rfl (fun c4_ => absurd c4_ (by decide)) (fun c4_ => ?_)
  refine pw_blk hT 3 (S' := (43, [some (pvI 6), some (pvI 0), some (pvI 6), some (pvI 0), some (pvI ((6 * 3) + 0))], [pvI ((pvstab 1041).getD (Int32.toNatClampNeg ((6 * 3) + 0)) 0)], M)) rfl ⟨trivial, trivial, ⟨by decide, (zr_in (n := 21) (show 18 ≤ Int32.toInt ((6 * 3) + 0) ∧ Int32.toInt ((6 * 3) + 0) ≤ 18 from (by decide)) (by decide) (by decide))⟩, trivial⟩ ?_
  refine pw_if hT (c := ((pvstab 1041).getD (Int32.toNatClampNeg ((6 * 3) + 0)) 0) = 0) rfl rfl (fun c5_ => absurd c5_ (by decide)) (fun c5_ => ?_)
  refine pw_blk hT 3 (S' := (52, [some (pvI 6), some (pvI 0), some (pvI 6), some (pvI 0), some (pvI ((6 * 3) + 0))], [pvI ((pvstab 1041).getD (Int32.toNatClampNeg ((6 * 3) + 0)) 0)], M)) rfl ⟨trivial, trivial, ⟨by decide, (zr_in (n := 21) (show 18 ≤ Int32.toInt ((6 * 3) + 0) ∧ Int32.toInt ((6 * 3) + 0) ≤ 18 from (by decide)) (by decide) (by decide))⟩, trivial⟩ ?_
  exact pw_ret hT rfl (r := some (pvI ((pvstab 1041).getD (Int32.toNatClampNeg ((6 * 3) + 0)) 0))) (M' := M) ⟨rfl, rfl⟩ ⟨rfl, rfl⟩
def fpL_X0_run_3_3_0_x_1_6 : List (Nat × Nat × Nat) := [(0, 3, 2), (0, 4, 0)]
def fp_X0_run_3_3_0_x_1_6 (q k : Nat) : Bool := pvfp fpL_X0_run_3_3_0_x_1_6 q k
theorem fp_X0_run_3_3_0_x_1_6_fp_X0_note_3_x (a b : Nat) (h : fp_X0_note_3_x a b = true) : fp_X0_run_3_3_0_x_1_6 a b = true := pvfp_sub (l1 := fpL_X0_note_3_x) (l2 := fpL_X0_run_3_3_0_x_1_6) (by decide) a b h
set_option maxHeartbeats 4000000 in
set_option maxRecDepth 10000 in
theorem sf_X0_run_3_3_0_x_1_6 (M : pvM) (hok : pvOk M) (n3 : Int32) (hc3_1 : 0 ≤ Int32.toInt (M.1 3 1) ∧ Int32.toInt (M.1 3 1) ≤ 998) (hc3_2 : 6 ≤ Int32.toInt (M.1 3 2) ∧ Int32.toInt (M.1 3 2) ≤ 6) (d : Nat) : PW 4 d (0, [some (pvR 3), some (pvI 3), some (pvI 0), some (pvI n3), some (pvI 1), none, none], [], M) (fun r X => (∃ x : Int32, r = some (pvI x) ∧ True) ∧ pvOk X ∧ pvFr fp_X0_run_3_3_0_x_1_6 M X ∧ Int32.toInt (X.1 3 1) ≤ Int32.toInt (M.1 3 1) + 1) := by
  have hT : pvdom 4 = pvD_4 := rfl
  refine pw_blk hT 2 (S' := (4, [some (pvR 3), some (pvI 3), some (pvI 0), some (pvI n3), some (pvI 1), none, none], [pvI 40, pvI 1], M)) rfl ⟨trivial, trivial, trivial⟩ ?_
  refine pw_ic hT (c := 1 ≤ 40) rfl rfl (fun c1_ => ?_) (fun c1_ => absurd (by decide) c1_)
  refine pw_blk hT 2 (S' := (11, [some (pvR 3), some (pvI 3), some (pvI 0), some (pvI n3), some (pvI 1), none, none], [pvI 0, pvI 3], M)) rfl ⟨trivial, trivial, trivial⟩ ?_
  refine pw_callT hT (as := [pvI 3, pvI 0]) (lo1 := [some (pvI 3), some (pvI 0), none, none, none]) (d1 := d) (rest := []) rfl rfl rfl rfl rfl (fun h => absurd h (by decide)) (Nat.zero_le _) rfl rfl rfl (sf_X0_bodyFrom_3_0 M hok d) ?_
  refine pw_eqI (show ((pvstab 1041).getD (Int32.toNatClampNeg ((0 * 3) + 0)) 0) = 10 from by decide) ?_
  show PW 4 d (14, [some (pvR 3), some (pvI 3), some (pvI 0), some (pvI n3), some (pvI 1), none, none], [pvI 10], M) _
  refine pw_blk hT 7 (S' := (25, [some (pvR 3), some (pvI 3), some (pvI 0), some (pvI n3), some (pvI 1), some (pvI 10), some (pvI (1 + 1))], [pvI 10, pvR 3], M)) rfl ⟨trivial, trivial, trivial, trivial, trivial, trivial, trivial, trivial⟩ ?_
  refine pw_callVd hT (as := [pvR 3, pvI 10]) (lo1 := [some (pvR 3), some (pvI 10)]) (d1 := d) (rest := []) rfl rfl rfl rfl rfl (fun _ => rfl) (Nat.zero_le _) rfl rfl rfl (sf_X0_note_3_x M hok 10 (zr_wide (show 10 ≤ Int32.toInt 10 ∧ Int32.toInt 10 ≤ 10 from (by decide)) (by decide) (by decide)) (zr_wide hc3_1 (by decide) (by decide)) d) (fun M9_ o11_ g12_ d7_ => ?_)
  have f13_ : pvFr fp_X0_run_3_3_0_x_1_6 M M9_ := pvfr_t g12_ pvfr_0 fp_X0_run_3_3_0_x_1_6_fp_X0_note_3_x
  have b14_ : 0 ≤ Int32.toInt (M9_.1 3 1) ∧ Int32.toInt (M9_.1 3 1) ≤ 999 := (by have u0 := hc3_1; have u1 := d7_; have u2 := pvok_r o11_ 3 1 (lo := 0) (hi := 1000000) rfl; omega)
  refine pw_blk hT 1 (S' := (30, [some (pvR 3), some (pvI 3), some (pvI 0), some (pvI n3), some (pvI 1), some (pvI 10), some (pvI (1 + 1))], [pvI 10], M9_)) rfl ⟨trivial, trivial⟩ ?_
  refine pw_sw hT rfl rfl ?_
  refine And.intro (fun c15_ => ?_) (fun c15_ => absurd (by decide) c15_)
  show PW 4 d (128, [some (pvR 3), some (pvI 3), some (pvI 0), some (pvI n3), some (pvI 1), some (pvI 10), some (pvI (1 + 1))], [], M9_) _
  refine pw_blk hT 4 (S' := (134, [some (pvR 3), some (pvI 3), some (pvI 0), some (pvI n3), some (pvI 1), some (pvI 10), some (pvI (1 + 1))], [pvI (n3 + (M9_.1 3 4))], M9_)) rfl ⟨trivial, trivial, rfl, trivial, trivial⟩ ?_
  exact pw_ret hT rfl (r := some (pvI (n3 + (M9_.1 3 4)))) (M' := M9_) ⟨rfl, rfl⟩ ⟨⟨_, rfl, trivial⟩, o11_, f13_, (by omega)⟩
def fpL_X0_run_3_6_0_x_0_6 : List (Nat × Nat × Nat) := [(0, 3, 2), (0, 4, 0)]
def fp_X0_run_3_6_0_x_0_6 (q k : Nat) : Bool := pvfp fpL_X0_run_3_6_0_x_0_6 q k
theorem fp_X0_run_3_6_0_x_0_6_fp_X0_note_3_x (a b : Nat) (h : fp_X0_note_3_x a b = true) : fp_X0_run_3_6_0_x_0_6 a b = true := pvfp_sub (l1 := fpL_X0_note_3_x) (l2 := fpL_X0_run_3_6_0_x_0_6) (by decide) a b h
theorem fp_X0_run_3_6_0_x_0_6_fp_X0_run_3_3_0_x_1_6 (a b : Nat) (h : fp_X0_run_3_3_0_x_1_6 a b = true) : fp_X0_run_3_6_0_x_0_6 a b = true := pvfp_sub (l1 := fpL_X0_run_3_3_0_x_1_6) (l2 := fpL_X0_run_3_6_0_x_0_6) (by decide) a b h
set_option maxHeartbeats 4000000 in
set_option maxRecDepth 10000 in
theorem sf_X0_run_3_6_0_x_0_6 (M : pvM) (hok : pvOk M) (n3 : Int32) (hc3_1 : 0 ≤ Int32.toInt (M.1 3 1) ∧ Int32.toInt (M.1 3 1) ≤ 997) (hc3_2 : 6 ≤ Int32.toInt (M.1 3 2) ∧ Int32.toInt (M.1 3 2) ≤ 6) (d : Nat) (hd : 1 ≤ d) : PW 4 d (0, [some (pvR 3), some (pvI 6), some (pvI 0), some (pvI n3), some (pvI 0), none, none], [], M) (fun r X => (∃ x : Int32, r = some (pvI x) ∧ True) ∧ pvOk X ∧ pvFr fp_X0_run_3_6_0_x_0_6 M X ∧ Int32.toInt (X.1 3 1) ≤ Int32.toInt (M.1 3 1) + 2) := by
  have hT : pvdom 4 = pvD_4 := rfl
  refine pw_blk hT 2 (S' := (4, [some (pvR 3), some (pvI 6), some (pvI 0), some (pvI n3), some (pvI 0), none, none], [pvI 40, pvI 0], M)) rfl ⟨trivial, trivial, trivial⟩ ?_
  refine pw_ic hT (c := 0 ≤ 40) rfl rfl (fun c1_ => ?_) (fun c1_ => absurd (by decide) c1_)
  refine pw_blk hT 2 (S' := (11, [some (pvR 3), some (pvI 6), some (pvI 0), some (pvI n3), some (pvI 0), none, none], [pvI 0, pvI 6], M)) rfl ⟨trivial, trivial, trivial⟩ ?_
  refine pw_callT hT (as := [pvI 6, pvI 0]) (lo1 := [some (pvI 6), some (pvI 0), none, none, none]) (d1 := d) (rest := []) rfl rfl rfl rfl rfl (fun h => absurd h (by decide)) (Nat.zero_le _) rfl rfl rfl (sf_X0_bodyFrom_6_0 M hok d) ?_
  refine pw_eqI (show ((pvstab 1041).getD (Int32.toNatClampNeg ((6 * 3) + 0)) 0) = 71 from by decide) ?_
  show PW 4 d (14, [some (pvR 3), some (pvI 6), some (pvI 0), some (pvI n3), some (pvI 0), none, none], [pvI 71], M) _
  refine pw_blk hT 7 (S' := (25, [some (pvR 3), some (pvI 6), some (pvI 0), some (pvI n3), some (pvI 0), some (pvI 71), some (pvI (0 + 1))], [pvI 71, pvR 3], M)) rfl ⟨trivial, trivial, trivial, trivial, trivial, trivial, trivial, trivial⟩ ?_
  refine pw_callVd hT (as := [pvR 3, pvI 71]) (lo1 := [some (pvR 3), some (pvI 71)]) (d1 := d) (rest := []) rfl rfl rfl rfl rfl (fun _ => rfl) (Nat.zero_le _) rfl rfl rfl (sf_X0_note_3_x M hok 71 (zr_wide (show 71 ≤ Int32.toInt 71 ∧ Int32.toInt 71 ≤ 71 from (by decide)) (by decide) (by decide)) (zr_wide hc3_1 (by decide) (by decide)) d) (fun M9_ o11_ g12_ d7_ => ?_)
  have f13_ : pvFr fp_X0_run_3_6_0_x_0_6 M M9_ := pvfr_t g12_ pvfr_0 fp_X0_run_3_6_0_x_0_6_fp_X0_note_3_x
  have b14_ : 0 ≤ Int32.toInt (M9_.1 3 1) ∧ Int32.toInt (M9_.1 3 1) ≤ 998 := (by have u0 := hc3_1; have u1 := d7_; have u2 := pvok_r o11_ 3 1 (lo := 0) (hi := 1000000) rfl; omega)
  refine pw_blk hT 1 (S' := (30, [some (pvR 3), some (pvI 6), some (pvI 0), some (pvI n3), some (pvI 0), some (pvI 71), some (pvI (0 + 1))], [pvI 71], M9_)) rfl ⟨trivial, trivial⟩ ?_
  refine pw_sw hT rfl rfl ?_
  refine And.intro (fun c15_ => absurd c15_ (by decide)) (fun c15_ => ?_)
  refine And.intro (fun c16_ => absurd c16_ (by decide)) (fun c16_ => ?_)
  refine And.intro (fun c17_ => absurd c17_ (by decide)) (fun c17_ => ?_)
  refine And.intro (fun c18_ => absurd c18_ (by decide)) (fun c18_ => ?_)
  refine And.intro (fun c19_ => absurd c19_ (by decide)) (fun c19_ => ?_)
  refine And.intro (fun c20_ => absurd c20_ (by decide)) (fun c20_ => ?_)
  refine And.intro (fun c21_ => absurd c21_ (by decide)) (fun c21_ => ?_)
  refine And.intro (fun c22_ => absurd c22_ (by decide)) (fun c22_ => ?_)
  refine And.intro (fun c23_ => absurd c23_ (by decide)) (fun c23_ => ?_)
  refine And.intro (fun c24_ => absurd c24_ (by decide)) (fun c24_ => ?_)
  refine And.intro (fun c25_ => ?_) (fun c25_ => absurd (by decide) c25_)
  show PW 4 d (274, [some (pvR 3), some (pvI 6), some (pvI 0), some (pvI n3), some (pvI 0), some (pvI 71), some (pvI (0 + 1))], [], M9_) _
  refine pw_blk hT 5 (S' := (280, [some (pvR 3), some (pvI 6), some (pvI 0), some (pvI n3), some (pvI 0), some (pvI 71), some (pvI (0 + 1))], [pvI (0 + 1), pvI n3, pvI 0, pvI 3, pvR 3], M9_)) rfl ⟨trivial, trivial, trivial, trivial, trivial, trivial⟩ ?_
  have e26_ : (M9_.1 3 2) = (M.1 3 2) := (g12_ 3 2 rfl)
  have b27_ : 6 ≤ Int32.toInt (M9_.1 3 2) ∧ Int32.toInt (M9_.1 3 2) ≤ 6 := (by rw [e26_]; exact hc3_2)
  refine pw_callGd hT (as := [pvR 3, pvI 3, pvI 0, pvI n3, pvI (0 + 1)]) (lo1 := [some (pvR 3), some (pvI 3), some (pvI 0), some (pvI n3), some (pvI (0 + 1)), none, none]) (d1 := (d - 1)) (rest := []) rfl rfl rfl rfl rfl (fun h => absurd h (by decide)) (show 1 ≤ d by omega) rfl rfl rfl (sf_X0_run_3_3_0_x_1_6 M9_ o11_ n3 b14_ b27_ (d - 1)) (fun x29_ M30_ b31_ o32_ g33_ d28_ => ?_)
  have f34_ : pvFr fp_X0_run_3_6_0_x_0_6 M M30_ := pvfr_t g33_ f13_ fp_X0_run_3_6_0_x_0_6_fp_X0_run_3_3_0_x_1_6
  have b35_ : 0 ≤ Int32.toInt (M30_.1 3 1) ∧ Int32.toInt (M30_.1 3 1) ≤ 999 := (by have u0 := b14_; have u1 := d28_; have u2 := pvok_r o32_ 3 1 (lo := 0) (hi := 1000000) rfl; omega)
  refine pw_blk hT 3 (S' := (288, [some (pvR 3), some (pvI 6), some (pvI 0), some (pvI n3), some (pvI 0), some (pvI 71), some (pvI (0 + 1))], [pvI (x29_ ^^^ (M30_.1 3 3))], M30_)) rfl ⟨trivial, rfl, trivial, trivial⟩ ?_
  exact pw_ret hT rfl (r := some (pvI (x29_ ^^^ (M30_.1 3 3)))) (M' := M30_) ⟨rfl, rfl⟩ ⟨⟨_, rfl, trivial⟩, o32_, f34_, (by omega)⟩
set_option maxHeartbeats 4000000 in
set_option maxRecDepth 10000 in
theorem sf_X0_bodyFrom_6_1 (M : pvM) (hok : pvOk M) (d : Nat) : PW 1 d (0, [some (pvI 6), some (pvI 1), none, none, none], [], M) (fun r X => r = some (pvI (((pvstab 1041).getD (Int32.toNatClampNeg ((6 * 3) + 1)) 0))) ∧ X = M) := by
  have hT : pvdom 1 = pvD_1 := rfl
  refine pw_blk hT 4 (S' := (4, [some (pvI 6), some (pvI 1), some (pvI 6), some (pvI 0), none], [], M)) rfl ⟨trivial, trivial, trivial, trivial, trivial⟩ ?_
  refine pw_blk hT 3 (S' := (9, [some (pvI 6), some (pvI 1), some (pvI 6), some (pvI 0), none], [pvI (Int32.ofNat (pvstab 1041).length), pvI 0], M)) rfl ⟨trivial, trivial, (by decide), trivial⟩ ?_
  refine pw_ic hT (c := (Int32.ofNat (pvstab 1041).length) ≤ 0) rfl rfl (fun c1_ => absurd c1_ (by decide)) (fun c1_ => ?_)
  refine pw_blk hT 1 (S' := (13, [some (pvI 6), some (pvI 1), some (pvI 6), some (pvI 0), none], [pvI 6], M)) rfl ⟨trivial, trivial⟩ ?_
  refine pw_if hT (c := 6 < 0) rfl rfl (fun c2_ => absurd c2_ (by decide)) (fun c2_ => ?_)
  refine pw_blk hT 7 (S' := (25, [some (pvI 6), some (pvI 1), some (pvI 6), some (pvI 0), some (pvI ((6 * 3) + 1))], [pvI ((6 * 3) + 1)], M)) rfl ⟨trivial, trivial, trivial, trivial, trivial, trivial, trivial, trivial⟩ ?_
  refine pw_if hT (c := ((6 * 3) + 1) < 0) rfl rfl (fun c3_ => absurd c3_ (by decide)) (fun c3_ => ?_)
  refine pw_blk hT 3 (S' := (34, [some (pvI 6), some (pvI 1), some (pvI 6), some (pvI 0), some (pvI ((6 * 3) + 1))], [pvI (Int32.ofNat (pvstab 1041).length), pvI ((6 * 3) + 1)], M)) rfl ⟨trivial, trivial, (by decide), trivial⟩ ?_
  refine pw_ic hT (c := (Int32.ofNat (pvstab 1041).length) ≤ ((6 * 3) + 1)) rfl rfl (fun c4_ => absurd c4_ (by decide)) (fun c4_ => ?_)
  refine pw_blk hT 3 (S' := (43, [some (pvI 6), some (pvI 1), some (pvI 6), some (pvI 0), some (pvI ((6 * 3) + 1))], [pvI ((pvstab 1041).getD (Int32.toNatClampNeg ((6 * 3) + 1)) 0)], M)) rfl ⟨trivial, trivial, ⟨by decide, (zr_in (n := 21) (show 19 ≤ Int32.toInt ((6 * 3) + 1) ∧ Int32.toInt ((6 * 3) + 1) ≤ 19 from (by decide)) (by decide) (by decide))⟩, trivial⟩ ?_
  refine pw_if hT (c := ((pvstab 1041).getD (Int32.toNatClampNeg ((6 * 3) + 1)) 0) = 0) rfl rfl (fun c5_ => absurd c5_ (by decide)) (fun c5_ => ?_)
  refine pw_blk hT 3 (S' := (52, [some (pvI 6), some (pvI 1), some (pvI 6), some (pvI 0), some (pvI ((6 * 3) + 1))], [pvI ((pvstab 1041).getD (Int32.toNatClampNeg ((6 * 3) + 1)) 0)], M)) rfl ⟨trivial, trivial, ⟨by decide, (zr_in (n := 21) (show 19 ≤ Int32.toInt ((6 * 3) + 1) ∧ Int32.toInt ((6 * 3) + 1) ≤ 19 from (by decide)) (by decide) (by decide))⟩, trivial⟩ ?_
  exact pw_ret hT rfl (r := some (pvI ((pvstab 1041).getD (Int32.toNatClampNeg ((6 * 3) + 1)) 0))) (M' := M) ⟨rfl, rfl⟩ ⟨rfl, rfl⟩
def fpL_X0_run_3_3_0_x_3_6 : List (Nat × Nat × Nat) := [(0, 3, 2), (0, 4, 0)]
def fp_X0_run_3_3_0_x_3_6 (q k : Nat) : Bool := pvfp fpL_X0_run_3_3_0_x_3_6 q k
theorem fp_X0_run_3_3_0_x_3_6_fp_X0_note_3_x (a b : Nat) (h : fp_X0_note_3_x a b = true) : fp_X0_run_3_3_0_x_3_6 a b = true := pvfp_sub (l1 := fpL_X0_note_3_x) (l2 := fpL_X0_run_3_3_0_x_3_6) (by decide) a b h
set_option maxHeartbeats 4000000 in
set_option maxRecDepth 10000 in
theorem sf_X0_run_3_3_0_x_3_6 (M : pvM) (hok : pvOk M) (n3 : Int32) (hc3_1 : 0 ≤ Int32.toInt (M.1 3 1) ∧ Int32.toInt (M.1 3 1) ≤ 998) (hc3_2 : 6 ≤ Int32.toInt (M.1 3 2) ∧ Int32.toInt (M.1 3 2) ≤ 6) (d : Nat) : PW 4 d (0, [some (pvR 3), some (pvI 3), some (pvI 0), some (pvI n3), some (pvI 3), none, none], [], M) (fun r X => (∃ x : Int32, r = some (pvI x) ∧ True) ∧ pvOk X ∧ pvFr fp_X0_run_3_3_0_x_3_6 M X ∧ Int32.toInt (X.1 3 1) ≤ Int32.toInt (M.1 3 1) + 1) := by
  have hT : pvdom 4 = pvD_4 := rfl
  refine pw_blk hT 2 (S' := (4, [some (pvR 3), some (pvI 3), some (pvI 0), some (pvI n3), some (pvI 3), none, none], [pvI 40, pvI 3], M)) rfl ⟨trivial, trivial, trivial⟩ ?_
  refine pw_ic hT (c := 3 ≤ 40) rfl rfl (fun c1_ => ?_) (fun c1_ => absurd (by decide) c1_)
  refine pw_blk hT 2 (S' := (11, [some (pvR 3), some (pvI 3), some (pvI 0), some (pvI n3), some (pvI 3), none, none], [pvI 0, pvI 3], M)) rfl ⟨trivial, trivial, trivial⟩ ?_
  refine pw_callT hT (as := [pvI 3, pvI 0]) (lo1 := [some (pvI 3), some (pvI 0), none, none, none]) (d1 := d) (rest := []) rfl rfl rfl rfl rfl (fun h => absurd h (by decide)) (Nat.zero_le _) rfl rfl rfl (sf_X0_bodyFrom_3_0 M hok d) ?_
  refine pw_eqI (show ((pvstab 1041).getD (Int32.toNatClampNeg ((0 * 3) + 0)) 0) = 10 from by decide) ?_
  show PW 4 d (14, [some (pvR 3), some (pvI 3), some (pvI 0), some (pvI n3), some (pvI 3), none, none], [pvI 10], M) _
  refine pw_blk hT 7 (S' := (25, [some (pvR 3), some (pvI 3), some (pvI 0), some (pvI n3), some (pvI 3), some (pvI 10), some (pvI (3 + 1))], [pvI 10, pvR 3], M)) rfl ⟨trivial, trivial, trivial, trivial, trivial, trivial, trivial, trivial⟩ ?_
  refine pw_callVd hT (as := [pvR 3, pvI 10]) (lo1 := [some (pvR 3), some (pvI 10)]) (d1 := d) (rest := []) rfl rfl rfl rfl rfl (fun _ => rfl) (Nat.zero_le _) rfl rfl rfl (sf_X0_note_3_x M hok 10 (zr_wide (show 10 ≤ Int32.toInt 10 ∧ Int32.toInt 10 ≤ 10 from (by decide)) (by decide) (by decide)) (zr_wide hc3_1 (by decide) (by decide)) d) (fun M9_ o11_ g12_ d7_ => ?_)
  have f13_ : pvFr fp_X0_run_3_3_0_x_3_6 M M9_ := pvfr_t g12_ pvfr_0 fp_X0_run_3_3_0_x_3_6_fp_X0_note_3_x
  have b14_ : 0 ≤ Int32.toInt (M9_.1 3 1) ∧ Int32.toInt (M9_.1 3 1) ≤ 999 := (by have u0 := hc3_1; have u1 := d7_; have u2 := pvok_r o11_ 3 1 (lo := 0) (hi := 1000000) rfl; omega)
  refine pw_blk hT 1 (S' := (30, [some (pvR 3), some (pvI 3), some (pvI 0), some (pvI n3), some (pvI 3), some (pvI 10), some (pvI (3 + 1))], [pvI 10], M9_)) rfl ⟨trivial, trivial⟩ ?_
  refine pw_sw hT rfl rfl ?_
  refine And.intro (fun c15_ => ?_) (fun c15_ => absurd (by decide) c15_)
  show PW 4 d (128, [some (pvR 3), some (pvI 3), some (pvI 0), some (pvI n3), some (pvI 3), some (pvI 10), some (pvI (3 + 1))], [], M9_) _
  refine pw_blk hT 4 (S' := (134, [some (pvR 3), some (pvI 3), some (pvI 0), some (pvI n3), some (pvI 3), some (pvI 10), some (pvI (3 + 1))], [pvI (n3 + (M9_.1 3 4))], M9_)) rfl ⟨trivial, trivial, rfl, trivial, trivial⟩ ?_
  exact pw_ret hT rfl (r := some (pvI (n3 + (M9_.1 3 4)))) (M' := M9_) ⟨rfl, rfl⟩ ⟨⟨_, rfl, trivial⟩, o11_, f13_, (by omega)⟩
def fpL_X0_run_3_6_0_x_2_6 : List (Nat × Nat × Nat) := [(0, 3, 2), (0, 4, 0)]
def fp_X0_run_3_6_0_x_2_6 (q k : Nat) : Bool := pvfp fpL_X0_run_3_6_0_x_2_6 q k
theorem fp_X0_run_3_6_0_x_2_6_fp_X0_note_3_x (a b : Nat) (h : fp_X0_note_3_x a b = true) : fp_X0_run_3_6_0_x_2_6 a b = true := pvfp_sub (l1 := fpL_X0_note_3_x) (l2 := fpL_X0_run_3_6_0_x_2_6) (by decide) a b h
theorem fp_X0_run_3_6_0_x_2_6_fp_X0_run_3_3_0_x_3_6 (a b : Nat) (h : fp_X0_run_3_3_0_x_3_6 a b = true) : fp_X0_run_3_6_0_x_2_6 a b = true := pvfp_sub (l1 := fpL_X0_run_3_3_0_x_3_6) (l2 := fpL_X0_run_3_6_0_x_2_6) (by decide) a b h
set_option maxHeartbeats 4000000 in
set_option maxRecDepth 10000 in
theorem sf_X0_run_3_6_0_x_2_6 (M : pvM) (hok : pvOk M) (n3 : Int32) (hc3_1 : 0 ≤ Int32.toInt (M.1 3 1) ∧ Int32.toInt (M.1 3 1) ≤ 997) (hc3_2 : 6 ≤ Int32.toInt (M.1 3 2) ∧ Int32.toInt (M.1 3 2) ≤ 6) (d : Nat) (hd : 1 ≤ d) : PW 4 d (0, [some (pvR 3), some (pvI 6), some (pvI 0), some (pvI n3), some (pvI 2), none, none], [], M) (fun r X => (∃ x : Int32, r = some (pvI x) ∧ True) ∧ pvOk X ∧ pvFr fp_X0_run_3_6_0_x_2_6 M X ∧ Int32.toInt (X.1 3 1) ≤ Int32.toInt (M.1 3 1) + 2) := by
  have hT : pvdom 4 = pvD_4 := rfl
  refine pw_blk hT 2 (S' := (4, [some (pvR 3), some (pvI 6), some (pvI 0), some (pvI n3), some (pvI 2), none, none], [pvI 40, pvI 2], M)) rfl ⟨trivial, trivial, trivial⟩ ?_
  refine pw_ic hT (c := 2 ≤ 40) rfl rfl (fun c1_ => ?_) (fun c1_ => absurd (by decide) c1_)
  refine pw_blk hT 2 (S' := (11, [some (pvR 3), some (pvI 6), some (pvI 0), some (pvI n3), some (pvI 2), none, none], [pvI 0, pvI 6], M)) rfl ⟨trivial, trivial, trivial⟩ ?_
  refine pw_callT hT (as := [pvI 6, pvI 0]) (lo1 := [some (pvI 6), some (pvI 0), none, none, none]) (d1 := d) (rest := []) rfl rfl rfl rfl rfl (fun h => absurd h (by decide)) (Nat.zero_le _) rfl rfl rfl (sf_X0_bodyFrom_6_0 M hok d) ?_
  refine pw_eqI (show ((pvstab 1041).getD (Int32.toNatClampNeg ((6 * 3) + 0)) 0) = 71 from by decide) ?_
  show PW 4 d (14, [some (pvR 3), some (pvI 6), some (pvI 0), some (pvI n3), some (pvI 2), none, none], [pvI 71], M) _
  refine pw_blk hT 7 (S' := (25, [some (pvR 3), some (pvI 6), some (pvI 0), some (pvI n3), some (pvI 2), some (pvI 71), some (pvI (2 + 1))], [pvI 71, pvR 3], M)) rfl ⟨trivial, trivial, trivial, trivial, trivial, trivial, trivial, trivial⟩ ?_
  refine pw_callVd hT (as := [pvR 3, pvI 71]) (lo1 := [some (pvR 3), some (pvI 71)]) (d1 := d) (rest := []) rfl rfl rfl rfl rfl (fun _ => rfl) (Nat.zero_le _) rfl rfl rfl (sf_X0_note_3_x M hok 71 (zr_wide (show 71 ≤ Int32.toInt 71 ∧ Int32.toInt 71 ≤ 71 from (by decide)) (by decide) (by decide)) (zr_wide hc3_1 (by decide) (by decide)) d) (fun M9_ o11_ g12_ d7_ => ?_)
  have f13_ : pvFr fp_X0_run_3_6_0_x_2_6 M M9_ := pvfr_t g12_ pvfr_0 fp_X0_run_3_6_0_x_2_6_fp_X0_note_3_x
  have b14_ : 0 ≤ Int32.toInt (M9_.1 3 1) ∧ Int32.toInt (M9_.1 3 1) ≤ 998 := (by have u0 := hc3_1; have u1 := d7_; have u2 := pvok_r o11_ 3 1 (lo := 0) (hi := 1000000) rfl; omega)
  refine pw_blk hT 1 (S' := (30, [some (pvR 3), some (pvI 6), some (pvI 0), some (pvI n3), some (pvI 2), some (pvI 71), some (pvI (2 + 1))], [pvI 71], M9_)) rfl ⟨trivial, trivial⟩ ?_
  refine pw_sw hT rfl rfl ?_
  refine And.intro (fun c15_ => absurd c15_ (by decide)) (fun c15_ => ?_)
  refine And.intro (fun c16_ => absurd c16_ (by decide)) (fun c16_ => ?_)
  refine And.intro (fun c17_ => absurd c17_ (by decide)) (fun c17_ => ?_)
  refine And.intro (fun c18_ => absurd c18_ (by decide)) (fun c18_ => ?_)
  refine And.intro (fun c19_ => absurd c19_ (by decide)) (fun c19_ => ?_)
  refine And.intro (fun c20_ => absurd c20_ (by decide)) (fun c20_ => ?_)
  refine And.intro (fun c21_ => absurd c21_ (by decide)) (fun c21_ => ?_)
  refine And.intro (fun c22_ => absurd c22_ (by decide)) (fun c22_ => ?_)
  refine And.intro (fun c23_ => absurd c23_ (by decide)) (fun c23_ => ?_)
  refine And.intro (fun c24_ => absurd c24_ (by decide)) (fun c24_ => ?_)
  refine And.intro (fun c25_ => ?_) (fun c25_ => absurd (by decide) c25_)
  show PW 4 d (274, [some (pvR 3), some (pvI 6), some (pvI 0), some (pvI n3), some (pvI 2), some (pvI 71), some (pvI (2 + 1))], [], M9_) _
  refine pw_blk hT 5 (S' := (280, [some (pvR 3), some (pvI 6), some (pvI 0), some (pvI n3), some (pvI 2), some (pvI 71), some (pvI (2 + 1))], [pvI (2 + 1), pvI n3, pvI 0, pvI 3, pvR 3], M9_)) rfl ⟨trivial, trivial, trivial, trivial, trivial, trivial⟩ ?_
  have e26_ : (M9_.1 3 2) = (M.1 3 2) := (g12_ 3 2 rfl)
  have b27_ : 6 ≤ Int32.toInt (M9_.1 3 2) ∧ Int32.toInt (M9_.1 3 2) ≤ 6 := (by rw [e26_]; exact hc3_2)
  refine pw_callGd hT (as := [pvR 3, pvI 3, pvI 0, pvI n3, pvI (2 + 1)]) (lo1 := [some (pvR 3), some (pvI 3), some (pvI 0), some (pvI n3), some (pvI (2 + 1)), none, none]) (d1 := (d - 1)) (rest := []) rfl rfl rfl rfl rfl (fun h => absurd h (by decide)) (show 1 ≤ d by omega) rfl rfl rfl (sf_X0_run_3_3_0_x_3_6 M9_ o11_ n3 b14_ b27_ (d - 1)) (fun x29_ M30_ b31_ o32_ g33_ d28_ => ?_)
  have f34_ : pvFr fp_X0_run_3_6_0_x_2_6 M M30_ := pvfr_t g33_ f13_ fp_X0_run_3_6_0_x_2_6_fp_X0_run_3_3_0_x_3_6
  have b35_ : 0 ≤ Int32.toInt (M30_.1 3 1) ∧ Int32.toInt (M30_.1 3 1) ≤ 999 := (by have u0 := b14_; have u1 := d28_; have u2 := pvok_r o32_ 3 1 (lo := 0) (hi := 1000000) rfl; omega)
  refine pw_blk hT 3 (S' := (288, [some (pvR 3), some (pvI 6), some (pvI 0), some (pvI n3), some (pvI 2), some (pvI 71), some (pvI (2 + 1))], [pvI (x29_ ^^^ (M30_.1 3 3))], M30_)) rfl ⟨trivial, rfl, trivial, trivial⟩ ?_
  exact pw_ret hT rfl (r := some (pvI (x29_ ^^^ (M30_.1 3 3)))) (M' := M30_) ⟨rfl, rfl⟩ ⟨⟨_, rfl, trivial⟩, o32_, f34_, (by omega)⟩
