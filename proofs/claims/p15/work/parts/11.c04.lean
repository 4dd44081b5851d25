def fpL_X0_run_3_3_1_x_1_6 : List (Nat × Nat × Nat) := [(0, 3, 2), (0, 4, 0)]
def fp_X0_run_3_3_1_x_1_6 (q k : Nat) : Bool := pvfp fpL_X0_run_3_3_1_x_1_6 q k
theorem fp_X0_run_3_3_1_x_1_6_fp_X0_note_3_x (a b : Nat) (h : fp_X0_note_3_x a b = true) : fp_X0_run_3_3_1_x_1_6 a b = true := pvfp_sub (l1 := fpL_X0_note_3_x) (l2 := fpL_X0_run_3_3_1_x_1_6) (by decide) a b h
theorem fp_X0_run_3_3_1_x_1_6_fp_X0_run_3_6_0_x_2_6 (a b : Nat) (h : fp_X0_run_3_6_0_x_2_6 a b = true) : fp_X0_run_3_3_1_x_1_6 a b = true := pvfp_sub (l1 := fpL_X0_run_3_6_0_x_2_6) (l2 := fpL_X0_run_3_3_1_x_1_6) (by decide) a b h
set_option maxHeartbeats 4000000 in
set_option maxRecDepth 10000 in
theorem sf_X0_run_3_3_1_x_1_6 (M : pvM) (hok : pvOk M) (n3 : Int32) (hc3_1 : 0 ≤ Int32.toInt (M.1 3 1) ∧ Int32.toInt (M.1 3 1) ≤ 996) (hc3_2 : 6 ≤ Int32.toInt (M.1 3 2) ∧ Int32.toInt (M.1 3 2) ≤ 6) (d : Nat) (hd : 2 ≤ d) : PW 4 d (0, [some (pvR 3), some (pvI 3), some (pvI 1), some (pvI n3), some (pvI 1), none, none], [], M) (fun r X => (∃ x : Int32, r = some (pvI x) ∧ True) ∧ pvOk X ∧ pvFr fp_X0_run_3_3_1_x_1_6 M X ∧ Int32.toInt (X.1 3 1) ≤ Int32.toInt (M.1 3 1) + 3) := by
  have hT : pvdom 4 = pvD_4 := rfl
  refine pw_blk hT 2 (S' := (4, [some (pvR 3), some (pvI 3), some (pvI 1), some (pvI n3), some (pvI 1), none, none], [pvI 40, pvI 1], M)) rfl ⟨trivial, trivial, trivial⟩ ?_
  refine pw_ic hT (c := 1 ≤ 40) rfl rfl (fun c1_ => ?_) (fun c1_ => absurd (by decide) c1_)
  refine pw_blk hT 2 (S' := (11, [some (pvR 3), some (pvI 3), some (pvI 1), some (pvI n3), some (pvI 1), none, none], [pvI 1, pvI 3], M)) rfl ⟨trivial, trivial, trivial⟩ ?_
  refine pw_callT hT (as := [pvI 3, pvI 1]) (lo1 := [some (pvI 3), some (pvI 1), none, none, none]) (d1 := d) (rest := []) rfl rfl rfl rfl rfl (fun h => absurd h (by decide)) (Nat.zero_le _) rfl rfl rfl (sf_X0_bodyFrom_3_1 M hok d) ?_
  refine pw_eqI (show ((pvstab 1041).getD (Int32.toNatClampNeg ((0 * 3) + 1)) 0) = 11 from by decide) ?_
  show PW 4 d (14, [some (pvR 3), some (pvI 3), some (pvI 1), some (pvI n3), some (pvI 1), none, none], [pvI 11], M) _
  refine pw_blk hT 7 (S' := (25, [some (pvR 3), some (pvI 3), some (pvI 1), some (pvI n3), some (pvI 1), some (pvI 11), some (pvI (1 + 1))], [pvI 11, pvR 3], M)) rfl ⟨trivial, trivial, trivial, trivial, trivial, trivial, trivial, trivial⟩ ?_
  refine pw_callVd hT (as := [pvR 3, pvI 11]) (lo1 := [some (pvR 3), some (pvI 11)]) (d1 := d) (rest := []) rfl rfl rfl rfl rfl (fun _ => rfl) (Nat.zero_le _) rfl rfl rfl (sf_X0_note_3_x M hok 11 (zr_wide (show 11 ≤ Int32.toInt 11 ∧ Int32.toInt 11 ≤ 11 from (by decide)) (by decide) (by decide)) (zr_wide hc3_1 (by decide) (by decide)) d) (fun M9_ o11_ g12_ d7_ => ?_)
  have f13_ : pvFr fp_X0_run_3_3_1_x_1_6 M M9_ := pvfr_t g12_ pvfr_0 fp_X0_run_3_3_1_x_1_6_fp_X0_note_3_x
  have b14_ : 0 ≤ Int32.toInt (M9_.1 3 1) ∧ Int32.toInt (M9_.1 3 1) ≤ 997 := (by have u0 := hc3_1; have u1 := d7_; have u2 := pvok_r o11_ 3 1 (lo := 0) (hi := 1000000) rfl; omega)
  refine pw_blk hT 1 (S' := (30, [some (pvR 3), some (pvI 3), some (pvI 1), some (pvI n3), some (pvI 1), some (pvI 11), some (pvI (1 + 1))], [pvI 11], M9_)) rfl ⟨trivial, trivial⟩ ?_
  refine pw_sw hT rfl rfl ?_
  refine And.intro (fun c15_ => absurd c15_ (by decide)) (fun c15_ => ?_)
  refine And.intro (fun c16_ => ?_) (fun c16_ => absurd (by decide) c16_)
  show PW 4 d (135, [some (pvR 3), some (pvI 3), some (pvI 1), some (pvI n3), some (pvI 1), some (pvI 11), some (pvI (1 + 1))], [], M9_) _
  have e17_ : (M9_.1 3 2) = (M.1 3 2) := (g12_ 3 2 rfl)
  have b18_ : 6 ≤ Int32.toInt (M9_.1 3 2) ∧ Int32.toInt (M9_.1 3 2) ≤ 6 := (by rw [e17_]; exact hc3_2)
  refine pw_blk hT 3 (S' := (140, [some (pvR 3), some (pvI 3), some (pvI 1), some (pvI n3), some (pvI 1), some (pvI 11), some (pvI (1 + 1))], [pvI (M9_.1 3 2), pvR 3], M9_)) rfl ⟨trivial, trivial, rfl, trivial⟩ ?_
  refine pw_eqI ((zi_eq _ (6)).mpr (by have u0 := b18_; have u1 : Int32.toInt (6) = 6 := (by decide); omega)) ?_
  refine pw_blk hT 3 (S' := (144, [some (pvR 3), some (pvI 3), some (pvI 1), some (pvI n3), some (pvI 1), some (pvI 11), some (pvI (1 + 1))], [pvI (1 + 1), pvI n3, pvI 0, pvI 6, pvR 3], M9_)) rfl ⟨trivial, trivial, trivial, trivial⟩ ?_
  refine pw_callGd hT (as := [pvR 3, pvI 6, pvI 0, pvI n3, pvI (1 + 1)]) (lo1 := [some (pvR 3), some (pvI 6), some (pvI 0), some (pvI n3), some (pvI (1 + 1)), none, none]) (d1 := (d - 1)) (rest := []) rfl rfl rfl rfl rfl (fun h => absurd h (by decide)) (show 1 ≤ d by omega) rfl rfl rfl (sf_X0_run_3_6_0_x_2_6 M9_ o11_ n3 b14_ b18_ (d - 1) (by omega)) (fun x20_ M21_ b22_ o23_ g24_ d19_ => ?_)
  have f25_ : pvFr fp_X0_run_3_3_1_x_1_6 M M21_ := pvfr_t g24_ f13_ fp_X0_run_3_3_1_x_1_6_fp_X0_run_3_6_0_x_2_6
  have b26_ : 0 ≤ Int32.toInt (M21_.1 3 1) ∧ Int32.toInt (M21_.1 3 1) ≤ 999 := (by have u0 := b14_; have u1 := d19_; have u2 := pvok_r o23_ 3 1 (lo := 0) (hi := 1000000) rfl; omega)
  refine pw_blk hT 3 (S' := (152, [some (pvR 3), some (pvI 3), some (pvI 1), some (pvI n3), some (pvI 1), some (pvI 11), some (pvI (1 + 1))], [pvI (x20_ - (M21_.1 3 3))], M21_)) rfl ⟨trivial, rfl, trivial, trivial⟩ ?_
  exact pw_ret hT rfl (r := some (pvI (x20_ - (M21_.1 3 3)))) (M' := M21_) ⟨rfl, rfl⟩ ⟨⟨_, rfl, trivial⟩, o23_, f25_, (by omega)⟩
def fpL_X0_run_3_6_1_x_0_6 : List (Nat × Nat × Nat) := [(0, 3, 2), (0, 4, 0)]
def fp_X0_run_3_6_1_x_0_6 (q k : Nat) : Bool := pvfp fpL_X0_run_3_6_1_x_0_6 q k
theorem fp_X0_run_3_6_1_x_0_6_fp_X0_note_3_x (a b : Nat) (h : fp_X0_note_3_x a b = true) : fp_X0_run_3_6_1_x_0_6 a b = true := pvfp_sub (l1 := fpL_X0_note_3_x) (l2 := fpL_X0_run_3_6_1_x_0_6) (by decide) a b h
theorem fp_X0_run_3_6_1_x_0_6_fp_X0_run_3_3_0_x_1_6 (a b : Nat) (h : fp_X0_run_3_3_0_x_1_6 a b = true) : fp_X0_run_3_6_1_x_0_6 a b = true := pvfp_sub (l1 := fpL_X0_run_3_3_0_x_1_6) (l2 := fpL_X0_run_3_6_1_x_0_6) (by decide) a b h
theorem fp_X0_run_3_6_1_x_0_6_fp_X0_run_3_3_1_x_1_6 (a b : Nat) (h : fp_X0_run_3_3_1_x_1_6 a b = true) : fp_X0_run_3_6_1_x_0_6 a b = true := pvfp_sub (l1 := fpL_X0_run_3_3_1_x_1_6) (l2 := fpL_X0_run_3_6_1_x_0_6) (by decide) a b h
set_option maxHeartbeats 4000000 in
set_option maxRecDepth 10000 in
theorem sf_X0_run_3_6_1_x_0_6 (M : pvM) (hok : pvOk M) (n3 : Int32) (hc3_1 : 0 ≤ Int32.toInt (M.1 3 1) ∧ Int32.toInt (M.1 3 1) ≤ 994) (hc3_2 : 6 ≤ Int32.toInt (M.1 3 2) ∧ Int32.toInt (M.1 3 2) ≤ 6) (d : Nat) (hd : 3 ≤ d) : PW 4 d (0, [some (pvR 3), some (pvI 6), some (pvI 1), some (pvI n3), some (pvI 0), none, none], [], M) (fun r X => (∃ x : Int32, r = some (pvI x) ∧ True) ∧ pvOk X ∧ pvFr fp_X0_run_3_6_1_x_0_6 M X ∧ Int32.toInt (X.1 3 1) ≤ Int32.toInt (M.1 3 1) + 5) := by
  have hT : pvdom 4 = pvD_4 := rfl
  refine pw_blk hT 2 (S' := (4, [some (pvR 3), some (pvI 6), some (pvI 1), some (pvI n3), some (pvI 0), none, none], [pvI 40, pvI 0], M)) rfl ⟨trivial, trivial, trivial⟩ ?_
  refine pw_ic hT (c := 0 ≤ 40) rfl rfl (fun c1_ => ?_) (fun c1_ => absurd (by decide) c1_)
  refine pw_blk hT 2 (S' := (11, [some (pvR 3), some (pvI 6), some (pvI 1), some (pvI n3), some (pvI 0), none, none], [pvI 1, pvI 6], M)) rfl ⟨trivial, trivial, trivial⟩ ?_
  refine pw_callT hT (as := [pvI 6, pvI 1]) (lo1 := [some (pvI 6), some (pvI 1), none, none, none]) (d1 := d) (rest := []) rfl rfl rfl rfl rfl (fun h => absurd h (by decide)) (Nat.zero_le _) rfl rfl rfl (sf_X0_bodyFrom_6_1 M hok d) ?_
  refine pw_eqI (show ((pvstab 1041).getD (Int32.toNatClampNeg ((6 * 3) + 1)) 0) = 70 from by decide) ?_
  show PW 4 d (14, [some (pvR 3), some (pvI 6), some (pvI 1), some (pvI n3), some (pvI 0), none, none], [pvI 70], M) _
  refine pw_blk hT 7 (S' := (25, [some (pvR 3), some (pvI 6), some (pvI 1), some (pvI n3), some (pvI 0), some (pvI 70), some (pvI (0 + 1))], [pvI 70, pvR 3], M)) rfl ⟨trivial, trivial, trivial, trivial, trivial, trivial, trivial, trivial⟩ ?_
  refine pw_callVd hT (as := [pvR 3, pvI 70]) (lo1 := [some (pvR 3), some (pvI 70)]) (d1 := d) (rest := []) rfl rfl rfl rfl rfl (fun _ => rfl) (Nat.zero_le _) rfl rfl rfl (sf_X0_note_3_x M hok 70 (zr_wide (show 70 ≤ Int32.toInt 70 ∧ Int32.toInt 70 ≤ 70 from (by decide)) (by decide) (by decide)) (zr_wide hc3_1 (by decide) (by decide)) d) (fun M9_ o11_ g12_ d7_ => ?_)
  have f13_ : pvFr fp_X0_run_3_6_1_x_0_6 M M9_ := pvfr_t g12_ pvfr_0 fp_X0_run_3_6_1_x_0_6_fp_X0_note_3_x
  have b14_ : 0 ≤ Int32.toInt (M9_.1 3 1) ∧ Int32.toInt (M9_.1 3 1) ≤ 995 := (by have u0 := hc3_1; have u1 := d7_; have u2 := pvok_r o11_ 3 1 (lo := 0) (hi := 1000000) rfl; omega)
  refine pw_blk hT 1 (S' := (30, [some (pvR 3), some (pvI 6), some (pvI 1), some (pvI n3), some (pvI 0), some (pvI 70), some (pvI (0 + 1))], [pvI 70], M9_)) rfl ⟨trivial, trivial⟩ ?_
  refine pw_sw hT rfl rfl ?_
  refine And.intro (fun c15_ => absurd c15_ (by decide)) (fun c15_ => ?_)
  refine And.intro (fun c16_ => absurd c16_ (by decide)) (fun c16_ => ?_)
  refine And.intro (fun c17_ => absurd c17_ (by decide)) (fun c17_ => ?_)
  refine And.intro (fun c18_ => absurd c18_ (by decide)) (fun c18_ => ?_)
  refine And.intro (fun c19_ => absurd c19_ (by decide)) (fun c19_ => ?_)
  refine And.intro (fun c20_ => absurd c20_ (by decide)) (fun c20_ => ?_)
  refine And.intro (fun c21_ => absurd c21_ (by decide)) (fun c21_ => ?_)
  refine And.intro (fun c22_ => absurd c22_ (by decide)) (fun c22_ => ?_)
  refine And.intro (fun c23_ => absurd c23_ (by decide)) (fun c23_ => ?_)
  refine And.intro (fun c24_ => ?_) (fun c24_ => absurd (by decide) c24_)
  show PW 4 d (254, [some (pvR 3), some (pvI 6), some (pvI 1), some (pvI n3), some (pvI 0), some (pvI 70), some (pvI (0 + 1))], [], M9_) _
  refine pw_blk hT 5 (S' := (260, [some (pvR 3), some (pvI 6), some (pvI 1), some (pvI n3), some (pvI 0), some (pvI 70), some (pvI (0 + 1))], [pvI (0 + 1), pvI n3, pvI 1, pvI 3, pvR 3], M9_)) rfl ⟨trivial, trivial, trivial, trivial, trivial, trivial⟩ ?_
  have e25_ : (M9_.1 3 2) = (M.1 3 2) := (g12_ 3 2 rfl)
  have b26_ : 6 ≤ Int32.toInt (M9_.1 3 2) ∧ Int32.toInt (M9_.1 3 2) ≤ 6 := (by rw [e25_]; exact hc3_2)
  refine pw_callGd hT (as := [pvR 3, pvI 3, pvI 1, pvI n3, pvI (0 + 1)]) (lo1 := [some (pvR 3), some (pvI 3), some (pvI 1), some (pvI n3), some (pvI (0 + 1)), none, none]) (d1 := (d - 1)) (rest := []) rfl rfl rfl rfl rfl (fun h => absurd h (by decide)) (show 1 ≤ d by omega) rfl rfl rfl (sf_X0_run_3_3_1_x_1_6 M9_ o11_ n3 (zr_wide b14_ (by decide) (by decide)) b26_ (d - 1) (by omega)) (fun x28_ M29_ b30_ o31_ g32_ d27_ => ?_)
  have f33_ : pvFr fp_X0_run_3_6_1_x_0_6 M M29_ := pvfr_t g32_ f13_ fp_X0_run_3_6_1_x_0_6_fp_X0_run_3_3_1_x_1_6
  have b34_ : 0 ≤ Int32.toInt (M29_.1 3 1) ∧ Int32.toInt (M29_.1 3 1) ≤ 998 := (by have u0 := b14_; have u1 := d27_; have u2 := pvok_r o31_ 3 1 (lo := 0) (hi := 1000000) rfl; omega)
  refine pw_blk hT 5 (S' := (269, [some (pvR 3), some (pvI 6), some (pvI 1), some (pvI n3), some (pvI 0), some (pvI 70), some (pvI (0 + 1))], [pvI (0 + 1), pvI 2, pvI 0, pvI 3, pvR 3, pvI x28_], M29_)) rfl ⟨trivial, trivial, trivial, trivial, trivial, trivial⟩ ?_
  have e35_ : (M29_.1 3 2) = (M9_.1 3 2) := (g32_ 3 2 rfl)
  have b36_ : 6 ≤ Int32.toInt (M29_.1 3 2) ∧ Int32.toInt (M29_.1 3 2) ≤ 6 := (by rw [e35_]; exact b26_)
  refine pw_callGd hT (as := [pvR 3, pvI 3, pvI 0, pvI 2, pvI (0 + 1)]) (lo1 := [some (pvR 3), some (pvI 3), some (pvI 0), some (pvI 2), some (pvI (0 + 1)), none, none]) (d1 := (d - 1)) (rest := [pvI x28_]) rfl rfl rfl rfl rfl (fun h => absurd h (by decide)) (show 1 ≤ d by omega) rfl rfl rfl (sf_X0_run_3_3_0_x_1_6 M29_ o31_ 2 b34_ b36_ (d - 1)) (fun x38_ M39_ b40_ o41_ g42_ d37_ => ?_)
  have f43_ : pvFr fp_X0_run_3_6_1_x_0_6 M M39_ := pvfr_t g42_ f33_ fp_X0_run_3_6_1_x_0_6_fp_X0_run_3_3_0_x_1_6
  have b44_ : 0 ≤ Int32.toInt (M39_.1 3 1) ∧ Int32.toInt (M39_.1 3 1) ≤ 999 := (by have u0 := b34_; have u1 := d37_; have u2 := pvok_r o41_ 3 1 (lo := 0) (hi := 1000000) rfl; omega)
  refine pw_blk hT 1 (S' := (273, [some (pvR 3), some (pvI 6), some (pvI 1), some (pvI n3), some (pvI 0), some (pvI 70), some (pvI (0 + 1))], [pvI (x28_ + x38_)], M39_)) rfl ⟨trivial, trivial⟩ ?_
  exact pw_ret hT rfl (r := some (pvI (x28_ + x38_))) (M' := M39_) ⟨rfl, rfl⟩ ⟨⟨_, rfl, trivial⟩, o41_, f43_, (by omega)⟩
set_option maxHeartbeats 4000000 in
set_option maxRecDepth 10000 in
theorem sf_X3_above_6 (M : pvM) (hok : pvOk M) (d : Nat) : PW 131 d (0, [some (pvI 6)], [], M) (fun r X => r = some (pvI (((pvstab 1040).getD (Int32.toNatClampNeg 6) 0))) ∧ X = M) := by
  have hT : pvdom 131 = pvD_131 := rfl
  refine pw_blk hT 1 (S' := (1, [some (pvI 6)], [pvI 6], M)) rfl ⟨trivial, trivial⟩ ?_
  refine pw_if hT (c := 6 < 0) rfl rfl (fun c1_ => absurd c1_ (by decide)) (fun c1_ => ?_)
  refine pw_blk hT 3 (S' := (9, [some (pvI 6)], [pvI (Int32.ofNat (pvstab 1040).length), pvI 6], M)) rfl ⟨trivial, trivial, (by decide), trivial⟩ ?_
  refine pw_ic hT (c := 6 < (Int32.ofNat (pvstab 1040).length)) rfl rfl (fun c2_ => ?_) (fun c2_ => absurd (by decide) c2_)
  refine pw_blk hT 3 (S' := (21, [some (pvI 6)], [pvI ((pvstab 1040).getD (Int32.toNatClampNeg 6) 0)], M)) rfl ⟨trivial, trivial, ⟨by decide, (zr_in (n := 7) (show 6 ≤ Int32.toInt 6 ∧ Int32.toInt 6 ≤ 6 from (by decide)) (by decide) (by decide))⟩, trivial⟩ ?_
  exact pw_ret hT rfl (r := some (pvI ((pvstab 1040).getD (Int32.toNatClampNeg 6) 0))) (M' := M) ⟨rfl, rfl⟩ ⟨rfl, rfl⟩
set_option maxHeartbeats 4000000 in
set_option maxRecDepth 10000 in
theorem sf_X0_bodyFrom_6_2 (M : pvM) (hok : pvOk M) (d : Nat) : PW 1 d (0, [some (pvI 6), some (pvI 2), none, none, none], [], M) (fun r X => r = some (pvI (((pvstab 1041).getD (Int32.toNatClampNeg ((3 * 3) + 2)) 0))) ∧ X = M) := by
  have hT : pvdom 1 = pvD_1 := rfl
  refine pw_blk hT 4 (S' := (4, [some (pvI 6), some (pvI 2), some (pvI 6), some (pvI 0), none], [], M)) rfl ⟨trivial, trivial, trivial, trivial, trivial⟩ ?_
  refine pw_blk hT 3 (S' := (9, [some (pvI 6), some (pvI 2), some (pvI 6), some (pvI 0), none], [pvI (Int32.ofNat (pvstab 1041).length), pvI 0], M)) rfl ⟨trivial, trivial, (by decide), trivial⟩ ?_
  refine pw_ic hT (c := (Int32.ofNat (pvstab 1041).length) ≤ 0) rfl rfl (fun c1_ => absurd c1_ (by decide)) (fun c1_ => ?_)
  refine pw_blk hT 1 (S' := (13, [some (pvI 6), some (pvI 2), some (pvI 6), some (pvI 0), none], [pvI 6], M)) rfl ⟨trivial, trivial⟩ ?_
  refine pw_if hT (c := 6 < 0) rfl rfl (fun c2_ => absurd c2_ (by decide)) (fun c2_ => ?_)
  refine pw_blk hT 7 (S' := (25, [some (pvI 6), some (pvI 2), some (pvI 6), some (pvI 0), some (pvI ((6 * 3) + 2))], [pvI ((6 * 3) + 2)], M)) rfl ⟨trivial, trivial, trivial, trivial, trivial, trivial, trivial, trivial⟩ ?_
  refine pw_if hT (c := ((6 * 3) + 2) < 0) rfl rfl (fun c3_ => absurd c3_ (by decide)) (fun c3_ => ?_)
  refine pw_blk hT 3 (S' := (34, [some (pvI 6), some (pvI 2), some (pvI 6), some (pvI 0), some (pvI ((6 * 3) + 2))], [pvI (Int32.ofNat (pvstab 1041).length), pvI ((6 * 3) + 2)], M)) rfl ⟨trivial, trivial, (by decide), trivial⟩ ?_
  refine pw_ic hT (c := (Int32.ofNat (pvstab 1041).length) ≤ ((6 * 3) + 2)) rfl rfl (fun c4_ => absurd c4_ (by decide)) (fun c4_ => ?_)
  refine pw_blk hT 3 (S' := (43, [some (pvI 6), some (pvI 2), some (pvI 6), some (pvI 0), some (pvI ((6 * 3) + 2))], [pvI ((pvstab 1041).getD (Int32.toNatClampNeg ((6 * 3) + 2)) 0)], M)) rfl ⟨trivial, trivial, ⟨by decide, (zr_in (n := 21) (show 20 ≤ Int32.toInt ((6 * 3) + 2) ∧ Int32.toInt ((6 * 3) + 2) ≤ 20 from (by decide)) (by decide) (by decide))⟩, trivial⟩ ?_
  refine pw_if hT (c := ((pvstab 1041).getD (Int32.toNatClampNeg ((6 * 3) + 2)) 0) = 0) rfl rfl (fun c5_ => ?_) (fun c5_ => absurd (by decide) c5_)
  refine pw_blk hT 1 (S' := (54, [some (pvI 6), some (pvI 2), some (pvI 6), some (pvI 0), some (pvI ((6 * 3) + 2))], [pvI 6], M)) rfl ⟨trivial, trivial⟩ ?_
  refine pw_callT hT (as := [pvI 6]) (lo1 := [some (pvI 6)]) (d1 := d) (rest := []) rfl rfl rfl rfl rfl (fun h => absurd h (by decide)) (Nat.zero_le _) rfl rfl rfl (sf_X3_above_6 M hok d) ?_
  refine pw_eqI (show ((pvstab 1040).getD (Int32.toNatClampNeg 6) 0) = 3 from by decide) ?_
  show PW 1 d (57, [some (pvI 6), some (pvI 2), some (pvI 6), some (pvI 0), some (pvI ((6 * 3) + 2))], [pvI 3], M) _
  refine pw_blk hT 3 (S' := (4, [some (pvI 6), some (pvI 2), some (pvI 3), some (pvI (0 + 1)), some (pvI ((6 * 3) + 2))], [], M)) rfl ⟨trivial, trivial, trivial, trivial⟩ ?_
  refine pw_blk hT 3 (S' := (9, [some (pvI 6), some (pvI 2), some (pvI 3), some (pvI (0 + 1)), some (pvI ((6 * 3) + 2))], [pvI (Int32.ofNat (pvstab 1041).length), pvI (0 + 1)], M)) rfl ⟨trivial, trivial, (by decide), trivial⟩ ?_
  refine pw_ic hT (c := (Int32.ofNat (pvstab 1041).length) ≤ (0 + 1)) rfl rfl (fun c11_ => absurd c11_ (by decide)) (fun c11_ => ?_)
  refine pw_blk hT 1 (S' := (13, [some (pvI 6), some (pvI 2), some (pvI 3), some (pvI (0 + 1)), some (pvI ((6 * 3) + 2))], [pvI 3], M)) rfl ⟨trivial, trivial⟩ ?_
  refine pw_if hT (c := 3 < 0) rfl rfl (fun c12_ => absurd c12_ (by decide)) (fun c12_ => ?_)
  refine pw_blk hT 7 (S' := (25, [some (pvI 6), some (pvI 2), some (pvI 3), some (pvI (0 + 1)), some (pvI ((3 * 3) + 2))], [pvI ((3 * 3) + 2)], M)) rfl ⟨trivial, trivial, trivial, trivial, trivial, trivial, trivial, trivial⟩ ?_
  refine pw_if hT (c := ((3 * 3) + 2) < 0) rfl rfl (fun c13_ => absurd c13_ (by decide)) (fun c13_ => ?_)
  refine pw_blk hT 3 (S' := (34, [some (pvI 6), some (pvI 2), some (pvI 3), some (pvI (0 + 1)), some (pvI ((3 * 3) + 2))], [pvI (Int32.ofNat (pvstab 1041).length), pvI ((3 * 3) + 2)], M)) rfl ⟨trivial, trivial, (by decide), trivial⟩ ?_
  refine pw_ic hT (c := (Int32.ofNat (pvstab 1041).length) ≤ ((3 * 3) + 2)) rfl rfl (fun c14_ => absurd c14_ (by decide)) (fun c14_ => ?_)
  refine pw_blk hT 3 (S' := (43, [some (pvI 6), some (pvI 2), some (pvI 3), some (pvI (0 + 1)), some (pvI ((3 * 3) + 2))], [pvI ((pvstab 1041).getD (Int32.toNatClampNeg ((3 * 3) + 2)) 0)], M)) rfl ⟨trivial, trivial, ⟨by decide, (zr_in (n := 21) (show 11 ≤ Int32.toInt ((3 * 3) + 2) ∧ Int32.toInt ((3 * 3) + 2) ≤ 11 from (by decide)) (by decide) (by decide))⟩, trivial⟩ ?_
  refine pw_if hT (c := ((pvstab 1041).getD (Int32.toNatClampNeg ((3 * 3) + 2)) 0) = 0) rfl rfl (fun c15_ => absurd c15_ (by decide)) (fun c15_ => ?_)
  refine pw_blk hT 3 (S' := (52, [some (pvI 6), some (pvI 2), some (pvI 3), some (pvI (0 + 1)), some (pvI ((3 * 3) + 2))], [pvI ((pvstab 1041).getD (Int32.toNatClampNeg ((3 * 3) + 2)) 0)], M)) rfl ⟨trivial, trivial, ⟨by decide, (zr_in (n := 21) (show 11 ≤ Int32.toInt ((3 * 3) + 2) ∧ Int32.toInt ((3 * 3) + 2) ≤ 11 from (by decide)) (by decide) (by decide))⟩, trivial⟩ ?_
  exact pw_ret hT rfl (r := some (pvI ((pvstab 1041).getD (Int32.toNatClampNeg ((3 * 3) + 2)) 0))) (M' := M) ⟨rfl, rfl⟩ ⟨rfl, rfl⟩
def fpL_X0_run_3_3_0_x_5_6 : List (Nat × Nat × Nat) := [(0, 3, 2), (0, 4, 0)]
def fp_X0_run_3_3_0_x_5_6 (q k : Nat) : Bool := pvfp fpL_X0_run_3_3_0_x_5_6 q k
theorem fp_X0_run_3_3_0_x_5_6_fp_X0_note_3_x (a b : Nat) (h : fp_X0_note_3_x a b = true) : fp_X0_run_3_3_0_x_5_6 a b = true := pvfp_sub (l1 := fpL_X0_note_3_x) (l2 := fpL_X0_run_3_3_0_x_5_6) (by decide) a b h
set_option maxHeartbeats 4000000 in
set_option maxRecDepth 10000 in
theorem sf_X0_run_3_3_0_x_5_6 (M : pvM) (hok : pvOk M) (n3 : Int32) (hc3_1 : 0 ≤ Int32.toInt (M.1 3 1) ∧ Int32.toInt (M.1 3 1) ≤ 998) (hc3_2 : 6 ≤ Int32.toInt (M.1 3 2) ∧ Int32.toInt (M.1 3 2) ≤ 6) (d : Nat) : PW 4 d (0, [some (pvR 3), some (pvI 3), some (pvI 0), some (pvI n3), some (pvI 5), none, none], [], M) (fun r X => (∃ x : Int32, r = some (pvI x) ∧ True) ∧ pvOk X ∧ pvFr fp_X0_run_3_3_0_x_5_6 M X ∧ Int32.toInt (X.1 3 1) ≤ Int32.toInt (M.1 3 1) + 1) := by
  have hT : pvdom 4 = pvD_4 := rfl
  refine pw_blk hT 2 (S' := (4, [some (pvR 3), some (pvI 3), some (pvI 0), some (pvI n3), some (pvI 5), none, none], [pvI 40, pvI 5], M)) rfl ⟨trivial, trivial, trivial⟩ ?_
  refine pw_ic hT (c := 5 ≤ 40) rfl rfl (fun c1_ => ?_) (fun c1_ => absurd (by decide) c1_)
  refine pw_blk hT 2 (S' := (11, [some (pvR 3), some (pvI 3), some (pvI 0), some (pvI n3), some (pvI 5), none, none], [pvI 0, pvI 3], M)) rfl ⟨trivial, trivial, trivial⟩ ?_
  refine pw_callT hT (as := [pvI 3, pvI 0]) (lo1 := [some (pvI 3), some (pvI 0), none, none, none]) (d1 := d) (rest := []) rfl rfl rfl rfl rfl (fun h => absurd h (by decide)) (Nat.zero_le _) rfl rfl rfl (sf_X0_bodyFrom_3_0 M hok d) ?_
  refine pw_eqI (show ((pvstab 1041).getD (Int32.toNatClampNeg ((0 * 3) + 0)) 0) = 10 from by decide) ?_
  show PW 4 d (14, [some (pvR 3), some (pvI 3), some (pvI 0), some (pvI n3), some (pvI 5), none, none], [pvI 10], M) _
  refine pw_blk hT 7 (S' := (25, [some (pvR 3), some (pvI 3), some (pvI 0), some (pvI n3), some (pvI 5), some (pvI 10), some (pvI (5 + 1))], [pvI 10, pvR 3], M)) rfl ⟨trivial, trivial, trivial, trivial, trivial, trivial, trivial, trivial⟩ ?_
  refine pw_callVd hT (as := [pvR 3, pvI 10]) (lo1 := [some (pvR 3), some (pvI 10)]) (d1 := d) (rest := []) rfl rfl rfl rfl rfl (fun _ => rfl) (Nat.zero_le _) rfl rfl rfl (sf_X0_note_3_x M hok 10 (zr_wide (show 10 ≤ Int32.toInt 10 ∧ Int32.toInt 10 ≤ 10 from (by decide)) (by decide) (by decide)) (zr_wide hc3_1 (by decide) (by decide)) d) (fun M9_ o11_ g12_ d7_ => ?_)
  have f13_ : pvFr fp_X0_run_3_3_0_x_5_6 M M9_ := pvfr_t g12_ pvfr_0 fp_X0_run_3_3_0_x_5_6_fp_X0_note_3_x
  have b14_ : 0 ≤ Int32.toInt (M9_.1 3 1) ∧ Int32.toInt (M9_.1 3 1) ≤ 999 := (by have u0 := hc3_1; have u1 := d7_; have u2 := pvok_r o11_ 3 1 (lo := 0) (hi := 1000000) rfl; omega)
  refine pw_blk hT 1 (S' := (30, [some (pvR 3), some (pvI 3), some (pvI 0), some (pvI n3), some (pvI 5), some (pvI 10), some (pvI (5 + 1))], [pvI 10], M9_)) rfl ⟨trivial, trivial⟩ ?_
  refine pw_sw hT rfl rfl ?_
  refine And.intro (fun c15_ => ?_) (fun c15_ => absurd (by decide) c15_)
  show PW 4 d (128, [some (pvR 3), some (pvI 3), some (pvI 0), some (pvI n3), some (pvI 5), some (pvI 10), some (pvI (5 + 1))], [], M9_) _
  refine pw_blk hT 4 (S' := (134, [some (pvR 3), some (pvI 3), some (pvI 0), some (pvI n3), some (pvI 5), some (pvI 10), some (pvI (5 + 1))], [pvI (n3 + (M9_.1 3 4))], M9_)) rfl ⟨trivial, trivial, rfl, trivial, trivial⟩ ?_
  exact pw_ret hT rfl (r := some (pvI (n3 + (M9_.1 3 4)))) (M' := M9_) ⟨rfl, rfl⟩ ⟨⟨_, rfl, trivial⟩, o11_, f13_, (by omega)⟩
def fpL_X0_run_3_6_0_x_4_6 : List (Nat × Nat × Nat) := [(0, 3, 2), (0, 4, 0)]
def fp_X0_run_3_6_0_x_4_6 (q k : Nat) : Bool := pvfp fpL_X0_run_3_6_0_x_4_6 q k
theorem fp_X0_run_3_6_0_x_4_6_fp_X0_note_3_x (a b : Nat) (h : fp_X0_note_3_x a b = true) : fp_X0_run_3_6_0_x_4_6 a b = true := pvfp_sub (l1 := fpL_X0_note_3_x) (l2 := fpL_X0_run_3_6_0_x_4_6) (by decide) a b h
theorem fp_X0_run_3_6_0_x_4_6_fp_X0_run_3_3_0_x_5_6 (a b : Nat) (h : fp_X0_run_3_3_0_x_5_6 a b = true) : fp_X0_run_3_6_0_x_4_6 a b = true := pvfp_sub (l1 := fpL_X0_run_3_3_0_x_5_6) (l2 := fpL_X0_run_3_6_0_x_4_6) (by decide) a b h
set_option maxHeartbeats 4000000 in
set_option maxRecDepth 10000 in
theorem sf_X0_run_3_6_0_x_4_6 (M : pvM) (hok : pvOk M) (n3 : Int32) (hc3_1 : 0 ≤ Int32.toInt (M.1 3 1) ∧ Int32.toInt (M.1 3 1) ≤ 997) (hc3_2 : 6 ≤ Int32.toInt (M.1 3 2) ∧ Int32.toInt (M.1 3 2) ≤ 6) (d : Nat) (hd : 1 ≤ d) : PW 4 d (0, [some (pvR 3), some (pvI 6), some (pvI 0), some (pvI n3), some (pvI 4), none, none], [], M) (fun r X => (∃ x : Int32, r = some (pvI x) ∧ True) ∧ pvOk X ∧ pvFr fp_X0_run_3_6_0_x_4_6 M X ∧ Int32.toInt (X.1 3 1) ≤ Int32.toInt (M.1 3 1) + 2) := by
  have hT : pvdom 4 = pvD_4 := rfl
  refine pw_blk hT 2 (S' := (4, [some (pvR 3), some (pvI 6), some (pvI 0), some (pvI n3), some (pvI 4), none, none], [pvI 40, pvI 4], M)) rfl ⟨trivial, trivial, trivial⟩ ?_
  refine pw_ic hT (c := 4 ≤ 40) rfl rfl (fun c1_ => ?_) (fun c1_ => absurd (by decide) c1_)
  refine pw_blk hT 2 (S' := (11, [some (pvR 3), some (pvI 6), some (pvI 0), some (pvI n3), some (pvI 4), none, none], [pvI 0, pvI 6], M)) rfl ⟨trivial, trivial, trivial⟩ ?_
  refine pw_callT hT (as := [pvI 6, pvI 0]) (lo1 := [some (pvI 6), some (pvI 0), none, none, none]) (d1 := d) (rest := []) rfl rfl rfl rfl rfl (fun h => absurd h (by decide)) (Nat.zero_le _) rfl rfl rfl (sf_X0_bodyFrom_6_0 M hok d) ?_
  refine pw_eqI (show ((pvstab 1041).getD (Int32.toNatClampNeg ((6 * 3) + 0)) 0) = 71 from by decide) ?_
  show PW 4 d (14, [some (pvR 3), some (pvI 6), some (pvI 0), some (pvI n3), some (pvI 4), none, none], [pvI 71], M) _
  refine pw_blk hT 7 (S' := (25, [some (pvR 3), some (pvI 6), some (pvI 0), some (pvI n3), some (pvI 4), some (pvI 71), some (pvI (4 + 1))], [pvI 71, pvR 3], M)) rfl ⟨trivial, trivial, trivial, trivial, trivial, trivial, trivial, trivial⟩ ?_
  refine pw_callVd hT (as := [pvR 3, pvI 71]) (lo1 := [some (pvR 3), some (pvI 71)]) (d1 := d) (rest := []) rfl rfl rfl rfl rfl (fun _ => rfl) (Nat.zero_le _) rfl rfl rfl (sf_X0_note_3_x M hok 71 (zr_wide (show 71 ≤ Int32.toInt 71 ∧ Int32.toInt 71 ≤ 71 from (by decide)) (by decide) (by decide)) (zr_wide hc3_1 (by decide) (by decide)) d) (fun M9_ o11_ g12_ d7_ => ?_)
  have f13_ : pvFr fp_X0_run_3_6_0_x_4_6 M M9_ := pvfr_t g12_ pvfr_0 fp_X0_run_3_6_0_x_4_6_fp_X0_note_3_x
  have b14_ : 0 ≤ Int32.toInt (M9_.1 3 1) ∧ Int32.toInt (M9_.1 3 1) ≤ 998 := (by have u0 := hc3_1; have u1 := d7_; have u2 := pvok_r o11_ 3 1 (lo := 0) (hi := 1000000) rfl; omega)
  refine pw_blk hT 1 (S' := (30, [some (pvR 3), some (pvI 6), some (pvI 0), some (pvI n3), some (pvI 4), some (pvI 71), some (pvI (4 + 1))], [pvI 71], M9_)) rfl ⟨trivial, trivial⟩ ?_
  refine pw_sw hT rfl rfl ?_
  refine And.intro (fun c15_ => absurd c15_ (by decide)) (fun c15_ => ?_)
  refine And.intro (fun c16_ => absurd c16_ (by decide)) (fun c16_ => ?_)
  refine And.intro (fun c17_ => absurd c17_ (by decide)) (fun c17_ => ?_)
  refine And.intro (fun c18_ => absurd c18_ (by decide)) (fun c18_ => ?_)
  refine And.intro (fun c19_ => absurd c19_ (by decide)) (fun c19_ => ?_)
  refine And.intro (fun c20_ => absurd c20_ (by decide)) (fun c20_ => ?_)
  refine And.intro (fun c21_ => absurd c21_ (by decide)) (fun c21_ => ?_)
  refine And.intro (fun c22_ => absurd c22_ (by decide)) (fun c22_ => ?_)
  refine And.intro (fun c23_ => absurd c23_ (by decide)) (fun c23_ => ?_)
  refine And.intro (fun c24_ => absurd c24_ (by decide)) (fun c24_ => ?_)
  refine And.intro (fun c25_ => ?_) (fun c25_ => absurd (by decide) c25_)
  show PW 4 d (274, [some (pvR 3), some (pvI 6), some (pvI 0), some (pvI n3), some (pvI 4), some (pvI 71), some (pvI (4 + 1))], [], M9_) _
  refine pw_blk hT 5 (S' := (280, [some (pvR 3), some (pvI 6), some (pvI 0), some (pvI n3), some (pvI 4), some (pvI 71), some (pvI (4 + 1))], [pvI (4 + 1), pvI n3, pvI 0, pvI 3, pvR 3], M9_)) rfl ⟨trivial, trivial, trivial, trivial, trivial, trivial⟩ ?_
  have e26_ : (M9_.1 3 2) = (M.1 3 2) := (g12_ 3 2 rfl)
  have b27_ : 6 ≤ Int32.toInt (M9_.1 3 2) ∧ Int32.toInt (M9_.1 3 2) ≤ 6 := (by rw [e26_]; exact hc3_2)
  refine pw_callGd hT (as := [pvR 3, pvI 3, pvI 0, pvI n3, pvI (4 + 1)]) (lo1 := [some (pvR 3), some (pvI 3), some (pvI 0), some (pvI n3), some (pvI (4 + 1)), none, none]) (d1 := (d - 1)) (rest := []) rfl rfl rfl rfl rfl (fun h => absurd h (by decide)) (show 1 ≤ d by omega) rfl rfl rfl (sf_X0_run_3_3_0_x_5_6 M9_ o11_ n3 b14_ b27_ (d - 1)) (fun x29_ M30_ b31_ o32_ g33_ d28_ => ?_)
  have f34_ : pvFr fp_X0_run_3_6_0_x_4_6 M M30_ := pvfr_t g33_ f13_ fp_X0_run_3_6_0_x_4_6_fp_X0_run_3_3_0_x_5_6
  have b35_ : 0 ≤ Int32.toInt (M30_.1 3 1) ∧ Int32.toInt (M30_.1 3 1) ≤ 999 := (by have u0 := b14_; have u1 := d28_; have u2 := pvok_r o32_ 3 1 (lo := 0) (hi := 1000000) rfl; omega)
  refine pw_blk hT 3 (S' := (288, [some (pvR 3), some (pvI 6), some (pvI 0), some (pvI n3), some (pvI 4), some (pvI 71), some (pvI (4 + 1))], [pvI (x29_ ^^^ (M30_.1 3 3))], M30_)) rfl ⟨trivial, rfl, trivial, trivial⟩ ?_
  exact pw_ret hT rfl (r := some (pvI (x29_ ^^^ (M30_.1 3 3)))) (M' := M30_) ⟨rfl, rfl⟩ ⟨⟨_, rfl, trivial⟩, o32_, f34_, (by omega)⟩
def fpL_X0_run_3_3_1_x_3_6 : List (Nat × Nat × Nat) := [(0, 3, 2), (0, 4, 0)]
def fp_X0_run_3_3_1_x_3_6 (q k : Nat) : Bool := pvfp fpL_X0_run_3_3_1_x_3_6 q k
theorem fp_X0_run_3_3_1_x_3_6_fp_X0_note_3_x (a b : Nat) (h : fp_X0_note_3_x a b = true) : fp_X0_run_3_3_1_x_3_6 a b = true := pvfp_sub (l1 := fpL_X0_note_3_x) (l2 := fpL_X0_run_3_3_1_x_3_6) (by decide) a b h
theorem fp_X0_run_3_3_1_x_3_6_fp_X0_run_3_6_0_x_4_6 (a b : Nat) (h : fp_X0_run_3_6_0_x_4_6 a b = true) : fp_X0_run_3_3_1_x_3_6 a b = true := pvfp_sub (l1 := fpL_X0_run_3_6_0_x_4_6) (l2 := fpL_X0_run_3_3_1_x_3_6) (by decide) a b h
set_option maxHeartbeats 4000000 in
set_option maxRecDepth 10000 in
theorem sf_X0_run_3_3_1_x_3_6 (M : pvM) (hok : pvOk M) (n3 : Int32) (hc3_1 : 0 ≤ Int32.toInt (M.1 3 1) ∧ Int32.toInt (M.1 3 1) ≤ 996) (hc3_2 : 6 ≤ Int32.toInt (M.1 3 2) ∧ Int32.toInt (M.1 3 2) ≤ 6) (d : Nat) (hd : 2 ≤ d) : PW 4 d (0, [some (pvR 3), some (pvI 3), some (pvI 1), some (pvI n3), some (pvI 3), none, none], [], M) (fun r X => (∃ x : Int32, r = some (pvI x) ∧ True) ∧ pvOk X ∧ pvFr fp_X0_run_3_3_1_x_3_6 M X ∧ Int32.toInt (X.1 3 1) ≤ Int32.toInt (M.1 3 1) + 3) := by
  have hT : pvdom 4 = pvD_4 := rfl
  refine pw_blk hT 2 (S' := (4, [some (pvR 3), some (pvI 3), some (pvI 1), some (pvI n3), some (pvI 3), none, none], [pvI 40, pvI 3], M)) rfl ⟨trivial, trivial, trivial⟩ ?_
  refine pw_ic hT (c := 3 ≤ 40) rfl rfl (fun c1_ => ?_) (fun c1_ => absurd (by decide) c1_)
  refine pw_blk hT 2 (S' := (11, [some (pvR 3), some (pvI 3), some (pvI 1), some (pvI n3), some (pvI 3), none, none], [pvI 1, pvI 3], M)) rfl ⟨trivial, trivial, trivial⟩ ?_
  refine pw_callT hT (as := [pvI 3, pvI 1]) (lo1 := [some (pvI 3), some (pvI 1), none, none, none]) (d1 := d) (rest := []) rfl rfl rfl rfl rfl (fun h => absurd h (by decide)) (Nat.zero_le _) rfl rfl rfl (sf_X0_bodyFrom_3_1 M hok d) ?_
  refine pw_eqI (show ((pvstab 1041).getD (Int32.toNatClampNeg ((0 * 3) + 1)) 0) = 11 from by decide) ?_
  show PW 4 d (14, [some (pvR 3), some (pvI 3), some (pvI 1), some (pvI n3), some (pvI 3), none, none], [pvI 11], M) _
  refine pw_blk hT 7 (S' := (25, [some (pvR 3), some (pvI 3), some (pvI 1), some (pvI n3), some (pvI 3), some (pvI 11), some (pvI (3 + 1))], [pvI 11, pvR 3], M)) rfl ⟨trivial, trivial, trivial, trivial, trivial, trivial, trivial, trivial⟩ ?_
  refine pw_callVd hT (as := [pvR 3, pvI 11]) (lo1 := [some (pvR 3), some (pvI 11)]) (d1 := d) (rest := []) rfl rfl rfl rfl rfl (fun _ => rfl) (Nat.zero_le _) rfl rfl rfl (sf_X0_note_3_x M hok 11 (zr_wide (show 11 ≤ Int32.toInt 11 ∧ Int32.toInt 11 ≤ 11 from (by decide)) (by decide) (by decide)) (zr_wide hc3_1 (by decide) (by decide)) d) (fun M9_ o11_ g12_ d7_ => ?_)
  have f13_ : pvFr fp_X0_run_3_3_1_x_3_6 M M9_ := pvfr_t g12_ pvfr_0 fp_X0_run_3_3_1_x_3_6_fp_X0_note_3_x
  have b14_ : 0 ≤ Int32.toInt (M9_.1 3 1) ∧ Int32.toInt (M9_.1 3 1) ≤ 997 := (by have u0 := hc3_1; have u1 := d7_; have u2 := pvok_r o11_ 3 1 (lo := 0) (hi := 1000000) rfl; omega)
  refine pw_blk hT 1 (S' := (30, [some (pvR 3), some (pvI 3), some (pvI 1), some (pvI n3), some (pvI 3), some (pvI 11), some (pvI (3 + 1))], [pvI 11], M9_)) rfl ⟨trivial, trivial⟩ ?_
  refine pw_sw hT rfl rfl ?_
  refine And.intro (fun c15_ => absurd c15_ (by decide)) (fun c15_ => ?_)
  refine And.intro (fun c16_ => ?_) (fun c16_ => absurd (by decide) c16_)
  show PW 4 d (135, [some (pvR 3), some (pvI 3), some (pvI 1), some (pvI n3), some (pvI 3), some (pvI 11), some (pvI (3 + 1))], [], M9_) _
  have e17_ : (M9_.1 3 2) = (M.1 3 2) := (g12_ 3 2 rfl)
  have b18_ : 6 ≤ Int32.toInt (M9_.1 3 2) ∧ Int32.toInt (M9_.1 3 2) ≤ 6 := (by rw [e17_]; exact hc3_2)
  refine pw_blk hT 3 (S' := (140, [some (pvR 3), some (pvI 3), some (pvI 1), some (pvI n3), some (pvI 3), some (pvI 11), some (pvI (3 + 1))], [pvI (M9_.1 3 2), pvR 3], M9_)) rfl ⟨trivial, trivial, rfl, trivial⟩ ?_
  refine pw_eqI ((zi_eq _ (6)).mpr (by have u0 := b18_; have u1 : Int32.toInt (6) = 6 := (by decide); omega)) ?_
  refine pw_blk hT 3 (S' := (144, [some (pvR 3), some (pvI 3), some (pvI 1), some (pvI n3), some (pvI 3), some (pvI 11), some (pvI (3 + 1))], [pvI (3 + 1), pvI n3, pvI 0, pvI 6, pvR 3], M9_)) rfl ⟨trivial, trivial, trivial, trivial⟩ ?_
  refine pw_callGd hT (as := [pvR 3, pvI 6, pvI 0, pvI n3, pvI (3 + 1)]) (lo1 := [some (pvR 3), some (pvI 6), some (pvI 0), some (pvI n3), some (pvI (3 + 1)), none, none]) (d1 := (d - 1)) (rest := []) rfl rfl rfl rfl rfl (fun h => absurd h (by decide)) (show 1 ≤ d by omega) rfl rfl rfl (sf_X0_run_3_6_0_x_4_6 M9_ o11_ n3 b14_ b18_ (d - 1) (by omega)) (fun x20_ M21_ b22_ o23_ g24_ d19_ => ?_)
  have f25_ : pvFr fp_X0_run_3_3_1_x_3_6 M M21_ := pvfr_t g24_ f13_ fp_X0_run_3_3_1_x_3_6_fp_X0_run_3_6_0_x_4_6
  have b26_ : 0 ≤ Int32.toInt (M21_.1 3 1) ∧ Int32.toInt (M21_.1 3 1) ≤ 999 := (by have u0 := b14_; have u1 := d19_; have u2 := pvok_r o23_ 3 1 (lo := 0) (hi := 1000000) rfl; omega)
  refine pw_blk hT 3 (S' := (152, [some (pvR 3), some (pvI 3), some (pvI 1), some (pvI n3), some (pvI 3), some (pvI 11), some (pvI (3 + 1))], [pvI (x20_ - (M21_.1 3 3))], M21_)) rfl ⟨trivial, rfl, trivial, trivial⟩ ?_
  exact pw_ret hT rfl (r := some (pvI (x20_ - (M21_.1 3 3)))) (M' := M21_) ⟨rfl, rfl⟩ ⟨⟨_, rfl, trivial⟩, o23_, f25_, (by omega)⟩
def fpL_X0_run_3_6_1_x_2_6 : List (Nat × Nat × Nat) := [(0, 3, 2), (0, 4, 0)]
def fp_X0_run_3_6_1_x_2_6 (q k : Nat) : Bool := pvfp fpL_X0_run_3_6_1_x_2_6 q k
theorem fp_X0_run_3_6_1_x_2_6_fp_X0_note_3_x (a b : Nat) (h : fp_X0_note_3_x a b = true) : fp_X0_run_3_6_1_x_2_6 a b = true := pvfp_sub (l1 := fpL_X0_note_3_x) (l2 := fpL_X0_run_3_6_1_x_2_6) (by decide) a b h
theorem fp_X0_run_3_6_1_x_2_6_fp_X0_run_3_3_0_x_3_6 (a b : Nat) (h : fp_X0_run_3_3_0_x_3_6 a b = true) : fp_X0_run_3_6_1_x_2_6 a b = true := pvfp_sub (l1 := fpL_X0_run_3_3_0_x_3_6) (l2 := fpL_X0_run_3_6_1_x_2_6) (by decide) a b h
theorem fp_X0_run_3_6_1_x_2_6_fp_X0_run_3_3_1_x_3_6 (a b : Nat) (h : fp_X0_run_3_3_1_x_3_6 a b = true) : fp_X0_run_3_6_1_x_2_6 a b = true := pvfp_sub (l1 := fpL_X0_run_3_3_1_x_3_6) (l2 := fpL_X0_run_3_6_1_x_2_6) (by decide) a b h
set_option maxHeartbeats 4000000 in
set_option maxRecDepth 10000 in
theorem sf_X0_run_3_6_1_x_2_6 (M : pvM) (hok : pvOk M) (n3 : Int32) (hc3_1 : 0 ≤ Int32.toInt (M.1 3 1) ∧ Int32.toInt (M.1 3 1) ≤ 994) (hc3_2 : 6 ≤ Int32.toInt (M.1 3 2) ∧ Int32.toInt (M.1 3 2) ≤ 6) (d : Nat) (hd : 3 ≤ d) : PW 4 d (0, [some (pvR 3), some (pvI 6), some (pvI 1), some (pvI n3), some (pvI 2), none, none], [], M) (fun r X => (∃ x : Int32, r = some (pvI x) ∧ True) ∧ pvOk X ∧ pvFr fp_X0_run_3_6_1_x_2_6 M X ∧ Int32.toInt (X.1 3 1) ≤ Int32.toInt (M.1 3 1) + 5) := by
  have hT : pvdom 4 = pvD_4 := rfl
  refine pw_blk hT 2 (S' := (4, [some (pvR 3), some (pvI 6), some (pvI 1), some (pvI n3), some (pvI 2), none, none], [pvI 40, pvI 2], M)) rfl ⟨trivial, trivial, trivial⟩ ?_
  refine pw_ic hT (c := 2 ≤ 40) rfl rfl (fun c1_ => ?_) (fun c1_ => absurd (by decide) c1_)
  refine pw_blk hT 2 (S' := (11, [some (pvR 3), some (pvI 6), some (pvI 1), some (pvI n3), some (pvI 2), none, none], [pvI 1, pvI 6], M)) rfl ⟨trivial, trivial, trivial⟩ ?_
  refine pw_callT hT (as := [pvI 6, pvI 1]) (lo1 := [some (pvI 6), some (pvI 1), none, none, none]) (d1 := d) (rest := []) rfl rfl rfl rfl rfl (fun h => absurd h (by decide)) (Nat.zero_le _) rfl rfl rfl (sf_X0_bodyFrom_6_1 M hok d) ?_
  refine pw_eqI (show ((pvstab 1041).getD (Int32.toNatClampNeg ((6 * 3) + 1)) 0) = 70 from by decide) ?_
  show PW 4 d (14, [some (pvR 3), some (pvI 6), some (pvI 1), some (pvI n3), some (pvI 2), none, none], [pvI 70], M) _
  refine pw_blk hT 7 (S' := (25, [some (pvR 3), some (pvI 6), some (pvI 1), some (pvI n3), some (pvI 2), some (pvI 70), some (pvI (2 + 1))], [pvI 70, pvR 3], M)) rfl ⟨trivial, trivial, trivial, trivial, trivial, trivial, trivial, trivial⟩ ?_
  refine pw_callVd hT (as := [pvR 3, pvI 70]) (lo1 := [some (pvR 3), some (pvI 70)]) (d1 := d) (rest := []) rfl rfl rfl rfl rfl (fun _ => rfl) (Nat.zero_le _) rfl rfl rfl (sf_X0_note_3_x M hok 70 (zr_wide (show 70 ≤ Int32.toInt 70 ∧ Int32.toInt 70 ≤ 70 from (by decide)) (by decide) (by decide)) (zr_wide hc3_1 (by decide) (by decide)) d) (fun M9_ o11_ g12_ d7_ => ?_)
  have f13_ : pvFr fp_X0_run_3_6_1_x_2_6 M M9_ := pvfr_t g12_ pvfr_0 fp_X0_run_3_6_1_x_2_6_fp_X0_note_3_x
  have b14_ : 0 ≤ Int32.toInt (M9_.1 3 1) ∧ Int32.toInt (M9_.1 3 1) ≤ 995 := (by have u0 := hc3_1; have u1 := d7_; have u2 := pvok_r o11_ 3 1 (lo := 0) (hi := 1000000) rfl; omega)
  refine pw_blk hT 1 (S' := (30, [some (pvR 3), some (pvI 6), some (pvI 1), some (pvI n3), some (pvI 2), some (pvI 70), some (pvI (2 + 1))], [pvI 70], M9_)) rfl ⟨trivial, trivial⟩ ?_
  refine pw_sw hT rfl rfl ?_
  refine And.intro (fun c15_ => absurd c15_ (by decide)) (fun c15_ => ?_)
  refine And.intro (fun c16_ => absurd c16_ (by decide)) (fun c16_ => ?_)
  refine And.intro (fun c17_ => absurd c17_ (by decide)) (fun c17_ => ?_)
  refine And.intro (fun c18_ => absurd c18_ (by decide)) (fun c18_ => ?_)
  refine And.intro (fun c19_ => absurd c19_ (by decide)) (fun c19_ => ?_)
  refine And.intro (fun c20_ => absurd c20_ (by decide)) (fun c20_ => ?_)
  refine And.intro (fun c21_ => absurd c21_ (by decide)) (fun c21_ => ?_)
  refine And.intro (fun c22_ => absurd c22_ (by decide)) (fun c22_ => ?_)
  refine And.intro (fun c23_ => absurd c23_ (by decide)) (fun c23_ => ?_)
  refine And.intro (fun c24_ => ?_) (fun c24_ => absurd (by decide) c24_)
  show PW 4 d (254, [some (pvR 3), some (pvI 6), some (pvI 1), some (pvI n3), some (pvI 2), some (pvI 70), some (pvI (2 + 1))], [], M9_) _
  refine pw_blk hT 5 (S' := (260, [some (pvR 3), some (pvI 6), some (pvI 1), some (pvI n3), some (pvI 2), some (pvI 70), some (pvI (2 + 1))], [pvI (2 + 1), pvI n3, pvI 1, pvI 3, pvR 3], M9_)) rfl ⟨trivial, trivial, trivial, trivial, trivial, trivial⟩ ?_
  have e25_ : (M9_.1 3 2) = (M.1 3 2) := (g12_ 3 2 rfl)
  have b26_ : 6 ≤ Int32.toInt (M9_.1 3 2) ∧ Int32.toInt (M9_.1 3 2) ≤ 6 := (by rw [e25_]; exact hc3_2)
  refine pw_callGd hT (as := [pvR 3, pvI 3, pvI 1, pvI n3, pvI (2 + 1)]) (lo1 := [some (pvR 3), some (pvI 3), some (pvI 1), some (pvI n3), some (pvI (2 + 1)), none, none]) (d1 := (d - 1)) (rest := []) rfl rfl rfl rfl rfl (fun h => absurd h (by decide)) (show 1 ≤ d by omega) rfl rfl rfl (sf_X0_run_3_3_1_x_3_6 M9_ o11_ n3 (zr_wide b14_ (by decide) (by decide)) b26_ (d - 1) (by omega)) (fun x28_ M29_ b30_ o31_ g32_ d27_ => ?_)
  have f33_ : pvFr fp_X0_run_3_6_1_x_2_6 M M29_ := pvfr_t g32_ f13_ fp_X0_run_3_6_1_x_2_6_fp_X0_run_3_3_1_x_3_6
  have b34_ : 0 ≤ Int32.toInt (M29_.1 3 1) ∧ Int32.toInt (M29_.1 3 1) ≤ 998 := (by have u0 := b14_; have u1 := d27_; have u2 := pvok_r o31_ 3 1 (lo := 0) (hi := 1000000) rfl; omega)
  refine pw_blk hT 5 (S' := (269, [some (pvR 3), some (pvI 6), some (pvI 1), some (pvI n3), some (pvI 2), some (pvI 70), some (pvI (2 + 1))], [pvI (2 + 1), pvI 2, pvI 0, pvI 3, pvR 3, pvI x28_], M29_)) rfl ⟨trivial, trivial, trivial, trivial, trivial, trivial⟩ ?_
  have e35_ : (M29_.1 3 2) = (M9_.1 3 2) := (g32_ 3 2 rfl)
  have b36_ : 6 ≤ Int32.toInt (M29_.1 3 2) ∧ Int32.toInt (M29_.1 3 2) ≤ 6 := (by rw [e35_]; exact b26_)
  refine pw_callGd hT (as := [pvR 3, pvI 3, pvI 0, pvI 2, pvI (2 + 1)]) (lo1 := [some (pvR 3), some (pvI 3), some (pvI 0), some (pvI 2), some (pvI (2 + 1)), none, none]) (d1 := (d - 1)) (rest := [pvI x28_]) rfl rfl rfl rfl rfl (fun h => absurd h (by decide)) (show 1 ≤ d by omega) rfl rfl rfl (sf_X0_run_3_3_0_x_3_6 M29_ o31_ 2 b34_ b36_ (d - 1)) (fun x38_ M39_ b40_ o41_ g42_ d37_ => ?_)
  have f43_ : pvFr fp_X0_run_3_6_1_x_2_6 M M39_ := pvfr_t g42_ f33_ fp_X0_run_3_6_1_x_2_6_fp_X0_run_3_3_0_x_3_6
  have b44_ : 0 ≤ Int32.toInt (M39_.1 3 1) ∧ Int32.toInt (M39_.1 3 1) ≤ 999 := (by have u0 := b34_; have u1 := d37_; have u2 := pvok_r o41_ 3 1 (lo := 0) (hi := 1000000) rfl; omega)
  refine pw_blk hT 1 (S' := (273, [some (pvR 3), some (pvI 6), some (pvI 1), some (pvI n3), some (pvI 2), some (pvI 70), some (pvI (2 + 1))], [pvI (x28_ + x38_)], M39_)) rfl ⟨trivial, trivial⟩ ?_
  exact pw_ret hT rfl (r := some (pvI (x28_ + x38_))) (M' := M39_) ⟨rfl, rfl⟩ ⟨⟨_, rfl, trivial⟩, o41_, f43_, (by omega)⟩
def fpL_X0_run_3_0_2_x_1_6 : List (Nat × Nat × Nat) := [(0, 3, 2), (0, 4, 0)]
def fp_X0_run_3_0_2_x_1_6 (q k : Nat) : Bool := pvfp fpL_X0_run_3_0_2_x_1_6 q k
theorem fp_X0_run_3_0_2_x_1_6_fp_X0_note_3_x (a b : Nat) (h : fp_X0_note_3_x a b = true) : fp_X0_run_3_0_2_x_1_6 a b = true := pvfp_sub (l1 := fpL_X0_note_3_x) (l2 := fpL_X0_run_3_0_2_x_1_6) (by decide) a b h
theorem fp_X0_run_3_0_2_x_1_6_fp_X0_run_3_6_1_x_2_6 (a b : Nat) (h : fp_X0_run_3_6_1_x_2_6 a b = true) : fp_X0_run_3_0_2_x_1_6 a b = true := pvfp_sub (l1 := fpL_X0_run_3_6_1_x_2_6) (l2 := fpL_X0_run_3_0_2_x_1_6) (by decide) a b h
set_option maxHeartbeats 4000000 in
set_option maxRecDepth 10000 in
theorem sf_X0_run_3_0_2_x_1_6 (M : pvM) (hok : pvOk M) (n3 : Int32) (hc3_1 : 0 ≤ Int32.toInt (M.1 3 1) ∧ Int32.toInt (M.1 3 1) ≤ 993) (hc3_2 : 6 ≤ Int32.toInt (M.1 3 2) ∧ Int32.toInt (M.1 3 2) ≤ 6) (d : Nat) (hd : 4 ≤ d) : PW 4 d (0, [some (pvR 3), some (pvI 0), some (pvI 2), some (pvI n3), some (pvI 1), none, none], [], M) (fun r X => (∃ x : Int32, r = some (pvI x) ∧ True) ∧ pvOk X ∧ pvFr fp_X0_run_3_0_2_x_1_6 M X ∧ Int32.toInt (X.1 3 1) ≤ Int32.toInt (M.1 3 1) + 6) := by
  have hT : pvdom 4 = pvD_4 := rfl
  refine pw_blk hT 2 (S' := (4, [some (pvR 3), some (pvI 0), some (pvI 2), some (pvI n3), some (pvI 1), none, none], [pvI 40, pvI 1], M)) rfl ⟨trivial, trivial, trivial⟩ ?_
  refine pw_ic hT (c := 1 ≤ 40) rfl rfl (fun c1_ => ?_) (fun c1_ => absurd (by decide) c1_)
  refine pw_blk hT 2 (S' := (11, [some (pvR 3), some (pvI 0), some (pvI 2), some (pvI n3), some (pvI 1), none, none], [pvI 2, pvI 0], M)) rfl ⟨trivial, trivial, trivial⟩ ?_
  refine pw_callT hT (as := [pvI 0, pvI 2]) (lo1 := [some (pvI 0), some (pvI 2), none, none, none]) (d1 := d) (rest := []) rfl rfl rfl rfl rfl (fun h => absurd h (by decide)) (Nat.zero_le _) rfl rfl rfl (sf_X0_bodyFrom_0_2 M hok d) ?_
  refine pw_eqI (show ((pvstab 1041).getD (Int32.toNatClampNeg ((0 * 3) + 2)) 0) = 12 from by decide) ?_
  show PW 4 d (14, [some (pvR 3), some (pvI 0), some (pvI 2), some (pvI n3), some (pvI 1), none, none], [pvI 12], M) _
  refine pw_blk hT 7 (S' := (25, [some (pvR 3), some (pvI 0), some (pvI 2), some (pvI n3), some (pvI 1), some (pvI 12), some (pvI (1 + 1))], [pvI 12, pvR 3], M)) rfl ⟨trivial, trivial, trivial, trivial, trivial, trivial, trivial, trivial⟩ ?_
  refine pw_callVd hT (as := [pvR 3, pvI 12]) (lo1 := [some (pvR 3), some (pvI 12)]) (d1 := d) (rest := []) rfl rfl rfl rfl rfl (fun _ => rfl) (Nat.zero_le _) rfl rfl rfl (sf_X0_note_3_x M hok 12 (zr_wide (show 12 ≤ Int32.toInt 12 ∧ Int32.toInt 12 ≤ 12 from (by decide)) (by decide) (by decide)) (zr_wide hc3_1 (by decide) (by decide)) d) (fun M9_ o11_ g12_ d7_ => ?_)
  have f13_ : pvFr fp_X0_run_3_0_2_x_1_6 M M9_ := pvfr_t g12_ pvfr_0 fp_X0_run_3_0_2_x_1_6_fp_X0_note_3_x
  have b14_ : 0 ≤ Int32.toInt (M9_.1 3 1) ∧ Int32.toInt (M9_.1 3 1) ≤ 994 := (by have u0 := hc3_1; have u1 := d7_; have u2 := pvok_r o11_ 3 1 (lo := 0) (hi := 1000000) rfl; omega)
  refine pw_blk hT 1 (S' := (30, [some (pvR 3), some (pvI 0), some (pvI 2), some (pvI n3), some (pvI 1), some (pvI 12), some (pvI (1 + 1))], [pvI 12], M9_)) rfl ⟨trivial, trivial⟩ ?_
  refine pw_sw hT rfl rfl ?_
  refine And.intro (fun c15_ => absurd c15_ (by decide)) (fun c15_ => ?_)
  refine And.intro (fun c16_ => absurd c16_ (by decide)) (fun c16_ => ?_)
  refine And.intro (fun c17_ => ?_) (fun c17_ => absurd (by decide) c17_)
  show PW 4 d (153, [some (pvR 3), some (pvI 0), some (pvI 2), some (pvI n3), some (pvI 1), some (pvI 12), some (pvI (1 + 1))], [], M9_) _
  have e18_ : (M9_.1 3 2) = (M.1 3 2) := (g12_ 3 2 rfl)
  have b19_ : 6 ≤ Int32.toInt (M9_.1 3 2) ∧ Int32.toInt (M9_.1 3 2) ≤ 6 := (by rw [e18_]; exact hc3_2)
  refine pw_blk hT 3 (S' := (158, [some (pvR 3), some (pvI 0), some (pvI 2), some (pvI n3), some (pvI 1), some (pvI 12), some (pvI (1 + 1))], [pvI (M9_.1 3 2), pvR 3], M9_)) rfl ⟨trivial, trivial, rfl, trivial⟩ ?_
  refine pw_eqI ((zi_eq _ (6)).mpr (by have u0 := b19_; have u1 : Int32.toInt (6) = 6 := (by decide); omega)) ?_
  refine pw_blk hT 3 (S' := (162, [some (pvR 3), some (pvI 0), some (pvI 2), some (pvI n3), some (pvI 1), some (pvI 12), some (pvI (1 + 1))], [pvI (1 + 1), pvI n3, pvI 1, pvI 6, pvR 3], M9_)) rfl ⟨trivial, trivial, trivial, trivial⟩ ?_
  refine pw_callGd hT (as := [pvR 3, pvI 6, pvI 1, pvI n3, pvI (1 + 1)]) (lo1 := [some (pvR 3), some (pvI 6), some (pvI 1), some (pvI n3), some (pvI (1 + 1)), none, none]) (d1 := (d - 1)) (rest := []) rfl rfl rfl rfl rfl (fun h => absurd h (by decide)) (show 1 ≤ d by omega) rfl rfl rfl (sf_X0_run_3_6_1_x_2_6 M9_ o11_ n3 b14_ b19_ (d - 1) (by omega)) (fun x21_ M22_ b23_ o24_ g25_ d20_ => ?_)
  have f26_ : pvFr fp_X0_run_3_0_2_x_1_6 M M22_ := pvfr_t g25_ f13_ fp_X0_run_3_0_2_x_1_6_fp_X0_run_3_6_1_x_2_6
  have b27_ : 0 ≤ Int32.toInt (M22_.1 3 1) ∧ Int32.toInt (M22_.1 3 1) ≤ 999 := (by have u0 := b14_; have u1 := d20_; have u2 := pvok_r o24_ 3 1 (lo := 0) (hi := 1000000) rfl; omega)
  refine pw_blk hT 2 (S' := (167, [some (pvR 3), some (pvI 0), some (pvI 2), some (pvI n3), some (pvI 1), some (pvI 12), some (pvI (1 + 1))], [pvI (x21_ * 2)], M22_)) rfl ⟨trivial, trivial, trivial⟩ ?_
  exact pw_ret hT rfl (r := some (pvI (x21_ * 2))) (M' := M22_) ⟨rfl, rfl⟩ ⟨⟨_, rfl, trivial⟩, o24_, f26_, (by omega)⟩
def fpL_X0_run_3_3_0_x_4_6 : List (Nat × Nat × Nat) := [(0, 3, 2), (0, 4, 0)]
def fp_X0_run_3_3_0_x_4_6 (q k : Nat) : Bool := pvfp fpL_X0_run_3_3_0_x_4_6 q k
theorem fp_X0_run_3_3_0_x_4_6_fp_X0_note_3_x (a b : Nat) (h : fp_X0_note_3_x a b = true) : fp_X0_run_3_3_0_x_4_6 a b = true := pvfp_sub (l1 := fpL_X0_note_3_x) (l2 := fpL_X0_run_3_3_0_x_4_6) (by decide) a b h
set_option maxHeartbeats 4000000 in
set_option maxRecDepth 10000 in
theorem sf_X0_run_3_3_0_x_4_6 (M : pvM) (hok : pvOk M) (n3 : Int32) (hc3_1 : 0 ≤ Int32.toInt (M.1 3 1) ∧ Int32.toInt (M.1 3 1) ≤ 998) (hc3_2 : 6 ≤ Int32.toInt (M.1 3 2) ∧ Int32.toInt (M.1 3 2) ≤ 6) (d : Nat) : PW 4 d (0, [some (pvR 3), some (pvI 3), some (pvI 0), some (pvI n3), some (pvI 4), none, none], [], M) (fun r X => (∃ x : Int32, r = some (pvI x) ∧ True) ∧ pvOk X ∧ pvFr fp_X0_run_3_3_0_x_4_6 M X ∧ Int32.toInt (X.1 3 1) ≤ Int32.toInt (M.1 3 1) + 1) := by
  have hT : pvdom 4 = pvD_4 := rfl
  refine pw_blk hT 2 (S' := (4, [some (pvR 3), some (pvI 3), some (pvI 0), some (pvI n3), some (pvI 4), none, none], [pvI 40, pvI 4], M)) rfl ⟨trivial, trivial, trivial⟩ ?_
  refine pw_ic hT (c := 4 ≤ 40) rfl rfl (fun c1_ => ?_) (fun c1_ => absurd (by decide) c1_)
  refine pw_blk hT 2 (S' := (11, [some (pvR 3), some (pvI 3), some (pvI 0), some (pvI n3), some (pvI 4), none, none], [pvI 0, pvI 3], M)) rfl ⟨trivial, trivial, trivial⟩ ?_
  refine pw_callT hT (as := [pvI 3, pvI 0]) (lo1 := [some (pvI 3), some (pvI 0), none, none, none]) (d1 := d) (rest := []) rfl rfl rfl rfl rfl (fun h => absurd h (by decide)) (Nat.zero_le _) rfl rfl rfl (sf_X0_bodyFrom_3_0 M hok d) ?_
  refine pw_eqI (show ((pvstab 1041).getD (Int32.toNatClampNeg ((0 * 3) + 0)) 0) = 10 from by decide) ?_
  show PW 4 d (14, [some (pvR 3), some (pvI 3), some (pvI 0), some (pvI n3), some (pvI 4), none, none], [pvI 10], M) _
  refine pw_blk hT 7 (S' := (25, [some (pvR 3), some (pvI 3), some (pvI 0), some (pvI n3), some (pvI 4), some (pvI 10), some (pvI (4 + 1))], [pvI 10, pvR 3], M)) rfl ⟨trivial, trivial, trivial, trivial, trivial, trivial, trivial, trivial⟩ ?_
  refine pw_callVd hT (as := [pvR 3, pvI 10]) (lo1 := [some (pvR 3), some (pvI 10)]) (d1 := d) (rest := []) rfl rfl rfl rfl rfl (fun _ => rfl) (Nat.zero_le _) rfl rfl rfl (sf_X0_note_3_x M hok 10 (zr_wide (show 10 ≤ Int32.toInt 10 ∧ Int32.toInt 10 ≤ 10 from (by decide)) (by decide) (by decide)) (zr_wide hc3_1 (by decide) (by decide)) d) (fun M9_ o11_ g12_ d7_ => ?_)
  have f13_ : pvFr fp_X0_run_3_3_0_x_4_6 M M9_ := pvfr_t g12_ pvfr_0 fp_X0_run_3_3_0_x_4_6_fp_X0_note_3_x
  have b14_ : 0 ≤ Int32.toInt (M9_.1 3 1) ∧ Int32.toInt (M9_.1 3 1) ≤ 999 := (by have u0 := hc3_1; have u1 := d7_; have u2 := pvok_r o11_ 3 1 (lo := 0) (hi := 1000000) rfl; omega)
  refine pw_blk hT 1 (S' := (30, [some (pvR 3), some (pvI 3), some (pvI 0), some (pvI n3), some (pvI 4), some (pvI 10), some (pvI (4 + 1))], [pvI 10], M9_)) rfl ⟨trivial, trivial⟩ ?_
  refine pw_sw hT rfl rfl ?_
  refine And.intro (fun c15_ => ?_) (fun c15_ => absurd (by decide) c15_)
  show PW 4 d (128, [some (pvR 3), some (pvI 3), some (pvI 0), some (pvI n3), some (pvI 4), some (pvI 10), some (pvI (4 + 1))], [], M9_) _
  refine pw_blk hT 4 (S' := (134, [some (pvR 3), some (pvI 3), some (pvI 0), some (pvI n3), some (pvI 4), some (pvI 10), some (pvI (4 + 1))], [pvI (n3 + (M9_.1 3 4))], M9_)) rfl ⟨trivial, trivial, rfl, trivial, trivial⟩ ?_
  exact pw_ret hT rfl (r := some (pvI (n3 + (M9_.1 3 4)))) (M' := M9_) ⟨rfl, rfl⟩ ⟨⟨_, rfl, trivial⟩, o11_, f13_, (by omega)⟩
def fpL_X0_run_3_6_0_x_3_6 : List (Nat × Nat × Nat) := [(0, 3, 2), (0, 4, 0)]
def fp_X0_run_3_6_0_x_3_6 (q k : Nat) : Bool := pvfp fpL_X0_run_3_6_0_x_3_6 q k
theorem fp_X0_run_3_6_0_x_3_6_fp_X0_note_3_x (a b : Nat) (h : fp_X0_note_3_x a b = true) : fp_X0_run_3_6_0_x_3_6 a b = true := pvfp_sub (l1 := fpL_X0_note_3_x) (l2 := fpL_X0_run_3_6_0_x_3_6) (by decide) a b h
theorem fp_X0_run_3_6_0_x_3_6_fp_X0_run_3_3_0_x_4_6 (a b : Nat) (h : fp_X0_run_3_3_0_x_4_6 a b = true) : fp_X0_run_3_6_0_x_3_6 a b = true := pvfp_sub (l1 := fpL_X0_run_3_3_0_x_4_6) (l2 := fpL_X0_run_3_6_0_x_3_6) (by decide) a b h
set_option maxHeartbeats 4000000 in
set_option maxRecDepth 10000 in
theorem sf_X0_run_3_6_0_x_3_6 (M : pvM) (hok : pvOk M) (n3 : Int32) (hc3_1 : 0 ≤ Int32.toInt (M.1 3 1) ∧ Int32.toInt (M.1 3 1) ≤ 997) (hc3_2 : 6 ≤ Int32.toInt (M.1 3 2) ∧ Int32.toInt (M.1 3 2) ≤ 6) (d : Nat) (hd : 1 ≤ d) : PW 4 d (0, [some (pvR 3), some (pvI 6), some (pvI 0), some (pvI n3), some (pvI 3), none, none], [], M) (fun r X => (∃ x : Int32, r = some (pvI x) ∧ True) ∧ pvOk X ∧ pvFr fp_X0_run_3_6_0_x_3_6 M X ∧ Int32.toInt (X.1 3 1) ≤ Int32.toInt (M.1 3 1) + 2) := by
  have hT : pvdom 4 = pvD_4 := rfl
  refine pw_blk hT 2 (S' := (4, [some (pvR 3), some (pvI 6), some (pvI 0), some (pvI n3), some (pvI 3), none, none], [pvI 40, pvI 3], M)) rfl ⟨trivial, trivial, trivial⟩ ?_
  refine pw_ic hT (c := 3 ≤ 40) rfl rfl (fun c1_ => ?_) (fun c1_ => absurd (by decide) c1_)
  refine pw_blk hT 2 (S' := (11, [some (pvR 3), some (pvI 6), some (pvI 0), some (pvI n3), some (pvI 3), none, none], [pvI 0, pvI 6], M)) rfl ⟨trivial, trivial, trivial⟩ ?_
  refine pw_callT hT (as := [pvI 6, pvI 0]) (lo1 := [some (pvI 6), some (pvI 0), none, none, none]) (d1 := d) (rest := []) rfl rfl rfl rfl rfl (fun h => absurd h (by decide)) (Nat.zero_le _) rfl rfl rfl (sf_X0_bodyFrom_6_0 M hok d) ?_
  refine pw_eqI (show ((pvstab 1041).getD (Int32.toNatClampNeg ((6 * 3) + 0)) 0) = 71 from by decide) ?_
  show PW 4 d (14, [some (pvR 3), some (pvI 6), some (pvI 0), some (pvI n3), some (pvI 3), none, none], [pvI 71], M) _
  refine pw_blk hT 7 (S' := (25, [some (pvR 3), some (pvI 6), some (pvI 0), some (pvI n3), some (pvI 3), some (pvI 71), some (pvI (3 + 1))], [pvI 71, pvR 3], M)) rfl ⟨trivial, trivial, trivial, trivial, trivial, trivial, trivial, trivial⟩ ?_
  refine pw_callVd hT (as := [pvR 3, pvI 71]) (lo1 := [some (pvR 3), some (pvI 71)]) (d1 := d) (rest := []) rfl rfl rfl rfl rfl (fun _ => rfl) (Nat.zero_le _) rfl rfl rfl (sf_X0_note_3_x M hok 71 (zr_wide (show 71 ≤ Int32.toInt 71 ∧ Int32.toInt 71 ≤ 71 from (by decide)) (by decide) (by decide)) (zr_wide hc3_1 (by decide) (by decide)) d) (fun M9_ o11_ g12_ d7_ => ?_)
  have f13_ : pvFr fp_X0_run_3_6_0_x_3_6 M M9_ := pvfr_t g12_ pvfr_0 fp_X0_run_3_6_0_x_3_6_fp_X0_note_3_x
  have b14_ : 0 ≤ Int32.toInt (M9_.1 3 1) ∧ Int32.toInt (M9_.1 3 1) ≤ 998 := (by have u0 := hc3_1; have u1 := d7_; have u2 := pvok_r o11_ 3 1 (lo := 0) (hi := 1000000) rfl; omega)
  refine pw_blk hT 1 (S' := (30, [some (pvR 3), some (pvI 6), some (pvI 0), some (pvI n3), some (pvI 3), some (pvI 71), some (pvI (3 + 1))], [pvI 71], M9_)) rfl ⟨trivial, trivial⟩ ?_
  refine pw_sw hT rfl rfl ?_
  refine And.intro (fun c15_ => absurd c15_ (by decide)) (fun c15_ => ?_)
  refine And.intro (fun c16_ => absurd c16_ (by decide)) (fun c16_ => ?_)
  refine And.intro (fun c17_ => absurd c17_ (by decide)) (fun c17_ => ?_)
  refine And.intro (fun c18_ => absurd c18_ (by decide)) (fun c18_ => ?_)
  refine And.intro (fun c19_ => absurd c19_ (by decide)) (fun c19_ => ?_)
  refine And.intro (fun c20_ => absurd c20_ (by decide)) (fun c20_ => ?_)
  refine And.intro (fun c21_ => absurd c21_ (by decide)) (fun c21_ => ?_)
  refine And.intro (fun c22_ => absurd c22_ (by decide)) (fun c22_ => ?_)
  refine And.intro (fun c23_ => absurd c23_ (by decide)) (fun c23_ => ?_)
  refine And.intro (fun c24_ => absurd c24_ (by decide)) (fun c24_ => ?_)
  refine And.intro (fun c25_ => ?_) (fun c25_ => absurd (by decide) c25_)
  show PW 4 d (274, [some (pvR 3), some (pvI 6), some (pvI 0), some (pvI n3), some (pvI 3), some (pvI 71), some (pvI (3 + 1))], [], M9_) _
  refine pw_blk hT 5 (S' := (280, [some (pvR 3), some (pvI 6), some (pvI 0), some (pvI n3), some (pvI 3), some (pvI 71), some (pvI (3 + 1))], [pvI (3 + 1), pvI n3, pvI 0, pvI 3, pvR 3], M9_)) rfl ⟨trivial, trivial, trivial, trivial, trivial, trivial⟩ ?_
  have e26_ : (M9_.1 3 2) = (M.1 3 2) := (g12_ 3 2 rfl)
  have b27_ : 6 ≤ Int32.toInt (M9_.1 3 2) ∧ Int32.toInt (M9_.1 3 2) ≤ 6 := (by rw [e26_]; exact hc3_2)
  refine pw_callGd hT (as := [pvR 3, pvI 3, pvI 0, pvI n3, pvI (3 + 1)]) (lo1 := [some (pvR 3), some (pvI 3), some (pvI 0), some (pvI n3), some (pvI (3 + 1)), none, none]) (d1 := (d - 1)) (rest := []) rfl rfl rfl rfl rfl (fun h => absurd h (by decide)) (show 1 ≤ d by omega) rfl rfl rfl (sf_X0_run_3_3_0_x_4_6 M9_ o11_ n3 b14_ b27_ (d - 1)) (fun x29_ M30_ b31_ o32_ g33_ d28_ => ?_)
  have f34_ : pvFr fp_X0_run_3_6_0_x_3_6 M M30_ := pvfr_t g33_ f13_ fp_X0_run_3_6_0_x_3_6_fp_X0_run_3_3_0_x_4_6
  have b35_ : 0 ≤ Int32.toInt (M30_.1 3 1) ∧ Int32.toInt (M30_.1 3 1) ≤ 999 := (by have u0 := b14_; have u1 := d28_; have u2 := pvok_r o32_ 3 1 (lo := 0) (hi := 1000000) rfl; omega)
  refine pw_blk hT 3 (S' := (288, [some (pvR 3), some (pvI 6), some (pvI 0), some (pvI n3), some (pvI 3), some (pvI 71), some (pvI (3 + 1))], [pvI (x29_ ^^^ (M30_.1 3 3))], M30_)) rfl ⟨trivial, rfl, trivial, trivial⟩ ?_
  exact pw_ret hT rfl (r := some (pvI (x29_ ^^^ (M30_.1 3 3)))) (M' := M30_) ⟨rfl, rfl⟩ ⟨⟨_, rfl, trivial⟩, o32_, f34_, (by omega)⟩
def fpL_X0_run_3_3_1_x_2_6 : List (Nat × Nat × Nat) := [(0, 3, 2), (0, 4, 0)]
def fp_X0_run_3_3_1_x_2_6 (q k : Nat) : Bool := pvfp fpL_X0_run_3_3_1_x_2_6 q k
theorem fp_X0_run_3_3_1_x_2_6_fp_X0_note_3_x (a b : Nat) (h : fp_X0_note_3_x a b = true) : fp_X0_run_3_3_1_x_2_6 a b = true := pvfp_sub (l1 := fpL_X0_note_3_x) (l2 := fpL_X0_run_3_3_1_x_2_6) (by decide) a b h
theorem fp_X0_run_3_3_1_x_2_6_fp_X0_run_3_6_0_x_3_6 (a b : Nat) (h : fp_X0_run_3_6_0_x_3_6 a b = true) : fp_X0_run_3_3_1_x_2_6 a b = true := pvfp_sub (l1 := fpL_X0_run_3_6_0_x_3_6) (l2 := fpL_X0_run_3_3_1_x_2_6) (by decide) a b h
set_option maxHeartbeats 4000000 in
set_option maxRecDepth 10000 in
theorem sf_X0_run_3_3_1_x_2_6 (M : pvM) (hok : pvOk M) (n3 : Int32) (hc3_1 : 0 ≤ Int32.toInt (M.1 3 1) ∧ Int32.toInt (M.1 3 1) ≤ 996) (hc3_2 : 6 ≤ Int32.toInt (M.1 3 2) ∧ Int32.toInt (M.1 3 2) ≤ 6) (d : Nat) (hd : 2 ≤ d) : PW 4 d (0, [some (pvR 3), some (pvI 3), some (pvI 1), some (pvI n3), some (pvI 2), none, none], [], M) (fun r X => (∃ x : Int32, r = some (pvI x) ∧ True) ∧ pvOk X ∧ pvFr fp_X0_run_3_3_1_x_2_6 M X ∧ Int32.toInt (X.1 3 1) ≤ Int32.toInt (M.1 3 1) + 3) := by
  have hT : pvdom 4 = pvD_4 := rfl
  refine pw_blk hT 2 (S' := (4, [some (pvR 3), some (pvI 3), some (pvI 1), some (pvI n3), some (pvI 2), none, none], [pvI 40, pvI 2], M)) rfl ⟨trivial, trivial, trivial⟩ ?_
  refine pw_ic hT (c := 2 ≤ 40) rfl rfl (fun c1_ => ?_) (fun c1_ => absurd (by decide) c1_)
  refine pw_blk hT 2 (S' := (11, [some (pvR 3), some (pvI 3), some (pvI 1), some (pvI n3), some (pvI 2), none, none], [pvI 1, pvI 3], M)) rfl ⟨trivial, trivial, trivial⟩ ?_
  refine pw_callT hT (as := [pvI 3, pvI 1]) (lo1 := [some (pvI 3), some (pvI 1), none, none, none]) (d1 := d) (rest := []) rfl rfl rfl rfl rfl (fun h => absurd h (by decide)) (Nat.zero_le _) rfl rfl rfl (sf_X0_bodyFrom_3_1 M hok d) ?_
  refine pw_eqI (show ((pvstab 1041).getD (Int32.toNatClampNeg ((0 * 3) + 1)) 0) = 11 from by decide) ?_
  show PW 4 d (14, [some (pvR 3), some (pvI 3), some (pvI 1), some (pvI n3), some (pvI 2), none, none], [pvI 11], M) _
  refine pw_blk hT 7 (S' := (25, [some (pvR 3), some (pvI 3), some (pvI 1), some (pvI n3), some (pvI 2), some (pvI 11), some (pvI (2 + 1))], [pvI 11, pvR 3], M)) rfl ⟨trivial, trivial, trivial, trivial, trivial, trivial, trivial, trivial⟩ ?_
  refine pw_callVd hT (as := [pvR 3, pvI 11]) (lo1 := [some (pvR 3), some (pvI 11)]) (d1 := d) (rest := []) rfl rfl rfl rfl rfl (fun _ => rfl) (Nat.zero_le _) rfl rfl rfl (sf_X0_note_3_x M hok 11 (zr_wide (show 11 ≤ Int32.toInt 11 ∧ Int32.toInt 11 ≤ 11 from (by decide)) (by decide) (by decide)) (zr_wide hc3_1 (by decide) (by decide)) d) (fun M9_ o11_ g12_ d7_ => ?_)
  have f13_ : pvFr fp_X0_run_3_3_1_x_2_6 M M9_ := pvfr_t g12_ pvfr_0 fp_X0_run_3_3_1_x_2_6_fp_X0_note_3_x
  have b14_ : 0 ≤ Int32.toInt (M9_.1 3 1) ∧ Int32.toInt (M9_.1 3 1) ≤ 997 := (by have u0 := hc3_1; have u1 := d7_; have u2 := pvok_r o11_ 3 1 (lo := 0) (hi := 1000000) rfl; omega)
  refine pw_blk hT 1 (S' := (30, [some (pvR 3), some (pvI 3), some (pvI 1), some (pvI n3), some (pvI 2), some (pvI 11), some (pvI (2 + 1))], [pvI 11], M9_)) rfl ⟨trivial, trivial⟩ ?_
  refine pw_sw hT rfl rfl ?_
  refine And.intro (fun c15_ => absurd c15_ (by decide)) (fun c15_ => ?_)
  refine And.intro (fun c16_ => ?_) (fun c16_ => absurd (by decide) c16_)
  show PW 4 d (135, [some (pvR 3), some (pvI 3), some (pvI 1), some (pvI n3), some (pvI 2), some (pvI 11), some (pvI (2 + 1))], [], M9_) _
  have e17_ : (M9_.1 3 2) = (M.1 3 2) := (g12_ 3 2 rfl)
  have b18_ : 6 ≤ Int32.toInt (M9_.1 3 2) ∧ Int32.toInt (M9_.1 3 2) ≤ 6 := (by rw [e17_]; exact hc3_2)
  refine pw_blk hT 3 (S' := (140, [some (pvR 3), some (pvI 3), some (pvI 1), some (pvI n3), some (pvI 2), some (pvI 11), some (pvI (2 + 1))], [pvI (M9_.1 3 2), pvR 3], M9_)) rfl ⟨trivial, trivial, rfl, trivial⟩ ?_
  refine pw_eqI ((zi_eq _ (6)).mpr (by have u0 := b18_; have u1 : Int32.toInt (6) = 6 := (by decide); omega)) ?_
  refine pw_blk hT 3 (S' := (144, [some (pvR 3), some (pvI 3), some (pvI 1), some (pvI n3), some (pvI 2), some (pvI 11), some (pvI (2 + 1))], [pvI (2 + 1), pvI n3, pvI 0, pvI 6, pvR 3], M9_)) rfl ⟨trivial, trivial, trivial, trivial⟩ ?_
  refine pw_callGd hT (as := [pvR 3, pvI 6, pvI 0, pvI n3, pvI (2 + 1)]) (lo1 := [some (pvR 3), some (pvI 6), some (pvI 0), some (pvI n3), some (pvI (2 + 1)), none, none]) (d1 := (d - 1)) (rest := []) rfl rfl rfl rfl rfl (fun h => absurd h (by decide)) (show 1 ≤ d by omega) rfl rfl rfl (sf_X0_run_3_6_0_x_3_6 M9_ o11_ n3 b14_ b18_ (d - 1) (by omega)) (fun x20_ M21_ b22_ o23_ g24_ d19_ => ?_)
  have f25_ : pvFr fp_X0_run_3_3_1_x_2_6 M M21_ := pvfr_t g24_ f13_ fp_X0_run_3_3_1_x_2_6_fp_X0_run_3_6_0_x_3_6
  have b26_ : 0 ≤ Int32.toInt (M21_.1 3 1) ∧ Int32.toInt (M21_.1 3 1) ≤ 999 := (by have u0 := b14_; have u1 := d19_; have u2 := pvok_r o23_ 3 1 (lo := 0) (hi := 1000000) rfl; omega)
  refine pw_blk hT 3 (S' := (152, [some (pvR 3), some (pvI 3), some (pvI 1), some (pvI n3), some (pvI 2), some (pvI 11), some (pvI (2 + 1))], [pvI (x20_ - (M21_.1 3 3))], M21_)) rfl ⟨trivial, rfl, trivial, trivial⟩ ?_
  exact pw_ret hT rfl (r := some (pvI (x20_ - (M21_.1 3 3)))) (M' := M21_) ⟨rfl, rfl⟩ ⟨⟨_, rfl, trivial⟩, o23_, f25_, (by omega)⟩
def fpL_X0_run_3_3_0_x_2_6 : List (Nat × Nat × Nat) := [(0, 3, 2), (0, 4, 0)]
def fp_X0_run_3_3_0_x_2_6 (q k : Nat) : Bool := pvfp fpL_X0_run_3_3_0_x_2_6 q k
theorem fp_X0_run_3_3_0_x_2_6_fp_X0_note_3_x (a b : Nat) (h : fp_X0_note_3_x a b = true) : fp_X0_run_3_3_0_x_2_6 a b = true := pvfp_sub (l1 := fpL_X0_note_3_x) (l2 := fpL_X0_run_3_3_0_x_2_6) (by decide) a b h
set_option maxHeartbeats 4000000 in
set_option maxRecDepth 10000 in
theorem sf_X0_run_3_3_0_x_2_6 (M : pvM) (hok : pvOk M) (n3 : Int32) (hc3_1 : 0 ≤ Int32.toInt (M.1 3 1) ∧ Int32.toInt (M.1 3 1) ≤ 998) (hc3_2 : 6 ≤ Int32.toInt (M.1 3 2) ∧ Int32.toInt (M.1 3 2) ≤ 6) (d : Nat) : PW 4 d (0, [some (pvR 3), some (pvI 3), some (pvI 0), some (pvI n3), some (pvI 2), none, none], [], M) (fun r X => (∃ x : Int32, r = some (pvI x) ∧ True) ∧ pvOk X ∧ pvFr fp_X0_run_3_3_0_x_2_6 M X ∧ Int32.toInt (X.1 3 1) ≤ Int32.toInt (M.1 3 1) + 1) := by
  have hT : pvdom 4 = pvD_4 := rfl
  refine pw_blk hT 2 (S' := (4, [some (pvR 3), some (pvI 3), some (pvI 0), some (pvI n3), some (pvI 2), none, none], [pvI 40, pvI 2], M)) rfl ⟨trivial, trivial, trivial⟩ ?_
  refine pw_ic hT (c := 2 ≤ 40) rfl rfl (fun c1_ => ?_) (fun c1_ => absurd (by decide) c1_)
  refine pw_blk hT 2 (S' := (11, [some (pvR 3), some (pvI 3), some (pvI 0), some (pvI n3), some (pvI 2), none, none], [pvI 0, pvI 3], M)) rfl ⟨trivial, trivial, trivial⟩ ?_
  refine pw_callT hT (as := [pvI 3, pvI 0]) (lo1 := [some (pvI 3), some (pvI 0), none, none, none]) (d1 := d) (rest := []) rfl rfl rfl rfl rfl (fun h => absurd h (by decide)) (Nat.zero_le _) rfl rfl rfl (sf_X0_bodyFrom_3_0 M hok d) ?_
  refine pw_eqI (show ((pvstab 1041).getD (Int32.toNatClampNeg ((0 * 3) + 0)) 0) = 10 from by decide) ?_
  show PW 4 d (14, [some (pvR 3), some (pvI 3), some (pvI 0), some (pvI n3), some (pvI 2), none, none], [pvI 10], M) _
  refine pw_blk hT 7 (S' := (25, [some (pvR 3), some (pvI 3), some (pvI 0), some (pvI n3), some (pvI 2), some (pvI 10), some (pvI (2 + 1))], [pvI 10, pvR 3], M)) rfl ⟨trivial, trivial, trivial, trivial, trivial, trivial, trivial, trivial⟩ ?_
  refine pw_callVd hT (as := [pvR 3, pvI 10]) (lo1 := [some (pvR 3), some (pvI 10)]) (d1 := d) (rest := []) rfl rfl rfl rfl rfl (fun _ => rfl) (Nat.zero_le _) rfl rfl rfl (sf_X0_note_3_x M hok 10 (zr_wide (show 10 ≤ Int32.toInt 10 ∧ Int32.toInt 10 ≤ 10 from (by decide)) (by decide) (by decide)) (zr_wide hc3_1 (by decide) (by decide)) d) (fun M9_ o11_ g12_ d7_ => ?_)
  have f13_ : pvFr fp_X0_run_3_3_0_x_2_6 M M9_ := pvfr_t g12_ pvfr_0 fp_X0_run_3_3_0_x_2_6_fp_X0_note_3_x
  have b14_ : 0 ≤ Int32.toInt (M9_.1 3 1) ∧ Int32.toInt (M9_.1 3 1) ≤ 999 := (by have u0 := hc3_1; have u1 := d7_; have u2 := pvok_r o11_ 3 1 (lo := 0) (hi := 1000000) rfl; omega)
  refine pw_blk hT 1 (S' := (30, [some (pvR 3), some (pvI 3), some (pvI 0), some (pvI n3), some (pvI 2), some (pvI 10), some (pvI (2 + 1))], [pvI 10], M9_)) rfl ⟨trivial, trivial⟩ ?_
  refine pw_sw hT rfl rfl ?_
  refine And.intro (fun c15_ => ?_) (fun c15_ => absurd (by decide) c15_)
  show PW 4 d (128, [some (pvR 3), some (pvI 3), some (pvI 0), some (pvI n3), some (pvI 2), some (pvI 10), some (pvI (2 + 1))], [], M9_) _
  refine pw_blk hT 4 (S' := (134, [some (pvR 3), some (pvI 3), some (pvI 0), some (pvI n3), some (pvI 2), some (pvI 10), some (pvI (2 + 1))], [pvI (n3 + (M9_.1 3 4))], M9_)) rfl ⟨trivial, trivial, rfl, trivial, trivial⟩ ?_
  exact pw_ret hT rfl (r := some (pvI (n3 + (M9_.1 3 4)))) (M' := M9_) ⟨rfl, rfl⟩ ⟨⟨_, rfl, trivial⟩, o11_, f13_, (by omega)⟩
def fpL_X0_run_3_6_1_x_1_6 : List (Nat × Nat × Nat) := [(0, 3, 2), (0, 4, 0)]
def fp_X0_run_3_6_1_x_1_6 (q k : Nat) : Bool := pvfp fpL_X0_run_3_6_1_x_1_6 q k
theorem fp_X0_run_3_6_1_x_1_6_fp_X0_note_3_x (a b : Nat) (h : fp_X0_note_3_x a b = true) : fp_X0_run_3_6_1_x_1_6 a b = true := pvfp_sub (l1 := fpL_X0_note_3_x) (l2 := fpL_X0_run_3_6_1_x_1_6) (by decide) a b h
theorem fp_X0_run_3_6_1_x_1_6_fp_X0_run_3_3_0_x_2_6 (a b : Nat) (h : fp_X0_run_3_3_0_x_2_6 a b = true) : fp_X0_run_3_6_1_x_1_6 a b = true := pvfp_sub (l1 := fpL_X0_run_3_3_0_x_2_6) (l2 := fpL_X0_run_3_6_1_x_1_6) (by decide) a b h
theorem fp_X0_run_3_6_1_x_1_6_fp_X0_run_3_3_1_x_2_6 (a b : Nat) (h : fp_X0_run_3_3_1_x_2_6 a b = true) : fp_X0_run_3_6_1_x_1_6 a b = true := pvfp_sub (l1 := fpL_X0_run_3_3_1_x_2_6) (l2 := fpL_X0_run_3_6_1_x_1_6) (by decide) a b h
set_option maxHeartbeats 4000000 in
set_option maxRecDepth 10000 in
theorem sf_X0_run_3_6_1_x_1_6 (M : pvM) (hok : pvOk M) (n3 : Int32) (hc3_1 : 0 ≤ Int32.toInt (M.1 3 1) ∧ Int32.toInt (M.1 3 1) ≤ 994) (hc3_2 : 6 ≤ Int32.toInt (M.1 3 2) ∧ Int32.toInt (M.1 3 2) ≤ 6) (d : Nat) (hd : 3 ≤ d) : PW 4 d (0, [some (pvR 3), some (pvI 6), some (pvI 1), some (pvI n3), some (pvI 1), none, none], [], M) (fun r X => (∃ x : Int32, r = some (pvI x) ∧ True) ∧ pvOk X ∧ pvFr fp_X0_run_3_6_1_x_1_6 M X ∧ Int32.toInt (X.1 3 1) ≤ Int32.toInt (M.1 3 1) + 5) := by
  have hT : pvdom 4 = pvD_4 := rfl
  refine pw_blk hT 2 (S' := (4, [some (pvR 3), some (pvI 6), some (pvI 1), some (pvI n3), some (pvI 1), none, none], [pvI 40, pvI 1], M)) rfl ⟨trivial, trivial, trivial⟩ ?_
  refine pw_ic hT (c := 1 ≤ 40) rfl rfl (fun c1_ => ?_) (fun c1_ => absurd (by decide) c1_)
  refine pw_blk hT 2 (S' := (11, [some (pvR 3), some (pvI 6), some (pvI 1), some (pvI n3), some (pvI 1), none, none], [pvI 1, pvI 6], M)) rfl ⟨trivial, trivial, trivial⟩ ?_
  refine pw_callT hT (as := [pvI 6, pvI 1]) (lo1 := [some (pvI 6), some (pvI 1), none, none, none]) (d1 := d) (rest := []) rfl rfl rfl rfl rfl (fun h => absurd h (by decide)) (Nat.zero_le _) rfl rfl rfl (sf_X0_bodyFrom_6_1 M hok d) ?_
  refine pw_eqI (show ((pvstab 1041).getD (Int32.toNatClampNeg ((6 * 3) + 1)) 0) = 70 from by decide) ?_
  show PW 4 d (14, [some (pvR 3), some (pvI 6), some (pvI 1), some (pvI n3), some (pvI 1), none, none], [pvI 70], M) _
  refine pw_blk hT 7 (S' := (25, [some (pvR 3), some (pvI 6), some (pvI 1), some (pvI n3), some (pvI 1), some (pvI 70), some (pvI (1 + 1))], [pvI 70, pvR 3], M)) rfl ⟨trivial, trivial, trivial, trivial, trivial, trivial, trivial, trivial⟩ ?_
  refine pw_callVd hT (as := [pvR 3, pvI 70]) (lo1 := [some (pvR 3), some (pvI 70)]) (d1 := d) (rest := []) rfl rfl rfl rfl rfl (fun _ => rfl) (Nat.zero_le _) rfl rfl rfl (sf_X0_note_3_x M hok 70 (zr_wide (show 70 ≤ Int32.toInt 70 ∧ Int32.toInt 70 ≤ 70 from (by decide)) (by decide) (by decide)) (zr_wide hc3_1 (by decide) (by decide)) d) (fun M9_ o11_ g12_ d7_ => ?_)
  have f13_ : pvFr fp_X0_run_3_6_1_x_1_6 M M9_ := pvfr_t g12_ pvfr_0 fp_X0_run_3_6_1_x_1_6_fp_X0_note_3_x
  have b14_ : 0 ≤ Int32.toInt (M9_.1 3 1) ∧ Int32.toInt (M9_.1 3 1) ≤ 995 := (by have u0 := hc3_1; have u1 := d7_; have u2 := pvok_r o11_ 3 1 (lo := 0) (hi := 1000000) rfl; omega)
  refine pw_blk hT 1 (S' := (30, [some (pvR 3), some (pvI 6), some (pvI 1), some (pvI n3), some (pvI 1), some (pvI 70), some (pvI (1 + 1))], [pvI 70], M9_)) rfl ⟨trivial, trivial⟩ ?_
  refine pw_sw hT rfl rfl ?_
  refine And.intro (fun c15_ => absurd c15_ (by decide)) (fun c15_ => ?_)
  refine And.intro (fun c16_ => absurd c16_ (by decide)) (fun c16_ => ?_)
  refine And.intro (fun c17_ => absurd c17_ (by decide)) (fun c17_ => ?_)
  refine And.intro (fun c18_ => absurd c18_ (by decide)) (fun c18_ => ?_)
  refine And.intro (fun c19_ => absurd c19_ (by decide)) (fun c19_ => ?_)
  refine And.intro (fun c20_ => absurd c20_ (by decide)) (fun c20_ => ?_)
  refine And.intro (fun c21_ => absurd c21_ (by decide)) (fun c21_ => ?_)
  refine And.intro (fun c22_ => absurd c22_ (by decide)) (fun c22_ => ?_)
  refine And.intro (fun c23_ => absurd c23_ (by decide)) (fun c23_ => ?_)
  refine And.intro (fun c24_ => ?_) (fun c24_ => absurd (by decide) c24_)
  show PW 4 d (254, [some (pvR 3), some (pvI 6), some (pvI 1), some (pvI n3), some (pvI 1), some (pvI 70), some (pvI (1 + 1))], [], M9_) _
  refine pw_blk hT 5 (S' := (260, [some (pvR 3), some (pvI 6), some (pvI 1), some (pvI n3), some (pvI 1), some (pvI 70), some (pvI (1 + 1))], [pvI (1 + 1), pvI n3, pvI 1, pvI 3, pvR 3], M9_)) rfl ⟨trivial, trivial, trivial, trivial, trivial, trivial⟩ ?_
  have e25_ : (M9_.1 3 2) = (M.1 3 2) := (g12_ 3 2 rfl)
  have b26_ : 6 ≤ Int32.toInt (M9_.1 3 2) ∧ Int32.toInt (M9_.1 3 2) ≤ 6 := (by rw [e25_]; exact hc3_2)
  refine pw_callGd hT (as := [pvR 3, pvI 3, pvI 1, pvI n3, pvI (1 + 1)]) (lo1 := [some (pvR 3), some (pvI 3), some (pvI 1), some (pvI n3), some (pvI (1 + 1)), none, none]) (d1 := (d - 1)) (rest := []) rfl rfl rfl rfl rfl (fun h => absurd h (by decide)) (show 1 ≤ d by omega) rfl rfl rfl (sf_X0_run_3_3_1_x_2_6 M9_ o11_ n3 (zr_wide b14_ (by decide) (by decide)) b26_ (d - 1) (by omega)) (fun x28_ M29_ b30_ o31_ g32_ d27_ => ?_)
  have f33_ : pvFr fp_X0_run_3_6_1_x_1_6 M M29_ := pvfr_t g32_ f13_ fp_X0_run_3_6_1_x_1_6_fp_X0_run_3_3_1_x_2_6
  have b34_ : 0 ≤ Int32.toInt (M29_.1 3 1) ∧ Int32.toInt (M29_.1 3 1) ≤ 998 := (by have u0 := b14_; have u1 := d27_; have u2 := pvok_r o31_ 3 1 (lo := 0) (hi := 1000000) rfl; omega)
  refine pw_blk hT 5 (S' := (269, [some (pvR 3), some (pvI 6), some (pvI 1), some (pvI n3), some (pvI 1), some (pvI 70), some (pvI (1 + 1))], [pvI (1 + 1), pvI 2, pvI 0, pvI 3, pvR 3, pvI x28_], M29_)) rfl ⟨trivial, trivial, trivial, trivial, trivial, trivial⟩ ?_
  have e35_ : (M29_.1 3 2) = (M9_.1 3 2) := (g32_ 3 2 rfl)
  have b36_ : 6 ≤ Int32.toInt (M29_.1 3 2) ∧ Int32.toInt (M29_.1 3 2) ≤ 6 := (by rw [e35_]; exact b26_)
  refine pw_callGd hT (as := [pvR 3, pvI 3, pvI 0, pvI 2, pvI (1 + 1)]) (lo1 := [some (pvR 3), some (pvI 3), some (pvI 0), some (pvI 2), some (pvI (1 + 1)), none, none]) (d1 := (d - 1)) (rest := [pvI x28_]) rfl rfl rfl rfl rfl (fun h => absurd h (by decide)) (show 1 ≤ d by omega) rfl rfl rfl (sf_X0_run_3_3_0_x_2_6 M29_ o31_ 2 b34_ b36_ (d - 1)) (fun x38_ M39_ b40_ o41_ g42_ d37_ => ?_)
  have f43_ : pvFr fp_X0_run_3_6_1_x_1_6 M M39_ := pvfr_t g42_ f33_ fp_X0_run_3_6_1_x_1_6_fp_X0_run_3_3_0_x_2_6
  have b44_ : 0 ≤ Int32.toInt (M39_.1 3 1) ∧ Int32.toInt (M39_.1 3 1) ≤ 999 := (by have u0 := b34_; have u1 := d37_; have u2 := pvok_r o41_ 3 1 (lo := 0) (hi := 1000000) rfl; omega)
  refine pw_blk hT 1 (S' := (273, [some (pvR 3), some (pvI 6), some (pvI 1), some (pvI n3), some (pvI 1), some (pvI 70), some (pvI (1 + 1))], [pvI (x28_ + x38_)], M39_)) rfl ⟨trivial, trivial⟩ ?_
  exact pw_ret hT rfl (r := some (pvI (x28_ + x38_))) (M' := M39_) ⟨rfl, rfl⟩ ⟨⟨_, rfl, trivial⟩, o41_, f43_, (by omega)⟩
def fpL_X0_run_3_6_2_x_0_6 : List (Nat × Nat × Nat) := [(0, 3, 2), (0, 4, 0)]
def fp_X0_run_3_6_2_x_0_6 (q k : Nat) : Bool := pvfp fpL_X0_run_3_6_2_x_0_6 q k
theorem fp_X0_run_3_6_2_x_0_6_fp_X0_note_3_x (a b : Nat) (h : fp_X0_note_3_x a b = true) : fp_X0_run_3_6_2_x_0_6 a b = true := pvfp_sub (l1 := fpL_X0_note_3_x) (l2 := fpL_X0_run_3_6_2_x_0_6) (by decide) a b h
theorem fp_X0_run_3_6_2_x_0_6_fp_X0_run_3_0_2_x_1_6 (a b : Nat) (h : fp_X0_run_3_0_2_x_1_6 a b = true) : fp_X0_run_3_6_2_x_0_6 a b = true := pvfp_sub (l1 := fpL_X0_run_3_0_2_x_1_6) (l2 := fpL_X0_run_3_6_2_x_0_6) (by decide) a b h
theorem fp_X0_run_3_6_2_x_0_6_fp_X0_run_3_6_1_x_1_6 (a b : Nat) (h : fp_X0_run_3_6_1_x_1_6 a b = true) : fp_X0_run_3_6_2_x_0_6 a b = true := pvfp_sub (l1 := fpL_X0_run_3_6_1_x_1_6) (l2 := fpL_X0_run_3_6_2_x_0_6) (by decide) a b h
set_option maxHeartbeats 4000000 in
set_option maxRecDepth 10000 in
theorem sf_X0_run_3_6_2_x_0_6 (M : pvM) (hok : pvOk M) (n3 : Int32) (hc3_1 : 0 ≤ Int32.toInt (M.1 3 1) ∧ Int32.toInt (M.1 3 1) ≤ 987) (hc3_2 : 6 ≤ Int32.toInt (M.1 3 2) ∧ Int32.toInt (M.1 3 2) ≤ 6) (d : Nat) (hd : 5 ≤ d) : PW 4 d (0, [some (pvR 3), some (pvI 6), some (pvI 2), some (pvI n3), some (pvI 0), none, none], [], M) (fun r X => (∃ x : Int32, r = some (pvI x) ∧ True) ∧ pvOk X ∧ pvFr fp_X0_run_3_6_2_x_0_6 M X ∧ Int32.toInt (X.1 3 1) ≤ Int32.toInt (M.1 3 1) + 12) := by
  have hT : pvdom 4 = pvD_4 := rfl
  refine pw_blk hT 2 (S' := (4, [some (pvR 3), some (pvI 6), some (pvI 2), some (pvI n3), some (pvI 0), none, none], [pvI 40, pvI 0], M)) rfl ⟨trivial, trivial, trivial⟩ ?_
  refine pw_ic hT (c := 0 ≤ 40) rfl rfl (fun c1_ => ?_) (fun c1_ => absurd (by decide) c1_)
  refine pw_blk hT 2 (S' := (11, [some (pvR 3), some (pvI 6), some (pvI 2), some (pvI n3), some (pvI 0), none, none], [pvI 2, pvI 6], M)) rfl ⟨trivial, trivial, trivial⟩ ?_
  refine pw_callT hT (as := [pvI 6, pvI 2]) (lo1 := [some (pvI 6), some (pvI 2), none, none, none]) (d1 := d) (rest := []) rfl rfl rfl rfl rfl (fun h => absurd h (by decide)) (Nat.zero_le _) rfl rfl rfl (sf_X0_bodyFrom_6_2 M hok d) ?_
  refine pw_eqI (show ((pvstab 1041).getD (Int32.toNatClampNeg ((3 * 3) + 2)) 0) = 40 from by decide) ?_
  show PW 4 d (14, [some (pvR 3), some (pvI 6), some (pvI 2), some (pvI n3), some (pvI 0), none, none], [pvI 40], M) _
  refine pw_blk hT 7 (S' := (25, [some (pvR 3), some (pvI 6), some (pvI 2), some (pvI n3), some (pvI 0), some (pvI 40), some (pvI (0 + 1))], [pvI 40, pvR 3], M)) rfl ⟨trivial, trivial, trivial, trivial, trivial, trivial, trivial, trivial⟩ ?_
  refine pw_callVd hT (as := [pvR 3, pvI 40]) (lo1 := [some (pvR 3), some (pvI 40)]) (d1 := d) (rest := []) rfl rfl rfl rfl rfl (fun _ => rfl) (Nat.zero_le _) rfl rfl rfl (sf_X0_note_3_x M hok 40 (zr_wide (show 40 ≤ Int32.toInt 40 ∧ Int32.toInt 40 ≤ 40 from (by decide)) (by decide) (by decide)) (zr_wide hc3_1 (by decide) (by decide)) d) (fun M9_ o11_ g12_ d7_ => ?_)
  have f13_ : pvFr fp_X0_run_3_6_2_x_0_6 M M9_ := pvfr_t g12_ pvfr_0 fp_X0_run_3_6_2_x_0_6_fp_X0_note_3_x
  have b14_ : 0 ≤ Int32.toInt (M9_.1 3 1) ∧ Int32.toInt (M9_.1 3 1) ≤ 988 := (by have u0 := hc3_1; have u1 := d7_; have u2 := pvok_r o11_ 3 1 (lo := 0) (hi := 1000000) rfl; omega)
  refine pw_blk hT 1 (S' := (30, [some (pvR 3), some (pvI 6), some (pvI 2), some (pvI n3), some (pvI 0), some (pvI 40), some (pvI (0 + 1))], [pvI 40], M9_)) rfl ⟨trivial, trivial⟩ ?_
  refine pw_sw hT rfl rfl ?_
  refine And.intro (fun c15_ => absurd c15_ (by decide)) (fun c15_ => ?_)
  refine And.intro (fun c16_ => absurd c16_ (by decide)) (fun c16_ => ?_)
  refine And.intro (fun c17_ => absurd c17_ (by decide)) (fun c17_ => ?_)
  refine And.intro (fun c18_ => absurd c18_ (by decide)) (fun c18_ => ?_)
  refine And.intro (fun c19_ => absurd c19_ (by decide)) (fun c19_ => ?_)
  refine And.intro (fun c20_ => ?_) (fun c20_ => absurd (by decide) c20_)
  show PW 4 d (193, [some (pvR 3), some (pvI 6), some (pvI 2), some (pvI n3), some (pvI 0), some (pvI 40), some (pvI (0 + 1))], [], M9_) _
  refine pw_blk hT 5 (S' := (199, [some (pvR 3), some (pvI 6), some (pvI 2), some (pvI n3), some (pvI 0), some (pvI 40), some (pvI (0 + 1))], [pvI (0 + 1), pvI n3, pvI 2, pvI 0, pvR 3], M9_)) rfl ⟨trivial, trivial, trivial, trivial, trivial, trivial⟩ ?_
  have e21_ : (M9_.1 3 2) = (M.1 3 2) := (g12_ 3 2 rfl)
  have b22_ : 6 ≤ Int32.toInt (M9_.1 3 2) ∧ Int32.toInt (M9_.1 3 2) ≤ 6 := (by rw [e21_]; exact hc3_2)
  refine pw_callGd hT (as := [pvR 3, pvI 0, pvI 2, pvI n3, pvI (0 + 1)]) (lo1 := [some (pvR 3), some (pvI 0), some (pvI 2), some (pvI n3), some (pvI (0 + 1)), none, none]) (d1 := (d - 1)) (rest := []) rfl rfl rfl rfl rfl (fun h => absurd h (by decide)) (show 1 ≤ d by omega) rfl rfl rfl (sf_X0_run_3_0_2_x_1_6 M9_ o11_ n3 (zr_wide b14_ (by decide) (by decide)) b22_ (d - 1) (by omega)) (fun x24_ M25_ b26_ o27_ g28_ d23_ => ?_)
  have f29_ : pvFr fp_X0_run_3_6_2_x_0_6 M M25_ := pvfr_t g28_ f13_ fp_X0_run_3_6_2_x_0_6_fp_X0_run_3_0_2_x_1_6
  have b30_ : 0 ≤ Int32.toInt (M25_.1 3 1) ∧ Int32.toInt (M25_.1 3 1) ≤ 994 := (by have u0 := b14_; have u1 := d23_; have u2 := pvok_r o27_ 3 1 (lo := 0) (hi := 1000000) rfl; omega)
  have e31_ : (M25_.1 3 2) = (M9_.1 3 2) := (g28_ 3 2 rfl)
  have b32_ : 6 ≤ Int32.toInt (M25_.1 3 2) ∧ Int32.toInt (M25_.1 3 2) ≤ 6 := (by rw [e31_]; exact b22_)
  refine pw_blk hT 3 (S' := (207, [some (pvR 3), some (pvI 6), some (pvI 2), some (pvI n3), some (pvI 0), some (pvI 40), some (pvI (0 + 1))], [pvI (M25_.1 3 2), pvR 3, pvI x24_], M25_)) rfl ⟨trivial, trivial, rfl, trivial⟩ ?_
  refine pw_eqI ((zi_eq _ (6)).mpr (by have u0 := b32_; have u1 : Int32.toInt (6) = 6 := (by decide); omega)) ?_
  refine pw_blk hT 3 (S' := (211, [some (pvR 3), some (pvI 6), some (pvI 2), some (pvI n3), some (pvI 0), some (pvI 40), some (pvI (0 + 1))], [pvI (0 + 1), pvI 1, pvI 1, pvI 6, pvR 3, pvI x24_], M25_)) rfl ⟨trivial, trivial, trivial, trivial⟩ ?_
  refine pw_callGd hT (as := [pvR 3, pvI 6, pvI 1, pvI 1, pvI (0 + 1)]) (lo1 := [some (pvR 3), some (pvI 6), some (pvI 1), some (pvI 1), some (pvI (0 + 1)), none, none]) (d1 := (d - 1)) (rest := [pvI x24_]) rfl rfl rfl rfl rfl (fun h => absurd h (by decide)) (show 1 ≤ d by omega) rfl rfl rfl (sf_X0_run_3_6_1_x_1_6 M25_ o27_ 1 b30_ b32_ (d - 1) (by omega)) (fun x34_ M35_ b36_ o37_ g38_ d33_ => ?_)
  have f39_ : pvFr fp_X0_run_3_6_2_x_0_6 M M35_ := pvfr_t g38_ f29_ fp_X0_run_3_6_2_x_0_6_fp_X0_run_3_6_1_x_1_6
  have b40_ : 0 ≤ Int32.toInt (M35_.1 3 1) ∧ Int32.toInt (M35_.1 3 1) ≤ 999 := (by have u0 := b30_; have u1 := d33_; have u2 := pvok_r o37_ 3 1 (lo := 0) (hi := 1000000) rfl; omega)
  refine pw_blk hT 1 (S' := (215, [some (pvR 3), some (pvI 6), some (pvI 2), some (pvI n3), some (pvI 0), some (pvI 40), some (pvI (0 + 1))], [pvI (x24_ + x34_)], M35_)) rfl ⟨trivial, trivial⟩ ?_
  exact pw_ret hT rfl (r := some (pvI (x24_ + x34_))) (M' := M35_) ⟨rfl, rfl⟩ ⟨⟨_, rfl, trivial⟩, o37_, f39_, (by omega)⟩
def fpL_X0_perform_3_x_x_x_x : List (Nat × Nat × Nat) := [(0, 3, 2), (0, 3, 3), (0, 3, 4), (0, 3, 5), (0, 4, 0)]
def fp_X0_perform_3_x_x_x_x (q k : Nat) : Bool := pvfp fpL_X0_perform_3_x_x_x_x q k
theorem fp_X0_perform_3_x_x_x_x_fp_X0_run_3_0_0_x_0_0 (a b : Nat) (h : fp_X0_run_3_0_0_x_0_0 a b = true) : fp_X0_perform_3_x_x_x_x a b = true := pvfp_sub (l1 := fpL_X0_run_3_0_0_x_0_0) (l2 := fpL_X0_perform_3_x_x_x_x) (by decide) a b h
theorem fp_X0_perform_3_x_x_x_x_fp_X0_run_3_0_1_x_0_0 (a b : Nat) (h : fp_X0_run_3_0_1_x_0_0 a b = true) : fp_X0_perform_3_x_x_x_x a b = true := pvfp_sub (l1 := fpL_X0_run_3_0_1_x_0_0) (l2 := fpL_X0_perform_3_x_x_x_x) (by decide) a b h
theorem fp_X0_perform_3_x_x_x_x_fp_X0_run_3_0_2_x_0_0 (a b : Nat) (h : fp_X0_run_3_0_2_x_0_0 a b = true) : fp_X0_perform_3_x_x_x_x a b = true := pvfp_sub (l1 := fpL_X0_run_3_0_2_x_0_0) (l2 := fpL_X0_perform_3_x_x_x_x) (by decide) a b h
theorem fp_X0_perform_3_x_x_x_x_fp_X0_run_3_1_0_x_0_1 (a b : Nat) (h : fp_X0_run_3_1_0_x_0_1 a b = true) : fp_X0_perform_3_x_x_x_x a b = true := pvfp_sub (l1 := fpL_X0_run_3_1_0_x_0_1) (l2 := fpL_X0_perform_3_x_x_x_x) (by decide) a b h
theorem fp_X0_perform_3_x_x_x_x_fp_X0_run_3_1_1_x_0_1 (a b : Nat) (h : fp_X0_run_3_1_1_x_0_1 a b = true) : fp_X0_perform_3_x_x_x_x a b = true := pvfp_sub (l1 := fpL_X0_run_3_1_1_x_0_1) (l2 := fpL_X0_perform_3_x_x_x_x) (by decide) a b h
theorem fp_X0_perform_3_x_x_x_x_fp_X0_run_3_1_2_x_0_1 (a b : Nat) (h : fp_X0_run_3_1_2_x_0_1 a b = true) : fp_X0_perform_3_x_x_x_x a b = true := pvfp_sub (l1 := fpL_X0_run_3_1_2_x_0_1) (l2 := fpL_X0_perform_3_x_x_x_x) (by decide) a b h
theorem fp_X0_perform_3_x_x_x_x_fp_X0_run_3_2_0_x_0_2 (a b : Nat) (h : fp_X0_run_3_2_0_x_0_2 a b = true) : fp_X0_perform_3_x_x_x_x a b = true := pvfp_sub (l1 := fpL_X0_run_3_2_0_x_0_2) (l2 := fpL_X0_perform_3_x_x_x_x) (by decide) a b h
theorem fp_X0_perform_3_x_x_x_x_fp_X0_run_3_2_1_x_0_2 (a b : Nat) (h : fp_X0_run_3_2_1_x_0_2 a b = true) : fp_X0_perform_3_x_x_x_x a b = true := pvfp_sub (l1 := fpL_X0_run_3_2_1_x_0_2) (l2 := fpL_X0_perform_3_x_x_x_x) (by decide) a b h
theorem fp_X0_perform_3_x_x_x_x_fp_X0_run_3_2_2_x_0_2 (a b : Nat) (h : fp_X0_run_3_2_2_x_0_2 a b = true) : fp_X0_perform_3_x_x_x_x a b = true := pvfp_sub (l1 := fpL_X0_run_3_2_2_x_0_2) (l2 := fpL_X0_perform_3_x_x_x_x) (by decide) a b h
theorem fp_X0_perform_3_x_x_x_x_fp_X0_run_3_3_0_x_0_3 (a b : Nat) (h : fp_X0_run_3_3_0_x_0_3 a b = true) : fp_X0_perform_3_x_x_x_x a b = true := pvfp_sub (l1 := fpL_X0_run_3_3_0_x_0_3) (l2 := fpL_X0_perform_3_x_x_x_x) (by decide) a b h
theorem fp_X0_perform_3_x_x_x_x_fp_X0_run_3_3_1_x_0_3 (a b : Nat) (h : fp_X0_run_3_3_1_x_0_3 a b = true) : fp_X0_perform_3_x_x_x_x a b = true := pvfp_sub (l1 := fpL_X0_run_3_3_1_x_0_3) (l2 := fpL_X0_perform_3_x_x_x_x) (by decide) a b h
theorem fp_X0_perform_3_x_x_x_x_fp_X0_run_3_3_2_x_0_3 (a b : Nat) (h : fp_X0_run_3_3_2_x_0_3 a b = true) : fp_X0_perform_3_x_x_x_x a b = true := pvfp_sub (l1 := fpL_X0_run_3_3_2_x_0_3) (l2 := fpL_X0_perform_3_x_x_x_x) (by decide) a b h
theorem fp_X0_perform_3_x_x_x_x_fp_X0_run_3_4_0_x_0_4 (a b : Nat) (h : fp_X0_run_3_4_0_x_0_4 a b = true) : fp_X0_perform_3_x_x_x_x a b = true := pvfp_sub (l1 := fpL_X0_run_3_4_0_x_0_4) (l2 := fpL_X0_perform_3_x_x_x_x) (by decide) a b h
theorem fp_X0_perform_3_x_x_x_x_fp_X0_run_3_4_1_x_0_4 (a b : Nat) (h : fp_X0_run_3_4_1_x_0_4 a b = true) : fp_X0_perform_3_x_x_x_x a b = true := pvfp_sub (l1 := fpL_X0_run_3_4_1_x_0_4) (l2 := fpL_X0_perform_3_x_x_x_x) (by decide) a b h
theorem fp_X0_perform_3_x_x_x_x_fp_X0_run_3_4_2_x_0_4 (a b : Nat) (h : fp_X0_run_3_4_2_x_0_4 a b = true) : fp_X0_perform_3_x_x_x_x a b = true := pvfp_sub (l1 := fpL_X0_run_3_4_2_x_0_4) (l2 := fpL_X0_perform_3_x_x_x_x) (by decide) a b h
theorem fp_X0_perform_3_x_x_x_x_fp_X0_run_3_5_0_x_0_5 (a b : Nat) (h : fp_X0_run_3_5_0_x_0_5 a b = true) : fp_X0_perform_3_x_x_x_x a b = true := pvfp_sub (l1 := fpL_X0_run_3_5_0_x_0_5) (l2 := fpL_X0_perform_3_x_x_x_x) (by decide) a b h
theorem fp_X0_perform_3_x_x_x_x_fp_X0_run_3_5_1_x_0_5 (a b : Nat) (h : fp_X0_run_3_5_1_x_0_5 a b = true) : fp_X0_perform_3_x_x_x_x a b = true := pvfp_sub (l1 := fpL_X0_run_3_5_1_x_0_5) (l2 := fpL_X0_perform_3_x_x_x_x) (by decide) a b h
theorem fp_X0_perform_3_x_x_x_x_fp_X0_run_3_5_2_x_0_5 (a b : Nat) (h : fp_X0_run_3_5_2_x_0_5 a b = true) : fp_X0_perform_3_x_x_x_x a b = true := pvfp_sub (l1 := fpL_X0_run_3_5_2_x_0_5) (l2 := fpL_X0_perform_3_x_x_x_x) (by decide) a b h
theorem fp_X0_perform_3_x_x_x_x_fp_X0_run_3_6_0_x_0_6 (a b : Nat) (h : fp_X0_run_3_6_0_x_0_6 a b = true) : fp_X0_perform_3_x_x_x_x a b = true := pvfp_sub (l1 := fpL_X0_run_3_6_0_x_0_6) (l2 := fpL_X0_perform_3_x_x_x_x) (by decide) a b h
theorem fp_X0_perform_3_x_x_x_x_fp_X0_run_3_6_1_x_0_6 (a b : Nat) (h : fp_X0_run_3_6_1_x_0_6 a b = true) : fp_X0_perform_3_x_x_x_x a b = true := pvfp_sub (l1 := fpL_X0_run_3_6_1_x_0_6) (l2 := fpL_X0_perform_3_x_x_x_x) (by decide) a b h
theorem fp_X0_perform_3_x_x_x_x_fp_X0_run_3_6_2_x_0_6 (a b : Nat) (h : fp_X0_run_3_6_2_x_0_6 a b = true) : fp_X0_perform_3_x_x_x_x a b = true := pvfp_sub (l1 := fpL_X0_run_3_6_2_x_0_6) (l2 := fpL_X0_perform_3_x_x_x_x) (by decide) a b h
set_option maxHeartbeats 4000000 in
set_option maxRecDepth 10000 in
theorem sf_X0_perform_3_x_x_x_x (M : pvM) (hok : pvOk M) (q1 : Nat) (n2 : Int32) (n3 : Int32) (n4 : Int32) (hq1 : pvkl q1 = 3) (hn2 : 0 ≤ Int32.toInt n2 ∧ Int32.toInt n2 ≤ 6) (hn3 : 0 ≤ Int32.toInt n3 ∧ Int32.toInt n3 ≤ 2) (d : Nat) (hd : 5 ≤ d) : PW 3 d (0, [some (pvR 3), some (pvR q1), some (pvI n2), some (pvI n3), some (pvI n4)], [], M) (fun r X => (∃ x : Int32, r = some (pvI x) ∧ True) ∧ pvOk X ∧ pvFr fp_X0_perform_3_x_x_x_x M X) := by
  have hT : pvdom 3 = pvD_3 := rfl
  refine pw_blkw hT 3 (pc := 5) (lo := [some (pvR 3), some (pvR q1), some (pvI n2), some (pvI n3), some (pvI n4)]) (st := []) (M := pvu M 3 1 0) rfl ⟨trivial, trivial, rfl, trivial⟩ (fun M1_ e2_ => ?_)
  have o3_ : pvOk M1_ := pvok_u2 e2_ hok rfl (zr_wide (show 0 ≤ Int32.toInt 0 ∧ Int32.toInt 0 ≤ 0 from (by decide)) (by decide) (by decide))
  have f4_ : pvFr fp_X0_perform_3_x_x_x_x M M1_ := pvfr_u e2_ pvfr_0 rfl
  have b5_ : 0 ≤ Int32.toInt (M1_.1 q1 0) ∧ Int32.toInt (M1_.1 q1 0) ≤ 6 := pvok_r o3_ q1 0 ((pvrg_o 0 hq1 (by decide) (by decide)).trans rfl)
  refine pw_blkw hT 4 (pc := 13) (lo := [some (pvR 3), some (pvR q1), some (pvI n2), some (pvI n3), some (pvI n4)]) (st := []) (M := pvu M1_ 3 2 (M1_.1 q1 0)) rfl ⟨trivial, trivial, hq1, rfl, trivial⟩ (fun M6_ e7_ => ?_)
  have o8_ : pvOk M6_ := pvok_u2 e7_ o3_ rfl (zbnd (M1_.1 q1 0))
  have f9_ : pvFr fp_X0_perform_3_x_x_x_x M M6_ := pvfr_u e7_ f4_ rfl
  have b10_ : 0 ≤ Int32.toInt (M6_.1 q1 1) ∧ Int32.toInt (M6_.1 q1 1) ≤ 9 := pvok_r o8_ q1 1 ((pvrg_o 1 hq1 (by decide) (by decide)).trans rfl)
  refine pw_blkw hT 4 (pc := 21) (lo := [some (pvR 3), some (pvR q1), some (pvI n2), some (pvI n3), some (pvI n4)]) (st := []) (M := pvu M6_ 3 3 (M6_.1 q1 1)) rfl ⟨trivial, trivial, hq1, rfl, trivial⟩ (fun M11_ e12_ => ?_)
  have o13_ : pvOk M11_ := pvok_u2 e12_ o8_ rfl (zbnd (M6_.1 q1 1))
  have f14_ : pvFr fp_X0_perform_3_x_x_x_x M M11_ := pvfr_u e12_ f9_ rfl
  refine pw_blkw hT 3 (pc := 26) (lo := [some (pvR 3), some (pvR q1), some (pvI n2), some (pvI n3), some (pvI n4)]) (st := []) (M := pvu M11_ 3 4 n2) rfl ⟨trivial, trivial, rfl, trivial⟩ (fun M15_ e16_ => ?_)
  have o17_ : pvOk M15_ := pvok_u2 e16_ o13_ rfl (zbnd n2)
  have f18_ : pvFr fp_X0_perform_3_x_x_x_x M M15_ := pvfr_u e16_ f14_ rfl
  have e19_ : (M15_.1 3 2) = (M1_.1 q1 0) := (((pvu_n e16_ 3 2 (Or.inr (by decide))).trans (pvu_n e12_ 3 2 (Or.inr (by decide)))).trans (pvu_s e7_))
  have b20_ : 0 ≤ Int32.toInt (M15_.1 3 2) ∧ Int32.toInt (M15_.1 3 2) ≤ 6 := (by rw [e19_]; exact b5_)
  refine pw_blk hT 3 (S' := (31, [some (pvR 3), some (pvR q1), some (pvI n2), some (pvI n3), some (pvI n4)], [pvI (M15_.1 3 2), pvR 3], M15_)) rfl ⟨trivial, trivial, rfl, trivial⟩ ?_
  by_cases c21_ : (M15_.1 3 2) = 0
  · refine pw_eqI c21_ ?_
    have b22_ : 0 ≤ Int32.toInt (M15_.1 3 2) ∧ Int32.toInt (M15_.1 3 2) ≤ 0 := (by have u0 := b20_; have u1 := (zi_eq _ _).mp c21_; have u2 := (show 0 ≤ Int32.toInt 0 ∧ Int32.toInt 0 ≤ 0 from (by decide)); omega)
    refine pw_blk hT 1 (S' := (32, [some (pvR 3), some (pvR q1), some (pvI n2), some (pvI n3), some (pvI n4)], [pvI n3, pvI 0, pvR 3], M15_)) rfl ⟨trivial, trivial⟩ ?_
    by_cases c23_ : n3 = 0
    · refine pw_eqI c23_ ?_
      have b24_ : 0 ≤ Int32.toInt n3 ∧ Int32.toInt n3 ≤ 0 := (by have u0 := hn3; have u1 := (zi_eq _ _).mp c23_; have u2 := (show 0 ≤ Int32.toInt 0 ∧ Int32.toInt 0 ≤ 0 from (by decide)); omega)
      refine pw_blk hT 2 (S' := (35, [some (pvR 3), some (pvR q1), some (pvI n2), some (pvI n3), some (pvI n4)], [pvI 0, pvI n4, pvI 0, pvI 0, pvR 3], M15_)) rfl ⟨trivial, trivial, trivial⟩ ?_
      have e25_ : (M15_.1 3 1) = 0 := ((((pvu_n e16_ 3 1 (Or.inr (by decide))).trans (pvu_n e12_ 3 1 (Or.inr (by decide)))).trans (pvu_n e7_ 3 1 (Or.inr (by decide)))).trans (pvu_s e2_))
      have b26_ : 0 ≤ Int32.toInt (M15_.1 3 1) ∧ Int32.toInt (M15_.1 3 1) ≤ 0 := (by rw [e25_]; exact (show 0 ≤ Int32.toInt 0 ∧ Int32.toInt 0 ≤ 0 from (by decide)))
      refine pw_callGd hT (as := [pvR 3, pvI 0, pvI 0, pvI n4, pvI 0]) (lo1 := [some (pvR 3), some (pvI 0), some (pvI 0), some (pvI n4), some (pvI 0), none, none]) (d1 := d) (rest := []) rfl rfl rfl rfl rfl (fun h => absurd h (by decide)) (Nat.zero_le _) rfl rfl rfl (sf_X0_run_3_0_0_x_0_0 M15_ o17_ n4 (zr_wide b26_ (by decide) (by decide)) b22_ d) (fun x28_ M29_ b30_ o31_ g32_ d27_ => ?_)
      have f33_ : pvFr fp_X0_perform_3_x_x_x_x M M29_ := pvfr_t g32_ f18_ fp_X0_perform_3_x_x_x_x_fp_X0_run_3_0_0_x_0_0
      have b34_ : 0 ≤ Int32.toInt (M29_.1 3 1) ∧ Int32.toInt (M29_.1 3 1) ≤ 1 := (by have u0 := b26_; have u1 := d27_; have u2 := pvok_r o31_ 3 1 (lo := 0) (hi := 1000000) rfl; omega)
      exact pw_ret hT rfl (r := some (pvI x28_)) (M' := M29_) ⟨rfl, rfl⟩ ⟨⟨_, rfl, trivial⟩, o31_, f33_⟩
    · have b35_ : 1 ≤ Int32.toInt n3 ∧ Int32.toInt n3 ≤ 2 := (by have u0 := hn3; have u1 := (not_congr (zi_eq _ _)).mp c23_; have u2 := (show 0 ≤ Int32.toInt 0 ∧ Int32.toInt 0 ≤ 0 from (by decide)); omega)
      by_cases c36_ : n3 = 1
      · refine pw_eqI c36_ ?_
        have b37_ : 1 ≤ Int32.toInt n3 ∧ Int32.toInt n3 ≤ 1 := (by have u0 := b35_; have u1 := (zi_eq _ _).mp c36_; have u2 := (show 1 ≤ Int32.toInt 1 ∧ Int32.toInt 1 ≤ 1 from (by decide)); omega)
        refine pw_blk hT 2 (S' := (35, [some (pvR 3), some (pvR q1), some (pvI n2), some (pvI n3), some (pvI n4)], [pvI 0, pvI n4, pvI 1, pvI 0, pvR 3], M15_)) rfl ⟨trivial, trivial, trivial⟩ ?_
        have e38_ : (M15_.1 3 1) = 0 := ((((pvu_n e16_ 3 1 (Or.inr (by decide))).trans (pvu_n e12_ 3 1 (Or.inr (by decide)))).trans (pvu_n e7_ 3 1 (Or.inr (by decide)))).trans (pvu_s e2_))
        have b39_ : 0 ≤ Int32.toInt (M15_.1 3 1) ∧ Int32.toInt (M15_.1 3 1) ≤ 0 := (by rw [e38_]; exact (show 0 ≤ Int32.toInt 0 ∧ Int32.toInt 0 ≤ 0 from (by decide)))
        refine pw_callGd hT (as := [pvR 3, pvI 0, pvI 1, pvI n4, pvI 0]) (lo1 := [some (pvR 3), some (pvI 0), some (pvI 1), some (pvI n4), some (pvI 0), none, none]) (d1 := d) (rest := []) rfl rfl rfl rfl rfl (fun h => absurd h (by decide)) (Nat.zero_le _) rfl rfl rfl (sf_X0_run_3_0_1_x_0_0 M15_ o17_ n4 (zr_wide b39_ (by decide) (by decide)) b22_ d (Nat.le_trans (by decide) hd)) (fun x41_ M42_ b43_ o44_ g45_ d40_ => ?_)
        have f46_ : pvFr fp_X0_perform_3_x_x_x_x M M42_ := pvfr_t g45_ f18_ fp_X0_perform_3_x_x_x_x_fp_X0_run_3_0_1_x_0_0
        have b47_ : 0 ≤ Int32.toInt (M42_.1 3 1) ∧ Int32.toInt (M42_.1 3 1) ≤ 2 := (by have u0 := b39_; have u1 := d40_; have u2 := pvok_r o44_ 3 1 (lo := 0) (hi := 1000000) rfl; omega)
        exact pw_ret hT rfl (r := some (pvI x41_)) (M' := M42_) ⟨rfl, rfl⟩ ⟨⟨_, rfl, trivial⟩, o44_, f46_⟩
      · have b48_ : 2 ≤ Int32.toInt n3 ∧ Int32.toInt n3 ≤ 2 := (by have u0 := b35_; have u1 := (not_congr (zi_eq _ _)).mp c36_; have u2 := (show 1 ≤ Int32.toInt 1 ∧ Int32.toInt 1 ≤ 1 from (by decide)); omega)
        refine pw_eqI ((zi_eq _ (2)).mpr (by have u0 := b48_; have u1 : Int32.toInt (2) = 2 := (by decide); omega)) ?_
        refine pw_blk hT 2 (S' := (35, [some (pvR 3), some (pvR q1), some (pvI n2), some (pvI n3), some (pvI n4)], [pvI 0, pvI n4, pvI 2, pvI 0, pvR 3], M15_)) rfl ⟨trivial, trivial, trivial⟩ ?_
        have e49_ : (M15_.1 3 1) = 0 := ((((pvu_n e16_ 3 1 (Or.inr (by decide))).trans (pvu_n e12_ 3 1 (Or.inr (by decide)))).trans (pvu_n e7_ 3 1 (Or.inr (by decide)))).trans (pvu_s e2_))
        have b50_ : 0 ≤ Int32.toInt (M15_.1 3 1) ∧ Int32.toInt (M15_.1 3 1) ≤ 0 := (by rw [e49_]; exact (show 0 ≤ Int32.toInt 0 ∧ Int32.toInt 0 ≤ 0 from (by decide)))
        refine pw_callGd hT (as := [pvR 3, pvI 0, pvI 2, pvI n4, pvI 0]) (lo1 := [some (pvR 3), some (pvI 0), some (pvI 2), some (pvI n4), some (pvI 0), none, none]) (d1 := d) (rest := []) rfl rfl rfl rfl rfl (fun h => absurd h (by decide)) (Nat.zero_le _) rfl rfl rfl (sf_X0_run_3_0_2_x_0_0 M15_ o17_ n4 (zr_wide b50_ (by decide) (by decide)) b22_ d (Nat.le_trans (by decide) hd)) (fun x52_ M53_ b54_ o55_ g56_ d51_ => ?_)
        have f57_ : pvFr fp_X0_perform_3_x_x_x_x M M53_ := pvfr_t g56_ f18_ fp_X0_perform_3_x_x_x_x_fp_X0_run_3_0_2_x_0_0
        have b58_ : 0 ≤ Int32.toInt (M53_.1 3 1) ∧ Int32.toInt (M53_.1 3 1) ≤ 3 := (by have u0 := b50_; have u1 := d51_; have u2 := pvok_r o55_ 3 1 (lo := 0) (hi := 1000000) rfl; omega)
        exact pw_ret hT rfl (r := some (pvI x52_)) (M' := M53_) ⟨rfl, rfl⟩ ⟨⟨_, rfl, trivial⟩, o55_, f57_⟩
  · have b59_ : 1 ≤ Int32.toInt (M15_.1 3 2) ∧ Int32.toInt (M15_.1 3 2) ≤ 6 := (by have u0 := b20_; have u1 := (not_congr (zi_eq _ _)).mp c21_; have u2 := (show 0 ≤ Int32.toInt 0 ∧ Int32.toInt 0 ≤ 0 from (by decide)); omega)
    by_cases c60_ : (M15_.1 3 2) = 1
    · refine pw_eqI c60_ ?_
      have b61_ : 1 ≤ Int32.toInt (M15_.1 3 2) ∧ Int32.toInt (M15_.1 3 2) ≤ 1 := (by have u0 := b59_; have u1 := (zi_eq _ _).mp c60_; have u2 := (show 1 ≤ Int32.toInt 1 ∧ Int32.toInt 1 ≤ 1 from (by decide)); omega)
      refine pw_blk hT 1 (S' := (32, [some (pvR 3), some (pvR q1), some (pvI n2), some (pvI n3), some (pvI n4)], [pvI n3, pvI 1, pvR 3], M15_)) rfl ⟨trivial, trivial⟩ ?_
      by_cases c62_ : n3 = 0
      · refine pw_eqI c62_ ?_
        have b63_ : 0 ≤ Int32.toInt n3 ∧ Int32.toInt n3 ≤ 0 := (by have u0 := hn3; have u1 := (zi_eq _ _).mp c62_; have u2 := (show 0 ≤ Int32.toInt 0 ∧ Int32.toInt 0 ≤ 0 from (by decide)); omega)
        refine pw_blk hT 2 (S' := (35, [some (pvR 3), some (pvR q1), some (pvI n2), some (pvI n3), some (pvI n4)], [pvI 0, pvI n4, pvI 0, pvI 1, pvR 3], M15_)) rfl ⟨trivial, trivial, trivial⟩ ?_
        have e64_ : (M15_.1 3 1) = 0 := ((((pvu_n e16_ 3 1 (Or.inr (by decide))).trans (pvu_n e12_ 3 1 (Or.inr (by decide)))).trans (pvu_n e7_ 3 1 (Or.inr (by decide)))).trans (pvu_s e2_))
        have b65_ : 0 ≤ Int32.toInt (M15_.1 3 1) ∧ Int32.toInt (M15_.1 3 1) ≤ 0 := (by rw [e64_]; exact (show 0 ≤ Int32.toInt 0 ∧ Int32.toInt 0 ≤ 0 from (by decide)))
        refine pw_callGd hT (as := [pvR 3, pvI 1, pvI 0, pvI n4, pvI 0]) (lo1 := [some (pvR 3), some (pvI 1), some (pvI 0), some (pvI n4), some (pvI 0), none, none]) (d1 := d) (rest := []) rfl rfl rfl rfl rfl (fun h => absurd h (by decide)) (Nat.zero_le _) rfl rfl rfl (sf_X0_run_3_1_0_x_0_1 M15_ o17_ n4 (zr_wide b65_ (by decide) (by decide)) b61_ d) (fun x67_ M68_ b69_ o70_ g71_ d66_ => ?_)
        have f72_ : pvFr fp_X0_perform_3_x_x_x_x M M68_ := pvfr_t g71_ f18_ fp_X0_perform_3_x_x_x_x_fp_X0_run_3_1_0_x_0_1
        have b73_ : 0 ≤ Int32.toInt (M68_.1 3 1) ∧ Int32.toInt (M68_.1 3 1) ≤ 1 := (by have u0 := b65_; have u1 := d66_; have u2 := pvok_r o70_ 3 1 (lo := 0) (hi := 1000000) rfl; omega)
        exact pw_ret hT rfl (r := some (pvI x67_)) (M' := M68_) ⟨rfl, rfl⟩ ⟨⟨_, rfl, trivial⟩, o70_, f72_⟩
      · have b74_ : 1 ≤ Int32.toInt n3 ∧ Int32.toInt n3 ≤ 2 := (by have u0 := hn3; have u1 := (not_congr (zi_eq _ _)).mp c62_; have u2 := (show 0 ≤ Int32.toInt 0 ∧ Int32.toInt 0 ≤ 0 from (by decide)); omega)
        by_cases c75_ : n3 = 1
        · refine pw_eqI c75_ ?_
          have b76_ : 1 ≤ Int32.toInt n3 ∧ Int32.toInt n3 ≤ 1 := (by have u0 := b74_; have u1 := (zi_eq _ _).mp c75_; have u2 := (show 1 ≤ Int32.toInt 1 ∧ Int32.toInt 1 ≤ 1 from (by decide)); omega)
          refine pw_blk hT 2 (S' := (35, [some (pvR 3), some (pvR q1), some (pvI n2), some (pvI n3), some (pvI n4)], [pvI 0, pvI n4, pvI 1, pvI 1, pvR 3], M15_)) rfl ⟨trivial, trivial, trivial⟩ ?_
          have e77_ : (M15_.1 3 1) = 0 := ((((pvu_n e16_ 3 1 (Or.inr (by decide))).trans (pvu_n e12_ 3 1 (Or.inr (by decide)))).trans (pvu_n e7_ 3 1 (Or.inr (by decide)))).trans (pvu_s e2_))
          have b78_ : 0 ≤ Int32.toInt (M15_.1 3 1) ∧ Int32.toInt (M15_.1 3 1) ≤ 0 := (by rw [e77_]; exact (show 0 ≤ Int32.toInt 0 ∧ Int32.toInt 0 ≤ 0 from (by decide)))
          refine pw_callGd hT (as := [pvR 3, pvI 1, pvI 1, pvI n4, pvI 0]) (lo1 := [some (pvR 3), some (pvI 1), some (pvI 1), some (pvI n4), some (pvI 0), none, none]) (d1 := d) (rest := []) rfl rfl rfl rfl rfl (fun h => absurd h (by decide)) (Nat.zero_le _) rfl rfl rfl (sf_X0_run_3_1_1_x_0_1 M15_ o17_ n4 (zr_wide b78_ (by decide) (by decide)) b61_ d (Nat.le_trans (by decide) hd)) (fun x80_ M81_ b82_ o83_ g84_ d79_ => ?_)
          have f85_ : pvFr fp_X0_perform_3_x_x_x_x M M81_ := pvfr_t g84_ f18_ fp_X0_perform_3_x_x_x_x_fp_X0_run_3_1_1_x_0_1
          have b86_ : 0 ≤ Int32.toInt (M81_.1 3 1) ∧ Int32.toInt (M81_.1 3 1) ≤ 3 := (by have u0 := b78_; have u1 := d79_; have u2 := pvok_r o83_ 3 1 (lo := 0) (hi := 1000000) rfl; omega)
          exact pw_ret hT rfl (r := some (pvI x80_)) (M' := M81_) ⟨rfl, rfl⟩ ⟨⟨_, rfl, trivial⟩, o83_, f85_⟩
        · have b87_ : 2 ≤ Int32.toInt n3 ∧ Int32.toInt n3 ≤ 2 := (by have u0 := b74_; have u1 := (not_congr (zi_eq _ _)).mp c75_; have u2 := (show 1 ≤ Int32.toInt 1 ∧ Int32.toInt 1 ≤ 1 from (by decide)); omega)
          refine pw_eqI ((zi_eq _ (2)).mpr (by have u0 := b87_; have u1 : Int32.toInt (2) = 2 := (by decide); omega)) ?_
          refine pw_blk hT 2 (S' := (35, [some (pvR 3), some (pvR q1), some (pvI n2), some (pvI n3), some (pvI n4)], [pvI 0, pvI n4, pvI 2, pvI 1, pvR 3], M15_)) rfl ⟨trivial, trivial, trivial⟩ ?_
          have e88_ : (M15_.1 3 1) = 0 := ((((pvu_n e16_ 3 1 (Or.inr (by decide))).trans (pvu_n e12_ 3 1 (Or.inr (by decide)))).trans (pvu_n e7_ 3 1 (Or.inr (by decide)))).trans (pvu_s e2_))
          have b89_ : 0 ≤ Int32.toInt (M15_.1 3 1) ∧ Int32.toInt (M15_.1 3 1) ≤ 0 := (by rw [e88_]; exact (show 0 ≤ Int32.toInt 0 ∧ Int32.toInt 0 ≤ 0 from (by decide)))
          refine pw_callGd hT (as := [pvR 3, pvI 1, pvI 2, pvI n4, pvI 0]) (lo1 := [some (pvR 3), some (pvI 1), some (pvI 2), some (pvI n4), some (pvI 0), none, none]) (d1 := d) (rest := []) rfl rfl rfl rfl rfl (fun h => absurd h (by decide)) (Nat.zero_le _) rfl rfl rfl (sf_X0_run_3_1_2_x_0_1 M15_ o17_ n4 (zr_wide b89_ (by decide) (by decide)) b61_ d (Nat.le_trans (by decide) hd)) (fun x91_ M92_ b93_ o94_ g95_ d90_ => ?_)
          have f96_ : pvFr fp_X0_perform_3_x_x_x_x M M92_ := pvfr_t g95_ f18_ fp_X0_perform_3_x_x_x_x_fp_X0_run_3_1_2_x_0_1
          have b97_ : 0 ≤ Int32.toInt (M92_.1 3 1) ∧ Int32.toInt (M92_.1 3 1) ≤ 4 := (by have u0 := b89_; have u1 := d90_; have u2 := pvok_r o94_ 3 1 (lo := 0) (hi := 1000000) rfl; omega)
          exact pw_ret hT rfl (r := some (pvI x91_)) (M' := M92_) ⟨rfl, rfl⟩ ⟨⟨_, rfl, trivial⟩, o94_, f96_⟩
    · have b98_ : 2 ≤ Int32.toInt (M15_.1 3 2) ∧ Int32.toInt (M15_.1 3 2) ≤ 6 := (by have u0 := b59_; have u1 := (not_congr (zi_eq _ _)).mp c60_; have u2 := (show 1 ≤ Int32.toInt 1 ∧ Int32.toInt 1 ≤ 1 from (by decide)); omega)
      by_cases c99_ : (M15_.1 3 2) = 2
      · refine pw_eqI c99_ ?_
        have b100_ : 2 ≤ Int32.toInt (M15_.1 3 2) ∧ Int32.toInt (M15_.1 3 2) ≤ 2 := (by have u0 := b98_; have u1 := (zi_eq _ _).mp c99_; have u2 := (show 2 ≤ Int32.toInt 2 ∧ Int32.toInt 2 ≤ 2 from (by decide)); omega)
        refine pw_blk hT 1 (S' := (32, [some (pvR 3), some (pvR q1), some (pvI n2), some (pvI n3), some (pvI n4)], [pvI n3, pvI 2, pvR 3], M15_)) rfl ⟨trivial, trivial⟩ ?_
        by_cases c101_ : n3 = 0
        · refine pw_eqI c101_ ?_
          have b102_ : 0 ≤ Int32.toInt n3 ∧ Int32.toInt n3 ≤ 0 := (by have u0 := hn3; have u1 := (zi_eq _ _).mp c101_; have u2 := (show 0 ≤ Int32.toInt 0 ∧ Int32.toInt 0 ≤ 0 from (by decide)); omega)
          refine pw_blk hT 2 (S' := (35, [some (pvR 3), some (pvR q1), some (pvI n2), some (pvI n3), some (pvI n4)], [pvI 0, pvI n4, pvI 0, pvI 2, pvR 3], M15_)) rfl ⟨trivial, trivial, trivial⟩ ?_
          have e103_ : (M15_.1 3 1) = 0 := ((((pvu_n e16_ 3 1 (Or.inr (by decide))).trans (pvu_n e12_ 3 1 (Or.inr (by decide)))).trans (pvu_n e7_ 3 1 (Or.inr (by decide)))).trans (pvu_s e2_))
          have b104_ : 0 ≤ Int32.toInt (M15_.1 3 1) ∧ Int32.toInt (M15_.1 3 1) ≤ 0 := (by rw [e103_]; exact (show 0 ≤ Int32.toInt 0 ∧ Int32.toInt 0 ≤ 0 from (by decide)))
          refine pw_callGd hT (as := [pvR 3, pvI 2, pvI 0, pvI n4, pvI 0]) (lo1 := [some (pvR 3), some (pvI 2), some (pvI 0), some (pvI n4), some (pvI 0), none, none]) (d1 := d) (rest := []) rfl rfl rfl rfl rfl (fun h => absurd h (by decide)) (Nat.zero_le _) rfl rfl rfl (sf_X0_run_3_2_0_x_0_2 M15_ o17_ n4 (zr_wide b104_ (by decide) (by decide)) b100_ d (Nat.le_trans (by decide) hd)) (fun x106_ M107_ b108_ o109_ g110_ d105_ => ?_)
          have f111_ : pvFr fp_X0_perform_3_x_x_x_x M M107_ := pvfr_t g110_ f18_ fp_X0_perform_3_x_x_x_x_fp_X0_run_3_2_0_x_0_2
          have b112_ : 0 ≤ Int32.toInt (M107_.1 3 1) ∧ Int32.toInt (M107_.1 3 1) ≤ 2 := (by have u0 := b104_; have u1 := d105_; have u2 := pvok_r o109_ 3 1 (lo := 0) (hi := 1000000) rfl; omega)
          exact pw_ret hT rfl (r := some (pvI x106_)) (M' := M107_) ⟨rfl, rfl⟩ ⟨⟨_, rfl, trivial⟩, o109_, f111_⟩
        · have b113_ : 1 ≤ Int32.toInt n3 ∧ Int32.toInt n3 ≤ 2 := (by have u0 := hn3; have u1 := (not_congr (zi_eq _ _)).mp c101_; have u2 := (show 0 ≤ Int32.toInt 0 ∧ Int32.toInt 0 ≤ 0 from (by decide)); omega)
          by_cases c114_ : n3 = 1
          · refine pw_eqI c114_ ?_
            have b115_ : 1 ≤ Int32.toInt n3 ∧ Int32.toInt n3 ≤ 1 := (by have u0 := b113_; have u1 := (zi_eq _ _).mp c114_; have u2 := (show 1 ≤ Int32.toInt 1 ∧ Int32.toInt 1 ≤ 1 from (by decide)); omega)
            refine pw_blk hT 2 (S' := (35, [some (pvR 3), some (pvR q1), some (pvI n2), some (pvI n3), some (pvI n4)], [pvI 0, pvI n4, pvI 1, pvI 2, pvR 3], M15_)) rfl ⟨trivial, trivial, trivial⟩ ?_
            have e116_ : (M15_.1 3 1) = 0 := ((((pvu_n e16_ 3 1 (Or.inr (by decide))).trans (pvu_n e12_ 3 1 (Or.inr (by decide)))).trans (pvu_n e7_ 3 1 (Or.inr (by decide)))).trans (pvu_s e2_))
            have b117_ : 0 ≤ Int32.toInt (M15_.1 3 1) ∧ Int32.toInt (M15_.1 3 1) ≤ 0 := (by rw [e116_]; exact (show 0 ≤ Int32.toInt 0 ∧ Int32.toInt 0 ≤ 0 from (by decide)))
            refine pw_callGd hT (as := [pvR 3, pvI 2, pvI 1, pvI n4, pvI 0]) (lo1 := [some (pvR 3), some (pvI 2), some (pvI 1), some (pvI n4), some (pvI 0), none, none]) (d1 := d) (rest := []) rfl rfl rfl rfl rfl (fun h => absurd h (by decide)) (Nat.zero_le _) rfl rfl rfl (sf_X0_run_3_2_1_x_0_2 M15_ o17_ n4 (zr_wide b117_ (by decide) (by decide)) b100_ d (Nat.le_trans (by decide) hd)) (fun x119_ M120_ b121_ o122_ g123_ d118_ => ?_)
            have f124_ : pvFr fp_X0_perform_3_x_x_x_x M M120_ := pvfr_t g123_ f18_ fp_X0_perform_3_x_x_x_x_fp_X0_run_3_2_1_x_0_2
            have b125_ : 0 ≤ Int32.toInt (M120_.1 3 1) ∧ Int32.toInt (M120_.1 3 1) ≤ 3 := (by have u0 := b117_; have u1 := d118_; have u2 := pvok_r o122_ 3 1 (lo := 0) (hi := 1000000) rfl; omega)
            exact pw_ret hT rfl (r := some (pvI x119_)) (M' := M120_) ⟨rfl, rfl⟩ ⟨⟨_, rfl, trivial⟩, o122_, f124_⟩
          · have b126_ : 2 ≤ Int32.toInt n3 ∧ Int32.toInt n3 ≤ 2 := (by have u0 := b113_; have u1 := (not_congr (zi_eq _ _)).mp c114_; have u2 := (show 1 ≤ Int32.toInt 1 ∧ Int32.toInt 1 ≤ 1 from (by decide)); omega)
            refine pw_eqI ((zi_eq _ (2)).mpr (by have u0 := b126_; have u1 : Int32.toInt (2) = 2 := (by decide); omega)) ?_
            refine pw_blk hT 2 (S' := (35, [some (pvR 3), some (pvR q1), some (pvI n2), some (pvI n3), some (pvI n4)], [pvI 0, pvI n4, pvI 2, pvI 2, pvR 3], M15_)) rfl ⟨trivial, trivial, trivial⟩ ?_
            have e127_ : (M15_.1 3 1) = 0 := ((((pvu_n e16_ 3 1 (Or.inr (by decide))).trans (pvu_n e12_ 3 1 (Or.inr (by decide)))).trans (pvu_n e7_ 3 1 (Or.inr (by decide)))).trans (pvu_s e2_))
            have b128_ : 0 ≤ Int32.toInt (M15_.1 3 1) ∧ Int32.toInt (M15_.1 3 1) ≤ 0 := (by rw [e127_]; exact (show 0 ≤ Int32.toInt 0 ∧ Int32.toInt 0 ≤ 0 from (by decide)))
            refine pw_callGd hT (as := [pvR 3, pvI 2, pvI 2, pvI n4, pvI 0]) (lo1 := [some (pvR 3), some (pvI 2), some (pvI 2), some (pvI n4), some (pvI 0), none, none]) (d1 := d) (rest := []) rfl rfl rfl rfl rfl (fun h => absurd h (by decide)) (Nat.zero_le _) rfl rfl rfl (sf_X0_run_3_2_2_x_0_2 M15_ o17_ n4 (zr_wide b128_ (by decide) (by decide)) b100_ d (Nat.le_trans (by decide) hd)) (fun x130_ M131_ b132_ o133_ g134_ d129_ => ?_)
            have f135_ : pvFr fp_X0_perform_3_x_x_x_x M M131_ := pvfr_t g134_ f18_ fp_X0_perform_3_x_x_x_x_fp_X0_run_3_2_2_x_0_2
            have b136_ : 0 ≤ Int32.toInt (M131_.1 3 1) ∧ Int32.toInt (M131_.1 3 1) ≤ 4 := (by have u0 := b128_; have u1 := d129_; have u2 := pvok_r o133_ 3 1 (lo := 0) (hi := 1000000) rfl; omega)
            exact pw_ret hT rfl (r := some (pvI x130_)) (M' := M131_) ⟨rfl, rfl⟩ ⟨⟨_, rfl, trivial⟩, o133_, f135_⟩
      · have b137_ : 3 ≤ Int32.toInt (M15_.1 3 2) ∧ Int32.toInt (M15_.1 3 2) ≤ 6 := (by have u0 := b98_; have u1 := (not_congr (zi_eq _ _)).mp c99_; have u2 := (show 2 ≤ Int32.toInt 2 ∧ Int32.toInt 2 ≤ 2 from (by decide)); omega)
        by_cases c138_ : (M15_.1 3 2) = 3
        · refine pw_eqI c138_ ?_
          have b139_ : 3 ≤ Int32.toInt (M15_.1 3 2) ∧ Int32.toInt (M15_.1 3 2) ≤ 3 := (by have u0 := b137_; have u1 := (zi_eq _ _).mp c138_; have u2 := (show 3 ≤ Int32.toInt 3 ∧ Int32.toInt 3 ≤ 3 from (by decide)); omega)
          refine pw_blk hT 1 (S' := (32, [some (pvR 3), some (pvR q1), some (pvI n2), some (pvI n3), some (pvI n4)], [pvI n3, pvI 3, pvR 3], M15_)) rfl ⟨trivial, trivial⟩ ?_
          by_cases c140_ : n3 = 0
          · refine pw_eqI c140_ ?_
            have b141_ : 0 ≤ Int32.toInt n3 ∧ Int32.toInt n3 ≤ 0 := (by have u0 := hn3; have u1 := (zi_eq _ _).mp c140_; have u2 := (show 0 ≤ Int32.toInt 0 ∧ Int32.toInt 0 ≤ 0 from (by decide)); omega)
            refine pw_blk hT 2 (S' := (35, [some (pvR 3), some (pvR q1), some (pvI n2), some (pvI n3), some (pvI n4)], [pvI 0, pvI n4, pvI 0, pvI 3, pvR 3], M15_)) rfl ⟨trivial, trivial, trivial⟩ ?_
            have e142_ : (M15_.1 3 1) = 0 := ((((pvu_n e16_ 3 1 (Or.inr (by decide))).trans (pvu_n e12_ 3 1 (Or.inr (by decide)))).trans (pvu_n e7_ 3 1 (Or.inr (by decide)))).trans (pvu_s e2_))
            have b143_ : 0 ≤ Int32.toInt (M15_.1 3 1) ∧ Int32.toInt (M15_.1 3 1) ≤ 0 := (by rw [e142_]; exact (show 0 ≤ Int32.toInt 0 ∧ Int32.toInt 0 ≤ 0 from (by decide)))
            refine pw_callGd hT (as := [pvR 3, pvI 3, pvI 0, pvI n4, pvI 0]) (lo1 := [some (pvR 3), some (pvI 3), some (pvI 0), some (pvI n4), some (pvI 0), none, none]) (d1 := d) (rest := []) rfl rfl rfl rfl rfl (fun h => absurd h (by decide)) (Nat.zero_le _) rfl rfl rfl (sf_X0_run_3_3_0_x_0_3 M15_ o17_ n4 (zr_wide b143_ (by decide) (by decide)) b139_ d) (fun x145_ M146_ b147_ o148_ g149_ d144_ => ?_)
            have f150_ : pvFr fp_X0_perform_3_x_x_x_x M M146_ := pvfr_t g149_ f18_ fp_X0_perform_3_x_x_x_x_fp_X0_run_3_3_0_x_0_3
            have b151_ : 0 ≤ Int32.toInt (M146_.1 3 1) ∧ Int32.toInt (M146_.1 3 1) ≤ 1 := (by have u0 := b143_; have u1 := d144_; have u2 := pvok_r o148_ 3 1 (lo := 0) (hi := 1000000) rfl; omega)
            exact pw_ret hT rfl (r := some (pvI x145_)) (M' := M146_) ⟨rfl, rfl⟩ ⟨⟨_, rfl, trivial⟩, o148_, f150_⟩
          · have b152_ : 1 ≤ Int32.toInt n3 ∧ Int32.toInt n3 ≤ 2 := (by have u0 := hn3; have u1 := (not_congr (zi_eq _ _)).mp c140_; have u2 := (show 0 ≤ Int32.toInt 0 ∧ Int32.toInt 0 ≤ 0 from (by decide)); omega)
            by_cases c153_ : n3 = 1
            · refine pw_eqI c153_ ?_
              have b154_ : 1 ≤ Int32.toInt n3 ∧ Int32.toInt n3 ≤ 1 := (by have u0 := b152_; have u1 := (zi_eq _ _).mp c153_; have u2 := (show 1 ≤ Int32.toInt 1 ∧ Int32.toInt 1 ≤ 1 from (by decide)); omega)
              refine pw_blk hT 2 (S' := (35, [some (pvR 3), some (pvR q1), some (pvI n2), some (pvI n3), some (pvI n4)], [pvI 0, pvI n4, pvI 1, pvI 3, pvR 3], M15_)) rfl ⟨trivial, trivial, trivial⟩ ?_
              have e155_ : (M15_.1 3 1) = 0 := ((((pvu_n e16_ 3 1 (Or.inr (by decide))).trans (pvu_n e12_ 3 1 (Or.inr (by decide)))).trans (pvu_n e7_ 3 1 (Or.inr (by decide)))).trans (pvu_s e2_))
              have b156_ : 0 ≤ Int32.toInt (M15_.1 3 1) ∧ Int32.toInt (M15_.1 3 1) ≤ 0 := (by rw [e155_]; exact (show 0 ≤ Int32.toInt 0 ∧ Int32.toInt 0 ≤ 0 from (by decide)))
              refine pw_callGd hT (as := [pvR 3, pvI 3, pvI 1, pvI n4, pvI 0]) (lo1 := [some (pvR 3), some (pvI 3), some (pvI 1), some (pvI n4), some (pvI 0), none, none]) (d1 := d) (rest := []) rfl rfl rfl rfl rfl (fun h => absurd h (by decide)) (Nat.zero_le _) rfl rfl rfl (sf_X0_run_3_3_1_x_0_3 M15_ o17_ n4 (zr_wide b156_ (by decide) (by decide)) b139_ d (Nat.le_trans (by decide) hd)) (fun x158_ M159_ b160_ o161_ g162_ d157_ => ?_)
              have f163_ : pvFr fp_X0_perform_3_x_x_x_x M M159_ := pvfr_t g162_ f18_ fp_X0_perform_3_x_x_x_x_fp_X0_run_3_3_1_x_0_3
              have b164_ : 0 ≤ Int32.toInt (M159_.1 3 1) ∧ Int32.toInt (M159_.1 3 1) ≤ 2 := (by have u0 := b156_; have u1 := d157_; have u2 := pvok_r o161_ 3 1 (lo := 0) (hi := 1000000) rfl; omega)
              exact pw_ret hT rfl (r := some (pvI x158_)) (M' := M159_) ⟨rfl, rfl⟩ ⟨⟨_, rfl, trivial⟩, o161_, f163_⟩
            · have b165_ : 2 ≤ Int32.toInt n3 ∧ Int32.toInt n3 ≤ 2 := (by have u0 := b152_; have u1 := (not_congr (zi_eq _ _)).mp c153_; have u2 := (show 1 ≤ Int32.toInt 1 ∧ Int32.toInt 1 ≤ 1 from (by decide)); omega)
              refine pw_eqI ((zi_eq _ (2)).mpr (by have u0 := b165_; have u1 : Int32.toInt (2) = 2 := (by decide); omega)) ?_
              refine pw_blk hT 2 (S' := (35, [some (pvR 3), some (pvR q1), some (pvI n2), some (pvI n3), some (pvI n4)], [pvI 0, pvI n4, pvI 2, pvI 3, pvR 3], M15_)) rfl ⟨trivial, trivial, trivial⟩ ?_
              have e166_ : (M15_.1 3 1) = 0 := ((((pvu_n e16_ 3 1 (Or.inr (by decide))).trans (pvu_n e12_ 3 1 (Or.inr (by decide)))).trans (pvu_n e7_ 3 1 (Or.inr (by decide)))).trans (pvu_s e2_))
              have b167_ : 0 ≤ Int32.toInt (M15_.1 3 1) ∧ Int32.toInt (M15_.1 3 1) ≤ 0 := (by rw [e166_]; exact (show 0 ≤ Int32.toInt 0 ∧ Int32.toInt 0 ≤ 0 from (by decide)))
              refine pw_callGd hT (as := [pvR 3, pvI 3, pvI 2, pvI n4, pvI 0]) (lo1 := [some (pvR 3), some (pvI 3), some (pvI 2), some (pvI n4), some (pvI 0), none, none]) (d1 := d) (rest := []) rfl rfl rfl rfl rfl (fun h => absurd h (by decide)) (Nat.zero_le _) rfl rfl rfl (sf_X0_run_3_3_2_x_0_3 M15_ o17_ n4 (zr_wide b167_ (by decide) (by decide)) b139_ d (Nat.le_trans (by decide) hd)) (fun x169_ M170_ b171_ o172_ g173_ d168_ => ?_)
              have f174_ : pvFr fp_X0_perform_3_x_x_x_x M M170_ := pvfr_t g173_ f18_ fp_X0_perform_3_x_x_x_x_fp_X0_run_3_3_2_x_0_3
              have b175_ : 0 ≤ Int32.toInt (M170_.1 3 1) ∧ Int32.toInt (M170_.1 3 1) ≤ 6 := (by have u0 := b167_; have u1 := d168_; have u2 := pvok_r o172_ 3 1 (lo := 0) (hi := 1000000) rfl; omega)
              exact pw_ret hT rfl (r := some (pvI x169_)) (M' := M170_) ⟨rfl, rfl⟩ ⟨⟨_, rfl, trivial⟩, o172_, f174_⟩
        · have b176_ : 4 ≤ Int32.toInt (M15_.1 3 2) ∧ Int32.toInt (M15_.1 3 2) ≤ 6 := (by have u0 := b137_; have u1 := (not_congr (zi_eq _ _)).mp c138_; have u2 := (show 3 ≤ Int32.toInt 3 ∧ Int32.toInt 3 ≤ 3 from (by decide)); omega)
          by_cases c177_ : (M15_.1 3 2) = 4
          · refine pw_eqI c177_ ?_
            have b178_ : 4 ≤ Int32.toInt (M15_.1 3 2) ∧ Int32.toInt (M15_.1 3 2) ≤ 4 := (by have u0 := b176_; have u1 := (zi_eq _ _).mp c177_; have u2 := (show 4 ≤ Int32.toInt 4 ∧ Int32.toInt 4 ≤ 4 from (by decide)); omega)
            refine pw_blk hT 1 (S' := (32, [some (pvR 3), some (pvR q1), some (pvI n2), some (pvI n3), some (pvI n4)], [pvI n3, pvI 4, pvR 3], M15_)) rfl ⟨trivial, trivial⟩ ?_
            by_cases c179_ : n3 = 0
            · refine pw_eqI c179_ ?_
              have b180_ : 0 ≤ Int32.toInt n3 ∧ Int32.toInt n3 ≤ 0 := (by have u0 := hn3; have u1 := (zi_eq _ _).mp c179_; have u2 := (show 0 ≤ Int32.toInt 0 ∧ Int32.toInt 0 ≤ 0 from (by decide)); omega)
              refine pw_blk hT 2 (S' := (35, [some (pvR 3), some (pvR q1), some (pvI n2), some (pvI n3), some (pvI n4)], [pvI 0, pvI n4, pvI 0, pvI 4, pvR 3], M15_)) rfl ⟨trivial, trivial, trivial⟩ ?_
              have e181_ : (M15_.1 3 1) = 0 := ((((pvu_n e16_ 3 1 (Or.inr (by decide))).trans (pvu_n e12_ 3 1 (Or.inr (by decide)))).trans (pvu_n e7_ 3 1 (Or.inr (by decide)))).trans (pvu_s e2_))
              have b182_ : 0 ≤ Int32.toInt (M15_.1 3 1) ∧ Int32.toInt (M15_.1 3 1) ≤ 0 := (by rw [e181_]; exact (show 0 ≤ Int32.toInt 0 ∧ Int32.toInt 0 ≤ 0 from (by decide)))
              refine pw_callGd hT (as := [pvR 3, pvI 4, pvI 0, pvI n4, pvI 0]) (lo1 := [some (pvR 3), some (pvI 4), some (pvI 0), some (pvI n4), some (pvI 0), none, none]) (d1 := d) (rest := []) rfl rfl rfl rfl rfl (fun h => absurd h (by decide)) (Nat.zero_le _) rfl rfl rfl (sf_X0_run_3_4_0_x_0_4 M15_ o17_ n4 (zr_wide b182_ (by decide) (by decide)) b178_ d (Nat.le_trans (by decide) hd)) (fun x184_ M185_ b186_ o187_ g188_ d183_ => ?_)
              have f189_ : pvFr fp_X0_perform_3_x_x_x_x M M185_ := pvfr_t g188_ f18_ fp_X0_perform_3_x_x_x_x_fp_X0_run_3_4_0_x_0_4
              have b190_ : 0 ≤ Int32.toInt (M185_.1 3 1) ∧ Int32.toInt (M185_.1 3 1) ≤ 2 := (by have u0 := b182_; have u1 := d183_; have u2 := pvok_r o187_ 3 1 (lo := 0) (hi := 1000000) rfl; omega)
              exact pw_ret hT rfl (r := some (pvI x184_)) (M' := M185_) ⟨rfl, rfl⟩ ⟨⟨_, rfl, trivial⟩, o187_, f189_⟩
            · have b191_ : 1 ≤ Int32.toInt n3 ∧ Int32.toInt n3 ≤ 2 := (by have u0 := hn3; have u1 := (not_congr (zi_eq _ _)).mp c179_; have u2 := (show 0 ≤ Int32.toInt 0 ∧ Int32.toInt 0 ≤ 0 from (by decide)); omega)
              by_cases c192_ : n3 = 1
              · refine pw_eqI c192_ ?_
                have b193_ : 1 ≤ Int32.toInt n3 ∧ Int32.toInt n3 ≤ 1 := (by have u0 := b191_; have u1 := (zi_eq _ _).mp c192_; have u2 := (show 1 ≤ Int32.toInt 1 ∧ Int32.toInt 1 ≤ 1 from (by decide)); omega)
                refine pw_blk hT 2 (S' := (35, [some (pvR 3), some (pvR q1), some (pvI n2), some (pvI n3), some (pvI n4)], [pvI 0, pvI n4, pvI 1, pvI 4, pvR 3], M15_)) rfl ⟨trivial, trivial, trivial⟩ ?_
                have e194_ : (M15_.1 3 1) = 0 := ((((pvu_n e16_ 3 1 (Or.inr (by decide))).trans (pvu_n e12_ 3 1 (Or.inr (by decide)))).trans (pvu_n e7_ 3 1 (Or.inr (by decide)))).trans (pvu_s e2_))
                have b195_ : 0 ≤ Int32.toInt (M15_.1 3 1) ∧ Int32.toInt (M15_.1 3 1) ≤ 0 := (by rw [e194_]; exact (show 0 ≤ Int32.toInt 0 ∧ Int32.toInt 0 ≤ 0 from (by decide)))
                refine pw_callGd hT (as := [pvR 3, pvI 4, pvI 1, pvI n4, pvI 0]) (lo1 := [some (pvR 3), some (pvI 4), some (pvI 1), some (pvI n4), some (pvI 0), none, none]) (d1 := d) (rest := []) rfl rfl rfl rfl rfl (fun h => absurd h (by decide)) (Nat.zero_le _) rfl rfl rfl (sf_X0_run_3_4_1_x_0_4 M15_ o17_ n4 (zr_wide b195_ (by decide) (by decide)) b178_ d (Nat.le_trans (by decide) hd)) (fun x197_ M198_ b199_ o200_ g201_ d196_ => ?_)
                have f202_ : pvFr fp_X0_perform_3_x_x_x_x M M198_ := pvfr_t g201_ f18_ fp_X0_perform_3_x_x_x_x_fp_X0_run_3_4_1_x_0_4
                have b203_ : 0 ≤ Int32.toInt (M198_.1 3 1) ∧ Int32.toInt (M198_.1 3 1) ≤ 5 := (by have u0 := b195_; have u1 := d196_; have u2 := pvok_r o200_ 3 1 (lo := 0) (hi := 1000000) rfl; omega)
                exact pw_ret hT rfl (r := some (pvI x197_)) (M' := M198_) ⟨rfl, rfl⟩ ⟨⟨_, rfl, trivial⟩, o200_, f202_⟩
              · have b204_ : 2 ≤ Int32.toInt n3 ∧ Int32.toInt n3 ≤ 2 := (by have u0 := b191_; have u1 := (not_congr (zi_eq _ _)).mp c192_; have u2 := (show 1 ≤ Int32.toInt 1 ∧ Int32.toInt 1 ≤ 1 from (by decide)); omega)
                refine pw_eqI ((zi_eq _ (2)).mpr (by have u0 := b204_; have u1 : Int32.toInt (2) = 2 := (by decide); omega)) ?_
                refine pw_blk hT 2 (S' := (35, [some (pvR 3), some (pvR q1), some (pvI n2), some (pvI n3), some (pvI n4)], [pvI 0, pvI n4, pvI 2, pvI 4, pvR 3], M15_)) rfl ⟨trivial, trivial, trivial⟩ ?_
                have e205_ : (M15_.1 3 1) = 0 := ((((pvu_n e16_ 3 1 (Or.inr (by decide))).trans (pvu_n e12_ 3 1 (Or.inr (by decide)))).trans (pvu_n e7_ 3 1 (Or.inr (by decide)))).trans (pvu_s e2_))
                have b206_ : 0 ≤ Int32.toInt (M15_.1 3 1) ∧ Int32.toInt (M15_.1 3 1) ≤ 0 := (by rw [e205_]; exact (show 0 ≤ Int32.toInt 0 ∧ Int32.toInt 0 ≤ 0 from (by decide)))
                refine pw_callGd hT (as := [pvR 3, pvI 4, pvI 2, pvI n4, pvI 0]) (lo1 := [some (pvR 3), some (pvI 4), some (pvI 2), some (pvI n4), some (pvI 0), none, none]) (d1 := d) (rest := []) rfl rfl rfl rfl rfl (fun h => absurd h (by decide)) (Nat.zero_le _) rfl rfl rfl (sf_X0_run_3_4_2_x_0_4 M15_ o17_ n4 (zr_wide b206_ (by decide) (by decide)) b178_ d (Nat.le_trans (by decide) hd)) (fun x208_ M209_ b210_ o211_ g212_ d207_ => ?_)
                have f213_ : pvFr fp_X0_perform_3_x_x_x_x M M209_ := pvfr_t g212_ f18_ fp_X0_perform_3_x_x_x_x_fp_X0_run_3_4_2_x_0_4
                have b214_ : 0 ≤ Int32.toInt (M209_.1 3 1) ∧ Int32.toInt (M209_.1 3 1) ≤ 6 := (by have u0 := b206_; have u1 := d207_; have u2 := pvok_r o211_ 3 1 (lo := 0) (hi := 1000000) rfl; omega)
                exact pw_ret hT rfl (r := some (pvI x208_)) (M' := M209_) ⟨rfl, rfl⟩ ⟨⟨_, rfl, trivial⟩, o211_, f213_⟩
          · have b215_ : 5 ≤ Int32.toInt (M15_.1 3 2) ∧ Int32.toInt (M15_.1 3 2) ≤ 6 := (by have u0 := b176_; have u1 := (not_congr (zi_eq _ _)).mp c177_; have u2 := (show 4 ≤ Int32.toInt 4 ∧ Int32.toInt 4 ≤ 4 from (by decide)); omega)
            by_cases c216_ : (M15_.1 3 2) = 5
            · refine pw_eqI c216_ ?_
              have b217_ : 5 ≤ Int32.toInt (M15_.1 3 2) ∧ Int32.toInt (M15_.1 3 2) ≤ 5 := (by have u0 := b215_; have u1 := (zi_eq _ _).mp c216_; have u2 := (show 5 ≤ Int32.toInt 5 ∧ Int32.toInt 5 ≤ 5 from (by decide)); omega)
              refine pw_blk hT 1 (S' := (32, [some (pvR 3), some (pvR q1), some (pvI n2), some (pvI n3), some (pvI n4)], [pvI n3, pvI 5, pvR 3], M15_)) rfl ⟨trivial, trivial⟩ ?_
              by_cases c218_ : n3 = 0
              · refine pw_eqI c218_ ?_
                have b219_ : 0 ≤ Int32.toInt n3 ∧ Int32.toInt n3 ≤ 0 := (by have u0 := hn3; have u1 := (zi_eq _ _).mp c218_; have u2 := (show 0 ≤ Int32.toInt 0 ∧ Int32.toInt 0 ≤ 0 from (by decide)); omega)
                refine pw_blk hT 2 (S' := (35, [some (pvR 3), some (pvR q1), some (pvI n2), some (pvI n3), some (pvI n4)], [pvI 0, pvI n4, pvI 0, pvI 5, pvR 3], M15_)) rfl ⟨trivial, trivial, trivial⟩ ?_
                have e220_ : (M15_.1 3 1) = 0 := ((((pvu_n e16_ 3 1 (Or.inr (by decide))).trans (pvu_n e12_ 3 1 (Or.inr (by decide)))).trans (pvu_n e7_ 3 1 (Or.inr (by decide)))).trans (pvu_s e2_))
                have b221_ : 0 ≤ Int32.toInt (M15_.1 3 1) ∧ Int32.toInt (M15_.1 3 1) ≤ 0 := (by rw [e220_]; exact (show 0 ≤ Int32.toInt 0 ∧ Int32.toInt 0 ≤ 0 from (by decide)))
                refine pw_callGd hT (as := [pvR 3, pvI 5, pvI 0, pvI n4, pvI 0]) (lo1 := [some (pvR 3), some (pvI 5), some (pvI 0), some (pvI n4), some (pvI 0), none, none]) (d1 := d) (rest := []) rfl rfl rfl rfl rfl (fun h => absurd h (by decide)) (Nat.zero_le _) rfl rfl rfl (sf_X0_run_3_5_0_x_0_5 M15_ o17_ n4 (zr_wide b221_ (by decide) (by decide)) b217_ d (Nat.le_trans (by decide) hd)) (fun x223_ M224_ b225_ o226_ g227_ d222_ => ?_)
                have f228_ : pvFr fp_X0_perform_3_x_x_x_x M M224_ := pvfr_t g227_ f18_ fp_X0_perform_3_x_x_x_x_fp_X0_run_3_5_0_x_0_5
                have b229_ : 0 ≤ Int32.toInt (M224_.1 3 1) ∧ Int32.toInt (M224_.1 3 1) ≤ 2 := (by have u0 := b221_; have u1 := d222_; have u2 := pvok_r o226_ 3 1 (lo := 0) (hi := 1000000) rfl; omega)
                exact pw_ret hT rfl (r := some (pvI x223_)) (M' := M224_) ⟨rfl, rfl⟩ ⟨⟨_, rfl, trivial⟩, o226_, f228_⟩
              · have b230_ : 1 ≤ Int32.toInt n3 ∧ Int32.toInt n3 ≤ 2 := (by have u0 := hn3; have u1 := (not_congr (zi_eq _ _)).mp c218_; have u2 := (show 0 ≤ Int32.toInt 0 ∧ Int32.toInt 0 ≤ 0 from (by decide)); omega)
                by_cases c231_ : n3 = 1
                · refine pw_eqI c231_ ?_
                  have b232_ : 1 ≤ Int32.toInt n3 ∧ Int32.toInt n3 ≤ 1 := (by have u0 := b230_; have u1 := (zi_eq _ _).mp c231_; have u2 := (show 1 ≤ Int32.toInt 1 ∧ Int32.toInt 1 ≤ 1 from (by decide)); omega)
                  refine pw_blk hT 2 (S' := (35, [some (pvR 3), some (pvR q1), some (pvI n2), some (pvI n3), some (pvI n4)], [pvI 0, pvI n4, pvI 1, pvI 5, pvR 3], M15_)) rfl ⟨trivial, trivial, trivial⟩ ?_
                  have e233_ : (M15_.1 3 1) = 0 := ((((pvu_n e16_ 3 1 (Or.inr (by decide))).trans (pvu_n e12_ 3 1 (Or.inr (by decide)))).trans (pvu_n e7_ 3 1 (Or.inr (by decide)))).trans (pvu_s e2_))
                  have b234_ : 0 ≤ Int32.toInt (M15_.1 3 1) ∧ Int32.toInt (M15_.1 3 1) ≤ 0 := (by rw [e233_]; exact (show 0 ≤ Int32.toInt 0 ∧ Int32.toInt 0 ≤ 0 from (by decide)))
                  refine pw_callGd hT (as := [pvR 3, pvI 5, pvI 1, pvI n4, pvI 0]) (lo1 := [some (pvR 3), some (pvI 5), some (pvI 1), some (pvI n4), some (pvI 0), none, none]) (d1 := d) (rest := []) rfl rfl rfl rfl rfl (fun h => absurd h (by decide)) (Nat.zero_le _) rfl rfl rfl (sf_X0_run_3_5_1_x_0_5 M15_ o17_ n4 (zr_wide b234_ (by decide) (by decide)) b217_ d (Nat.le_trans (by decide) hd)) (fun x236_ M237_ b238_ o239_ g240_ d235_ => ?_)
                  have f241_ : pvFr fp_X0_perform_3_x_x_x_x M M237_ := pvfr_t g240_ f18_ fp_X0_perform_3_x_x_x_x_fp_X0_run_3_5_1_x_0_5
                  have b242_ : 0 ≤ Int32.toInt (M237_.1 3 1) ∧ Int32.toInt (M237_.1 3 1) ≤ 3 := (by have u0 := b234_; have u1 := d235_; have u2 := pvok_r o239_ 3 1 (lo := 0) (hi := 1000000) rfl; omega)
                  exact pw_ret hT rfl (r := some (pvI x236_)) (M' := M237_) ⟨rfl, rfl⟩ ⟨⟨_, rfl, trivial⟩, o239_, f241_⟩
                · have b243_ : 2 ≤ Int32.toInt n3 ∧ Int32.toInt n3 ≤ 2 := (by have u0 := b230_; have u1 := (not_congr (zi_eq _ _)).mp c231_; have u2 := (show 1 ≤ Int32.toInt 1 ∧ Int32.toInt 1 ≤ 1 from (by decide)); omega)
                  refine pw_eqI ((zi_eq _ (2)).mpr (by have u0 := b243_; have u1 : Int32.toInt (2) = 2 := (by decide); omega)) ?_
                  refine pw_blk hT 2 (S' := (35, [some (pvR 3), some (pvR q1), some (pvI n2), some (pvI n3), some (pvI n4)], [pvI 0, pvI n4, pvI 2, pvI 5, pvR 3], M15_)) rfl ⟨trivial, trivial, trivial⟩ ?_
                  have e244_ : (M15_.1 3 1) = 0 := ((((pvu_n e16_ 3 1 (Or.inr (by decide))).trans (pvu_n e12_ 3 1 (Or.inr (by decide)))).trans (pvu_n e7_ 3 1 (Or.inr (by decide)))).trans (pvu_s e2_))
                  have b245_ : 0 ≤ Int32.toInt (M15_.1 3 1) ∧ Int32.toInt (M15_.1 3 1) ≤ 0 := (by rw [e244_]; exact (show 0 ≤ Int32.toInt 0 ∧ Int32.toInt 0 ≤ 0 from (by decide)))
                  refine pw_callGd hT (as := [pvR 3, pvI 5, pvI 2, pvI n4, pvI 0]) (lo1 := [some (pvR 3), some (pvI 5), some (pvI 2), some (pvI n4), some (pvI 0), none, none]) (d1 := d) (rest := []) rfl rfl rfl rfl rfl (fun h => absurd h (by decide)) (Nat.zero_le _) rfl rfl rfl (sf_X0_run_3_5_2_x_0_5 M15_ o17_ n4 (zr_wide b245_ (by decide) (by decide)) b217_ d (Nat.le_trans (by decide) hd)) (fun x247_ M248_ b249_ o250_ g251_ d246_ => ?_)
                  have f252_ : pvFr fp_X0_perform_3_x_x_x_x M M248_ := pvfr_t g251_ f18_ fp_X0_perform_3_x_x_x_x_fp_X0_run_3_5_2_x_0_5
                  have b253_ : 0 ≤ Int32.toInt (M248_.1 3 1) ∧ Int32.toInt (M248_.1 3 1) ≤ 5 := (by have u0 := b245_; have u1 := d246_; have u2 := pvok_r o250_ 3 1 (lo := 0) (hi := 1000000) rfl; omega)
                  exact pw_ret hT rfl (r := some (pvI x247_)) (M' := M248_) ⟨rfl, rfl⟩ ⟨⟨_, rfl, trivial⟩, o250_, f252_⟩
            · have b254_ : 6 ≤ Int32.toInt (M15_.1 3 2) ∧ Int32.toInt (M15_.1 3 2) ≤ 6 := (by have u0 := b215_; have u1 := (not_congr (zi_eq _ _)).mp c216_; have u2 := (show 5 ≤ Int32.toInt 5 ∧ Int32.toInt 5 ≤ 5 from (by decide)); omega)
              refine pw_eqI ((zi_eq _ (6)).mpr (by have u0 := b254_; have u1 : Int32.toInt (6) = 6 := (by decide); omega)) ?_
              refine pw_blk hT 1 (S' := (32, [some (pvR 3), some (pvR q1), some (pvI n2), some (pvI n3), some (pvI n4)], [pvI n3, pvI 6, pvR 3], M15_)) rfl ⟨trivial, trivial⟩ ?_
              by_cases c255_ : n3 = 0
              · refine pw_eqI c255_ ?_
                have b256_ : 0 ≤ Int32.toInt n3 ∧ Int32.toInt n3 ≤ 0 := (by have u0 := hn3; have u1 := (zi_eq _ _).mp c255_; have u2 := (show 0 ≤ Int32.toInt 0 ∧ Int32.toInt 0 ≤ 0 from (by decide)); omega)
                refine pw_blk hT 2 (S' := (35, [some (pvR 3), some (pvR q1), some (pvI n2), some (pvI n3), some (pvI n4)], [pvI 0, pvI n4, pvI 0, pvI 6, pvR 3], M15_)) rfl ⟨trivial, trivial, trivial⟩ ?_
                have e257_ : (M15_.1 3 1) = 0 := ((((pvu_n e16_ 3 1 (Or.inr (by decide))).trans (pvu_n e12_ 3 1 (Or.inr (by decide)))).trans (pvu_n e7_ 3 1 (Or.inr (by decide)))).trans (pvu_s e2_))
                have b258_ : 0 ≤ Int32.toInt (M15_.1 3 1) ∧ Int32.toInt (M15_.1 3 1) ≤ 0 := (by rw [e257_]; exact (show 0 ≤ Int32.toInt 0 ∧ Int32.toInt 0 ≤ 0 from (by decide)))
                refine pw_callGd hT (as := [pvR 3, pvI 6, pvI 0, pvI n4, pvI 0]) (lo1 := [some (pvR 3), some (pvI 6), some (pvI 0), some (pvI n4), some (pvI 0), none, none]) (d1 := d) (rest := []) rfl rfl rfl rfl rfl (fun h => absurd h (by decide)) (Nat.zero_le _) rfl rfl rfl (sf_X0_run_3_6_0_x_0_6 M15_ o17_ n4 (zr_wide b258_ (by decide) (by decide)) b254_ d (Nat.le_trans (by decide) hd)) (fun x260_ M261_ b262_ o263_ g264_ d259_ => ?_)
                have f265_ : pvFr fp_X0_perform_3_x_x_x_x M M261_ := pvfr_t g264_ f18_ fp_X0_perform_3_x_x_x_x_fp_X0_run_3_6_0_x_0_6
                have b266_ : 0 ≤ Int32.toInt (M261_.1 3 1) ∧ Int32.toInt (M261_.1 3 1) ≤ 2 := (by have u0 := b258_; have u1 := d259_; have u2 := pvok_r o263_ 3 1 (lo := 0) (hi := 1000000) rfl; omega)
                exact pw_ret hT rfl (r := some (pvI x260_)) (M' := M261_) ⟨rfl, rfl⟩ ⟨⟨_, rfl, trivial⟩, o263_, f265_⟩
              · have b267_ : 1 ≤ Int32.toInt n3 ∧ Int32.toInt n3 ≤ 2 := (by have u0 := hn3; have u1 := (not_congr (zi_eq _ _)).mp c255_; have u2 := (show 0 ≤ Int32.toInt 0 ∧ Int32.toInt 0 ≤ 0 from (by decide)); omega)
                by_cases c268_ : n3 = 1
                · refine pw_eqI c268_ ?_
                  have b269_ : 1 ≤ Int32.toInt n3 ∧ Int32.toInt n3 ≤ 1 := (by have u0 := b267_; have u1 := (zi_eq _ _).mp c268_; have u2 := (show 1 ≤ Int32.toInt 1 ∧ Int32.toInt 1 ≤ 1 from (by decide)); omega)
                  refine pw_blk hT 2 (S' := (35, [some (pvR 3), some (pvR q1), some (pvI n2), some (pvI n3), some (pvI n4)], [pvI 0, pvI n4, pvI 1, pvI 6, pvR 3], M15_)) rfl ⟨trivial, trivial, trivial⟩ ?_
                  have e270_ : (M15_.1 3 1) = 0 := ((((pvu_n e16_ 3 1 (Or.inr (by decide))).trans (pvu_n e12_ 3 1 (Or.inr (by decide)))).trans (pvu_n e7_ 3 1 (Or.inr (by decide)))).trans (pvu_s e2_))
                  have b271_ : 0 ≤ Int32.toInt (M15_.1 3 1) ∧ Int32.toInt (M15_.1 3 1) ≤ 0 := (by rw [e270_]; exact (show 0 ≤ Int32.toInt 0 ∧ Int32.toInt 0 ≤ 0 from (by decide)))
                  refine pw_callGd hT (as := [pvR 3, pvI 6, pvI 1, pvI n4, pvI 0]) (lo1 := [some (pvR 3), some (pvI 6), some (pvI 1), some (pvI n4), some (pvI 0), none, none]) (d1 := d) (rest := []) rfl rfl rfl rfl rfl (fun h => absurd h (by decide)) (Nat.zero_le _) rfl rfl rfl (sf_X0_run_3_6_1_x_0_6 M15_ o17_ n4 (zr_wide b271_ (by decide) (by decide)) b254_ d (Nat.le_trans (by decide) hd)) (fun x273_ M274_ b275_ o276_ g277_ d272_ => ?_)
                  have f278_ : pvFr fp_X0_perform_3_x_x_x_x M M274_ := pvfr_t g277_ f18_ fp_X0_perform_3_x_x_x_x_fp_X0_run_3_6_1_x_0_6
                  have b279_ : 0 ≤ Int32.toInt (M274_.1 3 1) ∧ Int32.toInt (M274_.1 3 1) ≤ 5 := (by have u0 := b271_; have u1 := d272_; have u2 := pvok_r o276_ 3 1 (lo := 0) (hi := 1000000) rfl; omega)
                  exact pw_ret hT rfl (r := some (pvI x273_)) (M' := M274_) ⟨rfl, rfl⟩ ⟨⟨_, rfl, trivial⟩, o276_, f278_⟩
                · have b280_ : 2 ≤ Int32.toInt n3 ∧ Int32.toInt n3 ≤ 2 := (by have u0 := b267_; have u1 := (not_congr (zi_eq _ _)).mp c268_; have u2 := (show 1 ≤ Int32.toInt 1 ∧ Int32.toInt 1 ≤ 1 from (by decide)); omega)
                  refine pw_eqI ((zi_eq _ (2)).mpr (by have u0 := b280_; have u1 : Int32.toInt (2) = 2 := (by decide); omega)) ?_
                  refine pw_blk hT 2 (S' := (35, [some (pvR 3), some (pvR q1), some (pvI n2), some (pvI n3), some (pvI n4)], [pvI 0, pvI n4, pvI 2, pvI 6, pvR 3], M15_)) rfl ⟨trivial, trivial, trivial⟩ ?_
                  have e281_ : (M15_.1 3 1) = 0 := ((((pvu_n e16_ 3 1 (Or.inr (by decide))).trans (pvu_n e12_ 3 1 (Or.inr (by decide)))).trans (pvu_n e7_ 3 1 (Or.inr (by decide)))).trans (pvu_s e2_))
                  have b282_ : 0 ≤ Int32.toInt (M15_.1 3 1) ∧ Int32.toInt (M15_.1 3 1) ≤ 0 := (by rw [e281_]; exact (show 0 ≤ Int32.toInt 0 ∧ Int32.toInt 0 ≤ 0 from (by decide)))
                  refine pw_callGd hT (as := [pvR 3, pvI 6, pvI 2, pvI n4, pvI 0]) (lo1 := [some (pvR 3), some (pvI 6), some (pvI 2), some (pvI n4), some (pvI 0), none, none]) (d1 := d) (rest := []) rfl rfl rfl rfl rfl (fun h => absurd h (by decide)) (Nat.zero_le _) rfl rfl rfl (sf_X0_run_3_6_2_x_0_6 M15_ o17_ n4 (zr_wide b282_ (by decide) (by decide)) b254_ d (Nat.le_trans (by decide) hd)) (fun x284_ M285_ b286_ o287_ g288_ d283_ => ?_)
                  have f289_ : pvFr fp_X0_perform_3_x_x_x_x M M285_ := pvfr_t g288_ f18_ fp_X0_perform_3_x_x_x_x_fp_X0_run_3_6_2_x_0_6
                  have b290_ : 0 ≤ Int32.toInt (M285_.1 3 1) ∧ Int32.toInt (M285_.1 3 1) ≤ 12 := (by have u0 := b282_; have u1 := d283_; have u2 := pvok_r o287_ 3 1 (lo := 0) (hi := 1000000) rfl; omega)
                  exact pw_ret hT rfl (r := some (pvI x284_)) (M' := M285_) ⟨rfl, rfl⟩ ⟨⟨_, rfl, trivial⟩, o287_, f289_⟩
