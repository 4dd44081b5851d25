def fpL_eX5_readTest_6 : List (Nat × Nat × Nat) := [(0, 6, 3), (0, 6, 4), (1, 111, 0), (1, 2, 6)]
def fp_eX5_readTest_6 (q k : Nat) : Bool := pvfp fpL_eX5_readTest_6 q k
theorem fp_eX5_readTest_6_fp_eX2_addTest_x_x_x_x (a b : Nat) (h : fp_eX2_addTest_x_x_x_x a b = true) : fp_eX5_readTest_6 a b = true := pvfp_sub (l1 := fpL_eX2_addTest_x_x_x_x) (l2 := fpL_eX5_readTest_6) (by decide) a b h
theorem fp_eX5_readTest_6_fp_eX5_readNumber_6 (a b : Nat) (h : fp_eX5_readNumber_6 a b = true) : fp_eX5_readTest_6 a b = true := pvfp_sub (l1 := fpL_eX5_readNumber_6) (l2 := fpL_eX5_readTest_6) (by decide) a b h
theorem fp_eX5_readTest_6_fp_eX5_readOneOf_6_x (a b : Nat) (h : fp_eX5_readOneOf_6_x a b = true) : fp_eX5_readTest_6 a b = true := pvfp_sub (l1 := fpL_eX5_readOneOf_6_x) (l2 := fpL_eX5_readTest_6) (by decide) a b h
set_option maxHeartbeats 4000000 in
set_option maxRecDepth 10000 in
theorem se_X5_readTest_6 (M : pvM) (hok : pvOk M) (hx0 : (Int32.toInt (M.1 6 3) ≤ -1 ∨ Int32.toInt (M.1 6 2) ≤ 99)) (hs : zRs M) (d : Nat) : PW 148 d (0, [some (pvR 6), none, none, none], [], M) (fun r X => (∃ x : Int32, r = some (pvI x) ∧ 0 ≤ Int32.toInt x ∧ Int32.toInt x ≤ 1) ∧ pvOk X ∧ pvFr fp_eX5_readTest_6 M X ∧ ((Int32.toInt (X.1 6 3) ≤ -1 ∨ Int32.toInt (X.1 6 2) ≤ 99)) ∧ zRc zTt r M X) := by
  have hT : pvdom 148 = pvD_148 := rfl
  have b1_ : (-1) ≤ Int32.toInt (M.1 6 2) ∧ Int32.toInt (M.1 6 2) ≤ 100 := pvok_r hok 6 2 rfl
  have b2_ : (-1) ≤ Int32.toInt (M.1 6 3) ∧ Int32.toInt (M.1 6 3) ≤ 127 := pvok_r hok 6 3 rfl
  refine pw_blk hT 2 (S' := (3, [some (pvR 6), none, none, none], [pvR 1015, pvR 6], M)) rfl ⟨trivial, (by decide), trivial⟩ ?_
  refine pw_callGd hT (as := [pvR 6, pvR 1015]) (lo1 := [some (pvR 6), some (pvR 1015), none]) (d1 := d) (rest := []) rfl rfl rfl rfl rfl (fun _ => rfl) (Nat.zero_le _) rfl rfl rfl (se_X5_readOneOf_6_x M hok 1015 ⟨by decide, by decide⟩ (show (Int32.toInt (M.1 6 3) ≤ -1 ∨ Int32.toInt (M.1 6 2) ≤ 99) from (by omega)) hs.1 d) (fun x4_ M5_ b6_ o7_ g8_ d3_ => ?_)
  have f9_ : pvFr fp_eX5_readTest_6 M M5_ := pvfr_t g8_ pvfr_0 fp_eX5_readTest_6_fp_eX5_readOneOf_6_x
  refine pw_blk hT 2 (S' := (8, [some (pvR 6), some (pvI x4_), none, none], [pvI x4_], M5_)) rfl ⟨trivial, trivial, trivial⟩ ?_
  refine pw_if hT (c := 0 ≤ x4_) rfl rfl (fun c10_ => ?_) (fun c10_ => ?_)
  · have b11_ : 0 ≤ Int32.toInt x4_ ∧ Int32.toInt x4_ ≤ 5 := zr_le_r 0 c10_ b6_ (show 0 ≤ Int32.toInt 0 ∧ Int32.toInt 0 ≤ 0 from (by decide)) (by decide)
    refine pw_blk hT 2 (S' := (16, [some (pvR 6), some (pvI x4_), none, none], [pvR 1016, pvR 6], M5_)) rfl ⟨trivial, (by decide), trivial⟩ ?_
    have b12_ : (-1) ≤ Int32.toInt (M5_.1 6 2) ∧ Int32.toInt (M5_.1 6 2) ≤ 100 := pvok_r o7_ 6 2 rfl
    have b13_ : (-1) ≤ Int32.toInt (M5_.1 6 3) ∧ Int32.toInt (M5_.1 6 3) ≤ 127 := pvok_r o7_ 6 3 rfl
    refine pw_callGd hT (as := [pvR 6, pvR 1016]) (lo1 := [some (pvR 6), some (pvR 1016), none]) (d1 := d) (rest := []) rfl rfl rfl rfl rfl (fun _ => rfl) (Nat.zero_le _) rfl rfl rfl (se_X5_readOneOf_6_x M5_ o7_ 1016 ⟨by decide, by decide⟩ (show (Int32.toInt (M5_.1 6 3) ≤ -1 ∨ Int32.toInt (M5_.1 6 2) ≤ 99) from (by omega)) d3_.2.1 d) (fun x15_ M16_ b17_ o18_ g19_ d14_ => ?_)
    have f20_ : pvFr fp_eX5_readTest_6 M M16_ := pvfr_t g19_ f9_ fp_eX5_readTest_6_fp_eX5_readOneOf_6_x
    refine pw_blk hT 2 (S' := (21, [some (pvR 6), some (pvI x4_), some (pvI x15_), none], [pvI x15_], M16_)) rfl ⟨trivial, trivial, trivial⟩ ?_
    refine pw_if hT (c := 0 ≤ x15_) rfl rfl (fun c21_ => ?_) (fun c21_ => ?_)
    · have b22_ : 0 ≤ Int32.toInt x15_ ∧ Int32.toInt x15_ ≤ 5 := zr_le_r 0 c21_ b17_ (show 0 ≤ Int32.toInt 0 ∧ Int32.toInt 0 ≤ 0 from (by decide)) (by decide)
      refine pw_blk hT 1 (S' := (27, [some (pvR 6), some (pvI x4_), some (pvI x15_), none], [pvR 6], M16_)) rfl ⟨trivial, trivial⟩ ?_
      have b23_ : (-1) ≤ Int32.toInt (M16_.1 6 2) ∧ Int32.toInt (M16_.1 6 2) ≤ 100 := pvok_r o18_ 6 2 rfl
      have b24_ : (-1) ≤ Int32.toInt (M16_.1 6 3) ∧ Int32.toInt (M16_.1 6 3) ≤ 127 := pvok_r o18_ 6 3 rfl
      refine pw_callGd hT (as := [pvR 6]) (lo1 := [some (pvR 6), none]) (d1 := d) (rest := []) rfl rfl rfl rfl rfl (fun _ => rfl) (Nat.zero_le _) rfl rfl rfl (se_X5_readNumber_6 M16_ o18_ (show (Int32.toInt (M16_.1 6 3) ≤ -1 ∨ Int32.toInt (M16_.1 6 2) ≤ 99) from (by omega)) d14_.2.1 d) (fun x26_ M27_ b28_ o29_ g30_ d25_ => ?_)
      have f31_ : pvFr fp_eX5_readTest_6 M M27_ := pvfr_t g30_ f20_ fp_eX5_readTest_6_fp_eX5_readNumber_6
      refine pw_blk hT 2 (S' := (32, [some (pvR 6), some (pvI x4_), some (pvI x15_), some (pvI x26_)], [pvI x26_], M27_)) rfl ⟨trivial, trivial, trivial⟩ ?_
      refine pw_if hT (c := 0 ≤ x26_) rfl rfl (fun c32_ => ?_) (fun c32_ => ?_)
      · have b33_ : 0 ≤ Int32.toInt x26_ ∧ Int32.toInt x26_ ≤ 99 := zr_le_r 0 c32_ b28_ (show 0 ≤ Int32.toInt 0 ∧ Int32.toInt 0 ≤ 0 from (by decide)) (by decide)
        have b34_ : 15 ≤ Int32.toInt (M27_.1 6 4) ∧ Int32.toInt (M27_.1 6 4) ≤ 23 := pvok_r o29_ 6 4 rfl
        refine pw_blkr hT 2 (pc := 41) (lo := [some (pvR 6), some (pvI x4_), some (pvI x15_), some (pvI x26_)]) (st := []) (M := M27_) (z := (pvhp (M27_.1 6 4))) rfl ⟨trivial, rfl, trivial⟩ (fun q35_ e37_ => ?_)
        have k36_ : pvkl q35_ = 2 := pvhp_k b34_ e37_
        refine pw_blk hT 3 (S' := (44, [some (pvR 6), some (pvI x4_), some (pvI x15_), some (pvI x26_)], [pvI x26_, pvI x15_, pvI x4_, pvR q35_], M27_)) rfl ⟨trivial, trivial, trivial, trivial⟩ ?_
        refine pw_callVd hT (as := [pvR q35_, pvI x4_, pvI x15_, pvI x26_]) (lo1 := [some (pvR q35_), some (pvI x4_), some (pvI x15_), some (pvI x26_)]) (d1 := d) (rest := []) rfl rfl rfl rfl rfl (fun _ => k36_) (Nat.zero_le _) rfl rfl rfl (se_X2_addTest_x_x_x_x M27_ o29_ q35_ x4_ x15_ x26_ k36_ b11_ b22_ b33_ d) (fun M40_ o42_ g43_ d38_ => ?_)
        have f44_ : pvFr fp_eX5_readTest_6 M M40_ := pvfr_t g43_ f31_ fp_eX5_readTest_6_fp_eX2_addTest_x_x_x_x
        refine pw_blk hT 1 (S' := (48, [some (pvR 6), some (pvI x4_), some (pvI x15_), some (pvI x26_)], [pvI 1], M40_)) rfl ⟨trivial, trivial⟩ ?_
        have e45_ : (M40_.1 6 2) = (M27_.1 6 2) := (g43_ 6 2 rfl)
        have b46_ : (-1) ≤ Int32.toInt (M40_.1 6 2) ∧ Int32.toInt (M40_.1 6 2) ≤ 100 := pvok_r o42_ 6 2 rfl
        have d47_ : Int32.toInt (M40_.1 6 2) = Int32.toInt (M27_.1 6 2) := congrArg Int32.toInt e45_
        have e48_ : (M40_.1 6 3) = (M27_.1 6 3) := (g43_ 6 3 rfl)
        have b49_ : (-1) ≤ Int32.toInt (M40_.1 6 3) ∧ Int32.toInt (M40_.1 6 3) ≤ 127 := pvok_r o42_ 6 3 rfl
        have d50_ : Int32.toInt (M40_.1 6 3) = Int32.toInt (M27_.1 6 3) := congrArg Int32.toInt e48_
        exact pw_ret hT rfl (r := some (pvI 1)) (M' := M40_) ⟨Or.inr rfl, rfl, rfl⟩ ⟨⟨_, rfl, (zr_wide (show 1 ≤ Int32.toInt 1 ∧ Int32.toInt 1 ≤ 1 from (by decide)) (by decide) (by decide))⟩, o42_, f44_, (by omega), (zTt_4 hs d3_.2 (by have u := b11_; omega) d14_.2 (by have u := b22_; omega) d25_.2 (by have u := b33_; omega) e37_ d38_)⟩
      · have b51_ : (-1) ≤ Int32.toInt x26_ ∧ Int32.toInt x26_ ≤ (-1) := zr_nle_r (-1) c32_ b28_ (show 0 ≤ Int32.toInt 0 ∧ Int32.toInt 0 ≤ 0 from (by decide)) (by decide)
        refine pw_blk hT 1 (S' := (36, [some (pvR 6), some (pvI x4_), some (pvI x15_), some (pvI x26_)], [pvI 0], M27_)) rfl ⟨trivial, trivial⟩ ?_
        have b52_ : (-1) ≤ Int32.toInt (M27_.1 6 2) ∧ Int32.toInt (M27_.1 6 2) ≤ 100 := pvok_r o29_ 6 2 rfl
        have b53_ : (-1) ≤ Int32.toInt (M27_.1 6 3) ∧ Int32.toInt (M27_.1 6 3) ≤ 127 := pvok_r o29_ 6 3 rfl
        exact pw_ret hT rfl (r := some (pvI 0)) (M' := M27_) ⟨Or.inl rfl, rfl, rfl⟩ ⟨⟨_, rfl, (zr_wide (show 0 ≤ Int32.toInt 0 ∧ Int32.toInt 0 ≤ 0 from (by decide)) (by decide) (by decide))⟩, o29_, f31_, (by omega), (zTt_3 d3_.2 (by have u := b11_; omega) d14_.2 (by have u := b22_; omega) d25_.2 (by have u := b51_; omega))⟩
    · have b54_ : (-1) ≤ Int32.toInt x15_ ∧ Int32.toInt x15_ ≤ (-1) := zr_nle_r (-1) c21_ b17_ (show 0 ≤ Int32.toInt 0 ∧ Int32.toInt 0 ≤ 0 from (by decide)) (by decide)
      refine pw_blk hT 1 (S' := (25, [some (pvR 6), some (pvI x4_), some (pvI x15_), none], [pvI 0], M16_)) rfl ⟨trivial, trivial⟩ ?_
      have b55_ : (-1) ≤ Int32.toInt (M16_.1 6 2) ∧ Int32.toInt (M16_.1 6 2) ≤ 100 := pvok_r o18_ 6 2 rfl
      have b56_ : (-1) ≤ Int32.toInt (M16_.1 6 3) ∧ Int32.toInt (M16_.1 6 3) ≤ 127 := pvok_r o18_ 6 3 rfl
      exact pw_ret hT rfl (r := some (pvI 0)) (M' := M16_) ⟨Or.inl rfl, rfl, rfl⟩ ⟨⟨_, rfl, (zr_wide (show 0 ≤ Int32.toInt 0 ∧ Int32.toInt 0 ≤ 0 from (by decide)) (by decide) (by decide))⟩, o18_, f20_, (by omega), (zTt_2 d3_.2 (by have u := b11_; omega) d14_.2 (by have u := b54_; omega))⟩
  · have b57_ : (-1) ≤ Int32.toInt x4_ ∧ Int32.toInt x4_ ≤ (-1) := zr_nle_r (-1) c10_ b6_ (show 0 ≤ Int32.toInt 0 ∧ Int32.toInt 0 ≤ 0 from (by decide)) (by decide)
    refine pw_blk hT 1 (S' := (12, [some (pvR 6), some (pvI x4_), none, none], [pvI 0], M5_)) rfl ⟨trivial, trivial⟩ ?_
    have b58_ : (-1) ≤ Int32.toInt (M5_.1 6 2) ∧ Int32.toInt (M5_.1 6 2) ≤ 100 := pvok_r o7_ 6 2 rfl
    have b59_ : (-1) ≤ Int32.toInt (M5_.1 6 3) ∧ Int32.toInt (M5_.1 6 3) ≤ 127 := pvok_r o7_ 6 3 rfl
    exact pw_ret hT rfl (r := some (pvI 0)) (M' := M5_) ⟨Or.inl rfl, rfl, rfl⟩ ⟨⟨_, rfl, (zr_wide (show 0 ≤ Int32.toInt 0 ∧ Int32.toInt 0 ≤ 0 from (by decide)) (by decide) (by decide))⟩, o7_, f9_, (by omega), (zTt_1 d3_.2 (by have u := b57_; omega))⟩
def fpL_eX5_readOne_6_4 : List (Nat × Nat × Nat) := [(0, 6, 3), (0, 6, 4), (1, 111, 0), (1, 2, 6)]
def fp_eX5_readOne_6_4 (q k : Nat) : Bool := pvfp fpL_eX5_readOne_6_4 q k
theorem fp_eX5_readOne_6_4_fp_eX5_readTest_6 (a b : Nat) (h : fp_eX5_readTest_6 a b = true) : fp_eX5_readOne_6_4 a b = true := pvfp_sub (l1 := fpL_eX5_readTest_6) (l2 := fpL_eX5_readOne_6_4) (by decide) a b h
set_option maxHeartbeats 4000000 in
set_option maxRecDepth 10000 in
theorem se_X5_readOne_6_4 (M : pvM) (hok : pvOk M) (hx0 : (Int32.toInt (M.1 6 3) ≤ -1 ∨ Int32.toInt (M.1 6 2) ≤ 99)) (hs : zRs M) (d : Nat) : PW 145 d (0, [some (pvR 6), some (pvI 4), none, none], [], M) (fun r X => (∃ x : Int32, r = some (pvI x) ∧ 0 ≤ Int32.toInt x ∧ Int32.toInt x ≤ 1) ∧ pvOk X ∧ pvFr fp_eX5_readOne_6_4 M X ∧ ((Int32.toInt (X.1 6 3) ≤ -1 ∨ Int32.toInt (X.1 6 2) ≤ 99)) ∧ zRc (zTO 4) r M X) := by
  have hT : pvdom 145 = pvD_145 := rfl
  have b1_ : (-1) ≤ Int32.toInt (M.1 6 2) ∧ Int32.toInt (M.1 6 2) ≤ 100 := pvok_r hok 6 2 rfl
  have b2_ : (-1) ≤ Int32.toInt (M.1 6 3) ∧ Int32.toInt (M.1 6 3) ≤ 127 := pvok_r hok 6 3 rfl
  refine pw_blk hT 2 (S' := (2, [some (pvR 6), some (pvI 4), some (pvI 4), none], [], M)) rfl ⟨trivial, trivial, trivial⟩ ?_
  refine pw_blk hT 2 (S' := (4, [some (pvR 6), some (pvI 4), some (pvI 4), none], [pvI 4, pvI 4], M)) rfl ⟨trivial, trivial, trivial⟩ ?_
  refine pw_ic hT (c := 4 ≤ 4) rfl rfl (fun c3_ => ?_) (fun c3_ => absurd (by decide) c3_)
  refine pw_blk hT 2 (S' := (24, [some (pvR 6), some (pvI 4), some (pvI 4), none], [pvI 4, pvI 4], M)) rfl ⟨trivial, trivial, trivial⟩ ?_
  refine pw_ic hT (c := 4 ≤ 4) rfl rfl (fun c4_ => ?_) (fun c4_ => absurd (by decide) c4_)
  refine pw_blk hT 1 (S' := (64, [some (pvR 6), some (pvI 4), some (pvI 4), none], [pvR 6], M)) rfl ⟨trivial, trivial⟩ ?_
  refine pw_callGd hT (as := [pvR 6]) (lo1 := [some (pvR 6), none, none, none]) (d1 := d) (rest := []) rfl rfl rfl rfl rfl (fun _ => rfl) (Nat.zero_le _) rfl rfl rfl (se_X5_readTest_6 M hok (show (Int32.toInt (M.1 6 3) ≤ -1 ∨ Int32.toInt (M.1 6 2) ≤ 99) from (by omega)) (zOm9_rs hs (zOm9_f (zOn9_0 (d := 4) hs (by decide)) (by decide))) d) (fun x6_ M7_ b8_ o9_ g10_ d5_ => ?_)
  have f11_ : pvFr fp_eX5_readOne_6_4 M M7_ := pvfr_t g10_ pvfr_0 fp_eX5_readOne_6_4_fp_eX5_readTest_6
  refine pw_blk hT 7 (S' := (74, [some (pvR 6), some (pvI 4), some (pvI 4), some (pvI x6_)], [pvI 1, pvI ((4 - 4) - (4 - 4) / 2 * 2)], M7_)) rfl ⟨trivial, trivial, trivial, trivial, trivial, (by decide), trivial, trivial⟩ ?_
  refine pw_icn hT (c := ((4 - 4) - (4 - 4) / 2 * 2) = 1) rfl rfl (fun c12_ => ?_) (fun c12_ => absurd c12_ (by decide))
  refine pw_blk hT 1 (S' := (86, [some (pvR 6), some (pvI 4), some (pvI 4), some (pvI x6_)], [pvI x6_], M7_)) rfl ⟨trivial, trivial⟩ ?_
  have b13_ : (-1) ≤ Int32.toInt (M7_.1 6 2) ∧ Int32.toInt (M7_.1 6 2) ≤ 100 := pvok_r o9_ 6 2 rfl
  have b14_ : (-1) ≤ Int32.toInt (M7_.1 6 3) ∧ Int32.toInt (M7_.1 6 3) ≤ 127 := pvok_r o9_ 6 3 rfl
  exact pw_ret hT rfl (r := some (pvI x6_)) (M' := M7_) ⟨pv01 b8_, rfl, rfl⟩ ⟨⟨_, rfl, b8_⟩, o9_, f11_, (by omega), (zOe_e (zOt9 hs (zOm9_f (zOn9_0 (d := 4) hs (by decide)) (by decide)) (fun q => absurd q (by decide)) d5_.2 (pv01 b8_)) (by decide))⟩
def fpL_eX5_readAll_6_4 : List (Nat × Nat × Nat) := [(0, 6, 3), (0, 6, 4), (1, 111, 0), (1, 2, 6)]
def fp_eX5_readAll_6_4 (q k : Nat) : Bool := pvfp fpL_eX5_readAll_6_4 q k
theorem fp_eX5_readAll_6_4_fp_eX2_addStep_x_x (a b : Nat) (h : fp_eX2_addStep_x_x a b = true) : fp_eX5_readAll_6_4 a b = true := pvfp_sub (l1 := fpL_eX2_addStep_x_x) (l2 := fpL_eX5_readAll_6_4) (by decide) a b h
theorem fp_eX5_readAll_6_4_fp_eX5_readOne_6_4 (a b : Nat) (h : fp_eX5_readOne_6_4 a b = true) : fp_eX5_readAll_6_4 a b = true := pvfp_sub (l1 := fpL_eX5_readOne_6_4) (l2 := fpL_eX5_readAll_6_4) (by decide) a b h
theorem fp_eX5_readAll_6_4_fp_eX5_readSign_6_x (a b : Nat) (h : fp_eX5_readSign_6_x a b = true) : fp_eX5_readAll_6_4 a b = true := pvfp_sub (l1 := fpL_eX5_readSign_6_x) (l2 := fpL_eX5_readAll_6_4) (by decide) a b h
set_option maxHeartbeats 4000000 in
set_option maxRecDepth 10000 in
theorem se_X5_readAll_6_4 (M : pvM) (hok : pvOk M) (hx0 : (Int32.toInt (M.1 6 3) ≤ -1 ∨ Int32.toInt (M.1 6 2) ≤ 99)) (hs : zRs M) (d : Nat) : PW 140 d (0, [some (pvR 6), some (pvI 4), none], [], M) (fun r X => (∃ x : Int32, r = some (pvI x) ∧ 0 ≤ Int32.toInt x ∧ Int32.toInt x ≤ 1) ∧ pvOk X ∧ pvFr fp_eX5_readAll_6_4 M X ∧ ((Int32.toInt (X.1 6 3) ≤ -1 ∨ Int32.toInt (X.1 6 2) ≤ 99)) ∧ zRc (zTT 4) r M X) := by
  have hT : pvdom 140 = pvD_140 := rfl
  have b1_ : (-1) ≤ Int32.toInt (M.1 6 2) ∧ Int32.toInt (M.1 6 2) ≤ 100 := pvok_r hok 6 2 rfl
  have b2_ : (-1) ≤ Int32.toInt (M.1 6 3) ∧ Int32.toInt (M.1 6 3) ≤ 127 := pvok_r hok 6 3 rfl
  refine pw_blk hT 2 (S' := (2, [some (pvR 6), some (pvI 4), some (pvI 0)], [], M)) rfl ⟨trivial, trivial, trivial⟩ ?_
  have hlz217_ : ∀ (nz217_ : Nat) (i2z217_ : Int32) (Mz217_ : pvM), (pvOk Mz217_) → (pvFr fp_eX5_readAll_6_4 M Mz217_) → (0 ≤ Int32.toInt i2z217_ ∧ Int32.toInt i2z217_ ≤ 100) → ((Int32.toInt (Mz217_.1 6 3) ≤ -1 ∨ Int32.toInt (Mz217_.1 6 2) ≤ 99)) → (zLT9 4 (Int32.toNatClampNeg i2z217_) M Mz217_) → (zhide ((101 - Int32.toInt i2z217_).toNat < nz217_)) → PW 140 d (2, [some (pvR 6), some (pvI 4), some (pvI i2z217_)], [], Mz217_) (fun r X => (∃ x : Int32, r = some (pvI x) ∧ 0 ≤ Int32.toInt x ∧ Int32.toInt x ≤ 1) ∧ pvOk X ∧ pvFr fp_eX5_readAll_6_4 M X ∧ ((Int32.toInt (X.1 6 3) ≤ -1 ∨ Int32.toInt (X.1 6 2) ≤ 99)) ∧ zRc (zTT 4) r M X) := by
    intro nz217_
    induction nz217_ with
    | zero => intro i2z217_ Mz217_ oz217_ fz217_ h2z217_ j0z217_ j1z217_ hmz217_; exact absurd (zshow hmz217_) (Nat.not_lt_zero _)
    | succ nz217_ ihz217_ =>
      intro i2z217_ Mz217_ oz217_ fz217_ h2z217_ j0z217_ j1z217_ hmz217_
      have b218_ : (-1) ≤ Int32.toInt (Mz217_.1 6 2) ∧ Int32.toInt (Mz217_.1 6 2) ≤ 100 := pvok_r oz217_ 6 2 rfl
      have b219_ : (-1) ≤ Int32.toInt (Mz217_.1 6 3) ∧ Int32.toInt (Mz217_.1 6 3) ≤ 127 := pvok_r oz217_ 6 3 rfl
      refine pw_blk hT 2 (S' := (5, [some (pvR 6), some (pvI 4), some (pvI i2z217_)], [pvI 100, pvI i2z217_], Mz217_)) rfl ⟨trivial, trivial, trivial⟩ ?_
      refine pw_ic hT (c := 100 ≤ i2z217_) rfl rfl (fun c220_ => ?_) (fun c220_ => ?_)
      · have b221_ : 100 ≤ Int32.toInt i2z217_ ∧ Int32.toInt i2z217_ ≤ 100 := zr_le_r 100 c220_ h2z217_ (show 100 ≤ Int32.toInt 100 ∧ Int32.toInt 100 ≤ 100 from (by decide)) (by decide)
        refine pw_blk hT 1 (S' := (49, [some (pvR 6), some (pvI 4), some (pvI i2z217_)], [pvI 0], Mz217_)) rfl ⟨trivial, trivial⟩ ?_
        exact pw_ret hT rfl (r := some (pvI 0)) (M' := Mz217_) ⟨Or.inl rfl, rfl, rfl⟩ ⟨⟨_, rfl, (zr_wide (show 0 ≤ Int32.toInt 0 ∧ Int32.toInt 0 ≤ 0 from (by decide)) (by decide) (by decide))⟩, oz217_, fz217_, (by omega), ((zLT9_x j1z217_ (show 100 ≤ (Int32.toInt i2z217_).toNat from by have u := b221_; omega)).elim)⟩
      · have b222_ : 0 ≤ Int32.toInt i2z217_ ∧ Int32.toInt i2z217_ ≤ 99 := zr_nle_r 99 c220_ h2z217_ (show 100 ≤ Int32.toInt 100 ∧ Int32.toInt 100 ≤ 100 from (by decide)) (by decide)
        refine pw_blk hT 2 (S' := (10, [some (pvR 6), some (pvI 4), some (pvI i2z217_)], [pvI 4, pvR 6], Mz217_)) rfl ⟨trivial, trivial, trivial⟩ ?_
        have u223_ : Int32.toInt 4 = 4 := by decide
        refine pw_callGd hT (as := [pvR 6, pvI 4]) (lo1 := [some (pvR 6), some (pvI 4), none, none]) (d1 := d) (rest := []) rfl rfl rfl rfl rfl (fun _ => rfl) (Nat.zero_le _) rfl rfl rfl (se_X5_readOne_6_4 Mz217_ oz217_ (show (Int32.toInt (Mz217_.1 6 3) ≤ -1 ∨ Int32.toInt (Mz217_.1 6 2) ≤ 99) from (by omega)) (zLT9_rs hs j1z217_) d) (fun x225_ M226_ b227_ o228_ g229_ d224_ => ?_)
        have f230_ : pvFr fp_eX5_readAll_6_4 M M226_ := pvfr_t g229_ fz217_ fp_eX5_readAll_6_4_fp_eX5_readOne_6_4
        refine pw_ifn hT (c := x225_ = 0) rfl rfl (fun c231_ => ?_) (fun c231_ => ?_)
        · have b232_ : 1 ≤ Int32.toInt x225_ ∧ Int32.toInt x225_ ≤ 1 := (by have u0 := b227_; have u1 := (not_congr (zi_eq _ _)).mp c231_; have u2 := (show 0 ≤ Int32.toInt 0 ∧ Int32.toInt 0 ≤ 0 from (by decide)); omega)
          refine pw_blk hT 1 (S' := (19, [some (pvR 6), some (pvI 4), some (pvI i2z217_)], [pvI i2z217_], M226_)) rfl ⟨trivial, trivial⟩ ?_
          refine pw_if hT (c := i2z217_ ≤ 0) rfl rfl (fun c233_ => ?_) (fun c233_ => ?_)
          · have b234_ : 0 ≤ Int32.toInt i2z217_ ∧ Int32.toInt i2z217_ ≤ 0 := zr_le_l 0 c233_ b222_ (show 0 ≤ Int32.toInt 0 ∧ Int32.toInt 0 ≤ 0 from (by decide)) (by decide)
            refine pw_blk hT 2 (S' := (34, [some (pvR 6), some (pvI 4), some (pvI i2z217_)], [pvI 38, pvR 6], M226_)) rfl ⟨trivial, trivial, trivial⟩ ?_
            have u235_ : Int32.toInt 38 = 38 := by decide
            have b236_ : (-1) ≤ Int32.toInt (M226_.1 6 2) ∧ Int32.toInt (M226_.1 6 2) ≤ 100 := pvok_r o228_ 6 2 rfl
            have b237_ : (-1) ≤ Int32.toInt (M226_.1 6 3) ∧ Int32.toInt (M226_.1 6 3) ≤ 127 := pvok_r o228_ 6 3 rfl
            refine pw_callGd hT (as := [pvR 6, pvI 38]) (lo1 := [some (pvR 6), some (pvI 38)]) (d1 := d) (rest := []) rfl rfl rfl rfl rfl (fun _ => rfl) (Nat.zero_le _) rfl rfl rfl (se_X5_readSign_6_x M226_ o228_ 38 (zr_wide (show 38 ≤ Int32.toInt 38 ∧ Int32.toInt 38 ≤ 38 from (by decide)) (by decide) (by decide)) (show (Int32.toInt (M226_.1 6 3) ≤ -1 ∨ Int32.toInt (M226_.1 6 2) ≤ 99) from (by omega)) d224_.2.1 d) (fun x239_ M240_ b241_ o242_ g243_ d238_ => ?_)
            have f244_ : pvFr fp_eX5_readAll_6_4 M M240_ := pvfr_t g243_ f230_ fp_eX5_readAll_6_4_fp_eX5_readSign_6_x
            refine pw_ifn hT (c := x239_ = 0) rfl rfl (fun c245_ => ?_) (fun c245_ => ?_)
            · have b246_ : 1 ≤ Int32.toInt x239_ ∧ Int32.toInt x239_ ≤ 1 := (by have u0 := b241_; have u1 := (not_congr (zi_eq _ _)).mp c245_; have u2 := (show 0 ≤ Int32.toInt 0 ∧ Int32.toInt 0 ≤ 0 from (by decide)); omega)
              obtain ⟨q248_, b247_⟩ : (Int32.toInt (i2z217_ + 1) = Int32.toInt i2z217_ + 1) ∧ (1 ≤ Int32.toInt (i2z217_ + 1) ∧ Int32.toInt (i2z217_ + 1) ≤ 1) := zadd_k i2z217_ 1 1 1 1 b234_ (by decide) (by decide) (by decide) (by decide) (by decide)
              refine pw_blk hT 2 (S' := (2, [some (pvR 6), some (pvI 4), some (pvI (i2z217_ + 1))], [], M240_)) rfl ⟨trivial, trivial, trivial⟩ ?_
              have b249_ : (-1) ≤ Int32.toInt (M240_.1 6 2) ∧ Int32.toInt (M240_.1 6 2) ≤ 100 := pvok_r o242_ 6 2 rfl
              have b250_ : (-1) ≤ Int32.toInt (M240_.1 6 3) ∧ Int32.toInt (M240_.1 6 3) ≤ 127 := pvok_r o242_ 6 3 rfl
              have j251_ : (Int32.toInt (M240_.1 6 3) ≤ -1 ∨ Int32.toInt (M240_.1 6 2) ≤ 99) := by omega
              have j252_ : zLT9 4 (Int32.toNatClampNeg (i2z217_ + 1)) M M240_ := (zLT9_n (znp1 b234_ (by decide) (by decide)) (zT9_s hs (zT9_o hs j1z217_ d224_.2 c231_ (show (Int32.toInt i2z217_).toNat = 0 from by have u := b234_; omega)) d238_.2 c245_))
              exact ihz217_ (i2z217_ + 1) M240_ o242_ f244_ (zr_wide b247_ (by decide) (by decide)) j251_ j252_ (zhid (pvms_up (zshow hmz217_) h2z217_ q248_ (by decide) (by decide)))
            · have b253_ : 0 ≤ Int32.toInt x239_ ∧ Int32.toInt x239_ ≤ 0 := (by have u0 := b241_; have u1 := (zi_eq _ _).mp c245_; have u2 := (show 0 ≤ Int32.toInt 0 ∧ Int32.toInt 0 ≤ 0 from (by decide)); omega)
              refine pw_blk hT 1 (S' := (41, [some (pvR 6), some (pvI 4), some (pvI i2z217_)], [pvI 1], M240_)) rfl ⟨trivial, trivial⟩ ?_
              have b254_ : (-1) ≤ Int32.toInt (M240_.1 6 2) ∧ Int32.toInt (M240_.1 6 2) ≤ 100 := pvok_r o242_ 6 2 rfl
              have b255_ : (-1) ≤ Int32.toInt (M240_.1 6 3) ∧ Int32.toInt (M240_.1 6 3) ≤ 127 := pvok_r o242_ 6 3 rfl
              exact pw_ret hT rfl (r := some (pvI 1)) (M' := M240_) ⟨Or.inr rfl, rfl, rfl⟩ ⟨⟨_, rfl, (zr_wide (show 1 ≤ Int32.toInt 1 ∧ Int32.toInt 1 ≤ 1 from (by decide)) (by decide) (by decide))⟩, o242_, f244_, (by omega), (zT9_e hs (zT9_o hs j1z217_ d224_.2 c231_ (show (Int32.toInt i2z217_).toNat = 0 from by have u := b234_; omega)) d238_.2 c245_)⟩
          · have b256_ : 1 ≤ Int32.toInt i2z217_ ∧ Int32.toInt i2z217_ ≤ 99 := zr_nle_l 1 c233_ b222_ (show 0 ≤ Int32.toInt 0 ∧ Int32.toInt 0 ≤ 0 from (by decide)) (by decide)
            have b257_ : 15 ≤ Int32.toInt (M226_.1 6 4) ∧ Int32.toInt (M226_.1 6 4) ≤ 23 := pvok_r o228_ 6 4 rfl
            refine pw_blkr hT 2 (pc := 26) (lo := [some (pvR 6), some (pvI 4), some (pvI i2z217_)]) (st := []) (M := M226_) (z := (pvhp (M226_.1 6 4))) rfl ⟨trivial, rfl, trivial⟩ (fun q258_ e260_ => ?_)
            have k259_ : pvkl q258_ = 2 := pvhp_k b257_ e260_
            refine pw_blk hT 1 (S' := (28, [some (pvR 6), some (pvI 4), some (pvI i2z217_)], [pvI (-2), pvR q258_], M226_)) rfl ⟨trivial, trivial⟩ ?_
            refine pw_callVd hT (as := [pvR q258_, pvI (-2)]) (lo1 := [some (pvR q258_), some (pvI (-2))]) (d1 := d) (rest := []) rfl rfl rfl rfl rfl (fun _ => k259_) (Nat.zero_le _) rfl rfl rfl (se_X2_addStep_x_x M226_ o228_ q258_ (-2) k259_ (zr_wide (show (-2) ≤ Int32.toInt (-2) ∧ Int32.toInt (-2) ≤ (-2) from (by decide)) (by decide) (by decide)) d) (fun M263_ o265_ g266_ d261_ => ?_)
            have f267_ : pvFr fp_eX5_readAll_6_4 M M263_ := pvfr_t g266_ f230_ fp_eX5_readAll_6_4_fp_eX2_addStep_x_x
            refine pw_blk hT 2 (S' := (34, [some (pvR 6), some (pvI 4), some (pvI i2z217_)], [pvI 38, pvR 6], M263_)) rfl ⟨trivial, trivial, trivial⟩ ?_
            have u268_ : Int32.toInt 38 = 38 := by decide
            have e269_ : (M263_.1 6 2) = (M226_.1 6 2) := (g266_ 6 2 rfl)
            have b270_ : (-1) ≤ Int32.toInt (M263_.1 6 2) ∧ Int32.toInt (M263_.1 6 2) ≤ 100 := pvok_r o265_ 6 2 rfl
            have d271_ : Int32.toInt (M263_.1 6 2) = Int32.toInt (M226_.1 6 2) := congrArg Int32.toInt e269_
            have e272_ : (M263_.1 6 3) = (M226_.1 6 3) := (g266_ 6 3 rfl)
            have b273_ : (-1) ≤ Int32.toInt (M263_.1 6 3) ∧ Int32.toInt (M263_.1 6 3) ≤ 127 := pvok_r o265_ 6 3 rfl
            have d274_ : Int32.toInt (M263_.1 6 3) = Int32.toInt (M226_.1 6 3) := congrArg Int32.toInt e272_
            refine pw_callGd hT (as := [pvR 6, pvI 38]) (lo1 := [some (pvR 6), some (pvI 38)]) (d1 := d) (rest := []) rfl rfl rfl rfl rfl (fun _ => rfl) (Nat.zero_le _) rfl rfl rfl (se_X5_readSign_6_x M263_ o265_ 38 (zr_wide (show 38 ≤ Int32.toInt 38 ∧ Int32.toInt 38 ≤ 38 from (by decide)) (by decide) (by decide)) (show (Int32.toInt (M263_.1 6 3) ≤ -1 ∨ Int32.toInt (M263_.1 6 2) ≤ 99) from (by omega)) (zLO9_q (zT9_p hs j1z217_ d224_.2 c231_ (show 0 < (Int32.toInt i2z217_).toNat from by have u := b256_; omega) e260_ d261_)) d) (fun x276_ M277_ b278_ o279_ g280_ d275_ => ?_)
            have f281_ : pvFr fp_eX5_readAll_6_4 M M277_ := pvfr_t g280_ f267_ fp_eX5_readAll_6_4_fp_eX5_readSign_6_x
            refine pw_ifn hT (c := x276_ = 0) rfl rfl (fun c282_ => ?_) (fun c282_ => ?_)
            · have b283_ : 1 ≤ Int32.toInt x276_ ∧ Int32.toInt x276_ ≤ 1 := (by have u0 := b278_; have u1 := (not_congr (zi_eq _ _)).mp c282_; have u2 := (show 0 ≤ Int32.toInt 0 ∧ Int32.toInt 0 ≤ 0 from (by decide)); omega)
              obtain ⟨q285_, b284_⟩ : (Int32.toInt (i2z217_ + 1) = Int32.toInt i2z217_ + 1) ∧ (2 ≤ Int32.toInt (i2z217_ + 1) ∧ Int32.toInt (i2z217_ + 1) ≤ 100) := zadd_k i2z217_ 1 1 2 100 b256_ (by decide) (by decide) (by decide) (by decide) (by decide)
              refine pw_blk hT 2 (S' := (2, [some (pvR 6), some (pvI 4), some (pvI (i2z217_ + 1))], [], M277_)) rfl ⟨trivial, trivial, trivial⟩ ?_
              have b286_ : (-1) ≤ Int32.toInt (M277_.1 6 2) ∧ Int32.toInt (M277_.1 6 2) ≤ 100 := pvok_r o279_ 6 2 rfl
              have b287_ : (-1) ≤ Int32.toInt (M277_.1 6 3) ∧ Int32.toInt (M277_.1 6 3) ≤ 127 := pvok_r o279_ 6 3 rfl
              have j288_ : (Int32.toInt (M277_.1 6 3) ≤ -1 ∨ Int32.toInt (M277_.1 6 2) ≤ 99) := by omega
              have j289_ : zLT9 4 (Int32.toNatClampNeg (i2z217_ + 1)) M M277_ := (zLT9_n (znp1 b256_ (by decide) (by decide)) (zT9_s hs (zT9_p hs j1z217_ d224_.2 c231_ (show 0 < (Int32.toInt i2z217_).toNat from by have u := b256_; omega) e260_ d261_) d275_.2 c282_))
              exact ihz217_ (i2z217_ + 1) M277_ o279_ f281_ (zr_wide b284_ (by decide) (by decide)) j288_ j289_ (zhid (pvms_up (zshow hmz217_) h2z217_ q285_ (by decide) (by decide)))
            · have b290_ : 0 ≤ Int32.toInt x276_ ∧ Int32.toInt x276_ ≤ 0 := (by have u0 := b278_; have u1 := (zi_eq _ _).mp c282_; have u2 := (show 0 ≤ Int32.toInt 0 ∧ Int32.toInt 0 ≤ 0 from (by decide)); omega)
              refine pw_blk hT 1 (S' := (41, [some (pvR 6), some (pvI 4), some (pvI i2z217_)], [pvI 1], M277_)) rfl ⟨trivial, trivial⟩ ?_
              have b291_ : (-1) ≤ Int32.toInt (M277_.1 6 2) ∧ Int32.toInt (M277_.1 6 2) ≤ 100 := pvok_r o279_ 6 2 rfl
              have b292_ : (-1) ≤ Int32.toInt (M277_.1 6 3) ∧ Int32.toInt (M277_.1 6 3) ≤ 127 := pvok_r o279_ 6 3 rfl
              exact pw_ret hT rfl (r := some (pvI 1)) (M' := M277_) ⟨Or.inr rfl, rfl, rfl⟩ ⟨⟨_, rfl, (zr_wide (show 1 ≤ Int32.toInt 1 ∧ Int32.toInt 1 ≤ 1 from (by decide)) (by decide) (by decide))⟩, o279_, f281_, (by omega), (zT9_e hs (zT9_p hs j1z217_ d224_.2 c231_ (show 0 < (Int32.toInt i2z217_).toNat from by have u := b256_; omega) e260_ d261_) d275_.2 c282_)⟩
        · have b293_ : 0 ≤ Int32.toInt x225_ ∧ Int32.toInt x225_ ≤ 0 := (by have u0 := b227_; have u1 := (zi_eq _ _).mp c231_; have u2 := (show 0 ≤ Int32.toInt 0 ∧ Int32.toInt 0 ≤ 0 from (by decide)); omega)
          refine pw_blk hT 1 (S' := (17, [some (pvR 6), some (pvI 4), some (pvI i2z217_)], [pvI 0], M226_)) rfl ⟨trivial, trivial⟩ ?_
          have b294_ : (-1) ≤ Int32.toInt (M226_.1 6 2) ∧ Int32.toInt (M226_.1 6 2) ≤ 100 := pvok_r o228_ 6 2 rfl
          have b295_ : (-1) ≤ Int32.toInt (M226_.1 6 3) ∧ Int32.toInt (M226_.1 6 3) ≤ 127 := pvok_r o228_ 6 3 rfl
          exact pw_ret hT rfl (r := some (pvI 0)) (M' := M226_) ⟨Or.inl rfl, rfl, rfl⟩ ⟨⟨_, rfl, (zr_wide (show 0 ≤ Int32.toInt 0 ∧ Int32.toInt 0 ≤ 0 from (by decide)) (by decide) (by decide))⟩, o228_, f230_, (by omega), (zT9_f j1z217_ d224_.2 c231_)⟩
  have u296_ : Int32.toInt 4 = 4 := by decide
  have u297_ : Int32.toInt 0 = 0 := by decide
  have j298_ : (Int32.toInt (M.1 6 3) ≤ -1 ∨ Int32.toInt (M.1 6 2) ≤ 99) := by omega
  have j299_ : zLT9 4 (Int32.toNatClampNeg 0) M M := (zLT9_0 hs)
  exact hlz217_ _ 0 M hok pvfr_0 (zr_wide (show 0 ≤ Int32.toInt 0 ∧ Int32.toInt 0 ≤ 0 from (by decide)) (by decide) (by decide)) j298_ j299_ (zhid (Nat.lt_succ_self _))
def fpL_eX5_readAny_6_4 : List (Nat × Nat × Nat) := [(0, 6, 3), (0, 6, 4), (1, 111, 0), (1, 2, 6)]
def fp_eX5_readAny_6_4 (q k : Nat) : Bool := pvfp fpL_eX5_readAny_6_4 q k
theorem fp_eX5_readAny_6_4_fp_eX2_addStep_x_x (a b : Nat) (h : fp_eX2_addStep_x_x a b = true) : fp_eX5_readAny_6_4 a b = true := pvfp_sub (l1 := fpL_eX2_addStep_x_x) (l2 := fpL_eX5_readAny_6_4) (by decide) a b h
theorem fp_eX5_readAny_6_4_fp_eX5_readAll_6_4 (a b : Nat) (h : fp_eX5_readAll_6_4 a b = true) : fp_eX5_readAny_6_4 a b = true := pvfp_sub (l1 := fpL_eX5_readAll_6_4) (l2 := fpL_eX5_readAny_6_4) (by decide) a b h
theorem fp_eX5_readAny_6_4_fp_eX5_readSign_6_x (a b : Nat) (h : fp_eX5_readSign_6_x a b = true) : fp_eX5_readAny_6_4 a b = true := pvfp_sub (l1 := fpL_eX5_readSign_6_x) (l2 := fpL_eX5_readAny_6_4) (by decide) a b h
set_option maxHeartbeats 4000000 in
set_option maxRecDepth 10000 in
theorem se_X5_readAny_6_4 (M : pvM) (hok : pvOk M) (hx0 : (Int32.toInt (M.1 6 3) ≤ -1 ∨ Int32.toInt (M.1 6 2) ≤ 99)) (hs : zRs M) (d : Nat) : PW 141 d (0, [some (pvR 6), some (pvI 4), none], [], M) (fun r X => (∃ x : Int32, r = some (pvI x) ∧ 0 ≤ Int32.toInt x ∧ Int32.toInt x ≤ 1) ∧ pvOk X ∧ pvFr fp_eX5_readAny_6_4 M X ∧ ((Int32.toInt (X.1 6 3) ≤ -1 ∨ Int32.toInt (X.1 6 2) ≤ 99)) ∧ zRc (zTA 4) r M X) := by
  have hT : pvdom 141 = pvD_141 := rfl
  have b1_ : (-1) ≤ Int32.toInt (M.1 6 2) ∧ Int32.toInt (M.1 6 2) ≤ 100 := pvok_r hok 6 2 rfl
  have b2_ : (-1) ≤ Int32.toInt (M.1 6 3) ∧ Int32.toInt (M.1 6 3) ≤ 127 := pvok_r hok 6 3 rfl
  refine pw_blk hT 2 (S' := (2, [some (pvR 6), some (pvI 4), some (pvI 0)], [], M)) rfl ⟨trivial, trivial, trivial⟩ ?_
  have hlz217_ : ∀ (nz217_ : Nat) (i2z217_ : Int32) (Mz217_ : pvM), (pvOk Mz217_) → (pvFr fp_eX5_readAny_6_4 M Mz217_) → (0 ≤ Int32.toInt i2z217_ ∧ Int32.toInt i2z217_ ≤ 100) → ((Int32.toInt (Mz217_.1 6 3) ≤ -1 ∨ Int32.toInt (Mz217_.1 6 2) ≤ 99)) → (zLA9 4 (Int32.toNatClampNeg i2z217_) M Mz217_) → (zhide ((101 - Int32.toInt i2z217_).toNat < nz217_)) → PW 141 d (2, [some (pvR 6), some (pvI 4), some (pvI i2z217_)], [], Mz217_) (fun r X => (∃ x : Int32, r = some (pvI x) ∧ 0 ≤ Int32.toInt x ∧ Int32.toInt x ≤ 1) ∧ pvOk X ∧ pvFr fp_eX5_readAny_6_4 M X ∧ ((Int32.toInt (X.1 6 3) ≤ -1 ∨ Int32.toInt (X.1 6 2) ≤ 99)) ∧ zRc (zTA 4) r M X) := by
    intro nz217_
    induction nz217_ with
    | zero => intro i2z217_ Mz217_ oz217_ fz217_ h2z217_ j0z217_ j1z217_ hmz217_; exact absurd (zshow hmz217_) (Nat.not_lt_zero _)
    | succ nz217_ ihz217_ =>
      intro i2z217_ Mz217_ oz217_ fz217_ h2z217_ j0z217_ j1z217_ hmz217_
      have b218_ : (-1) ≤ Int32.toInt (Mz217_.1 6 2) ∧ Int32.toInt (Mz217_.1 6 2) ≤ 100 := pvok_r oz217_ 6 2 rfl
      have b219_ : (-1) ≤ Int32.toInt (Mz217_.1 6 3) ∧ Int32.toInt (Mz217_.1 6 3) ≤ 127 := pvok_r oz217_ 6 3 rfl
      refine pw_blk hT 2 (S' := (5, [some (pvR 6), some (pvI 4), some (pvI i2z217_)], [pvI 100, pvI i2z217_], Mz217_)) rfl ⟨trivial, trivial, trivial⟩ ?_
      refine pw_ic hT (c := 100 ≤ i2z217_) rfl rfl (fun c220_ => ?_) (fun c220_ => ?_)
      · have b221_ : 100 ≤ Int32.toInt i2z217_ ∧ Int32.toInt i2z217_ ≤ 100 := zr_le_r 100 c220_ h2z217_ (show 100 ≤ Int32.toInt 100 ∧ Int32.toInt 100 ≤ 100 from (by decide)) (by decide)
        refine pw_blk hT 1 (S' := (49, [some (pvR 6), some (pvI 4), some (pvI i2z217_)], [pvI 0], Mz217_)) rfl ⟨trivial, trivial⟩ ?_
        exact pw_ret hT rfl (r := some (pvI 0)) (M' := Mz217_) ⟨Or.inl rfl, rfl, rfl⟩ ⟨⟨_, rfl, (zr_wide (show 0 ≤ Int32.toInt 0 ∧ Int32.toInt 0 ≤ 0 from (by decide)) (by decide) (by decide))⟩, oz217_, fz217_, (by omega), ((zLA9_x j1z217_ (show 100 ≤ (Int32.toInt i2z217_).toNat from by have u := b221_; omega)).elim)⟩
      · have b222_ : 0 ≤ Int32.toInt i2z217_ ∧ Int32.toInt i2z217_ ≤ 99 := zr_nle_r 99 c220_ h2z217_ (show 100 ≤ Int32.toInt 100 ∧ Int32.toInt 100 ≤ 100 from (by decide)) (by decide)
        refine pw_blk hT 2 (S' := (10, [some (pvR 6), some (pvI 4), some (pvI i2z217_)], [pvI 4, pvR 6], Mz217_)) rfl ⟨trivial, trivial, trivial⟩ ?_
        have u223_ : Int32.toInt 4 = 4 := by decide
        refine pw_callGd hT (as := [pvR 6, pvI 4]) (lo1 := [some (pvR 6), some (pvI 4), none]) (d1 := d) (rest := []) rfl rfl rfl rfl rfl (fun _ => rfl) (Nat.zero_le _) rfl rfl rfl (se_X5_readAll_6_4 Mz217_ oz217_ (show (Int32.toInt (Mz217_.1 6 3) ≤ -1 ∨ Int32.toInt (Mz217_.1 6 2) ≤ 99) from (by omega)) (zLA9_rs hs j1z217_) d) (fun x225_ M226_ b227_ o228_ g229_ d224_ => ?_)
        have f230_ : pvFr fp_eX5_readAny_6_4 M M226_ := pvfr_t g229_ fz217_ fp_eX5_readAny_6_4_fp_eX5_readAll_6_4
        refine pw_ifn hT (c := x225_ = 0) rfl rfl (fun c231_ => ?_) (fun c231_ => ?_)
        · have b232_ : 1 ≤ Int32.toInt x225_ ∧ Int32.toInt x225_ ≤ 1 := (by have u0 := b227_; have u1 := (not_congr (zi_eq _ _)).mp c231_; have u2 := (show 0 ≤ Int32.toInt 0 ∧ Int32.toInt 0 ≤ 0 from (by decide)); omega)
          refine pw_blk hT 1 (S' := (19, [some (pvR 6), some (pvI 4), some (pvI i2z217_)], [pvI i2z217_], M226_)) rfl ⟨trivial, trivial⟩ ?_
          refine pw_if hT (c := i2z217_ ≤ 0) rfl rfl (fun c233_ => ?_) (fun c233_ => ?_)
          · have b234_ : 0 ≤ Int32.toInt i2z217_ ∧ Int32.toInt i2z217_ ≤ 0 := zr_le_l 0 c233_ b222_ (show 0 ≤ Int32.toInt 0 ∧ Int32.toInt 0 ≤ 0 from (by decide)) (by decide)
            refine pw_blk hT 2 (S' := (34, [some (pvR 6), some (pvI 4), some (pvI i2z217_)], [pvI 124, pvR 6], M226_)) rfl ⟨trivial, trivial, trivial⟩ ?_
            have u235_ : Int32.toInt 124 = 124 := by decide
            have b236_ : (-1) ≤ Int32.toInt (M226_.1 6 2) ∧ Int32.toInt (M226_.1 6 2) ≤ 100 := pvok_r o228_ 6 2 rfl
            have b237_ : (-1) ≤ Int32.toInt (M226_.1 6 3) ∧ Int32.toInt (M226_.1 6 3) ≤ 127 := pvok_r o228_ 6 3 rfl
            refine pw_callGd hT (as := [pvR 6, pvI 124]) (lo1 := [some (pvR 6), some (pvI 124)]) (d1 := d) (rest := []) rfl rfl rfl rfl rfl (fun _ => rfl) (Nat.zero_le _) rfl rfl rfl (se_X5_readSign_6_x M226_ o228_ 124 (zr_wide (show 124 ≤ Int32.toInt 124 ∧ Int32.toInt 124 ≤ 124 from (by decide)) (by decide) (by decide)) (show (Int32.toInt (M226_.1 6 3) ≤ -1 ∨ Int32.toInt (M226_.1 6 2) ≤ 99) from (by omega)) d224_.2.1 d) (fun x239_ M240_ b241_ o242_ g243_ d238_ => ?_)
            have f244_ : pvFr fp_eX5_readAny_6_4 M M240_ := pvfr_t g243_ f230_ fp_eX5_readAny_6_4_fp_eX5_readSign_6_x
            refine pw_ifn hT (c := x239_ = 0) rfl rfl (fun c245_ => ?_) (fun c245_ => ?_)
            · have b246_ : 1 ≤ Int32.toInt x239_ ∧ Int32.toInt x239_ ≤ 1 := (by have u0 := b241_; have u1 := (not_congr (zi_eq _ _)).mp c245_; have u2 := (show 0 ≤ Int32.toInt 0 ∧ Int32.toInt 0 ≤ 0 from (by decide)); omega)
              obtain ⟨q248_, b247_⟩ : (Int32.toInt (i2z217_ + 1) = Int32.toInt i2z217_ + 1) ∧ (1 ≤ Int32.toInt (i2z217_ + 1) ∧ Int32.toInt (i2z217_ + 1) ≤ 1) := zadd_k i2z217_ 1 1 1 1 b234_ (by decide) (by decide) (by decide) (by decide) (by decide)
              refine pw_blk hT 2 (S' := (2, [some (pvR 6), some (pvI 4), some (pvI (i2z217_ + 1))], [], M240_)) rfl ⟨trivial, trivial, trivial⟩ ?_
              have b249_ : (-1) ≤ Int32.toInt (M240_.1 6 2) ∧ Int32.toInt (M240_.1 6 2) ≤ 100 := pvok_r o242_ 6 2 rfl
              have b250_ : (-1) ≤ Int32.toInt (M240_.1 6 3) ∧ Int32.toInt (M240_.1 6 3) ≤ 127 := pvok_r o242_ 6 3 rfl
              have j251_ : (Int32.toInt (M240_.1 6 3) ≤ -1 ∨ Int32.toInt (M240_.1 6 2) ≤ 99) := by omega
              have j252_ : zLA9 4 (Int32.toNatClampNeg (i2z217_ + 1)) M M240_ := (zLA9_n (znp1 b234_ (by decide) (by decide)) (zA9_s hs (zA9_o hs j1z217_ d224_.2 c231_ (show (Int32.toInt i2z217_).toNat = 0 from by have u := b234_; omega)) d238_.2 c245_))
              exact ihz217_ (i2z217_ + 1) M240_ o242_ f244_ (zr_wide b247_ (by decide) (by decide)) j251_ j252_ (zhid (pvms_up (zshow hmz217_) h2z217_ q248_ (by decide) (by decide)))
            · have b253_ : 0 ≤ Int32.toInt x239_ ∧ Int32.toInt x239_ ≤ 0 := (by have u0 := b241_; have u1 := (zi_eq _ _).mp c245_; have u2 := (show 0 ≤ Int32.toInt 0 ∧ Int32.toInt 0 ≤ 0 from (by decide)); omega)
              refine pw_blk hT 1 (S' := (41, [some (pvR 6), some (pvI 4), some (pvI i2z217_)], [pvI 1], M240_)) rfl ⟨trivial, trivial⟩ ?_
              have b254_ : (-1) ≤ Int32.toInt (M240_.1 6 2) ∧ Int32.toInt (M240_.1 6 2) ≤ 100 := pvok_r o242_ 6 2 rfl
              have b255_ : (-1) ≤ Int32.toInt (M240_.1 6 3) ∧ Int32.toInt (M240_.1 6 3) ≤ 127 := pvok_r o242_ 6 3 rfl
              exact pw_ret hT rfl (r := some (pvI 1)) (M' := M240_) ⟨Or.inr rfl, rfl, rfl⟩ ⟨⟨_, rfl, (zr_wide (show 1 ≤ Int32.toInt 1 ∧ Int32.toInt 1 ≤ 1 from (by decide)) (by decide) (by decide))⟩, o242_, f244_, (by omega), (zA9_e hs (zA9_o hs j1z217_ d224_.2 c231_ (show (Int32.toInt i2z217_).toNat = 0 from by have u := b234_; omega)) d238_.2 c245_)⟩
          · have b256_ : 1 ≤ Int32.toInt i2z217_ ∧ Int32.toInt i2z217_ ≤ 99 := zr_nle_l 1 c233_ b222_ (show 0 ≤ Int32.toInt 0 ∧ Int32.toInt 0 ≤ 0 from (by decide)) (by decide)
            have b257_ : 15 ≤ Int32.toInt (M226_.1 6 4) ∧ Int32.toInt (M226_.1 6 4) ≤ 23 := pvok_r o228_ 6 4 rfl
            refine pw_blkr hT 2 (pc := 26) (lo := [some (pvR 6), some (pvI 4), some (pvI i2z217_)]) (st := []) (M := M226_) (z := (pvhp (M226_.1 6 4))) rfl ⟨trivial, rfl, trivial⟩ (fun q258_ e260_ => ?_)
            have k259_ : pvkl q258_ = 2 := pvhp_k b257_ e260_
            refine pw_blk hT 1 (S' := (28, [some (pvR 6), some (pvI 4), some (pvI i2z217_)], [pvI (-3), pvR q258_], M226_)) rfl ⟨trivial, trivial⟩ ?_
            refine pw_callVd hT (as := [pvR q258_, pvI (-3)]) (lo1 := [some (pvR q258_), some (pvI (-3))]) (d1 := d) (rest := []) rfl rfl rfl rfl rfl (fun _ => k259_) (Nat.zero_le _) rfl rfl rfl (se_X2_addStep_x_x M226_ o228_ q258_ (-3) k259_ (zr_wide (show (-3) ≤ Int32.toInt (-3) ∧ Int32.toInt (-3) ≤ (-3) from (by decide)) (by decide) (by decide)) d) (fun M263_ o265_ g266_ d261_ => ?_)
            have f267_ : pvFr fp_eX5_readAny_6_4 M M263_ := pvfr_t g266_ f230_ fp_eX5_readAny_6_4_fp_eX2_addStep_x_x
            refine pw_blk hT 2 (S' := (34, [some (pvR 6), some (pvI 4), some (pvI i2z217_)], [pvI 124, pvR 6], M263_)) rfl ⟨trivial, trivial, trivial⟩ ?_
            have u268_ : Int32.toInt 124 = 124 := by decide
            have e269_ : (M263_.1 6 2) = (M226_.1 6 2) := (g266_ 6 2 rfl)
            have b270_ : (-1) ≤ Int32.toInt (M263_.1 6 2) ∧ Int32.toInt (M263_.1 6 2) ≤ 100 := pvok_r o265_ 6 2 rfl
            have d271_ : Int32.toInt (M263_.1 6 2) = Int32.toInt (M226_.1 6 2) := congrArg Int32.toInt e269_
            have e272_ : (M263_.1 6 3) = (M226_.1 6 3) := (g266_ 6 3 rfl)
            have b273_ : (-1) ≤ Int32.toInt (M263_.1 6 3) ∧ Int32.toInt (M263_.1 6 3) ≤ 127 := pvok_r o265_ 6 3 rfl
            have d274_ : Int32.toInt (M263_.1 6 3) = Int32.toInt (M226_.1 6 3) := congrArg Int32.toInt e272_
            refine pw_callGd hT (as := [pvR 6, pvI 124]) (lo1 := [some (pvR 6), some (pvI 124)]) (d1 := d) (rest := []) rfl rfl rfl rfl rfl (fun _ => rfl) (Nat.zero_le _) rfl rfl rfl (se_X5_readSign_6_x M263_ o265_ 124 (zr_wide (show 124 ≤ Int32.toInt 124 ∧ Int32.toInt 124 ≤ 124 from (by decide)) (by decide) (by decide)) (show (Int32.toInt (M263_.1 6 3) ≤ -1 ∨ Int32.toInt (M263_.1 6 2) ≤ 99) from (by omega)) (zLB9_q (zA9_p hs j1z217_ d224_.2 c231_ (show 0 < (Int32.toInt i2z217_).toNat from by have u := b256_; omega) e260_ d261_)) d) (fun x276_ M277_ b278_ o279_ g280_ d275_ => ?_)
            have f281_ : pvFr fp_eX5_readAny_6_4 M M277_ := pvfr_t g280_ f267_ fp_eX5_readAny_6_4_fp_eX5_readSign_6_x
            refine pw_ifn hT (c := x276_ = 0) rfl rfl (fun c282_ => ?_) (fun c282_ => ?_)
            · have b283_ : 1 ≤ Int32.toInt x276_ ∧ Int32.toInt x276_ ≤ 1 := (by have u0 := b278_; have u1 := (not_congr (zi_eq _ _)).mp c282_; have u2 := (show 0 ≤ Int32.toInt 0 ∧ Int32.toInt 0 ≤ 0 from (by decide)); omega)
              obtain ⟨q285_, b284_⟩ : (Int32.toInt (i2z217_ + 1) = Int32.toInt i2z217_ + 1) ∧ (2 ≤ Int32.toInt (i2z217_ + 1) ∧ Int32.toInt (i2z217_ + 1) ≤ 100) := zadd_k i2z217_ 1 1 2 100 b256_ (by decide) (by decide) (by decide) (by decide) (by decide)
              refine pw_blk hT 2 (S' := (2, [some (pvR 6), some (pvI 4), some (pvI (i2z217_ + 1))], [], M277_)) rfl ⟨trivial, trivial, trivial⟩ ?_
              have b286_ : (-1) ≤ Int32.toInt (M277_.1 6 2) ∧ Int32.toInt (M277_.1 6 2) ≤ 100 := pvok_r o279_ 6 2 rfl
              have b287_ : (-1) ≤ Int32.toInt (M277_.1 6 3) ∧ Int32.toInt (M277_.1 6 3) ≤ 127 := pvok_r o279_ 6 3 rfl
              have j288_ : (Int32.toInt (M277_.1 6 3) ≤ -1 ∨ Int32.toInt (M277_.1 6 2) ≤ 99) := by omega
              have j289_ : zLA9 4 (Int32.toNatClampNeg (i2z217_ + 1)) M M277_ := (zLA9_n (znp1 b256_ (by decide) (by decide)) (zA9_s hs (zA9_p hs j1z217_ d224_.2 c231_ (show 0 < (Int32.toInt i2z217_).toNat from by have u := b256_; omega) e260_ d261_) d275_.2 c282_))
              exact ihz217_ (i2z217_ + 1) M277_ o279_ f281_ (zr_wide b284_ (by decide) (by decide)) j288_ j289_ (zhid (pvms_up (zshow hmz217_) h2z217_ q285_ (by decide) (by decide)))
            · have b290_ : 0 ≤ Int32.toInt x276_ ∧ Int32.toInt x276_ ≤ 0 := (by have u0 := b278_; have u1 := (zi_eq _ _).mp c282_; have u2 := (show 0 ≤ Int32.toInt 0 ∧ Int32.toInt 0 ≤ 0 from (by decide)); omega)
              refine pw_blk hT 1 (S' := (41, [some (pvR 6), some (pvI 4), some (pvI i2z217_)], [pvI 1], M277_)) rfl ⟨trivial, trivial⟩ ?_
              have b291_ : (-1) ≤ Int32.toInt (M277_.1 6 2) ∧ Int32.toInt (M277_.1 6 2) ≤ 100 := pvok_r o279_ 6 2 rfl
              have b292_ : (-1) ≤ Int32.toInt (M277_.1 6 3) ∧ Int32.toInt (M277_.1 6 3) ≤ 127 := pvok_r o279_ 6 3 rfl
              exact pw_ret hT rfl (r := some (pvI 1)) (M' := M277_) ⟨Or.inr rfl, rfl, rfl⟩ ⟨⟨_, rfl, (zr_wide (show 1 ≤ Int32.toInt 1 ∧ Int32.toInt 1 ≤ 1 from (by decide)) (by decide) (by decide))⟩, o279_, f281_, (by omega), (zA9_e hs (zA9_p hs j1z217_ d224_.2 c231_ (show 0 < (Int32.toInt i2z217_).toNat from by have u := b256_; omega) e260_ d261_) d275_.2 c282_)⟩
        · have b293_ : 0 ≤ Int32.toInt x225_ ∧ Int32.toInt x225_ ≤ 0 := (by have u0 := b227_; have u1 := (zi_eq _ _).mp c231_; have u2 := (show 0 ≤ Int32.toInt 0 ∧ Int32.toInt 0 ≤ 0 from (by decide)); omega)
          refine pw_blk hT 1 (S' := (17, [some (pvR 6), some (pvI 4), some (pvI i2z217_)], [pvI 0], M226_)) rfl ⟨trivial, trivial⟩ ?_
          have b294_ : (-1) ≤ Int32.toInt (M226_.1 6 2) ∧ Int32.toInt (M226_.1 6 2) ≤ 100 := pvok_r o228_ 6 2 rfl
          have b295_ : (-1) ≤ Int32.toInt (M226_.1 6 3) ∧ Int32.toInt (M226_.1 6 3) ≤ 127 := pvok_r o228_ 6 3 rfl
          exact pw_ret hT rfl (r := some (pvI 0)) (M' := M226_) ⟨Or.inl rfl, rfl, rfl⟩ ⟨⟨_, rfl, (zr_wide (show 0 ≤ Int32.toInt 0 ∧ Int32.toInt 0 ≤ 0 from (by decide)) (by decide) (by decide))⟩, o228_, f230_, (by omega), (zA9_f j1z217_ d224_.2 c231_)⟩
  have u296_ : Int32.toInt 4 = 4 := by decide
  have u297_ : Int32.toInt 0 = 0 := by decide
  have j298_ : (Int32.toInt (M.1 6 3) ≤ -1 ∨ Int32.toInt (M.1 6 2) ≤ 99) := by omega
  have j299_ : zLA9 4 (Int32.toNatClampNeg 0) M M := (zLA9_0 hs)
  exact hlz217_ _ 0 M hok pvfr_0 (zr_wide (show 0 ≤ Int32.toInt 0 ∧ Int32.toInt 0 ≤ 0 from (by decide)) (by decide) (by decide)) j298_ j299_ (zhid (Nat.lt_succ_self _))
def fpL_eX5_readOne_6_3 : List (Nat × Nat × Nat) := [(0, 6, 3), (0, 6, 4), (1, 111, 0), (1, 2, 6)]
def fp_eX5_readOne_6_3 (q k : Nat) : Bool := pvfp fpL_eX5_readOne_6_3 q k
theorem fp_eX5_readOne_6_3_fp_eX2_addStep_x_x (a b : Nat) (h : fp_eX2_addStep_x_x a b = true) : fp_eX5_readOne_6_3 a b = true := pvfp_sub (l1 := fpL_eX2_addStep_x_x) (l2 := fpL_eX5_readOne_6_3) (by decide) a b h
theorem fp_eX5_readOne_6_3_fp_eX5_readAny_6_4 (a b : Nat) (h : fp_eX5_readAny_6_4 a b = true) : fp_eX5_readOne_6_3 a b = true := pvfp_sub (l1 := fpL_eX5_readAny_6_4) (l2 := fpL_eX5_readOne_6_3) (by decide) a b h
theorem fp_eX5_readOne_6_3_fp_eX5_readSign_6_x (a b : Nat) (h : fp_eX5_readSign_6_x a b = true) : fp_eX5_readOne_6_3 a b = true := pvfp_sub (l1 := fpL_eX5_readSign_6_x) (l2 := fpL_eX5_readOne_6_3) (by decide) a b h
theorem fp_eX5_readOne_6_3_fp_eX5_readTest_6 (a b : Nat) (h : fp_eX5_readTest_6 a b = true) : fp_eX5_readOne_6_3 a b = true := pvfp_sub (l1 := fpL_eX5_readTest_6) (l2 := fpL_eX5_readOne_6_3) (by decide) a b h
set_option maxHeartbeats 4000000 in
set_option maxRecDepth 10000 in
theorem se_X5_readOne_6_3 (M : pvM) (hok : pvOk M) (hx0 : (Int32.toInt (M.1 6 3) ≤ -1 ∨ Int32.toInt (M.1 6 2) ≤ 99)) (hs : zRs M) (d : Nat) (hd : 1 ≤ d) : PW 145 d (0, [some (pvR 6), some (pvI 3), none, none], [], M) (fun r X => (∃ x : Int32, r = some (pvI x) ∧ 0 ≤ Int32.toInt x ∧ Int32.toInt x ≤ 1) ∧ pvOk X ∧ pvFr fp_eX5_readOne_6_3 M X ∧ ((Int32.toInt (X.1 6 3) ≤ -1 ∨ Int32.toInt (X.1 6 2) ≤ 99)) ∧ zRc (zTO 3) r M X) := by
  have hT : pvdom 145 = pvD_145 := rfl
  have b1_ : (-1) ≤ Int32.toInt (M.1 6 2) ∧ Int32.toInt (M.1 6 2) ≤ 100 := pvok_r hok 6 2 rfl
  have b2_ : (-1) ≤ Int32.toInt (M.1 6 3) ∧ Int32.toInt (M.1 6 3) ≤ 127 := pvok_r hok 6 3 rfl
  refine pw_blk hT 2 (S' := (2, [some (pvR 6), some (pvI 3), some (pvI 3), none], [], M)) rfl ⟨trivial, trivial, trivial⟩ ?_
  refine pw_blk hT 2 (S' := (4, [some (pvR 6), some (pvI 3), some (pvI 3), none], [pvI 4, pvI 3], M)) rfl ⟨trivial, trivial, trivial⟩ ?_
  refine pw_ic hT (c := 4 ≤ 3) rfl rfl (fun c3_ => absurd c3_ (by decide)) (fun c3_ => ?_)
  refine pw_blk hT 2 (S' := (10, [some (pvR 6), some (pvI 3), some (pvI 3), none], [pvI 33, pvR 6], M)) rfl ⟨trivial, trivial, trivial⟩ ?_
  have u4_ : Int32.toInt 33 = 33 := by decide
  refine pw_callGd hT (as := [pvR 6, pvI 33]) (lo1 := [some (pvR 6), some (pvI 33)]) (d1 := d) (rest := []) rfl rfl rfl rfl rfl (fun _ => rfl) (Nat.zero_le _) rfl rfl rfl (se_X5_readSign_6_x M hok 33 (zr_wide (show 33 ≤ Int32.toInt 33 ∧ Int32.toInt 33 ≤ 33 from (by decide)) (by decide) (by decide)) (show (Int32.toInt (M.1 6 3) ≤ -1 ∨ Int32.toInt (M.1 6 2) ≤ 99) from (by omega)) hs.1 d) (fun x6_ M7_ b8_ o9_ g10_ d5_ => ?_)
  have f11_ : pvFr fp_eX5_readOne_6_3 M M7_ := pvfr_t g10_ pvfr_0 fp_eX5_readOne_6_3_fp_eX5_readSign_6_x
  refine pw_if hT (c := x6_ = 0) rfl rfl (fun c12_ => ?_) (fun c12_ => ?_)
  · have b13_ : 0 ≤ Int32.toInt x6_ ∧ Int32.toInt x6_ ≤ 0 := (by have u0 := b8_; have u1 := (zi_eq _ _).mp c12_; have u2 := (show 0 ≤ Int32.toInt 0 ∧ Int32.toInt 0 ≤ 0 from (by decide)); omega)
    refine pw_blk hT 2 (S' := (24, [some (pvR 6), some (pvI 3), some (pvI 3), none], [pvI 4, pvI 3], M7_)) rfl ⟨trivial, trivial, trivial⟩ ?_
    refine pw_ic hT (c := 4 ≤ 3) rfl rfl (fun c14_ => absurd c14_ (by decide)) (fun c14_ => ?_)
    refine pw_blk hT 2 (S' := (30, [some (pvR 6), some (pvI 3), some (pvI 3), none], [pvI 40, pvR 6], M7_)) rfl ⟨trivial, trivial, trivial⟩ ?_
    have u15_ : Int32.toInt 40 = 40 := by decide
    have b16_ : (-1) ≤ Int32.toInt (M7_.1 6 2) ∧ Int32.toInt (M7_.1 6 2) ≤ 100 := pvok_r o9_ 6 2 rfl
    have b17_ : (-1) ≤ Int32.toInt (M7_.1 6 3) ∧ Int32.toInt (M7_.1 6 3) ≤ 127 := pvok_r o9_ 6 3 rfl
    refine pw_callGd hT (as := [pvR 6, pvI 40]) (lo1 := [some (pvR 6), some (pvI 40)]) (d1 := d) (rest := []) rfl rfl rfl rfl rfl (fun _ => rfl) (Nat.zero_le _) rfl rfl rfl (se_X5_readSign_6_x M7_ o9_ 40 (zr_wide (show 40 ≤ Int32.toInt 40 ∧ Int32.toInt 40 ≤ 40 from (by decide)) (by decide) (by decide)) (show (Int32.toInt (M7_.1 6 3) ≤ -1 ∨ Int32.toInt (M7_.1 6 2) ≤ 99) from (by omega)) d5_.2.1 d) (fun x19_ M20_ b21_ o22_ g23_ d18_ => ?_)
    have f24_ : pvFr fp_eX5_readOne_6_3 M M20_ := pvfr_t g23_ f11_ fp_eX5_readOne_6_3_fp_eX5_readSign_6_x
    refine pw_if hT (c := x19_ = 0) rfl rfl (fun c25_ => ?_) (fun c25_ => ?_)
    · have b26_ : 0 ≤ Int32.toInt x19_ ∧ Int32.toInt x19_ ≤ 0 := (by have u0 := b21_; have u1 := (zi_eq _ _).mp c25_; have u2 := (show 0 ≤ Int32.toInt 0 ∧ Int32.toInt 0 ≤ 0 from (by decide)); omega)
      refine pw_blk hT 1 (S' := (64, [some (pvR 6), some (pvI 3), some (pvI 3), none], [pvR 6], M20_)) rfl ⟨trivial, trivial⟩ ?_
      have b27_ : (-1) ≤ Int32.toInt (M20_.1 6 2) ∧ Int32.toInt (M20_.1 6 2) ≤ 100 := pvok_r o22_ 6 2 rfl
      have b28_ : (-1) ≤ Int32.toInt (M20_.1 6 3) ∧ Int32.toInt (M20_.1 6 3) ≤ 127 := pvok_r o22_ 6 3 rfl
      refine pw_callGd hT (as := [pvR 6]) (lo1 := [some (pvR 6), none, none, none]) (d1 := d) (rest := []) rfl rfl rfl rfl rfl (fun _ => rfl) (Nat.zero_le _) rfl rfl rfl (se_X5_readTest_6 M20_ o22_ (show (Int32.toInt (M20_.1 6 3) ≤ -1 ∨ Int32.toInt (M20_.1 6 2) ≤ 99) from (by omega)) (zOm9_rs hs (zOm9_p (zOm9_n (zOn9_0 (d := 3) hs (by decide)) d5_.2 c12_) d18_.2 c25_).1) d) (fun x30_ M31_ b32_ o33_ g34_ d29_ => ?_)
      have f35_ : pvFr fp_eX5_readOne_6_3 M M31_ := pvfr_t g34_ f24_ fp_eX5_readOne_6_3_fp_eX5_readTest_6
      refine pw_blk hT 7 (S' := (74, [some (pvR 6), some (pvI 3), some (pvI 3), some (pvI x30_)], [pvI 1, pvI ((3 - 3) - (3 - 3) / 2 * 2)], M31_)) rfl ⟨trivial, trivial, trivial, trivial, trivial, (by decide), trivial, trivial⟩ ?_
      refine pw_icn hT (c := ((3 - 3) - (3 - 3) / 2 * 2) = 1) rfl rfl (fun c36_ => ?_) (fun c36_ => absurd c36_ (by decide))
      refine pw_blk hT 1 (S' := (86, [some (pvR 6), some (pvI 3), some (pvI 3), some (pvI x30_)], [pvI x30_], M31_)) rfl ⟨trivial, trivial⟩ ?_
      have b37_ : (-1) ≤ Int32.toInt (M31_.1 6 2) ∧ Int32.toInt (M31_.1 6 2) ≤ 100 := pvok_r o33_ 6 2 rfl
      have b38_ : (-1) ≤ Int32.toInt (M31_.1 6 3) ∧ Int32.toInt (M31_.1 6 3) ≤ 127 := pvok_r o33_ 6 3 rfl
      exact pw_ret hT rfl (r := some (pvI x30_)) (M' := M31_) ⟨pv01 b32_, rfl, rfl⟩ ⟨⟨_, rfl, b32_⟩, o33_, f35_, (by omega), (zOe_e (zOt9 hs (zOm9_p (zOm9_n (zOn9_0 (d := 3) hs (by decide)) d5_.2 c12_) d18_.2 c25_).1 (zOm9_p (zOm9_n (zOn9_0 (d := 3) hs (by decide)) d5_.2 c12_) d18_.2 c25_).2 d29_.2 (pv01 b32_)) (by decide))⟩
    · have b39_ : 1 ≤ Int32.toInt x19_ ∧ Int32.toInt x19_ ≤ 1 := (by have u0 := b21_; have u1 := (not_congr (zi_eq _ _)).mp c25_; have u2 := (show 0 ≤ Int32.toInt 0 ∧ Int32.toInt 0 ≤ 0 from (by decide)); omega)
      refine pw_blk hT 4 (S' := (40, [some (pvR 6), some (pvI 3), some (pvI 3), none], [pvI (3 + 1), pvR 6], M20_)) rfl ⟨trivial, trivial, trivial, trivial, trivial⟩ ?_
      have u40_ : Int32.toInt (3 + 1) = 4 := by decide
      have b41_ : (-1) ≤ Int32.toInt (M20_.1 6 2) ∧ Int32.toInt (M20_.1 6 2) ≤ 100 := pvok_r o22_ 6 2 rfl
      have b42_ : (-1) ≤ Int32.toInt (M20_.1 6 3) ∧ Int32.toInt (M20_.1 6 3) ≤ 127 := pvok_r o22_ 6 3 rfl
      refine pw_callGd hT (as := [pvR 6, pvI (3 + 1)]) (lo1 := [some (pvR 6), some (pvI (3 + 1)), none]) (d1 := (d - 1)) (rest := []) rfl rfl rfl rfl rfl (fun _ => rfl) (show 1 ≤ d by omega) rfl rfl rfl (se_X5_readAny_6_4 M20_ o22_ (show (Int32.toInt (M20_.1 6 3) ≤ -1 ∨ Int32.toInt (M20_.1 6 2) ≤ 99) from (by omega)) (zOp9_rs hs (zOp9_y (zOm9_n (zOn9_0 (d := 3) hs (by decide)) d5_.2 c12_) (by decide) d18_.2 c25_)) (d - 1)) (fun x44_ M45_ b46_ o47_ g48_ d43_ => ?_)
      have f49_ : pvFr fp_eX5_readOne_6_3 M M45_ := pvfr_t g48_ f24_ fp_eX5_readOne_6_3_fp_eX5_readAny_6_4
      refine pw_if hT (c := x44_ = 0) rfl rfl (fun c50_ => ?_) (fun c50_ => ?_)
      · have b51_ : 0 ≤ Int32.toInt x44_ ∧ Int32.toInt x44_ ≤ 0 := (by have u0 := b46_; have u1 := (zi_eq _ _).mp c50_; have u2 := (show 0 ≤ Int32.toInt 0 ∧ Int32.toInt 0 ≤ 0 from (by decide)); omega)
        refine pw_blk hT 9 (S' := (74, [some (pvR 6), some (pvI 3), some (pvI 3), some (pvI 0)], [pvI 1, pvI ((3 - 3) - (3 - 3) / 2 * 2)], M45_)) rfl ⟨trivial, trivial, trivial, trivial, trivial, trivial, trivial, (by decide), trivial, trivial⟩ ?_
        refine pw_icn hT (c := ((3 - 3) - (3 - 3) / 2 * 2) = 1) rfl rfl (fun c52_ => ?_) (fun c52_ => absurd c52_ (by decide))
        refine pw_blk hT 1 (S' := (86, [some (pvR 6), some (pvI 3), some (pvI 3), some (pvI 0)], [pvI 0], M45_)) rfl ⟨trivial, trivial⟩ ?_
        have b53_ : (-1) ≤ Int32.toInt (M45_.1 6 2) ∧ Int32.toInt (M45_.1 6 2) ≤ 100 := pvok_r o47_ 6 2 rfl
        have b54_ : (-1) ≤ Int32.toInt (M45_.1 6 3) ∧ Int32.toInt (M45_.1 6 3) ≤ 127 := pvok_r o47_ 6 3 rfl
        exact pw_ret hT rfl (r := some (pvI 0)) (M' := M45_) ⟨Or.inl rfl, rfl, rfl⟩ ⟨⟨_, rfl, (zr_wide (show 0 ≤ Int32.toInt 0 ∧ Int32.toInt 0 ≤ 0 from (by decide)) (by decide) (by decide))⟩, o47_, f49_, (by omega), (zOe_e (zOp9_n (zOp9_y (zOm9_n (zOn9_0 (d := 3) hs (by decide)) d5_.2 c12_) (by decide) d18_.2 c25_) (by decide) d43_.2 c50_) (by decide))⟩
      · have b55_ : 1 ≤ Int32.toInt x44_ ∧ Int32.toInt x44_ ≤ 1 := (by have u0 := b46_; have u1 := (not_congr (zi_eq _ _)).mp c50_; have u2 := (show 0 ≤ Int32.toInt 0 ∧ Int32.toInt 0 ≤ 0 from (by decide)); omega)
        refine pw_blk hT 2 (S' := (49, [some (pvR 6), some (pvI 3), some (pvI 3), none], [pvI 41, pvR 6], M45_)) rfl ⟨trivial, trivial, trivial⟩ ?_
        have u56_ : Int32.toInt 41 = 41 := by decide
        have b57_ : (-1) ≤ Int32.toInt (M45_.1 6 2) ∧ Int32.toInt (M45_.1 6 2) ≤ 100 := pvok_r o47_ 6 2 rfl
        have b58_ : (-1) ≤ Int32.toInt (M45_.1 6 3) ∧ Int32.toInt (M45_.1 6 3) ≤ 127 := pvok_r o47_ 6 3 rfl
        refine pw_callGd hT (as := [pvR 6, pvI 41]) (lo1 := [some (pvR 6), some (pvI 41)]) (d1 := d) (rest := []) rfl rfl rfl rfl rfl (fun _ => rfl) (Nat.zero_le _) rfl rfl rfl (se_X5_readSign_6_x M45_ o47_ 41 (zr_wide (show 41 ≤ Int32.toInt 41 ∧ Int32.toInt 41 ≤ 41 from (by decide)) (by decide) (by decide)) (show (Int32.toInt (M45_.1 6 3) ≤ -1 ∨ Int32.toInt (M45_.1 6 2) ≤ 99) from (by omega)) d43_.2.1 d) (fun x60_ M61_ b62_ o63_ g64_ d59_ => ?_)
        have f65_ : pvFr fp_eX5_readOne_6_3 M M61_ := pvfr_t g64_ f49_ fp_eX5_readOne_6_3_fp_eX5_readSign_6_x
        refine pw_if hT (c := x60_ = 0) rfl rfl (fun c66_ => ?_) (fun c66_ => ?_)
        · have b67_ : 0 ≤ Int32.toInt x60_ ∧ Int32.toInt x60_ ≤ 0 := (by have u0 := b62_; have u1 := (zi_eq _ _).mp c66_; have u2 := (show 0 ≤ Int32.toInt 0 ∧ Int32.toInt 0 ≤ 0 from (by decide)); omega)
          refine pw_blk hT 9 (S' := (74, [some (pvR 6), some (pvI 3), some (pvI 3), some (pvI 0)], [pvI 1, pvI ((3 - 3) - (3 - 3) / 2 * 2)], M61_)) rfl ⟨trivial, trivial, trivial, trivial, trivial, trivial, trivial, (by decide), trivial, trivial⟩ ?_
          refine pw_icn hT (c := ((3 - 3) - (3 - 3) / 2 * 2) = 1) rfl rfl (fun c68_ => ?_) (fun c68_ => absurd c68_ (by decide))
          refine pw_blk hT 1 (S' := (86, [some (pvR 6), some (pvI 3), some (pvI 3), some (pvI 0)], [pvI 0], M61_)) rfl ⟨trivial, trivial⟩ ?_
          have b69_ : (-1) ≤ Int32.toInt (M61_.1 6 2) ∧ Int32.toInt (M61_.1 6 2) ≤ 100 := pvok_r o63_ 6 2 rfl
          have b70_ : (-1) ≤ Int32.toInt (M61_.1 6 3) ∧ Int32.toInt (M61_.1 6 3) ≤ 127 := pvok_r o63_ 6 3 rfl
          exact pw_ret hT rfl (r := some (pvI 0)) (M' := M61_) ⟨Or.inl rfl, rfl, rfl⟩ ⟨⟨_, rfl, (zr_wide (show 0 ≤ Int32.toInt 0 ∧ Int32.toInt 0 ≤ 0 from (by decide)) (by decide) (by decide))⟩, o63_, f65_, (by omega), (zOe_e ((zOp9_c hs (zOp9_y (zOm9_n (zOn9_0 (d := 3) hs (by decide)) d5_.2 c12_) (by decide) d18_.2 c25_) (by decide) d43_.2 c50_ d59_.2).1 c66_) (by decide))⟩
        · have b71_ : 1 ≤ Int32.toInt x60_ ∧ Int32.toInt x60_ ≤ 1 := (by have u0 := b62_; have u1 := (not_congr (zi_eq _ _)).mp c66_; have u2 := (show 0 ≤ Int32.toInt 0 ∧ Int32.toInt 0 ≤ 0 from (by decide)); omega)
          refine pw_blk hT 9 (S' := (74, [some (pvR 6), some (pvI 3), some (pvI 3), some (pvI 1)], [pvI 1, pvI ((3 - 3) - (3 - 3) / 2 * 2)], M61_)) rfl ⟨trivial, trivial, trivial, trivial, trivial, trivial, trivial, (by decide), trivial, trivial⟩ ?_
          refine pw_icn hT (c := ((3 - 3) - (3 - 3) / 2 * 2) = 1) rfl rfl (fun c72_ => ?_) (fun c72_ => absurd c72_ (by decide))
          refine pw_blk hT 1 (S' := (86, [some (pvR 6), some (pvI 3), some (pvI 3), some (pvI 1)], [pvI 1], M61_)) rfl ⟨trivial, trivial⟩ ?_
          have b73_ : (-1) ≤ Int32.toInt (M61_.1 6 2) ∧ Int32.toInt (M61_.1 6 2) ≤ 100 := pvok_r o63_ 6 2 rfl
          have b74_ : (-1) ≤ Int32.toInt (M61_.1 6 3) ∧ Int32.toInt (M61_.1 6 3) ≤ 127 := pvok_r o63_ 6 3 rfl
          exact pw_ret hT rfl (r := some (pvI 1)) (M' := M61_) ⟨Or.inr rfl, rfl, rfl⟩ ⟨⟨_, rfl, (zr_wide (show 1 ≤ Int32.toInt 1 ∧ Int32.toInt 1 ≤ 1 from (by decide)) (by decide) (by decide))⟩, o63_, f65_, (by omega), (zOe_e ((zOp9_c hs (zOp9_y (zOm9_n (zOn9_0 (d := 3) hs (by decide)) d5_.2 c12_) (by decide) d18_.2 c25_) (by decide) d43_.2 c50_ d59_.2).2 c66_) (by decide))⟩
  · have b75_ : 1 ≤ Int32.toInt x6_ ∧ Int32.toInt x6_ ≤ 1 := (by have u0 := b8_; have u1 := (not_congr (zi_eq _ _)).mp c12_; have u2 := (show 0 ≤ Int32.toInt 0 ∧ Int32.toInt 0 ≤ 0 from (by decide)); omega)
    refine pw_blk hT 2 (S' := (2, [some (pvR 6), some (pvI 3), some (pvI (3 + 1)), none], [], M7_)) rfl ⟨trivial, trivial, trivial⟩ ?_
    refine pw_blk hT 2 (S' := (4, [some (pvR 6), some (pvI 3), some (pvI (3 + 1)), none], [pvI 4, pvI (3 + 1)], M7_)) rfl ⟨trivial, trivial, trivial⟩ ?_
    refine pw_ic hT (c := 4 ≤ (3 + 1)) rfl rfl (fun c76_ => ?_) (fun c76_ => absurd (by decide) c76_)
    refine pw_blk hT 2 (S' := (24, [some (pvR 6), some (pvI 3), some (pvI (3 + 1)), none], [pvI 4, pvI (3 + 1)], M7_)) rfl ⟨trivial, trivial, trivial⟩ ?_
    refine pw_ic hT (c := 4 ≤ (3 + 1)) rfl rfl (fun c77_ => ?_) (fun c77_ => absurd (by decide) c77_)
    refine pw_blk hT 1 (S' := (64, [some (pvR 6), some (pvI 3), some (pvI (3 + 1)), none], [pvR 6], M7_)) rfl ⟨trivial, trivial⟩ ?_
    have b78_ : (-1) ≤ Int32.toInt (M7_.1 6 2) ∧ Int32.toInt (M7_.1 6 2) ≤ 100 := pvok_r o9_ 6 2 rfl
    have b79_ : (-1) ≤ Int32.toInt (M7_.1 6 3) ∧ Int32.toInt (M7_.1 6 3) ≤ 127 := pvok_r o9_ 6 3 rfl
    refine pw_callGd hT (as := [pvR 6]) (lo1 := [some (pvR 6), none, none, none]) (d1 := d) (rest := []) rfl rfl rfl rfl rfl (fun _ => rfl) (Nat.zero_le _) rfl rfl rfl (se_X5_readTest_6 M7_ o9_ (show (Int32.toInt (M7_.1 6 3) ≤ -1 ∨ Int32.toInt (M7_.1 6 2) ≤ 99) from (by omega)) (zOm9_rs hs (zOm9_f (zOn9_b (zOn9_0 (d := 3) hs (by decide)) (by decide) d5_.2 c12_) (by decide))) d) (fun x81_ M82_ b83_ o84_ g85_ d80_ => ?_)
    have f86_ : pvFr fp_eX5_readOne_6_3 M M82_ := pvfr_t g85_ f11_ fp_eX5_readOne_6_3_fp_eX5_readTest_6
    refine pw_blk hT 7 (S' := (74, [some (pvR 6), some (pvI 3), some (pvI (3 + 1)), some (pvI x81_)], [pvI 1, pvI (((3 + 1) - 3) - ((3 + 1) - 3) / 2 * 2)], M82_)) rfl ⟨trivial, trivial, trivial, trivial, trivial, (by decide), trivial, trivial⟩ ?_
    refine pw_icn hT (c := (((3 + 1) - 3) - ((3 + 1) - 3) / 2 * 2) = 1) rfl rfl (fun c87_ => absurd (by decide) c87_) (fun c87_ => ?_)
    have b88_ : 15 ≤ Int32.toInt (M82_.1 6 4) ∧ Int32.toInt (M82_.1 6 4) ≤ 23 := pvok_r o84_ 6 4 rfl
    refine pw_blkr hT 2 (pc := 81) (lo := [some (pvR 6), some (pvI 3), some (pvI (3 + 1)), some (pvI x81_)]) (st := []) (M := M82_) (z := (pvhp (M82_.1 6 4))) rfl ⟨trivial, rfl, trivial⟩ (fun q89_ e91_ => ?_)
    have k90_ : pvkl q89_ = 2 := pvhp_k b88_ e91_
    refine pw_blk hT 1 (S' := (82, [some (pvR 6), some (pvI 3), some (pvI (3 + 1)), some (pvI x81_)], [pvI (-1), pvR q89_], M82_)) rfl ⟨trivial, trivial⟩ ?_
    refine pw_callVd hT (as := [pvR q89_, pvI (-1)]) (lo1 := [some (pvR q89_), some (pvI (-1))]) (d1 := d) (rest := []) rfl rfl rfl rfl rfl (fun _ => k90_) (Nat.zero_le _) rfl rfl rfl (se_X2_addStep_x_x M82_ o84_ q89_ (-1) k90_ (zr_wide (show (-1) ≤ Int32.toInt (-1) ∧ Int32.toInt (-1) ≤ (-1) from (by decide)) (by decide) (by decide)) d) (fun M94_ o96_ g97_ d92_ => ?_)
    have f98_ : pvFr fp_eX5_readOne_6_3 M M94_ := pvfr_t g97_ f86_ fp_eX5_readOne_6_3_fp_eX2_addStep_x_x
    refine pw_blk hT 1 (S' := (86, [some (pvR 6), some (pvI 3), some (pvI (3 + 1)), some (pvI x81_)], [pvI x81_], M94_)) rfl ⟨trivial, trivial⟩ ?_
    have e99_ : (M94_.1 6 2) = (M82_.1 6 2) := (g97_ 6 2 rfl)
    have b100_ : (-1) ≤ Int32.toInt (M94_.1 6 2) ∧ Int32.toInt (M94_.1 6 2) ≤ 100 := pvok_r o96_ 6 2 rfl
    have d101_ : Int32.toInt (M94_.1 6 2) = Int32.toInt (M82_.1 6 2) := congrArg Int32.toInt e99_
    have e102_ : (M94_.1 6 3) = (M82_.1 6 3) := (g97_ 6 3 rfl)
    have b103_ : (-1) ≤ Int32.toInt (M94_.1 6 3) ∧ Int32.toInt (M94_.1 6 3) ≤ 127 := pvok_r o96_ 6 3 rfl
    have d104_ : Int32.toInt (M94_.1 6 3) = Int32.toInt (M82_.1 6 3) := congrArg Int32.toInt e102_
    exact pw_ret hT rfl (r := some (pvI x81_)) (M' := M94_) ⟨pv01 b83_, rfl, rfl⟩ ⟨⟨_, rfl, b83_⟩, o96_, f98_, (by omega), (zOe_o hs (zOt9 hs (zOm9_f (zOn9_b (zOn9_0 (d := 3) hs (by decide)) (by decide) d5_.2 c12_) (by decide)) (fun q => absurd q (by decide)) d80_.2 (pv01 b83_)) (by decide) e91_ d92_)⟩
def fpL_eX5_readAll_6_3 : List (Nat × Nat × Nat) := [(0, 6, 3), (0, 6, 4), (1, 111, 0), (1, 2, 6)]
def fp_eX5_readAll_6_3 (q k : Nat) : Bool := pvfp fpL_eX5_readAll_6_3 q k
theorem fp_eX5_readAll_6_3_fp_eX2_addStep_x_x (a b : Nat) (h : fp_eX2_addStep_x_x a b = true) : fp_eX5_readAll_6_3 a b = true := pvfp_sub (l1 := fpL_eX2_addStep_x_x) (l2 := fpL_eX5_readAll_6_3) (by decide) a b h
theorem fp_eX5_readAll_6_3_fp_eX5_readOne_6_3 (a b : Nat) (h : fp_eX5_readOne_6_3 a b = true) : fp_eX5_readAll_6_3 a b = true := pvfp_sub (l1 := fpL_eX5_readOne_6_3) (l2 := fpL_eX5_readAll_6_3) (by decide) a b h
theorem fp_eX5_readAll_6_3_fp_eX5_readSign_6_x (a b : Nat) (h : fp_eX5_readSign_6_x a b = true) : fp_eX5_readAll_6_3 a b = true := pvfp_sub (l1 := fpL_eX5_readSign_6_x) (l2 := fpL_eX5_readAll_6_3) (by decide) a b h
set_option maxHeartbeats 4000000 in
set_option maxRecDepth 10000 in
theorem se_X5_readAll_6_3 (M : pvM) (hok : pvOk M) (hx0 : (Int32.toInt (M.1 6 3) ≤ -1 ∨ Int32.toInt (M.1 6 2) ≤ 99)) (hs : zRs M) (d : Nat) (hd : 1 ≤ d) : PW 140 d (0, [some (pvR 6), some (pvI 3), none], [], M) (fun r X => (∃ x : Int32, r = some (pvI x) ∧ 0 ≤ Int32.toInt x ∧ Int32.toInt x ≤ 1) ∧ pvOk X ∧ pvFr fp_eX5_readAll_6_3 M X ∧ ((Int32.toInt (X.1 6 3) ≤ -1 ∨ Int32.toInt (X.1 6 2) ≤ 99)) ∧ zRc (zTT 3) r M X) := by
  have hT : pvdom 140 = pvD_140 := rfl
  have b1_ : (-1) ≤ Int32.toInt (M.1 6 2) ∧ Int32.toInt (M.1 6 2) ≤ 100 := pvok_r hok 6 2 rfl
  have b2_ : (-1) ≤ Int32.toInt (M.1 6 3) ∧ Int32.toInt (M.1 6 3) ≤ 127 := pvok_r hok 6 3 rfl
  refine pw_blk hT 2 (S' := (2, [some (pvR 6), some (pvI 3), some (pvI 0)], [], M)) rfl ⟨trivial, trivial, trivial⟩ ?_
  have hlz217_ : ∀ (nz217_ : Nat) (i2z217_ : Int32) (Mz217_ : pvM), (pvOk Mz217_) → (pvFr fp_eX5_readAll_6_3 M Mz217_) → (0 ≤ Int32.toInt i2z217_ ∧ Int32.toInt i2z217_ ≤ 100) → ((Int32.toInt (Mz217_.1 6 3) ≤ -1 ∨ Int32.toInt (Mz217_.1 6 2) ≤ 99)) → (zLT9 3 (Int32.toNatClampNeg i2z217_) M Mz217_) → (zhide ((101 - Int32.toInt i2z217_).toNat < nz217_)) → PW 140 d (2, [some (pvR 6), some (pvI 3), some (pvI i2z217_)], [], Mz217_) (fun r X => (∃ x : Int32, r = some (pvI x) ∧ 0 ≤ Int32.toInt x ∧ Int32.toInt x ≤ 1) ∧ pvOk X ∧ pvFr fp_eX5_readAll_6_3 M X ∧ ((Int32.toInt (X.1 6 3) ≤ -1 ∨ Int32.toInt (X.1 6 2) ≤ 99)) ∧ zRc (zTT 3) r M X) := by
    intro nz217_
    induction nz217_ with
    | zero => intro i2z217_ Mz217_ oz217_ fz217_ h2z217_ j0z217_ j1z217_ hmz217_; exact absurd (zshow hmz217_) (Nat.not_lt_zero _)
    | succ nz217_ ihz217_ =>
      intro i2z217_ Mz217_ oz217_ fz217_ h2z217_ j0z217_ j1z217_ hmz217_
      have b218_ : (-1) ≤ Int32.toInt (Mz217_.1 6 2) ∧ Int32.toInt (Mz217_.1 6 2) ≤ 100 := pvok_r oz217_ 6 2 rfl
      have b219_ : (-1) ≤ Int32.toInt (Mz217_.1 6 3) ∧ Int32.toInt (Mz217_.1 6 3) ≤ 127 := pvok_r oz217_ 6 3 rfl
      refine pw_blk hT 2 (S' := (5, [some (pvR 6), some (pvI 3), some (pvI i2z217_)], [pvI 100, pvI i2z217_], Mz217_)) rfl ⟨trivial, trivial, trivial⟩ ?_
      refine pw_ic hT (c := 100 ≤ i2z217_) rfl rfl (fun c220_ => ?_) (fun c220_ => ?_)
      · have b221_ : 100 ≤ Int32.toInt i2z217_ ∧ Int32.toInt i2z217_ ≤ 100 := zr_le_r 100 c220_ h2z217_ (show 100 ≤ Int32.toInt 100 ∧ Int32.toInt 100 ≤ 100 from (by decide)) (by decide)
        refine pw_blk hT 1 (S' := (49, [some (pvR 6), some (pvI 3), some (pvI i2z217_)], [pvI 0], Mz217_)) rfl ⟨trivial, trivial⟩ ?_
        exact pw_ret hT rfl (r := some (pvI 0)) (M' := Mz217_) ⟨Or.inl rfl, rfl, rfl⟩ ⟨⟨_, rfl, (zr_wide (show 0 ≤ Int32.toInt 0 ∧ Int32.toInt 0 ≤ 0 from (by decide)) (by decide) (by decide))⟩, oz217_, fz217_, (by omega), ((zLT9_x j1z217_ (show 100 ≤ (Int32.toInt i2z217_).toNat from by have u := b221_; omega)).elim)⟩
      · have b222_ : 0 ≤ Int32.toInt i2z217_ ∧ Int32.toInt i2z217_ ≤ 99 := zr_nle_r 99 c220_ h2z217_ (show 100 ≤ Int32.toInt 100 ∧ Int32.toInt 100 ≤ 100 from (by decide)) (by decide)
        refine pw_blk hT 2 (S' := (10, [some (pvR 6), some (pvI 3), some (pvI i2z217_)], [pvI 3, pvR 6], Mz217_)) rfl ⟨trivial, trivial, trivial⟩ ?_
        have u223_ : Int32.toInt 3 = 3 := by decide
        refine pw_callGd hT (as := [pvR 6, pvI 3]) (lo1 := [some (pvR 6), some (pvI 3), none, none]) (d1 := d) (rest := []) rfl rfl rfl rfl rfl (fun _ => rfl) (Nat.zero_le _) rfl rfl rfl (se_X5_readOne_6_3 Mz217_ oz217_ (show (Int32.toInt (Mz217_.1 6 3) ≤ -1 ∨ Int32.toInt (Mz217_.1 6 2) ≤ 99) from (by omega)) (zLT9_rs hs j1z217_) d (Nat.le_trans (by decide) hd)) (fun x225_ M226_ b227_ o228_ g229_ d224_ => ?_)
        have f230_ : pvFr fp_eX5_readAll_6_3 M M226_ := pvfr_t g229_ fz217_ fp_eX5_readAll_6_3_fp_eX5_readOne_6_3
        refine pw_ifn hT (c := x225_ = 0) rfl rfl (fun c231_ => ?_) (fun c231_ => ?_)
        · have b232_ : 1 ≤ Int32.toInt x225_ ∧ Int32.toInt x225_ ≤ 1 := (by have u0 := b227_; have u1 := (not_congr (zi_eq _ _)).mp c231_; have u2 := (show 0 ≤ Int32.toInt 0 ∧ Int32.toInt 0 ≤ 0 from (by decide)); omega)
          refine pw_blk hT 1 (S' := (19, [some (pvR 6), some (pvI 3), some (pvI i2z217_)], [pvI i2z217_], M226_)) rfl ⟨trivial, trivial⟩ ?_
          refine pw_if hT (c := i2z217_ ≤ 0) rfl rfl (fun c233_ => ?_) (fun c233_ => ?_)
          · have b234_ : 0 ≤ Int32.toInt i2z217_ ∧ Int32.toInt i2z217_ ≤ 0 := zr_le_l 0 c233_ b222_ (show 0 ≤ Int32.toInt 0 ∧ Int32.toInt 0 ≤ 0 from (by decide)) (by decide)
            refine pw_blk hT 2 (S' := (34, [some (pvR 6), some (pvI 3), some (pvI i2z217_)], [pvI 38, pvR 6], M226_)) rfl ⟨trivial, trivial, trivial⟩ ?_
            have u235_ : Int32.toInt 38 = 38 := by decide
            have b236_ : (-1) ≤ Int32.toInt (M226_.1 6 2) ∧ Int32.toInt (M226_.1 6 2) ≤ 100 := pvok_r o228_ 6 2 rfl
            have b237_ : (-1) ≤ Int32.toInt (M226_.1 6 3) ∧ Int32.toInt (M226_.1 6 3) ≤ 127 := pvok_r o228_ 6 3 rfl
            refine pw_callGd hT (as := [pvR 6, pvI 38]) (lo1 := [some (pvR 6), some (pvI 38)]) (d1 := d) (rest := []) rfl rfl rfl rfl rfl (fun _ => rfl) (Nat.zero_le _) rfl rfl rfl (se_X5_readSign_6_x M226_ o228_ 38 (zr_wide (show 38 ≤ Int32.toInt 38 ∧ Int32.toInt 38 ≤ 38 from (by decide)) (by decide) (by decide)) (show (Int32.toInt (M226_.1 6 3) ≤ -1 ∨ Int32.toInt (M226_.1 6 2) ≤ 99) from (by omega)) d224_.2.1 d) (fun x239_ M240_ b241_ o242_ g243_ d238_ => ?_)
            have f244_ : pvFr fp_eX5_readAll_6_3 M M240_ := pvfr_t g243_ f230_ fp_eX5_readAll_6_3_fp_eX5_readSign_6_x
            refine pw_ifn hT (c := x239_ = 0) rfl rfl (fun c245_ => ?_) (fun c245_ => ?_)
            · have b246_ : 1 ≤ Int32.toInt x239_ ∧ Int32.toInt x239_ ≤ 1 := (by have u0 := b241_; have u1 := (not_congr (zi_eq _ _)).mp c245_; have u2 := (show 0 ≤ Int32.toInt 0 ∧ Int32.toInt 0 ≤ 0 from (by decide)); omega)
              obtain ⟨q248_, b247_⟩ : (Int32.toInt (i2z217_ + 1) = Int32.toInt i2z217_ + 1) ∧ (1 ≤ Int32.toInt (i2z217_ + 1) ∧ Int32.toInt (i2z217_ + 1) ≤ 1) := zadd_k i2z217_ 1 1 1 1 b234_ (by decide) (by decide) (by decide) (by decide) (by decide)
              refine pw_blk hT 2 (S' := (2, [some (pvR 6), some (pvI 3), some (pvI (i2z217_ + 1))], [], M240_)) rfl ⟨trivial, trivial, trivial⟩ ?_
              have b249_ : (-1) ≤ Int32.toInt (M240_.1 6 2) ∧ Int32.toInt (M240_.1 6 2) ≤ 100 := pvok_r o242_ 6 2 rfl
              have b250_ : (-1) ≤ Int32.toInt (M240_.1 6 3) ∧ Int32.toInt (M240_.1 6 3) ≤ 127 := pvok_r o242_ 6 3 rfl
              have j251_ : (Int32.toInt (M240_.1 6 3) ≤ -1 ∨ Int32.toInt (M240_.1 6 2) ≤ 99) := by omega
              have j252_ : zLT9 3 (Int32.toNatClampNeg (i2z217_ + 1)) M M240_ := (zLT9_n (znp1 b234_ (by decide) (by decide)) (zT9_s hs (zT9_o hs j1z217_ d224_.2 c231_ (show (Int32.toInt i2z217_).toNat = 0 from by have u := b234_; omega)) d238_.2 c245_))
              exact ihz217_ (i2z217_ + 1) M240_ o242_ f244_ (zr_wide b247_ (by decide) (by decide)) j251_ j252_ (zhid (pvms_up (zshow hmz217_) h2z217_ q248_ (by decide) (by decide)))
            · have b253_ : 0 ≤ Int32.toInt x239_ ∧ Int32.toInt x239_ ≤ 0 := (by have u0 := b241_; have u1 := (zi_eq _ _).mp c245_; have u2 := (show 0 ≤ Int32.toInt 0 ∧ Int32.toInt 0 ≤ 0 from (by decide)); omega)
              refine pw_blk hT 1 (S' := (41, [some (pvR 6), some (pvI 3), some (pvI i2z217_)], [pvI 1], M240_)) rfl ⟨trivial, trivial⟩ ?_
              have b254_ : (-1) ≤ Int32.toInt (M240_.1 6 2) ∧ Int32.toInt (M240_.1 6 2) ≤ 100 := pvok_r o242_ 6 2 rfl
              have b255_ : (-1) ≤ Int32.toInt (M240_.1 6 3) ∧ Int32.toInt (M240_.1 6 3) ≤ 127 := pvok_r o242_ 6 3 rfl
              exact pw_ret hT rfl (r := some (pvI 1)) (M' := M240_) ⟨Or.inr rfl, rfl, rfl⟩ ⟨⟨_, rfl, (zr_wide (show 1 ≤ Int32.toInt 1 ∧ Int32.toInt 1 ≤ 1 from (by decide)) (by decide) (by decide))⟩, o242_, f244_, (by omega), (zT9_e hs (zT9_o hs j1z217_ d224_.2 c231_ (show (Int32.toInt i2z217_).toNat = 0 from by have u := b234_; omega)) d238_.2 c245_)⟩
          · have b256_ : 1 ≤ Int32.toInt i2z217_ ∧ Int32.toInt i2z217_ ≤ 99 := zr_nle_l 1 c233_ b222_ (show 0 ≤ Int32.toInt 0 ∧ Int32.toInt 0 ≤ 0 from (by decide)) (by decide)
            have b257_ : 15 ≤ Int32.toInt (M226_.1 6 4) ∧ Int32.toInt (M226_.1 6 4) ≤ 23 := pvok_r o228_ 6 4 rfl
            refine pw_blkr hT 2 (pc := 26) (lo := [some (pvR 6), some (pvI 3), some (pvI i2z217_)]) (st := []) (M := M226_) (z := (pvhp (M226_.1 6 4))) rfl ⟨trivial, rfl, trivial⟩ (fun q258_ e260_ => ?_)
            have k259_ : pvkl q258_ = 2 := pvhp_k b257_ e260_
            refine pw_blk hT 1 (S' := (28, [some (pvR 6), some (pvI 3), some (pvI i2z217_)], [pvI (-2), pvR q258_], M226_)) rfl ⟨trivial, trivial⟩ ?_
            refine pw_callVd hT (as := [pvR q258_, pvI (-2)]) (lo1 := [some (pvR q258_), some (pvI (-2))]) (d1 := d) (rest := []) rfl rfl rfl rfl rfl (fun _ => k259_) (Nat.zero_le _) rfl rfl rfl (se_X2_addStep_x_x M226_ o228_ q258_ (-2) k259_ (zr_wide (show (-2) ≤ Int32.toInt (-2) ∧ Int32.toInt (-2) ≤ (-2) from (by decide)) (by decide) (by decide)) d) (fun M263_ o265_ g266_ d261_ => ?_)
            have f267_ : pvFr fp_eX5_readAll_6_3 M M263_ := pvfr_t g266_ f230_ fp_eX5_readAll_6_3_fp_eX2_addStep_x_x
            refine pw_blk hT 2 (S' := (34, [some (pvR 6), some (pvI 3), some (pvI i2z217_)], [pvI 38, pvR 6], M263_)) rfl ⟨trivial, trivial, trivial⟩ ?_
            have u268_ : Int32.toInt 38 = 38 := by decide
            have e269_ : (M263_.1 6 2) = (M226_.1 6 2) := (g266_ 6 2 rfl)
            have b270_ : (-1) ≤ Int32.toInt (M263_.1 6 2) ∧ Int32.toInt (M263_.1 6 2) ≤ 100 := pvok_r o265_ 6 2 rfl
            have d271_ : Int32.toInt (M263_.1 6 2) = Int32.toInt (M226_.1 6 2) := congrArg Int32.toInt e269_
            have e272_ : (M263_.1 6 3) = (M226_.1 6 3) := (g266_ 6 3 rfl)
            have b273_ : (-1) ≤ Int32.toInt (M263_.1 6 3) ∧ Int32.toInt (M263_.1 6 3) ≤ 127 := pvok_r o265_ 6 3 rfl
            have d274_ : Int32.toInt (M263_.1 6 3) = Int32.toInt (M226_.1 6 3) := congrArg Int32.toInt e272_
            refine pw_callGd hT (as := [pvR 6, pvI 38]) (lo1 := [some (pvR 6), some (pvI 38)]) (d1 := d) (rest := []) rfl rfl rfl rfl rfl (fun _ => rfl) (Nat.zero_le _) rfl rfl rfl (se_X5_readSign_6_x M263_ o265_ 38 (zr_wide (show 38 ≤ Int32.toInt 38 ∧ Int32.toInt 38 ≤ 38 from (by decide)) (by decide) (by decide)) (show (Int32.toInt (M263_.1 6 3) ≤ -1 ∨ Int32.toInt (M263_.1 6 2) ≤ 99) from (by omega)) (zLO9_q (zT9_p hs j1z217_ d224_.2 c231_ (show 0 < (Int32.toInt i2z217_).toNat from by have u := b256_; omega) e260_ d261_)) d) (fun x276_ M277_ b278_ o279_ g280_ d275_ => ?_)
            have f281_ : pvFr fp_eX5_readAll_6_3 M M277_ := pvfr_t g280_ f267_ fp_eX5_readAll_6_3_fp_eX5_readSign_6_x
            refine pw_ifn hT (c := x276_ = 0) rfl rfl (fun c282_ => ?_) (fun c282_ => ?_)
            · have b283_ : 1 ≤ Int32.toInt x276_ ∧ Int32.toInt x276_ ≤ 1 := (by have u0 := b278_; have u1 := (not_congr (zi_eq _ _)).mp c282_; have u2 := (show 0 ≤ Int32.toInt 0 ∧ Int32.toInt 0 ≤ 0 from (by decide)); omega)
              obtain ⟨q285_, b284_⟩ : (Int32.toInt (i2z217_ + 1) = Int32.toInt i2z217_ + 1) ∧ (2 ≤ Int32.toInt (i2z217_ + 1) ∧ Int32.toInt (i2z217_ + 1) ≤ 100) := zadd_k i2z217_ 1 1 2 100 b256_ (by decide) (by decide) (by decide) (by decide) (by decide)
              refine pw_blk hT 2 (S' := (2, [some (pvR 6), some (pvI 3), some (pvI (i2z217_ + 1))], [], M277_)) rfl ⟨trivial, trivial, trivial⟩ ?_
              have b286_ : (-1) ≤ Int32.toInt (M277_.1 6 2) ∧ Int32.toInt (M277_.1 6 2) ≤ 100 := pvok_r o279_ 6 2 rfl
              have b287_ : (-1) ≤ Int32.toInt (M277_.1 6 3) ∧ Int32.toInt (M277_.1 6 3) ≤ 127 := pvok_r o279_ 6 3 rfl
              have j288_ : (Int32.toInt (M277_.1 6 3) ≤ -1 ∨ Int32.toInt (M277_.1 6 2) ≤ 99) := by omega
              have j289_ : zLT9 3 (Int32.toNatClampNeg (i2z217_ + 1)) M M277_ := (zLT9_n (znp1 b256_ (by decide) (by decide)) (zT9_s hs (zT9_p hs j1z217_ d224_.2 c231_ (show 0 < (Int32.toInt i2z217_).toNat from by have u := b256_; omega) e260_ d261_) d275_.2 c282_))
              exact ihz217_ (i2z217_ + 1) M277_ o279_ f281_ (zr_wide b284_ (by decide) (by decide)) j288_ j289_ (zhid (pvms_up (zshow hmz217_) h2z217_ q285_ (by decide) (by decide)))
            · have b290_ : 0 ≤ Int32.toInt x276_ ∧ Int32.toInt x276_ ≤ 0 := (by have u0 := b278_; have u1 := (zi_eq _ _).mp c282_; have u2 := (show 0 ≤ Int32.toInt 0 ∧ Int32.toInt 0 ≤ 0 from (by decide)); omega)
              refine pw_blk hT 1 (S' := (41, [some (pvR 6), some (pvI 3), some (pvI i2z217_)], [pvI 1], M277_)) rfl ⟨trivial, trivial⟩ ?_
              have b291_ : (-1) ≤ Int32.toInt (M277_.1 6 2) ∧ Int32.toInt (M277_.1 6 2) ≤ 100 := pvok_r o279_ 6 2 rfl
              have b292_ : (-1) ≤ Int32.toInt (M277_.1 6 3) ∧ Int32.toInt (M277_.1 6 3) ≤ 127 := pvok_r o279_ 6 3 rfl
              exact pw_ret hT rfl (r := some (pvI 1)) (M' := M277_) ⟨Or.inr rfl, rfl, rfl⟩ ⟨⟨_, rfl, (zr_wide (show 1 ≤ Int32.toInt 1 ∧ Int32.toInt 1 ≤ 1 from (by decide)) (by decide) (by decide))⟩, o279_, f281_, (by omega), (zT9_e hs (zT9_p hs j1z217_ d224_.2 c231_ (show 0 < (Int32.toInt i2z217_).toNat from by have u := b256_; omega) e260_ d261_) d275_.2 c282_)⟩
        · have b293_ : 0 ≤ Int32.toInt x225_ ∧ Int32.toInt x225_ ≤ 0 := (by have u0 := b227_; have u1 := (zi_eq _ _).mp c231_; have u2 := (show 0 ≤ Int32.toInt 0 ∧ Int32.toInt 0 ≤ 0 from (by decide)); omega)
          refine pw_blk hT 1 (S' := (17, [some (pvR 6), some (pvI 3), some (pvI i2z217_)], [pvI 0], M226_)) rfl ⟨trivial, trivial⟩ ?_
          have b294_ : (-1) ≤ Int32.toInt (M226_.1 6 2) ∧ Int32.toInt (M226_.1 6 2) ≤ 100 := pvok_r o228_ 6 2 rfl
          have b295_ : (-1) ≤ Int32.toInt (M226_.1 6 3) ∧ Int32.toInt (M226_.1 6 3) ≤ 127 := pvok_r o228_ 6 3 rfl
          exact pw_ret hT rfl (r := some (pvI 0)) (M' := M226_) ⟨Or.inl rfl, rfl, rfl⟩ ⟨⟨_, rfl, (zr_wide (show 0 ≤ Int32.toInt 0 ∧ Int32.toInt 0 ≤ 0 from (by decide)) (by decide) (by decide))⟩, o228_, f230_, (by omega), (zT9_f j1z217_ d224_.2 c231_)⟩
  have u296_ : Int32.toInt 3 = 3 := by decide
  have u297_ : Int32.toInt 0 = 0 := by decide
  have j298_ : (Int32.toInt (M.1 6 3) ≤ -1 ∨ Int32.toInt (M.1 6 2) ≤ 99) := by omega
  have j299_ : zLT9 3 (Int32.toNatClampNeg 0) M M := (zLT9_0 hs)
  exact hlz217_ _ 0 M hok pvfr_0 (zr_wide (show 0 ≤ Int32.toInt 0 ∧ Int32.toInt 0 ≤ 0 from (by decide)) (by decide) (by decide)) j298_ j299_ (zhid (Nat.lt_succ_self _))
def fpL_eX5_readAny_6_3 : List (Nat × Nat × Nat) := [(0, 6, 3), (0, 6, 4), (1, 111, 0), (1, 2, 6)]
def fp_eX5_readAny_6_3 (q k : Nat) : Bool := pvfp fpL_eX5_readAny_6_3 q k
theorem fp_eX5_readAny_6_3_fp_eX2_addStep_x_x (a b : Nat) (h : fp_eX2_addStep_x_x a b = true) : fp_eX5_readAny_6_3 a b = true := pvfp_sub (l1 := fpL_eX2_addStep_x_x) (l2 := fpL_eX5_readAny_6_3) (by decide) a b h
theorem fp_eX5_readAny_6_3_fp_eX5_readAll_6_3 (a b : Nat) (h : fp_eX5_readAll_6_3 a b = true) : fp_eX5_readAny_6_3 a b = true := pvfp_sub (l1 := fpL_eX5_readAll_6_3) (l2 := fpL_eX5_readAny_6_3) (by decide) a b h
theorem fp_eX5_readAny_6_3_fp_eX5_readSign_6_x (a b : Nat) (h : fp_eX5_readSign_6_x a b = true) : fp_eX5_readAny_6_3 a b = true := pvfp_sub (l1 := fpL_eX5_readSign_6_x) (l2 := fpL_eX5_readAny_6_3) (by decide) a b h
set_option maxHeartbeats 4000000 in
set_option maxRecDepth 10000 in
theorem se_X5_readAny_6_3 (M : pvM) (hok : pvOk M) (hx0 : (Int32.toInt (M.1 6 3) ≤ -1 ∨ Int32.toInt (M.1 6 2) ≤ 99)) (hs : zRs M) (d : Nat) (hd : 1 ≤ d) : PW 141 d (0, [some (pvR 6), some (pvI 3), none], [], M) (fun r X => (∃ x : Int32, r = some (pvI x) ∧ 0 ≤ Int32.toInt x ∧ Int32.toInt x ≤ 1) ∧ pvOk X ∧ pvFr fp_eX5_readAny_6_3 M X ∧ ((Int32.toInt (X.1 6 3) ≤ -1 ∨ Int32.toInt (X.1 6 2) ≤ 99)) ∧ zRc (zTA 3) r M X) := by
  have hT : pvdom 141 = pvD_141 := rfl
  have b1_ : (-1) ≤ Int32.toInt (M.1 6 2) ∧ Int32.toInt (M.1 6 2) ≤ 100 := pvok_r hok 6 2 rfl
  have b2_ : (-1) ≤ Int32.toInt (M.1 6 3) ∧ Int32.toInt (M.1 6 3) ≤ 127 := pvok_r hok 6 3 rfl
  refine pw_blk hT 2 (S' := (2, [some (pvR 6), some (pvI 3), some (pvI 0)], [], M)) rfl ⟨trivial, trivial, trivial⟩ ?_
  have hlz217_ : ∀ (nz217_ : Nat) (i2z217_ : Int32) (Mz217_ : pvM), (pvOk Mz217_) → (pvFr fp_eX5_readAny_6_3 M Mz217_) → (0 ≤ Int32.toInt i2z217_ ∧ Int32.toInt i2z217_ ≤ 100) → ((Int32.toInt (Mz217_.1 6 3) ≤ -1 ∨ Int32.toInt (Mz217_.1 6 2) ≤ 99)) → (zLA9 3 (Int32.toNatClampNeg i2z217_) M Mz217_) → (zhide ((101 - Int32.toInt i2z217_).toNat < nz217_)) → PW 141 d (2, [some (pvR 6), some (pvI 3), some (pvI i2z217_)], [], Mz217_) (fun r X => (∃ x : Int32, r = some (pvI x) ∧ 0 ≤ Int32.toInt x ∧ Int32.toInt x ≤ 1) ∧ pvOk X ∧ pvFr fp_eX5_readAny_6_3 M X ∧ ((Int32.toInt (X.1 6 3) ≤ -1 ∨ Int32.toInt (X.1 6 2) ≤ 99)) ∧ zRc (zTA 3) r M X) := by
    intro nz217_
    induction nz217_ with
    | zero => intro i2z217_ Mz217_ oz217_ fz217_ h2z217_ j0z217_ j1z217_ hmz217_; exact absurd (zshow hmz217_) (Nat.not_lt_zero _)
    | succ nz217_ ihz217_ =>
      intro i2z217_ Mz217_ oz217_ fz217_ h2z217_ j0z217_ j1z217_ hmz217_
      have b218_ : (-1) ≤ Int32.toInt (Mz217_.1 6 2) ∧ Int32.toInt (Mz217_.1 6 2) ≤ 100 := pvok_r oz217_ 6 2 rfl
      have b219_ : (-1) ≤ Int32.toInt (Mz217_.1 6 3) ∧ Int32.toInt (Mz217_.1 6 3) ≤ 127 := pvok_r oz217_ 6 3 rfl
      refine pw_blk hT 2 (S' := (5, [some (pvR 6), some (pvI 3), some (pvI i2z217_)], [pvI 100, pvI i2z217_], Mz217_)) rfl ⟨trivial, trivial, trivial⟩ ?_
      refine pw_ic hT (c := 100 ≤ i2z217_) rfl rfl (fun c220_ => ?_) (fun c220_ => ?_)
      · have b221_ : 100 ≤ Int32.toInt i2z217_ ∧ Int32.toInt i2z217_ ≤ 100 := zr_le_r 100 c220_ h2z217_ (show 100 ≤ Int32.toInt 100 ∧ Int32.toInt 100 ≤ 100 from (by decide)) (by decide)
        refine pw_blk hT 1 (S' := (49, [some (pvR 6), some (pvI 3), some (pvI i2z217_)], [pvI 0], Mz217_)) rfl ⟨trivial, trivial⟩ ?_
        exact pw_ret hT rfl (r := some (pvI 0)) (M' := Mz217_) ⟨Or.inl rfl, rfl, rfl⟩ ⟨⟨_, rfl, (zr_wide (show 0 ≤ Int32.toInt 0 ∧ Int32.toInt 0 ≤ 0 from (by decide)) (by decide) (by decide))⟩, oz217_, fz217_, (by omega), ((zLA9_x j1z217_ (show 100 ≤ (Int32.toInt i2z217_).toNat from by have u := b221_; omega)).elim)⟩
      · have b222_ : 0 ≤ Int32.toInt i2z217_ ∧ Int32.toInt i2z217_ ≤ 99 := zr_nle_r 99 c220_ h2z217_ (show 100 ≤ Int32.toInt 100 ∧ Int32.toInt 100 ≤ 100 from (by decide)) (by decide)
        refine pw_blk hT 2 (S' := (10, [some (pvR 6), some (pvI 3), some (pvI i2z217_)], [pvI 3, pvR 6], Mz217_)) rfl ⟨trivial, trivial, trivial⟩ ?_
        have u223_ : Int32.toInt 3 = 3 := by decide
        refine pw_callGd hT (as := [pvR 6, pvI 3]) (lo1 := [some (pvR 6), some (pvI 3), none]) (d1 := d) (rest := []) rfl rfl rfl rfl rfl (fun _ => rfl) (Nat.zero_le _) rfl rfl rfl (se_X5_readAll_6_3 Mz217_ oz217_ (show (Int32.toInt (Mz217_.1 6 3) ≤ -1 ∨ Int32.toInt (Mz217_.1 6 2) ≤ 99) from (by omega)) (zLA9_rs hs j1z217_) d (Nat.le_trans (by decide) hd)) (fun x225_ M226_ b227_ o228_ g229_ d224_ => ?_)
        have f230_ : pvFr fp_eX5_readAny_6_3 M M226_ := pvfr_t g229_ fz217_ fp_eX5_readAny_6_3_fp_eX5_readAll_6_3
        refine pw_ifn hT (c := x225_ = 0) rfl rfl (fun c231_ => ?_) (fun c231_ => ?_)
        · have b232_ : 1 ≤ Int32.toInt x225_ ∧ Int32.toInt x225_ ≤ 1 := (by have u0 := b227_; have u1 := (not_congr (zi_eq _ _)).mp c231_; have u2 := (show 0 ≤ Int32.toInt 0 ∧ Int32.toInt 0 ≤ 0 from (by decide)); omega)
          refine pw_blk hT 1 (S' := (19, [some (pvR 6), some (pvI 3), some (pvI i2z217_)], [pvI i2z217_], M226_)) rfl ⟨trivial, trivial⟩ ?_
          refine pw_if hT (c := i2z217_ ≤ 0) rfl rfl (fun c233_ => ?_) (fun c233_ => ?_)
          · have b234_ : 0 ≤ Int32.toInt i2z217_ ∧ Int32.toInt i2z217_ ≤ 0 := zr_le_l 0 c233_ b222_ (show 0 ≤ Int32.toInt 0 ∧ Int32.toInt 0 ≤ 0 from (by decide)) (by decide)
            refine pw_blk hT 2 (S' := (34, [some (pvR 6), some (pvI 3), some (pvI i2z217_)], [pvI 124, pvR 6], M226_)) rfl ⟨trivial, trivial, trivial⟩ ?_
            have u235_ : Int32.toInt 124 = 124 := by decide
            have b236_ : (-1) ≤ Int32.toInt (M226_.1 6 2) ∧ Int32.toInt (M226_.1 6 2) ≤ 100 := pvok_r o228_ 6 2 rfl
            have b237_ : (-1) ≤ Int32.toInt (M226_.1 6 3) ∧ Int32.toInt (M226_.1 6 3) ≤ 127 := pvok_r o228_ 6 3 rfl
            refine pw_callGd hT (as := [pvR 6, pvI 124]) (lo1 := [some (pvR 6), some (pvI 124)]) (d1 := d) (rest := []) rfl rfl rfl rfl rfl (fun _ => rfl) (Nat.zero_le _) rfl rfl rfl (se_X5_readSign_6_x M226_ o228_ 124 (zr_wide (show 124 ≤ Int32.toInt 124 ∧ Int32.toInt 124 ≤ 124 from (by decide)) (by decide) (by decide)) (show (Int32.toInt (M226_.1 6 3) ≤ -1 ∨ Int32.toInt (M226_.1 6 2) ≤ 99) from (by omega)) d224_.2.1 d) (fun x239_ M240_ b241_ o242_ g243_ d238_ => ?_)
            have f244_ : pvFr fp_eX5_readAny_6_3 M M240_ := pvfr_t g243_ f230_ fp_eX5_readAny_6_3_fp_eX5_readSign_6_x
            refine pw_ifn hT (c := x239_ = 0) rfl rfl (fun c245_ => ?_) (fun c245_ => ?_)
            · have b246_ : 1 ≤ Int32.toInt x239_ ∧ Int32.toInt x239_ ≤ 1 := (by have u0 := b241_; have u1 := (not_congr (zi_eq _ _)).mp c245_; have u2 := (show 0 ≤ Int32.toInt 0 ∧ Int32.toInt 0 ≤ 0 from (by decide)); omega)
              obtain ⟨q248_, b247_⟩ : (Int32.toInt (i2z217_ + 1) = Int32.toInt i2z217_ + 1) ∧ (1 ≤ Int32.toInt (i2z217_ + 1) ∧ Int32.toInt (i2z217_ + 1) ≤ 1) := zadd_k i2z217_ 1 1 1 1 b234_ (by decide) (by decide) (by decide) (by decide) (by decide)
              refine pw_blk hT 2 (S' := (2, [some (pvR 6), some (pvI 3), some (pvI (i2z217_ + 1))], [], M240_)) rfl ⟨trivial, trivial, trivial⟩ ?_
              have b249_ : (-1) ≤ Int32.toInt (M240_.1 6 2) ∧ Int32.toInt (M240_.1 6 2) ≤ 100 := pvok_r o242_ 6 2 rfl
              have b250_ : (-1) ≤ Int32.toInt (M240_.1 6 3) ∧ Int32.toInt (M240_.1 6 3) ≤ 127 := pvok_r o242_ 6 3 rfl
              have j251_ : (Int32.toInt (M240_.1 6 3) ≤ -1 ∨ Int32.toInt (M240_.1 6 2) ≤ 99) := by omega
              have j252_ : zLA9 3 (Int32.toNatClampNeg (i2z217_ + 1)) M M240_ := (zLA9_n (znp1 b234_ (by decide) (by decide)) (zA9_s hs (zA9_o hs j1z217_ d224_.2 c231_ (show (Int32.toInt i2z217_).toNat = 0 from by have u := b234_; omega)) d238_.2 c245_))
              exact ihz217_ (i2z217_ + 1) M240_ o242_ f244_ (zr_wide b247_ (by decide) (by decide)) j251_ j252_ (zhid (pvms_up (zshow hmz217_) h2z217_ q248_ (by decide) (by decide)))
            · have b253_ : 0 ≤ Int32.toInt x239_ ∧ Int32.toInt x239_ ≤ 0 := (by have u0 := b241_; have u1 := (zi_eq _ _).mp c245_; have u2 := (show 0 ≤ Int32.toInt 0 ∧ Int32.toInt 0 ≤ 0 from (by decide)); omega)
              refine pw_blk hT 1 (S' := (41, [some (pvR 6), some (pvI 3), some (pvI i2z217_)], [pvI 1], M240_)) rfl ⟨trivial, trivial⟩ ?_
              have b254_ : (-1) ≤ Int32.toInt (M240_.1 6 2) ∧ Int32.toInt (M240_.1 6 2) ≤ 100 := pvok_r o242_ 6 2 rfl
              have b255_ : (-1) ≤ Int32.toInt (M240_.1 6 3) ∧ Int32.toInt (M240_.1 6 3) ≤ 127 := pvok_r o242_ 6 3 rfl
              exact pw_ret hT rfl (r := some (pvI 1)) (M' := M240_) ⟨Or.inr rfl, rfl, rfl⟩ ⟨⟨_, rfl, (zr_wide (show 1 ≤ Int32.toInt 1 ∧ Int32.toInt 1 ≤ 1 from (by decide)) (by decide) (by decide))⟩, o242_, f244_, (by omega), (zA9_e hs (zA9_o hs j1z217_ d224_.2 c231_ (show (Int32.toInt i2z217_).toNat = 0 from by have u := b234_; omega)) d238_.2 c245_)⟩
          · have b256_ : 1 ≤ Int32.toInt i2z217_ ∧ Int32.toInt i2z217_ ≤ 99 := zr_nle_l 1 c233_ b222_ (show 0 ≤ Int32.toInt 0 ∧ Int32.toInt 0 ≤ 0 from (by decide)) (by decide)
            have b257_ : 15 ≤ Int32.toInt (M226_.1 6 4) ∧ Int32.toInt (M226_.1 6 4) ≤ 23 := pvok_r o228_ 6 4 rfl
            refine pw_blkr hT 2 (pc := 26) (lo := [some (pvR 6), some (pvI 3), some (pvI i2z217_)]) (st := []) (M := M226_) (z := (pvhp (M226_.1 6 4))) rfl ⟨trivial, rfl, trivial⟩ (fun q258_ e260_ => ?_)
            have k259_ : pvkl q258_ = 2 := pvhp_k b257_ e260_
            refine pw_blk hT 1 (S' := (28, [some (pvR 6), some (pvI 3), some (pvI i2z217_)], [pvI (-3), pvR q258_], M226_)) rfl ⟨trivial, trivial⟩ ?_
            refine pw_callVd hT (as := [pvR q258_, pvI (-3)]) (lo1 := [some (pvR q258_), some (pvI (-3))]) (d1 := d) (rest := []) rfl rfl rfl rfl rfl (fun _ => k259_) (Nat.zero_le _) rfl rfl rfl (se_X2_addStep_x_x M226_ o228_ q258_ (-3) k259_ (zr_wide (show (-3) ≤ Int32.toInt (-3) ∧ Int32.toInt (-3) ≤ (-3) from (by decide)) (by decide) (by decide)) d) (fun M263_ o265_ g266_ d261_ => ?_)
            have f267_ : pvFr fp_eX5_readAny_6_3 M M263_ := pvfr_t g266_ f230_ fp_eX5_readAny_6_3_fp_eX2_addStep_x_x
            refine pw_blk hT 2 (S' := (34, [some (pvR 6), some (pvI 3), some (pvI i2z217_)], [pvI 124, pvR 6], M263_)) rfl ⟨trivial, trivial, trivial⟩ ?_
            have u268_ : Int32.toInt 124 = 124 := by decide
            have e269_ : (M263_.1 6 2) = (M226_.1 6 2) := (g266_ 6 2 rfl)
            have b270_ : (-1) ≤ Int32.toInt (M263_.1 6 2) ∧ Int32.toInt (M263_.1 6 2) ≤ 100 := pvok_r o265_ 6 2 rfl
            have d271_ : Int32.toInt (M263_.1 6 2) = Int32.toInt (M226_.1 6 2) := congrArg Int32.toInt e269_
            have e272_ : (M263_.1 6 3) = (M226_.1 6 3) := (g266_ 6 3 rfl)
            have b273_ : (-1) ≤ Int32.toInt (M263_.1 6 3) ∧ Int32.toInt (M263_.1 6 3) ≤ 127 := pvok_r o265_ 6 3 rfl
            have d274_ : Int32.toInt (M263_.1 6 3) = Int32.toInt (M226_.1 6 3) := congrArg Int32.toInt e272_
            refine pw_callGd hT (as := [pvR 6, pvI 124]) (lo1 := [some (pvR 6), some (pvI 124)]) (d1 := d) (rest := []) rfl rfl rfl rfl rfl (fun _ => rfl) (Nat.zero_le _) rfl rfl rfl (se_X5_readSign_6_x M263_ o265_ 124 (zr_wide (show 124 ≤ Int32.toInt 124 ∧ Int32.toInt 124 ≤ 124 from (by decide)) (by decide) (by decide)) (show (Int32.toInt (M263_.1 6 3) ≤ -1 ∨ Int32.toInt (M263_.1 6 2) ≤ 99) from (by omega)) (zLB9_q (zA9_p hs j1z217_ d224_.2 c231_ (show 0 < (Int32.toInt i2z217_).toNat from by have u := b256_; omega) e260_ d261_)) d) (fun x276_ M277_ b278_ o279_ g280_ d275_ => ?_)
            have f281_ : pvFr fp_eX5_readAny_6_3 M M277_ := pvfr_t g280_ f267_ fp_eX5_readAny_6_3_fp_eX5_readSign_6_x
            refine pw_ifn hT (c := x276_ = 0) rfl rfl (fun c282_ => ?_) (fun c282_ => ?_)
            · have b283_ : 1 ≤ Int32.toInt x276_ ∧ Int32.toInt x276_ ≤ 1 := (by have u0 := b278_; have u1 := (not_congr (zi_eq _ _)).mp c282_; have u2 := (show 0 ≤ Int32.toInt 0 ∧ Int32.toInt 0 ≤ 0 from (by decide)); omega)
              obtain ⟨q285_, b284_⟩ : (Int32.toInt (i2z217_ + 1) = Int32.toInt i2z217_ + 1) ∧ (2 ≤ Int32.toInt (i2z217_ + 1) ∧ Int32.toInt (i2z217_ + 1) ≤ 100) := zadd_k i2z217_ 1 1 2 100 b256_ (by decide) (by decide) (by decide) (by decide) (by decide)
              refine pw_blk hT 2 (S' := (2, [some (pvR 6), some (pvI 3), some (pvI (i2z217_ + 1))], [], M277_)) rfl ⟨trivial, trivial, trivial⟩ ?_
              have b286_ : (-1) ≤ Int32.toInt (M277_.1 6 2) ∧ Int32.toInt (M277_.1 6 2) ≤ 100 := pvok_r o279_ 6 2 rfl
              have b287_ : (-1) ≤ Int32.toInt (M277_.1 6 3) ∧ Int32.toInt (M277_.1 6 3) ≤ 127 := pvok_r o279_ 6 3 rfl
              have j288_ : (Int32.toInt (M277_.1 6 3) ≤ -1 ∨ Int32.toInt (M277_.1 6 2) ≤ 99) := by omega
              have j289_ : zLA9 3 (Int32.toNatClampNeg (i2z217_ + 1)) M M277_ := (zLA9_n (znp1 b256_ (by decide) (by decide)) (zA9_s hs (zA9_p hs j1z217_ d224_.2 c231_ (show 0 < (Int32.toInt i2z217_).toNat from by have u := b256_; omega) e260_ d261_) d275_.2 c282_))
              exact ihz217_ (i2z217_ + 1) M277_ o279_ f281_ (zr_wide b284_ (by decide) (by decide)) j288_ j289_ (zhid (pvms_up (zshow hmz217_) h2z217_ q285_ (by decide) (by decide)))
            · have b290_ : 0 ≤ Int32.toInt x276_ ∧ Int32.toInt x276_ ≤ 0 := (by have u0 := b278_; have u1 := (zi_eq _ _).mp c282_; have u2 := (show 0 ≤ Int32.toInt 0 ∧ Int32.toInt 0 ≤ 0 from (by decide)); omega)
              refine pw_blk hT 1 (S' := (41, [some (pvR 6), some (pvI 3), some (pvI i2z217_)], [pvI 1], M277_)) rfl ⟨trivial, trivial⟩ ?_
              have b291_ : (-1) ≤ Int32.toInt (M277_.1 6 2) ∧ Int32.toInt (M277_.1 6 2) ≤ 100 := pvok_r o279_ 6 2 rfl
              have b292_ : (-1) ≤ Int32.toInt (M277_.1 6 3) ∧ Int32.toInt (M277_.1 6 3) ≤ 127 := pvok_r o279_ 6 3 rfl
              exact pw_ret hT rfl (r := some (pvI 1)) (M' := M277_) ⟨Or.inr rfl, rfl, rfl⟩ ⟨⟨_, rfl, (zr_wide (show 1 ≤ Int32.toInt 1 ∧ Int32.toInt 1 ≤ 1 from (by decide)) (by decide) (by decide))⟩, o279_, f281_, (by omega), (zA9_e hs (zA9_p hs j1z217_ d224_.2 c231_ (show 0 < (Int32.toInt i2z217_).toNat from by have u := b256_; omega) e260_ d261_) d275_.2 c282_)⟩
        · have b293_ : 0 ≤ Int32.toInt x225_ ∧ Int32.toInt x225_ ≤ 0 := (by have u0 := b227_; have u1 := (zi_eq _ _).mp c231_; have u2 := (show 0 ≤ Int32.toInt 0 ∧ Int32.toInt 0 ≤ 0 from (by decide)); omega)
          refine pw_blk hT 1 (S' := (17, [some (pvR 6), some (pvI 3), some (pvI i2z217_)], [pvI 0], M226_)) rfl ⟨trivial, trivial⟩ ?_
          have b294_ : (-1) ≤ Int32.toInt (M226_.1 6 2) ∧ Int32.toInt (M226_.1 6 2) ≤ 100 := pvok_r o228_ 6 2 rfl
          have b295_ : (-1) ≤ Int32.toInt (M226_.1 6 3) ∧ Int32.toInt (M226_.1 6 3) ≤ 127 := pvok_r o228_ 6 3 rfl
          exact pw_ret hT rfl (r := some (pvI 0)) (M' := M226_) ⟨Or.inl rfl, rfl, rfl⟩ ⟨⟨_, rfl, (zr_wide (show 0 ≤ Int32.toInt 0 ∧ Int32.toInt 0 ≤ 0 from (by decide)) (by decide) (by decide))⟩, o228_, f230_, (by omega), (zA9_f j1z217_ d224_.2 c231_)⟩
  have u296_ : Int32.toInt 3 = 3 := by decide
  have u297_ : Int32.toInt 0 = 0 := by decide
  have j298_ : (Int32.toInt (M.1 6 3) ≤ -1 ∨ Int32.toInt (M.1 6 2) ≤ 99) := by omega
  have j299_ : zLA9 3 (Int32.toNatClampNeg 0) M M := (zLA9_0 hs)
  exact hlz217_ _ 0 M hok pvfr_0 (zr_wide (show 0 ≤ Int32.toInt 0 ∧ Int32.toInt 0 ≤ 0 from (by decide)) (by decide) (by decide)) j298_ j299_ (zhid (Nat.lt_succ_self _))
