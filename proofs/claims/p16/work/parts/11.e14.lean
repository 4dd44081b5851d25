def fpL_eX10_worth_124_x : List (Nat × Nat × Nat) := [(0, 124, 33), (0, 131, 0), (0, 141, 0), (0, 142, 0), (0, 143, 0)]
def fp_eX10_worth_124_x (q k : Nat) : Bool := pvfp fpL_eX10_worth_124_x q k
theorem fp_eX10_worth_124_x_fp_eX10_costOfNone_124 (a b : Nat) (h : fp_eX10_costOfNone_124 a b = true) : fp_eX10_worth_124_x a b = true := pvfp_sub (l1 := fpL_eX10_costOfNone_124) (l2 := fpL_eX10_worth_124_x) (by decide) a b h
theorem fp_eX10_worth_124_x_fp_eX10_layRain_124 (a b : Nat) (h : fp_eX10_layRain_124 a b = true) : fp_eX10_worth_124_x a b = true := pvfp_sub (l1 := fpL_eX10_layRain_124) (l2 := fpL_eX10_worth_124_x) (by decide) a b h
set_option maxHeartbeats 4000000 in
set_option maxRecDepth 10000 in
theorem se_X10_worth_124_x (M : pvM) (hok : pvOk M) (n1 : Int32) (hz : pvWF M) (d : Nat) : PW 101 d (0, [some (pvR 124), some (pvI n1), none, none], [], M) (fun r X => (∃ x : Int32, r = some (pvI x) ∧ (-9000000) ≤ Int32.toInt x ∧ Int32.toInt x ≤ 9000000) ∧ pvOk X ∧ pvFr fp_eX10_worth_124_x M X ∧ zKy0 1 5 6 131 M X ∧ yA0 (yGwo n1) r M) := by
  have hT : pvdom 101 = pvD_101 := rfl
  refine pw_blk hT 2 (S' := (2, [some (pvR 124), some (pvI n1), none, none], [pvI n1, pvR 124], M)) rfl ⟨trivial, trivial, trivial⟩ ?_
  refine pw_callT hT (as := [pvR 124, pvI n1]) (lo1 := [some (pvR 124), some (pvI n1)]) (d1 := d) (rest := []) rfl rfl rfl rfl rfl (fun _ => rfl) (Nat.zero_le _) rfl rfl rfl (sf_X10_isWindow_124_x M hok n1 d) ?_
  by_cases c6_ : n1 < 0
  · refine pw_eqI (if_pos c6_) ?_
    have b7_ : (-2147483648) ≤ Int32.toInt n1 ∧ Int32.toInt n1 ≤ (-1) := zr_lt_l (-1) c6_ (zbnd n1) (show 0 ≤ Int32.toInt 0 ∧ Int32.toInt 0 ≤ 0 from (by decide)) (by decide)
    show PW 101 d (5, [some (pvR 124), some (pvI n1), none, none], [pvI 0], M) _
    refine pw_ifn hT (c := 0 = 0) rfl rfl (fun c8_ => absurd (by decide) c8_) (fun c8_ => ?_)
    refine pw_blk hT 1 (S' := (9, [some (pvR 124), some (pvI n1), none, none], [pvI (-1)], M)) rfl ⟨trivial, trivial⟩ ?_
    exact pw_ret hT rfl (r := some (pvI (-1))) (M' := M) ⟨rfl, rfl⟩ ⟨⟨_, rfl, (zr_wide (show (-1) ≤ Int32.toInt (-1) ∧ Int32.toInt (-1) ≤ (-1) from (by decide)) (by decide) (by decide))⟩, hok, pvfr_0, (zKy0_r 1 5 6 131 M), (yGwo0_n (zvl_l c6_) (by decide))⟩
  · refine pw_eqI (if_neg c6_) ?_
    have b9_ : 0 ≤ Int32.toInt n1 ∧ Int32.toInt n1 ≤ 2147483647 := zr_nlt_l 0 c6_ (zbnd n1) (show 0 ≤ Int32.toInt 0 ∧ Int32.toInt 0 ≤ 0 from (by decide)) (by decide)
    have b10_ : 0 ≤ Int32.toInt (M.1 124 0) ∧ Int32.toInt (M.1 124 0) ≤ 7 := pvok_r hok 124 0 rfl
    obtain ⟨q12_, b11_⟩ : (Int32.toInt ((M.1 124 0) - 1) = Int32.toInt (M.1 124 0) - 1) ∧ ((-1) ≤ Int32.toInt ((M.1 124 0) - 1) ∧ Int32.toInt ((M.1 124 0) - 1) ≤ 6) := zsub_k (M.1 124 0) 1 1 (-1) 6 b10_ (by decide) (by decide) (by decide) (by decide) (by decide)
    by_cases c13_ : ((M.1 124 0) - 1) < n1
    · refine pw_eqI (if_pos c13_) ?_
      have d14_ : Int32.toInt ((M.1 124 0) - 1) < Int32.toInt n1 := (zi_lt _ _).mp c13_
      show PW 101 d (5, [some (pvR 124), some (pvI n1), none, none], [pvI 0], M) _
      refine pw_ifn hT (c := 0 = 0) rfl rfl (fun c15_ => absurd (by decide) c15_) (fun c15_ => ?_)
      refine pw_blk hT 1 (S' := (9, [some (pvR 124), some (pvI n1), none, none], [pvI (-1)], M)) rfl ⟨trivial, trivial⟩ ?_
      exact pw_ret hT rfl (r := some (pvI (-1))) (M' := M) ⟨rfl, rfl⟩ ⟨⟨_, rfl, (zr_wide (show (-1) ≤ Int32.toInt (-1) ∧ Int32.toInt (-1) ≤ (-1) from (by decide)) (by decide) (by decide))⟩, hok, pvfr_0, (zKy0_r 1 5 6 131 M), (yGwo0_n (zvl_u0 (pvok_r hok 124 0 (lo := 0) (hi := 7) rfl).1 c13_) (by decide))⟩
    · refine pw_eqI (if_neg c13_) ?_
      have b16_ : 0 ≤ Int32.toInt ((M.1 124 0) - 1) ∧ Int32.toInt ((M.1 124 0) - 1) ≤ 6 := zr_nlt_l 0 c13_ b11_ b9_ (by decide)
      have b17_ : 0 ≤ Int32.toInt n1 ∧ Int32.toInt n1 ≤ 6 := zr_nlt_r 6 c13_ b9_ b16_ (by decide)
      have d18_ : Int32.toInt ((M.1 124 0) - 1) ≥ Int32.toInt n1 := Int.not_lt.mp ((not_congr (zi_lt _ _)).mp c13_)
      show PW 101 d (5, [some (pvR 124), some (pvI n1), none, none], [pvI 1], M) _
      refine pw_ifn hT (c := 1 = 0) rfl rfl (fun c19_ => ?_) (fun c19_ => absurd c19_ (by decide))
      refine pw_blk hT 1 (S' := (11, [some (pvR 124), some (pvI n1), none, none], [pvR 124], M)) rfl ⟨trivial, trivial⟩ ?_
      refine pw_callVd hT (as := [pvR 124]) (lo1 := [some (pvR 124), none, none]) (d1 := d) (rest := []) rfl rfl rfl rfl rfl (fun _ => rfl) (Nat.zero_le _) rfl rfl rfl (se_X10_layRain_124 M hok hz d) (fun M22_ o24_ g25_ d20_ => ?_)
      have f26_ : pvFr fp_eX10_worth_124_x M M22_ := pvfr_t g25_ pvfr_0 fp_eX10_worth_124_x_fp_eX10_layRain_124
      refine pw_blk hT 1 (S' := (15, [some (pvR 124), some (pvI n1), none, none], [pvR 124], M22_)) rfl ⟨trivial, trivial⟩ ?_
      refine pw_callGd hT (as := [pvR 124]) (lo1 := [some (pvR 124)]) (d1 := d) (rest := []) rfl rfl rfl rfl rfl (fun _ => rfl) (Nat.zero_le _) rfl rfl rfl (se_X10_costOfNone_124 M22_ o24_ d) (fun x28_ M29_ b30_ o31_ g32_ d27_ => ?_)
      have f33_ : pvFr fp_eX10_worth_124_x M M29_ := pvfr_t g32_ f26_ fp_eX10_worth_124_x_fp_eX10_costOfNone_124
      have b34_ : 0 ≤ Int32.toInt (M29_.1 131 (Int32.toNatClampNeg n1)) ∧ Int32.toInt (M29_.1 131 (Int32.toNatClampNeg n1)) ≤ 1 := pvok_r o31_ 131 (Int32.toNatClampNeg n1) rfl
      refine pw_blkw hT 11 (pc := 33) (lo := [some (pvR 124), some (pvI n1), some (pvI x28_), some (pvI (M29_.1 131 (Int32.toNatClampNeg n1)))]) (st := []) (M := pvu M29_ 131 (Int32.toNatClampNeg n1) (vp_nar .boolean 1)) rfl ⟨trivial, trivial, rfl, trivial, ⟨rfl, (zr_in (n := 7) b17_ (by decide) (by decide))⟩, trivial, trivial, rfl, trivial, trivial, ⟨rfl, (zr_in (n := 7) b17_ (by decide) (by decide))⟩, trivial⟩ (fun M35_ e36_ => ?_)
      have o37_ : pvOk M35_ := pvok_u2 e36_ o31_ rfl (zboolr 1)
      have f38_ : pvFr fp_eX10_worth_124_x M M35_ := pvfr_u e36_ f33_ rfl
      refine pw_blk hT 2 (S' := (35, [some (pvR 124), some (pvI n1), some (pvI x28_), some (pvI (M29_.1 131 (Int32.toNatClampNeg n1)))], [pvR 124, pvI x28_], M35_)) rfl ⟨trivial, trivial, trivial⟩ ?_
      refine pw_callGd hT (as := [pvR 124]) (lo1 := [some (pvR 124)]) (d1 := d) (rest := [pvI x28_]) rfl rfl rfl rfl rfl (fun _ => rfl) (Nat.zero_le _) rfl rfl rfl (se_X10_costOfNone_124 M35_ o37_ d) (fun x40_ M41_ b42_ o43_ g44_ d39_ => ?_)
      have f45_ : pvFr fp_eX10_worth_124_x M M41_ := pvfr_t g44_ f38_ fp_eX10_worth_124_x_fp_eX10_costOfNone_124
      obtain ⟨q47_, b46_⟩ : (Int32.toInt (x28_ - x40_) = Int32.toInt x28_ - Int32.toInt x40_) ∧ ((-9000000) ≤ Int32.toInt (x28_ - x40_) ∧ Int32.toInt (x28_ - x40_) ≤ 9000000) := zsub_r x28_ x40_ (-9000000) 9000000 b30_ b42_ (by decide) (by decide) (by decide) (by decide)
      refine pw_blkw hT 7 (pc := 47) (lo := [some (pvR 124), some (pvI n1), some (pvI (x28_ - x40_)), some (pvI (M29_.1 131 (Int32.toNatClampNeg n1)))]) (st := []) (M := pvu M41_ 131 (Int32.toNatClampNeg n1) (vp_nar .boolean (M29_.1 131 (Int32.toNatClampNeg n1)))) rfl ⟨trivial, trivial, trivial, rfl, trivial, trivial, ⟨rfl, (zr_in (n := 7) b17_ (by decide) (by decide))⟩, trivial⟩ (fun M48_ e49_ => ?_)
      have o50_ : pvOk M48_ := pvok_u2 e49_ o43_ rfl (zboolr (M29_.1 131 (Int32.toNatClampNeg n1)))
      have f51_ : pvFr fp_eX10_worth_124_x M M48_ := pvfr_u e49_ f45_ rfl
      refine pw_blk hT 1 (S' := (48, [some (pvR 124), some (pvI n1), some (pvI (x28_ - x40_)), some (pvI (M29_.1 131 (Int32.toNatClampNeg n1)))], [pvI (x28_ - x40_)], M48_)) rfl ⟨trivial, trivial⟩ ?_
      exact pw_ret hT rfl (r := some (pvI (x28_ - x40_))) (M' := M48_) ⟨rfl, rfl⟩ ⟨⟨_, rfl, b46_⟩, o50_, f51_, (zKy0_c (((((pvu_n e49_ 124 1 (Or.inl (by decide))).trans (g44_ 124 1 rfl)).trans (pvu_n e36_ 124 1 (Or.inl (by decide)))).trans (g32_ 124 1 rfl)).trans (g25_ 124 1 rfl)) (((((pvu_n e49_ 124 5 (Or.inl (by decide))).trans (g44_ 124 5 rfl)).trans (pvu_n e36_ 124 5 (Or.inl (by decide)))).trans (g32_ 124 5 rfl)).trans (g25_ 124 5 rfl)) (((((pvu_n e49_ 124 6 (Or.inl (by decide))).trans (g44_ 124 6 rfl)).trans (pvu_n e36_ 124 6 (Or.inl (by decide)))).trans (g32_ 124 6 rfl)).trans (g25_ 124 6 rfl)) ((zrw2 e36_ (pvfr_row (L := fpL_eX10_costOfNone_124) g44_ rfl) e49_ (zvnar (pvok_r o31_ 131 (Int32.toNatClampNeg n1) (lo := 0) (hi := 1) rfl))).trans ((pvfr_row (L := fpL_eX10_costOfNone_124) g32_ rfl).trans (pvfr_row (L := fpL_eX10_layRain_124) g25_ rfl)))), (yGwo0_y (zvl_y0 (pvok_r hok 124 0 (lo := 0) (hi := 7) rfl).1 c6_ c13_) d20_ d27_ e36_ (by decide) d39_)⟩
def fpL_eX0_note_3_x : List (Nat × Nat × Nat) := [(0, 3, 2), (0, 4, 0)]
def fp_eX0_note_3_x (q k : Nat) : Bool := pvfp fpL_eX0_note_3_x q k
set_option maxHeartbeats 4000000 in
set_option maxRecDepth 10000 in
theorem se_X0_note_3_x (M : pvM) (hok : pvOk M) (n1 : Int32) (hn1 : 0 ≤ Int32.toInt n1 ∧ Int32.toInt n1 ≤ 1000) (hc3_1 : 0 ≤ Int32.toInt (M.1 3 1) ∧ Int32.toInt (M.1 3 1) ≤ 999) (d : Nat) : PW 2 d (0, [some (pvR 3), some (pvI n1)], [], M) (fun r X => r = none ∧ pvOk X ∧ pvFr fp_eX0_note_3_x M X ∧ Int32.toInt (X.1 3 1) ≤ Int32.toInt (M.1 3 1) + 1 ∧ zTr 3 1 4 [n1] M X) := by
  have hT : pvdom 2 = pvD_2 := rfl
  refine pw_blk hT 3 (S' := (6, [some (pvR 3), some (pvI n1)], [pvI 20, pvI (M.1 3 1)], M)) rfl ⟨trivial, rfl, trivial, trivial⟩ ?_
  refine pw_ic hT (c := 20 ≤ (M.1 3 1)) rfl rfl (fun c1_ => ?_) (fun c1_ => ?_)
  · have b2_ : 20 ≤ Int32.toInt (M.1 3 1) ∧ Int32.toInt (M.1 3 1) ≤ 999 := zr_le_r 20 c1_ hc3_1 (show 20 ≤ Int32.toInt 20 ∧ Int32.toInt 20 ≤ 20 from (by decide)) (by decide)
    obtain ⟨q4_, b3_⟩ : (Int32.toInt ((M.1 3 1) + 1) = Int32.toInt (M.1 3 1) + 1) ∧ (21 ≤ Int32.toInt ((M.1 3 1) + 1) ∧ Int32.toInt ((M.1 3 1) + 1) ≤ 1000) := zadd_k (M.1 3 1) 1 1 21 1000 b2_ (by decide) (by decide) (by decide) (by decide) (by decide)
    refine pw_blkw hT 6 (pc := 29) (lo := [some (pvR 3), some (pvI n1)]) (st := []) (M := pvu M 3 1 ((M.1 3 1) + 1)) rfl ⟨trivial, trivial, rfl, trivial, trivial, rfl, trivial⟩ (fun M5_ e6_ => ?_)
    have o7_ : pvOk M5_ := pvok_u2 e6_ hok rfl (zr_wide b3_ (by decide) (by decide))
    have f8_ : pvFr fp_eX0_note_3_x M M5_ := pvfr_u e6_ pvfr_0 rfl
    exact pw_ret hT rfl (r := none) (M' := M5_) ⟨rfl, rfl⟩ ⟨rfl, o7_, f8_, (by have u0 : Int32.toInt (M5_.1 3 1) = Int32.toInt ((M.1 3 1) + 1) := congrArg Int32.toInt (pvu_s e6_); omega), (zTr_n (by decide) (zr_wide b2_ (by decide) (by decide)) (Or.inl ⟨c1_, rfl⟩) e6_)⟩
  · have b9_ : 0 ≤ Int32.toInt (M.1 3 1) ∧ Int32.toInt (M.1 3 1) ≤ 19 := zr_nle_r 19 c1_ hc3_1 (show 20 ≤ Int32.toInt 20 ∧ Int32.toInt 20 ≤ 20 from (by decide)) (by decide)
    refine pw_blkw hT 6 (pc := 19) (lo := [some (pvR 3), some (pvI n1)]) (st := []) (M := pvu M 4 (Int32.toNatClampNeg (M.1 3 1)) n1) rfl ⟨trivial, rfl, trivial, rfl, trivial, ⟨rfl, (zr_in (n := 20) b9_ (by decide) (by decide))⟩, trivial⟩ (fun M10_ e11_ => ?_)
    have o12_ : pvOk M10_ := pvok_u2 e11_ hok rfl hn1
    have f13_ : pvFr fp_eX0_note_3_x M M10_ := pvfr_u e11_ pvfr_0 rfl
    have e14_ : (M10_.1 3 1) = (M.1 3 1) := (pvu_n e11_ 3 1 (Or.inl (by decide)))
    have b15_ : 0 ≤ Int32.toInt (M10_.1 3 1) ∧ Int32.toInt (M10_.1 3 1) ≤ 19 := (by rw [e14_]; exact b9_)
    refine pw_blk hT 3 (S' := (24, [some (pvR 3), some (pvI n1)], [pvI (M10_.1 3 1), pvR 3], M10_)) rfl ⟨trivial, trivial, rfl, trivial⟩ ?_
    have e16_ : (M10_.1 3 1) = (M.1 3 1) := (pvu_n e11_ 3 1 (Or.inl (by decide)))
    refine pw_eqI e16_ ?_
    obtain ⟨q18_, b17_⟩ : (Int32.toInt ((M.1 3 1) + 1) = Int32.toInt (M.1 3 1) + 1) ∧ (1 ≤ Int32.toInt ((M.1 3 1) + 1) ∧ Int32.toInt ((M.1 3 1) + 1) ≤ 20) := zadd_k (M.1 3 1) 1 1 1 20 b9_ (by decide) (by decide) (by decide) (by decide) (by decide)
    refine pw_blkw hT 3 (pc := 29) (lo := [some (pvR 3), some (pvI n1)]) (st := []) (M := pvu M10_ 3 1 ((M.1 3 1) + 1)) rfl ⟨trivial, trivial, rfl, trivial⟩ (fun M19_ e20_ => ?_)
    have o21_ : pvOk M19_ := pvok_u2 e20_ o12_ rfl (zr_wide b17_ (by decide) (by decide))
    have f22_ : pvFr fp_eX0_note_3_x M M19_ := pvfr_u e20_ f13_ rfl
    exact pw_ret hT rfl (r := none) (M' := M19_) ⟨rfl, rfl⟩ ⟨rfl, o21_, f22_, (by have u0 : Int32.toInt (M19_.1 3 1) = Int32.toInt ((M.1 3 1) + 1) := congrArg Int32.toInt (pvu_s e20_); have u1 : Int32.toInt (M10_.1 3 1) = Int32.toInt (M.1 3 1) := congrArg Int32.toInt (pvu_n e11_ 3 1 (Or.inl (by decide))); omega), (zTr_n (by decide) (zr_wide b9_ (by decide) (by decide)) (Or.inr ⟨c1_, e11_⟩) e20_)⟩
def fpL_eX0_run_3_0_0_x_0_0 : List (Nat × Nat × Nat) := [(0, 3, 2), (0, 4, 0)]
def fp_eX0_run_3_0_0_x_0_0 (q k : Nat) : Bool := pvfp fpL_eX0_run_3_0_0_x_0_0 q k
theorem fp_eX0_run_3_0_0_x_0_0_fp_eX0_note_3_x (a b : Nat) (h : fp_eX0_note_3_x a b = true) : fp_eX0_run_3_0_0_x_0_0 a b = true := pvfp_sub (l1 := fpL_eX0_note_3_x) (l2 := fpL_eX0_run_3_0_0_x_0_0) (by decide) a b h
set_option maxHeartbeats 4000000 in
set_option maxRecDepth 10000 in
theorem se_X0_run_3_0_0_x_0_0 (M : pvM) (hok : pvOk M) (n3 : Int32) (hc3_1 : 0 ≤ Int32.toInt (M.1 3 1) ∧ Int32.toInt (M.1 3 1) ≤ 998) (hc3_2 : 0 ≤ Int32.toInt (M.1 3 2) ∧ Int32.toInt (M.1 3 2) ≤ 0) (d : Nat) : PW 4 d (0, [some (pvR 3), some (pvI 0), some (pvI 0), some (pvI n3), some (pvI 0), none, none], [], M) (fun r X => (∃ x : Int32, r = some (pvI x) ∧ True ∧ x = (n3 + (M.1 3 4))) ∧ pvOk X ∧ pvFr fp_eX0_run_3_0_0_x_0_0 M X ∧ Int32.toInt (X.1 3 1) ≤ Int32.toInt (M.1 3 1) + 1 ∧ zTr 3 1 4 ([10] : List Int32) M X) := by
  have hT : pvdom 4 = pvD_4 := rfl
  refine pw_blk hT 2 (S' := (4, [some (pvR 3), some (pvI 0), some (pvI 0), some (pvI n3), some (pvI 0), none, none], [pvI 40, pvI 0], M)) rfl ⟨trivial, trivial, trivial⟩ ?_
  refine pw_ic hT (c := 0 ≤ 40) rfl rfl (fun c1_ => ?_) (fun c1_ => absurd (by decide) c1_)
  refine pw_blk hT 2 (S' := (11, [some (pvR 3), some (pvI 0), some (pvI 0), some (pvI n3), some (pvI 0), none, none], [pvI 0, pvI 0], M)) rfl ⟨trivial, trivial, trivial⟩ ?_
  refine pw_callT hT (as := [pvI 0, pvI 0]) (lo1 := [some (pvI 0), some (pvI 0), none, none, none]) (d1 := d) (rest := []) rfl rfl rfl rfl rfl (fun h => absurd h (by decide)) (Nat.zero_le _) rfl rfl rfl (sf_X0_bodyFrom_0_0 M hok d) ?_
  refine pw_eqI (show ((pvstab 1041).getD (Int32.toNatClampNeg ((0 * 3) + 0)) 0) = 10 from by decide) ?_
  show PW 4 d (14, [some (pvR 3), some (pvI 0), some (pvI 0), some (pvI n3), some (pvI 0), none, none], [pvI 10], M) _
  refine pw_blk hT 7 (S' := (25, [some (pvR 3), some (pvI 0), some (pvI 0), some (pvI n3), some (pvI 0), some (pvI 10), some (pvI (0 + 1))], [pvI 10, pvR 3], M)) rfl ⟨trivial, trivial, trivial, trivial, trivial, trivial, trivial, trivial⟩ ?_
  refine pw_callVd hT (as := [pvR 3, pvI 10]) (lo1 := [some (pvR 3), some (pvI 10)]) (d1 := d) (rest := []) rfl rfl rfl rfl rfl (fun _ => rfl) (Nat.zero_le _) rfl rfl rfl (se_X0_note_3_x M hok 10 (zr_wide (show 10 ≤ Int32.toInt 10 ∧ Int32.toInt 10 ≤ 10 from (by decide)) (by decide) (by decide)) (zr_wide hc3_1 (by decide) (by decide)) d) (fun M11_ o13_ g14_ d9_ => ?_)
  have d7_ := d9_.1
  have d8_ := d9_.2
  have f15_ : pvFr fp_eX0_run_3_0_0_x_0_0 M M11_ := pvfr_t g14_ pvfr_0 fp_eX0_run_3_0_0_x_0_0_fp_eX0_note_3_x
  have b16_ : 0 ≤ Int32.toInt (M11_.1 3 1) ∧ Int32.toInt (M11_.1 3 1) ≤ 999 := (by have u0 := hc3_1; have u1 := d7_; have u2 := pvok_r o13_ 3 1 (lo := 0) (hi := 1000000) rfl; omega)
  refine pw_blk hT 1 (S' := (30, [some (pvR 3), some (pvI 0), some (pvI 0), some (pvI n3), some (pvI 0), some (pvI 10), some (pvI (0 + 1))], [pvI 10], M11_)) rfl ⟨trivial, trivial⟩ ?_
  refine pw_sw hT rfl rfl ?_
  refine And.intro (fun c17_ => ?_) (fun c17_ => absurd (by decide) c17_)
  show PW 4 d (128, [some (pvR 3), some (pvI 0), some (pvI 0), some (pvI n3), some (pvI 0), some (pvI 10), some (pvI (0 + 1))], [], M11_) _
  refine pw_blk hT 3 (S' := (133, [some (pvR 3), some (pvI 0), some (pvI 0), some (pvI n3), some (pvI 0), some (pvI 10), some (pvI (0 + 1))], [pvI (M11_.1 3 4), pvI n3], M11_)) rfl ⟨trivial, trivial, rfl, trivial⟩ ?_
  have e18_ : (M11_.1 3 4) = (M.1 3 4) := (g14_ 3 4 rfl)
  refine pw_eqI e18_ ?_
  refine pw_blk hT 1 (S' := (134, [some (pvR 3), some (pvI 0), some (pvI 0), some (pvI n3), some (pvI 0), some (pvI 10), some (pvI (0 + 1))], [pvI (n3 + (M.1 3 4))], M11_)) rfl ⟨trivial, trivial⟩ ?_
  exact pw_ret hT rfl (r := some (pvI (n3 + (M.1 3 4)))) (M' := M11_) ⟨rfl, rfl⟩ ⟨⟨_, rfl, trivial, rfl⟩, o13_, f15_, (by omega), (zTr_c0 (pvok_r hok 3 1 rfl).1 (zTr_0 3 1 4 M) d8_)⟩
def fpL_eX0_run_3_0_0_x_1_0 : List (Nat × Nat × Nat) := [(0, 3, 2), (0, 4, 0)]
def fp_eX0_run_3_0_0_x_1_0 (q k : Nat) : Bool := pvfp fpL_eX0_run_3_0_0_x_1_0 q k
theorem fp_eX0_run_3_0_0_x_1_0_fp_eX0_note_3_x (a b : Nat) (h : fp_eX0_note_3_x a b = true) : fp_eX0_run_3_0_0_x_1_0 a b = true := pvfp_sub (l1 := fpL_eX0_note_3_x) (l2 := fpL_eX0_run_3_0_0_x_1_0) (by decide) a b h
set_option maxHeartbeats 4000000 in
set_option maxRecDepth 10000 in
theorem se_X0_run_3_0_0_x_1_0 (M : pvM) (hok : pvOk M) (n3 : Int32) (hc3_1 : 0 ≤ Int32.toInt (M.1 3 1) ∧ Int32.toInt (M.1 3 1) ≤ 998) (hc3_2 : 0 ≤ Int32.toInt (M.1 3 2) ∧ Int32.toInt (M.1 3 2) ≤ 0) (d : Nat) : PW 4 d (0, [some (pvR 3), some (pvI 0), some (pvI 0), some (pvI n3), some (pvI 1), none, none], [], M) (fun r X => (∃ x : Int32, r = some (pvI x) ∧ True ∧ x = (n3 + (M.1 3 4))) ∧ pvOk X ∧ pvFr fp_eX0_run_3_0_0_x_1_0 M X ∧ Int32.toInt (X.1 3 1) ≤ Int32.toInt (M.1 3 1) + 1 ∧ zTr 3 1 4 ([10] : List Int32) M X) := by
  have hT : pvdom 4 = pvD_4 := rfl
  refine pw_blk hT 2 (S' := (4, [some (pvR 3), some (pvI 0), some (pvI 0), some (pvI n3), some (pvI 1), none, none], [pvI 40, pvI 1], M)) rfl ⟨trivial, trivial, trivial⟩ ?_
  refine pw_ic hT (c := 1 ≤ 40) rfl rfl (fun c1_ => ?_) (fun c1_ => absurd (by decide) c1_)
  refine pw_blk hT 2 (S' := (11, [some (pvR 3), some (pvI 0), some (pvI 0), some (pvI n3), some (pvI 1), none, none], [pvI 0, pvI 0], M)) rfl ⟨trivial, trivial, trivial⟩ ?_
  refine pw_callT hT (as := [pvI 0, pvI 0]) (lo1 := [some (pvI 0), some (pvI 0), none, none, none]) (d1 := d) (rest := []) rfl rfl rfl rfl rfl (fun h => absurd h (by decide)) (Nat.zero_le _) rfl rfl rfl (sf_X0_bodyFrom_0_0 M hok d) ?_
  refine pw_eqI (show ((pvstab 1041).getD (Int32.toNatClampNeg ((0 * 3) + 0)) 0) = 10 from by decide) ?_
  show PW 4 d (14, [some (pvR 3), some (pvI 0), some (pvI 0), some (pvI n3), some (pvI 1), none, none], [pvI 10], M) _
  refine pw_blk hT 7 (S' := (25, [some (pvR 3), some (pvI 0), some (pvI 0), some (pvI n3), some (pvI 1), some (pvI 10), some (pvI (1 + 1))], [pvI 10, pvR 3], M)) rfl ⟨trivial, trivial, trivial, trivial, trivial, trivial, trivial, trivial⟩ ?_
  refine pw_callVd hT (as := [pvR 3, pvI 10]) (lo1 := [some (pvR 3), some (pvI 10)]) (d1 := d) (rest := []) rfl rfl rfl rfl rfl (fun _ => rfl) (Nat.zero_le _) rfl rfl rfl (se_X0_note_3_x M hok 10 (zr_wide (show 10 ≤ Int32.toInt 10 ∧ Int32.toInt 10 ≤ 10 from (by decide)) (by decide) (by decide)) (zr_wide hc3_1 (by decide) (by decide)) d) (fun M11_ o13_ g14_ d9_ => ?_)
  have d7_ := d9_.1
  have d8_ := d9_.2
  have f15_ : pvFr fp_eX0_run_3_0_0_x_1_0 M M11_ := pvfr_t g14_ pvfr_0 fp_eX0_run_3_0_0_x_1_0_fp_eX0_note_3_x
  have b16_ : 0 ≤ Int32.toInt (M11_.1 3 1) ∧ Int32.toInt (M11_.1 3 1) ≤ 999 := (by have u0 := hc3_1; have u1 := d7_; have u2 := pvok_r o13_ 3 1 (lo := 0) (hi := 1000000) rfl; omega)
  refine pw_blk hT 1 (S' := (30, [some (pvR 3), some (pvI 0), some (pvI 0), some (pvI n3), some (pvI 1), some (pvI 10), some (pvI (1 + 1))], [pvI 10], M11_)) rfl ⟨trivial, trivial⟩ ?_
  refine pw_sw hT rfl rfl ?_
  refine And.intro (fun c17_ => ?_) (fun c17_ => absurd (by decide) c17_)
  show PW 4 d (128, [some (pvR 3), some (pvI 0), some (pvI 0), some (pvI n3), some (pvI 1), some (pvI 10), some (pvI (1 + 1))], [], M11_) _
  refine pw_blk hT 3 (S' := (133, [some (pvR 3), some (pvI 0), some (pvI 0), some (pvI n3), some (pvI 1), some (pvI 10), some (pvI (1 + 1))], [pvI (M11_.1 3 4), pvI n3], M11_)) rfl ⟨trivial, trivial, rfl, trivial⟩ ?_
  have e18_ : (M11_.1 3 4) = (M.1 3 4) := (g14_ 3 4 rfl)
  refine pw_eqI e18_ ?_
  refine pw_blk hT 1 (S' := (134, [some (pvR 3), some (pvI 0), some (pvI 0), some (pvI n3), some (pvI 1), some (pvI 10), some (pvI (1 + 1))], [pvI (n3 + (M.1 3 4))], M11_)) rfl ⟨trivial, trivial⟩ ?_
  exact pw_ret hT rfl (r := some (pvI (n3 + (M.1 3 4)))) (M' := M11_) ⟨rfl, rfl⟩ ⟨⟨_, rfl, trivial, rfl⟩, o13_, f15_, (by omega), (zTr_c0 (pvok_r hok 3 1 rfl).1 (zTr_0 3 1 4 M) d8_)⟩
def fpL_eX0_run_3_0_1_x_0_0 : List (Nat × Nat × Nat) := [(0, 3, 2), (0, 4, 0)]
def fp_eX0_run_3_0_1_x_0_0 (q k : Nat) : Bool := pvfp fpL_eX0_run_3_0_1_x_0_0 q k
theorem fp_eX0_run_3_0_1_x_0_0_fp_eX0_note_3_x (a b : Nat) (h : fp_eX0_note_3_x a b = true) : fp_eX0_run_3_0_1_x_0_0 a b = true := pvfp_sub (l1 := fpL_eX0_note_3_x) (l2 := fpL_eX0_run_3_0_1_x_0_0) (by decide) a b h
theorem fp_eX0_run_3_0_1_x_0_0_fp_eX0_run_3_0_0_x_1_0 (a b : Nat) (h : fp_eX0_run_3_0_0_x_1_0 a b = true) : fp_eX0_run_3_0_1_x_0_0 a b = true := pvfp_sub (l1 := fpL_eX0_run_3_0_0_x_1_0) (l2 := fpL_eX0_run_3_0_1_x_0_0) (by decide) a b h
set_option maxHeartbeats 4000000 in
set_option maxRecDepth 10000 in
theorem se_X0_run_3_0_1_x_0_0 (M : pvM) (hok : pvOk M) (n3 : Int32) (hc3_1 : 0 ≤ Int32.toInt (M.1 3 1) ∧ Int32.toInt (M.1 3 1) ≤ 997) (hc3_2 : 0 ≤ Int32.toInt (M.1 3 2) ∧ Int32.toInt (M.1 3 2) ≤ 0) (d : Nat) (hd : 1 ≤ d) : PW 4 d (0, [some (pvR 3), some (pvI 0), some (pvI 1), some (pvI n3), some (pvI 0), none, none], [], M) (fun r X => (∃ x : Int32, r = some (pvI x) ∧ True ∧ x = ((n3 + (M.1 3 4)) - (M.1 3 3))) ∧ pvOk X ∧ pvFr fp_eX0_run_3_0_1_x_0_0 M X ∧ Int32.toInt (X.1 3 1) ≤ Int32.toInt (M.1 3 1) + 2 ∧ zTr 3 1 4 (([11] : List Int32) ++ ([10] : List Int32)) M X) := by
  have hT : pvdom 4 = pvD_4 := rfl
  refine pw_blk hT 2 (S' := (4, [some (pvR 3), some (pvI 0), some (pvI 1), some (pvI n3), some (pvI 0), none, none], [pvI 40, pvI 0], M)) rfl ⟨trivial, trivial, trivial⟩ ?_
  refine pw_ic hT (c := 0 ≤ 40) rfl rfl (fun c1_ => ?_) (fun c1_ => absurd (by decide) c1_)
  refine pw_blk hT 2 (S' := (11, [some (pvR 3), some (pvI 0), some (pvI 1), some (pvI n3), some (pvI 0), none, none], [pvI 1, pvI 0], M)) rfl ⟨trivial, trivial, trivial⟩ ?_
  refine pw_callT hT (as := [pvI 0, pvI 1]) (lo1 := [some (pvI 0), some (pvI 1), none, none, none]) (d1 := d) (rest := []) rfl rfl rfl rfl rfl (fun h => absurd h (by decide)) (Nat.zero_le _) rfl rfl rfl (sf_X0_bodyFrom_0_1 M hok d) ?_
  refine pw_eqI (show ((pvstab 1041).getD (Int32.toNatClampNeg ((0 * 3) + 1)) 0) = 11 from by decide) ?_
  show PW 4 d (14, [some (pvR 3), some (pvI 0), some (pvI 1), some (pvI n3), some (pvI 0), none, none], [pvI 11], M) _
  refine pw_blk hT 7 (S' := (25, [some (pvR 3), some (pvI 0), some (pvI 1), some (pvI n3), some (pvI 0), some (pvI 11), some (pvI (0 + 1))], [pvI 11, pvR 3], M)) rfl ⟨trivial, trivial, trivial, trivial, trivial, trivial, trivial, trivial⟩ ?_
  refine pw_callVd hT (as := [pvR 3, pvI 11]) (lo1 := [some (pvR 3), some (pvI 11)]) (d1 := d) (rest := []) rfl rfl rfl rfl rfl (fun _ => rfl) (Nat.zero_le _) rfl rfl rfl (se_X0_note_3_x M hok 11 (zr_wide (show 11 ≤ Int32.toInt 11 ∧ Int32.toInt 11 ≤ 11 from (by decide)) (by decide) (by decide)) (zr_wide hc3_1 (by decide) (by decide)) d) (fun M11_ o13_ g14_ d9_ => ?_)
  have d7_ := d9_.1
  have d8_ := d9_.2
  have f15_ : pvFr fp_eX0_run_3_0_1_x_0_0 M M11_ := pvfr_t g14_ pvfr_0 fp_eX0_run_3_0_1_x_0_0_fp_eX0_note_3_x
  have b16_ : 0 ≤ Int32.toInt (M11_.1 3 1) ∧ Int32.toInt (M11_.1 3 1) ≤ 998 := (by have u0 := hc3_1; have u1 := d7_; have u2 := pvok_r o13_ 3 1 (lo := 0) (hi := 1000000) rfl; omega)
  refine pw_blk hT 1 (S' := (30, [some (pvR 3), some (pvI 0), some (pvI 1), some (pvI n3), some (pvI 0), some (pvI 11), some (pvI (0 + 1))], [pvI 11], M11_)) rfl ⟨trivial, trivial⟩ ?_
  refine pw_sw hT rfl rfl ?_
  refine And.intro (fun c17_ => absurd c17_ (by decide)) (fun c17_ => ?_)
  refine And.intro (fun c18_ => ?_) (fun c18_ => absurd (by decide) c18_)
  show PW 4 d (135, [some (pvR 3), some (pvI 0), some (pvI 1), some (pvI n3), some (pvI 0), some (pvI 11), some (pvI (0 + 1))], [], M11_) _
  have e19_ : (M11_.1 3 2) = (M.1 3 2) := (g14_ 3 2 rfl)
  have b20_ : 0 ≤ Int32.toInt (M11_.1 3 2) ∧ Int32.toInt (M11_.1 3 2) ≤ 0 := (by rw [e19_]; exact hc3_2)
  refine pw_blk hT 3 (S' := (140, [some (pvR 3), some (pvI 0), some (pvI 1), some (pvI n3), some (pvI 0), some (pvI 11), some (pvI (0 + 1))], [pvI (M11_.1 3 2), pvR 3], M11_)) rfl ⟨trivial, trivial, rfl, trivial⟩ ?_
  refine pw_eqI ((zi_eq _ (0)).mpr (by have u0 := b20_; have u1 : Int32.toInt (0) = 0 := (by decide); omega)) ?_
  refine pw_blk hT 3 (S' := (144, [some (pvR 3), some (pvI 0), some (pvI 1), some (pvI n3), some (pvI 0), some (pvI 11), some (pvI (0 + 1))], [pvI (0 + 1), pvI n3, pvI 0, pvI 0, pvR 3], M11_)) rfl ⟨trivial, trivial, trivial, trivial⟩ ?_
  refine pw_callGd hT (as := [pvR 3, pvI 0, pvI 0, pvI n3, pvI (0 + 1)]) (lo1 := [some (pvR 3), some (pvI 0), some (pvI 0), some (pvI n3), some (pvI (0 + 1)), none, none]) (d1 := (d - 1)) (rest := []) rfl rfl rfl rfl rfl (fun h => absurd h (by decide)) (show 1 ≤ d by omega) rfl rfl rfl (se_X0_run_3_0_0_x_1_0 M11_ o13_ n3 b16_ b20_ (d - 1)) (fun x24_ M25_ b26_ o27_ g28_ d23_ => ?_)
  have d21_ := d23_.1
  have d22_ := d23_.2
  have f29_ : pvFr fp_eX0_run_3_0_1_x_0_0 M M25_ := pvfr_t g28_ f15_ fp_eX0_run_3_0_1_x_0_0_fp_eX0_run_3_0_0_x_1_0
  have b30_ : 0 ≤ Int32.toInt (M25_.1 3 1) ∧ Int32.toInt (M25_.1 3 1) ≤ 999 := (by have u0 := b16_; have u1 := d21_; have u2 := pvok_r o27_ 3 1 (lo := 0) (hi := 1000000) rfl; omega)
  have u31_ : Int32.toInt 0 = 0 := by decide
  have u32_ : Int32.toInt (0 + 1) = 1 := by decide
  obtain ⟨b33_, d34_⟩ := b26_
  subst d34_
  have e35_ : (n3 + (M11_.1 3 4)) = (n3 + (M.1 3 4)) := (show (n3 + (M11_.1 3 4)) = (n3 + (M.1 3 4)) from by rw [(g14_ 3 4 rfl)])
  refine pw_eqI e35_ ?_
  refine pw_blk hT 2 (S' := (151, [some (pvR 3), some (pvI 0), some (pvI 1), some (pvI n3), some (pvI 0), some (pvI 11), some (pvI (0 + 1))], [pvI (M25_.1 3 3), pvI (n3 + (M.1 3 4))], M25_)) rfl ⟨trivial, rfl, trivial⟩ ?_
  have e36_ : (M25_.1 3 3) = (M.1 3 3) := ((g28_ 3 3 rfl).trans (g14_ 3 3 rfl))
  refine pw_eqI e36_ ?_
  refine pw_blk hT 1 (S' := (152, [some (pvR 3), some (pvI 0), some (pvI 1), some (pvI n3), some (pvI 0), some (pvI 11), some (pvI (0 + 1))], [pvI ((n3 + (M.1 3 4)) - (M.1 3 3))], M25_)) rfl ⟨trivial, trivial⟩ ?_
  exact pw_ret hT rfl (r := some (pvI ((n3 + (M.1 3 4)) - (M.1 3 3)))) (M' := M25_) ⟨rfl, rfl⟩ ⟨⟨_, rfl, trivial, rfl⟩, o27_, f29_, (by omega), (zTr_c (pvok_r hok 3 1 rfl).1 (zTr_c0 (pvok_r hok 3 1 rfl).1 (zTr_0 3 1 4 M) d8_) d22_)⟩
def fpL_eX0_run_3_0_0_x_2_0 : List (Nat × Nat × Nat) := [(0, 3, 2), (0, 4, 0)]
def fp_eX0_run_3_0_0_x_2_0 (q k : Nat) : Bool := pvfp fpL_eX0_run_3_0_0_x_2_0 q k
theorem fp_eX0_run_3_0_0_x_2_0_fp_eX0_note_3_x (a b : Nat) (h : fp_eX0_note_3_x a b = true) : fp_eX0_run_3_0_0_x_2_0 a b = true := pvfp_sub (l1 := fpL_eX0_note_3_x) (l2 := fpL_eX0_run_3_0_0_x_2_0) (by decide) a b h
set_option maxHeartbeats 4000000 in
set_option maxRecDepth 10000 in
theorem se_X0_run_3_0_0_x_2_0 (M : pvM) (hok : pvOk M) (n3 : Int32) (hc3_1 : 0 ≤ Int32.toInt (M.1 3 1) ∧ Int32.toInt (M.1 3 1) ≤ 998) (hc3_2 : 0 ≤ Int32.toInt (M.1 3 2) ∧ Int32.toInt (M.1 3 2) ≤ 0) (d : Nat) : PW 4 d (0, [some (pvR 3), some (pvI 0), some (pvI 0), some (pvI n3), some (pvI 2), none, none], [], M) (fun r X => (∃ x : Int32, r = some (pvI x) ∧ True ∧ x = (n3 + (M.1 3 4))) ∧ pvOk X ∧ pvFr fp_eX0_run_3_0_0_x_2_0 M X ∧ Int32.toInt (X.1 3 1) ≤ Int32.toInt (M.1 3 1) + 1 ∧ zTr 3 1 4 ([10] : List Int32) M X) := by
  have hT : pvdom 4 = pvD_4 := rfl
  refine pw_blk hT 2 (S' := (4, [some (pvR 3), some (pvI 0), some (pvI 0), some (pvI n3), some (pvI 2), none, none], [pvI 40, pvI 2], M)) rfl ⟨trivial, trivial, trivial⟩ ?_
  refine pw_ic hT (c := 2 ≤ 40) rfl rfl (fun c1_ => ?_) (fun c1_ => absurd (by decide) c1_)
  refine pw_blk hT 2 (S' := (11, [some (pvR 3), some (pvI 0), some (pvI 0), some (pvI n3), some (pvI 2), none, none], [pvI 0, pvI 0], M)) rfl ⟨trivial, trivial, trivial⟩ ?_
  refine pw_callT hT (as := [pvI 0, pvI 0]) (lo1 := [some (pvI 0), some (pvI 0), none, none, none]) (d1 := d) (rest := []) rfl rfl rfl rfl rfl (fun h => absurd h (by decide)) (Nat.zero_le _) rfl rfl rfl (sf_X0_bodyFrom_0_0 M hok d) ?_
  refine pw_eqI (show ((pvstab 1041).getD (Int32.toNatClampNeg ((0 * 3) + 0)) 0) = 10 from by decide) ?_
  show PW 4 d (14, [some (pvR 3), some (pvI 0), some (pvI 0), some (pvI n3), some (pvI 2), none, none], [pvI 10], M) _
  refine pw_blk hT 7 (S' := (25, [some (pvR 3), some (pvI 0), some (pvI 0), some (pvI n3), some (pvI 2), some (pvI 10), some (pvI (2 + 1))], [pvI 10, pvR 3], M)) rfl ⟨trivial, trivial, trivial, trivial, trivial, trivial, trivial, trivial⟩ ?_
  refine pw_callVd hT (as := [pvR 3, pvI 10]) (lo1 := [some (pvR 3), some (pvI 10)]) (d1 := d) (rest := []) rfl rfl rfl rfl rfl (fun _ => rfl) (Nat.zero_le _) rfl rfl rfl (se_X0_note_3_x M hok 10 (zr_wide (show 10 ≤ Int32.toInt 10 ∧ Int32.toInt 10 ≤ 10 from (by decide)) (by decide) (by decide)) (zr_wide hc3_1 (by decide) (by decide)) d) (fun M11_ o13_ g14_ d9_ => ?_)
  have d7_ := d9_.1
  have d8_ := d9_.2
  have f15_ : pvFr fp_eX0_run_3_0_0_x_2_0 M M11_ := pvfr_t g14_ pvfr_0 fp_eX0_run_3_0_0_x_2_0_fp_eX0_note_3_x
  have b16_ : 0 ≤ Int32.toInt (M11_.1 3 1) ∧ Int32.toInt (M11_.1 3 1) ≤ 999 := (by have u0 := hc3_1; have u1 := d7_; have u2 := pvok_r o13_ 3 1 (lo := 0) (hi := 1000000) rfl; omega)
  refine pw_blk hT 1 (S' := (30, [some (pvR 3), some (pvI 0), some (pvI 0), some (pvI n3), some (pvI 2), some (pvI 10), some (pvI (2 + 1))], [pvI 10], M11_)) rfl ⟨trivial, trivial⟩ ?_
  refine pw_sw hT rfl rfl ?_
  refine And.intro (fun c17_ => ?_) (fun c17_ => absurd (by decide) c17_)
  show PW 4 d (128, [some (pvR 3), some (pvI 0), some (pvI 0), some (pvI n3), some (pvI 2), some (pvI 10), some (pvI (2 + 1))], [], M11_) _
  refine pw_blk hT 3 (S' := (133, [some (pvR 3), some (pvI 0), some (pvI 0), some (pvI n3), some (pvI 2), some (pvI 10), some (pvI (2 + 1))], [pvI (M11_.1 3 4), pvI n3], M11_)) rfl ⟨trivial, trivial, rfl, trivial⟩ ?_
  have e18_ : (M11_.1 3 4) = (M.1 3 4) := (g14_ 3 4 rfl)
  refine pw_eqI e18_ ?_
  refine pw_blk hT 1 (S' := (134, [some (pvR 3), some (pvI 0), some (pvI 0), some (pvI n3), some (pvI 2), some (pvI 10), some (pvI (2 + 1))], [pvI (n3 + (M.1 3 4))], M11_)) rfl ⟨trivial, trivial⟩ ?_
  exact pw_ret hT rfl (r := some (pvI (n3 + (M.1 3 4)))) (M' := M11_) ⟨rfl, rfl⟩ ⟨⟨_, rfl, trivial, rfl⟩, o13_, f15_, (by omega), (zTr_c0 (pvok_r hok 3 1 rfl).1 (zTr_0 3 1 4 M) d8_)⟩
def fpL_eX0_run_3_0_1_x_1_0 : List (Nat × Nat × Nat) := [(0, 3, 2), (0, 4, 0)]
def fp_eX0_run_3_0_1_x_1_0 (q k : Nat) : Bool := pvfp fpL_eX0_run_3_0_1_x_1_0 q k
theorem fp_eX0_run_3_0_1_x_1_0_fp_eX0_note_3_x (a b : Nat) (h : fp_eX0_note_3_x a b = true) : fp_eX0_run_3_0_1_x_1_0 a b = true := pvfp_sub (l1 := fpL_eX0_note_3_x) (l2 := fpL_eX0_run_3_0_1_x_1_0) (by decide) a b h
theorem fp_eX0_run_3_0_1_x_1_0_fp_eX0_run_3_0_0_x_2_0 (a b : Nat) (h : fp_eX0_run_3_0_0_x_2_0 a b = true) : fp_eX0_run_3_0_1_x_1_0 a b = true := pvfp_sub (l1 := fpL_eX0_run_3_0_0_x_2_0) (l2 := fpL_eX0_run_3_0_1_x_1_0) (by decide) a b h
set_option maxHeartbeats 4000000 in
set_option maxRecDepth 10000 in
theorem se_X0_run_3_0_1_x_1_0 (M : pvM) (hok : pvOk M) (n3 : Int32) (hc3_1 : 0 ≤ Int32.toInt (M.1 3 1) ∧ Int32.toInt (M.1 3 1) ≤ 997) (hc3_2 : 0 ≤ Int32.toInt (M.1 3 2) ∧ Int32.toInt (M.1 3 2) ≤ 0) (d : Nat) (hd : 1 ≤ d) : PW 4 d (0, [some (pvR 3), some (pvI 0), some (pvI 1), some (pvI n3), some (pvI 1), none, none], [], M) (fun r X => (∃ x : Int32, r = some (pvI x) ∧ True ∧ x = ((n3 + (M.1 3 4)) - (M.1 3 3))) ∧ pvOk X ∧ pvFr fp_eX0_run_3_0_1_x_1_0 M X ∧ Int32.toInt (X.1 3 1) ≤ Int32.toInt (M.1 3 1) + 2 ∧ zTr 3 1 4 (([11] : List Int32) ++ ([10] : List Int32)) M X) := by
  have hT : pvdom 4 = pvD_4 := rfl
  refine pw_blk hT 2 (S' := (4, [some (pvR 3), some (pvI 0), some (pvI 1), some (pvI n3), some (pvI 1), none, none], [pvI 40, pvI 1], M)) rfl ⟨trivial, trivial, trivial⟩ ?_
  refine pw_ic hT (c := 1 ≤ 40) rfl rfl (fun c1_ => ?_) (fun c1_ => absurd (by decide) c1_)
  refine pw_blk hT 2 (S' := (11, [some (pvR 3), some (pvI 0), some (pvI 1), some (pvI n3), some (pvI 1), none, none], [pvI 1, pvI 0], M)) rfl ⟨trivial, trivial, trivial⟩ ?_
  refine pw_callT hT (as := [pvI 0, pvI 1]) (lo1 := [some (pvI 0), some (pvI 1), none, none, none]) (d1 := d) (rest := []) rfl rfl rfl rfl rfl (fun h => absurd h (by decide)) (Nat.zero_le _) rfl rfl rfl (sf_X0_bodyFrom_0_1 M hok d) ?_
  refine pw_eqI (show ((pvstab 1041).getD (Int32.toNatClampNeg ((0 * 3) + 1)) 0) = 11 from by decide) ?_
  show PW 4 d (14, [some (pvR 3), some (pvI 0), some (pvI 1), some (pvI n3), some (pvI 1), none, none], [pvI 11], M) _
  refine pw_blk hT 7 (S' := (25, [some (pvR 3), some (pvI 0), some (pvI 1), some (pvI n3), some (pvI 1), some (pvI 11), some (pvI (1 + 1))], [pvI 11, pvR 3], M)) rfl ⟨trivial, trivial, trivial, trivial, trivial, trivial, trivial, trivial⟩ ?_
  refine pw_callVd hT (as := [pvR 3, pvI 11]) (lo1 := [some (pvR 3), some (pvI 11)]) (d1 := d) (rest := []) rfl rfl rfl rfl rfl (fun _ => rfl) (Nat.zero_le _) rfl rfl rfl (se_X0_note_3_x M hok 11 (zr_wide (show 11 ≤ Int32.toInt 11 ∧ Int32.toInt 11 ≤ 11 from (by decide)) (by decide) (by decide)) (zr_wide hc3_1 (by decide) (by decide)) d) (fun M11_ o13_ g14_ d9_ => ?_)
  have d7_ := d9_.1
  have d8_ := d9_.2
  have f15_ : pvFr fp_eX0_run_3_0_1_x_1_0 M M11_ := pvfr_t g14_ pvfr_0 fp_eX0_run_3_0_1_x_1_0_fp_eX0_note_3_x
  have b16_ : 0 ≤ Int32.toInt (M11_.1 3 1) ∧ Int32.toInt (M11_.1 3 1) ≤ 998 := (by have u0 := hc3_1; have u1 := d7_; have u2 := pvok_r o13_ 3 1 (lo := 0) (hi := 1000000) rfl; omega)
  refine pw_blk hT 1 (S' := (30, [some (pvR 3), some (pvI 0), some (pvI 1), some (pvI n3), some (pvI 1), some (pvI 11), some (pvI (1 + 1))], [pvI 11], M11_)) rfl ⟨trivial, trivial⟩ ?_
  refine pw_sw hT rfl rfl ?_
  refine And.intro (fun c17_ => absurd c17_ (by decide)) (fun c17_ => ?_)
  refine And.intro (fun c18_ => ?_) (fun c18_ => absurd (by decide) c18_)
  show PW 4 d (135, [some (pvR 3), some (pvI 0), some (pvI 1), some (pvI n3), some (pvI 1), some (pvI 11), some (pvI (1 + 1))], [], M11_) _
  have e19_ : (M11_.1 3 2) = (M.1 3 2) := (g14_ 3 2 rfl)
  have b20_ : 0 ≤ Int32.toInt (M11_.1 3 2) ∧ Int32.toInt (M11_.1 3 2) ≤ 0 := (by rw [e19_]; exact hc3_2)
  refine pw_blk hT 3 (S' := (140, [some (pvR 3), some (pvI 0), some (pvI 1), some (pvI n3), some (pvI 1), some (pvI 11), some (pvI (1 + 1))], [pvI (M11_.1 3 2), pvR 3], M11_)) rfl ⟨trivial, trivial, rfl, trivial⟩ ?_
  refine pw_eqI ((zi_eq _ (0)).mpr (by have u0 := b20_; have u1 : Int32.toInt (0) = 0 := (by decide); omega)) ?_
  refine pw_blk hT 3 (S' := (144, [some (pvR 3), some (pvI 0), some (pvI 1), some (pvI n3), some (pvI 1), some (pvI 11), some (pvI (1 + 1))], [pvI (1 + 1), pvI n3, pvI 0, pvI 0, pvR 3], M11_)) rfl ⟨trivial, trivial, trivial, trivial⟩ ?_
  refine pw_callGd hT (as := [pvR 3, pvI 0, pvI 0, pvI n3, pvI (1 + 1)]) (lo1 := [some (pvR 3), some (pvI 0), some (pvI 0), some (pvI n3), some (pvI (1 + 1)), none, none]) (d1 := (d - 1)) (rest := []) rfl rfl rfl rfl rfl (fun h => absurd h (by decide)) (show 1 ≤ d by omega) rfl rfl rfl (se_X0_run_3_0_0_x_2_0 M11_ o13_ n3 b16_ b20_ (d - 1)) (fun x24_ M25_ b26_ o27_ g28_ d23_ => ?_)
  have d21_ := d23_.1
  have d22_ := d23_.2
  have f29_ : pvFr fp_eX0_run_3_0_1_x_1_0 M M25_ := pvfr_t g28_ f15_ fp_eX0_run_3_0_1_x_1_0_fp_eX0_run_3_0_0_x_2_0
  have b30_ : 0 ≤ Int32.toInt (M25_.1 3 1) ∧ Int32.toInt (M25_.1 3 1) ≤ 999 := (by have u0 := b16_; have u1 := d21_; have u2 := pvok_r o27_ 3 1 (lo := 0) (hi := 1000000) rfl; omega)
  have u31_ : Int32.toInt 0 = 0 := by decide
  have u32_ : Int32.toInt (1 + 1) = 2 := by decide
  obtain ⟨b33_, d34_⟩ := b26_
  subst d34_
  have e35_ : (n3 + (M11_.1 3 4)) = (n3 + (M.1 3 4)) := (show (n3 + (M11_.1 3 4)) = (n3 + (M.1 3 4)) from by rw [(g14_ 3 4 rfl)])
  refine pw_eqI e35_ ?_
  refine pw_blk hT 2 (S' := (151, [some (pvR 3), some (pvI 0), some (pvI 1), some (pvI n3), some (pvI 1), some (pvI 11), some (pvI (1 + 1))], [pvI (M25_.1 3 3), pvI (n3 + (M.1 3 4))], M25_)) rfl ⟨trivial, rfl, trivial⟩ ?_
  have e36_ : (M25_.1 3 3) = (M.1 3 3) := ((g28_ 3 3 rfl).trans (g14_ 3 3 rfl))
  refine pw_eqI e36_ ?_
  refine pw_blk hT 1 (S' := (152, [some (pvR 3), some (pvI 0), some (pvI 1), some (pvI n3), some (pvI 1), some (pvI 11), some (pvI (1 + 1))], [pvI ((n3 + (M.1 3 4)) - (M.1 3 3))], M25_)) rfl ⟨trivial, trivial⟩ ?_
  exact pw_ret hT rfl (r := some (pvI ((n3 + (M.1 3 4)) - (M.1 3 3)))) (M' := M25_) ⟨rfl, rfl⟩ ⟨⟨_, rfl, trivial, rfl⟩, o27_, f29_, (by omega), (zTr_c (pvok_r hok 3 1 rfl).1 (zTr_c0 (pvok_r hok 3 1 rfl).1 (zTr_0 3 1 4 M) d8_) d22_)⟩
def fpL_eX0_run_3_0_2_x_0_0 : List (Nat × Nat × Nat) := [(0, 3, 2), (0, 4, 0)]
def fp_eX0_run_3_0_2_x_0_0 (q k : Nat) : Bool := pvfp fpL_eX0_run_3_0_2_x_0_0 q k
theorem fp_eX0_run_3_0_2_x_0_0_fp_eX0_note_3_x (a b : Nat) (h : fp_eX0_note_3_x a b = true) : fp_eX0_run_3_0_2_x_0_0 a b = true := pvfp_sub (l1 := fpL_eX0_note_3_x) (l2 := fpL_eX0_run_3_0_2_x_0_0) (by decide) a b h
theorem fp_eX0_run_3_0_2_x_0_0_fp_eX0_run_3_0_1_x_1_0 (a b : Nat) (h : fp_eX0_run_3_0_1_x_1_0 a b = true) : fp_eX0_run_3_0_2_x_0_0 a b = true := pvfp_sub (l1 := fpL_eX0_run_3_0_1_x_1_0) (l2 := fpL_eX0_run_3_0_2_x_0_0) (by decide) a b h
set_option maxHeartbeats 4000000 in
set_option maxRecDepth 10000 in
theorem se_X0_run_3_0_2_x_0_0 (M : pvM) (hok : pvOk M) (n3 : Int32) (hc3_1 : 0 ≤ Int32.toInt (M.1 3 1) ∧ Int32.toInt (M.1 3 1) ≤ 996) (hc3_2 : 0 ≤ Int32.toInt (M.1 3 2) ∧ Int32.toInt (M.1 3 2) ≤ 0) (d : Nat) (hd : 2 ≤ d) : PW 4 d (0, [some (pvR 3), some (pvI 0), some (pvI 2), some (pvI n3), some (pvI 0), none, none], [], M) (fun r X => (∃ x : Int32, r = some (pvI x) ∧ True ∧ x = (((n3 + (M.1 3 4)) - (M.1 3 3)) * 2)) ∧ pvOk X ∧ pvFr fp_eX0_run_3_0_2_x_0_0 M X ∧ Int32.toInt (X.1 3 1) ≤ Int32.toInt (M.1 3 1) + 3 ∧ zTr 3 1 4 (([12] : List Int32) ++ (([11] : List Int32) ++ ([10] : List Int32))) M X) := by
  have hT : pvdom 4 = pvD_4 := rfl
  refine pw_blk hT 2 (S' := (4, [some (pvR 3), some (pvI 0), some (pvI 2), some (pvI n3), some (pvI 0), none, none], [pvI 40, pvI 0], M)) rfl ⟨trivial, trivial, trivial⟩ ?_
  refine pw_ic hT (c := 0 ≤ 40) rfl rfl (fun c1_ => ?_) (fun c1_ => absurd (by decide) c1_)
  refine pw_blk hT 2 (S' := (11, [some (pvR 3), some (pvI 0), some (pvI 2), some (pvI n3), some (pvI 0), none, none], [pvI 2, pvI 0], M)) rfl ⟨trivial, trivial, trivial⟩ ?_
  refine pw_callT hT (as := [pvI 0, pvI 2]) (lo1 := [some (pvI 0), some (pvI 2), none, none, none]) (d1 := d) (rest := []) rfl rfl rfl rfl rfl (fun h => absurd h (by decide)) (Nat.zero_le _) rfl rfl rfl (sf_X0_bodyFrom_0_2 M hok d) ?_
  refine pw_eqI (show ((pvstab 1041).getD (Int32.toNatClampNeg ((0 * 3) + 2)) 0) = 12 from by decide) ?_
  show PW 4 d (14, [some (pvR 3), some (pvI 0), some (pvI 2), some (pvI n3), some (pvI 0), none, none], [pvI 12], M) _
  refine pw_blk hT 7 (S' := (25, [some (pvR 3), some (pvI 0), some (pvI 2), some (pvI n3), some (pvI 0), some (pvI 12), some (pvI (0 + 1))], [pvI 12, pvR 3], M)) rfl ⟨trivial, trivial, trivial, trivial, trivial, trivial, trivial, trivial⟩ ?_
  refine pw_callVd hT (as := [pvR 3, pvI 12]) (lo1 := [some (pvR 3), some (pvI 12)]) (d1 := d) (rest := []) rfl rfl rfl rfl rfl (fun _ => rfl) (Nat.zero_le _) rfl rfl rfl (se_X0_note_3_x M hok 12 (zr_wide (show 12 ≤ Int32.toInt 12 ∧ Int32.toInt 12 ≤ 12 from (by decide)) (by decide) (by decide)) (zr_wide hc3_1 (by decide) (by decide)) d) (fun M11_ o13_ g14_ d9_ => ?_)
  have d7_ := d9_.1
  have d8_ := d9_.2
  have f15_ : pvFr fp_eX0_run_3_0_2_x_0_0 M M11_ := pvfr_t g14_ pvfr_0 fp_eX0_run_3_0_2_x_0_0_fp_eX0_note_3_x
  have b16_ : 0 ≤ Int32.toInt (M11_.1 3 1) ∧ Int32.toInt (M11_.1 3 1) ≤ 997 := (by have u0 := hc3_1; have u1 := d7_; have u2 := pvok_r o13_ 3 1 (lo := 0) (hi := 1000000) rfl; omega)
  refine pw_blk hT 1 (S' := (30, [some (pvR 3), some (pvI 0), some (pvI 2), some (pvI n3), some (pvI 0), some (pvI 12), some (pvI (0 + 1))], [pvI 12], M11_)) rfl ⟨trivial, trivial⟩ ?_
  refine pw_sw hT rfl rfl ?_
  refine And.intro (fun c17_ => absurd c17_ (by decide)) (fun c17_ => ?_)
  refine And.intro (fun c18_ => absurd c18_ (by decide)) (fun c18_ => ?_)
  refine And.intro (fun c19_ => ?_) (fun c19_ => absurd (by decide) c19_)
  show PW 4 d (153, [some (pvR 3), some (pvI 0), some (pvI 2), some (pvI n3), some (pvI 0), some (pvI 12), some (pvI (0 + 1))], [], M11_) _
  have e20_ : (M11_.1 3 2) = (M.1 3 2) := (g14_ 3 2 rfl)
  have b21_ : 0 ≤ Int32.toInt (M11_.1 3 2) ∧ Int32.toInt (M11_.1 3 2) ≤ 0 := (by rw [e20_]; exact hc3_2)
  refine pw_blk hT 3 (S' := (158, [some (pvR 3), some (pvI 0), some (pvI 2), some (pvI n3), some (pvI 0), some (pvI 12), some (pvI (0 + 1))], [pvI (M11_.1 3 2), pvR 3], M11_)) rfl ⟨trivial, trivial, rfl, trivial⟩ ?_
  refine pw_eqI ((zi_eq _ (0)).mpr (by have u0 := b21_; have u1 : Int32.toInt (0) = 0 := (by decide); omega)) ?_
  refine pw_blk hT 3 (S' := (162, [some (pvR 3), some (pvI 0), some (pvI 2), some (pvI n3), some (pvI 0), some (pvI 12), some (pvI (0 + 1))], [pvI (0 + 1), pvI n3, pvI 1, pvI 0, pvR 3], M11_)) rfl ⟨trivial, trivial, trivial, trivial⟩ ?_
  refine pw_callGd hT (as := [pvR 3, pvI 0, pvI 1, pvI n3, pvI (0 + 1)]) (lo1 := [some (pvR 3), some (pvI 0), some (pvI 1), some (pvI n3), some (pvI (0 + 1)), none, none]) (d1 := (d - 1)) (rest := []) rfl rfl rfl rfl rfl (fun h => absurd h (by decide)) (show 1 ≤ d by omega) rfl rfl rfl (se_X0_run_3_0_1_x_1_0 M11_ o13_ n3 b16_ b21_ (d - 1) (by omega)) (fun x25_ M26_ b27_ o28_ g29_ d24_ => ?_)
  have d22_ := d24_.1
  have d23_ := d24_.2
  have f30_ : pvFr fp_eX0_run_3_0_2_x_0_0 M M26_ := pvfr_t g29_ f15_ fp_eX0_run_3_0_2_x_0_0_fp_eX0_run_3_0_1_x_1_0
  have b31_ : 0 ≤ Int32.toInt (M26_.1 3 1) ∧ Int32.toInt (M26_.1 3 1) ≤ 999 := (by have u0 := b16_; have u1 := d22_; have u2 := pvok_r o28_ 3 1 (lo := 0) (hi := 1000000) rfl; omega)
  have u32_ : Int32.toInt 0 = 0 := by decide
  have u33_ : Int32.toInt 1 = 1 := by decide
  have u34_ : Int32.toInt (0 + 1) = 1 := by decide
  obtain ⟨b35_, d36_⟩ := b27_
  subst d36_
  have e37_ : ((n3 + (M11_.1 3 4)) - (M11_.1 3 3)) = ((n3 + (M.1 3 4)) - (M.1 3 3)) := (show ((n3 + (M11_.1 3 4)) - (M11_.1 3 3)) = ((n3 + (M.1 3 4)) - (M.1 3 3)) from by rw [(g14_ 3 4 rfl), (g14_ 3 3 rfl)])
  refine pw_eqI e37_ ?_
  refine pw_blk hT 2 (S' := (167, [some (pvR 3), some (pvI 0), some (pvI 2), some (pvI n3), some (pvI 0), some (pvI 12), some (pvI (0 + 1))], [pvI (((n3 + (M.1 3 4)) - (M.1 3 3)) * 2)], M26_)) rfl ⟨trivial, trivial, trivial⟩ ?_
  exact pw_ret hT rfl (r := some (pvI (((n3 + (M.1 3 4)) - (M.1 3 3)) * 2))) (M' := M26_) ⟨rfl, rfl⟩ ⟨⟨_, rfl, trivial, rfl⟩, o28_, f30_, (by omega), (zTr_c (pvok_r hok 3 1 rfl).1 (zTr_c0 (pvok_r hok 3 1 rfl).1 (zTr_0 3 1 4 M) d8_) d23_)⟩
set_option maxHeartbeats 4000000 in
set_option maxRecDepth 10000 in
theorem se_X3_above_1 (M : pvM) (hok : pvOk M) (d : Nat) : PW 131 d (0, [some (pvI 1)], [], M) (fun r X => r = some (pvI (((pvstab 1040).getD (Int32.toNatClampNeg 1) 0))) ∧ X = M) := by
  have hT : pvdom 131 = pvD_131 := rfl
  refine pw_blk hT 1 (S' := (1, [some (pvI 1)], [pvI 1], M)) rfl ⟨trivial, trivial⟩ ?_
  refine pw_if hT (c := 1 < 0) rfl rfl (fun c1_ => absurd c1_ (by decide)) (fun c1_ => ?_)
  refine pw_blk hT 3 (S' := (9, [some (pvI 1)], [pvI (Int32.ofNat (pvstab 1040).length), pvI 1], M)) rfl ⟨trivial, trivial, (by decide), trivial⟩ ?_
  refine pw_ic hT (c := 1 < (Int32.ofNat (pvstab 1040).length)) rfl rfl (fun c2_ => ?_) (fun c2_ => absurd (by decide) c2_)
  refine pw_blk hT 3 (S' := (21, [some (pvI 1)], [pvI ((pvstab 1040).getD (Int32.toNatClampNeg 1) 0)], M)) rfl ⟨trivial, trivial, ⟨by decide, (zr_in (n := 7) (show 1 ≤ Int32.toInt 1 ∧ Int32.toInt 1 ≤ 1 from (by decide)) (by decide) (by decide))⟩, trivial⟩ ?_
  exact pw_ret hT rfl (r := some (pvI ((pvstab 1040).getD (Int32.toNatClampNeg 1) 0))) (M' := M) ⟨rfl, rfl⟩ ⟨rfl, rfl⟩
def fpL_eX0_run_3_1_0_x_0_1 : List (Nat × Nat × Nat) := [(0, 3, 2), (0, 4, 0)]
def fp_eX0_run_3_1_0_x_0_1 (q k : Nat) : Bool := pvfp fpL_eX0_run_3_1_0_x_0_1 q k
theorem fp_eX0_run_3_1_0_x_0_1_fp_eX0_note_3_x (a b : Nat) (h : fp_eX0_note_3_x a b = true) : fp_eX0_run_3_1_0_x_0_1 a b = true := pvfp_sub (l1 := fpL_eX0_note_3_x) (l2 := fpL_eX0_run_3_1_0_x_0_1) (by decide) a b h
set_option maxHeartbeats 4000000 in
set_option maxRecDepth 10000 in
theorem se_X0_run_3_1_0_x_0_1 (M : pvM) (hok : pvOk M) (n3 : Int32) (hc3_1 : 0 ≤ Int32.toInt (M.1 3 1) ∧ Int32.toInt (M.1 3 1) ≤ 998) (hc3_2 : 1 ≤ Int32.toInt (M.1 3 2) ∧ Int32.toInt (M.1 3 2) ≤ 1) (d : Nat) : PW 4 d (0, [some (pvR 3), some (pvI 1), some (pvI 0), some (pvI n3), some (pvI 0), none, none], [], M) (fun r X => (∃ x : Int32, r = some (pvI x) ∧ True ∧ x = (n3 + (M.1 3 4))) ∧ pvOk X ∧ pvFr fp_eX0_run_3_1_0_x_0_1 M X ∧ Int32.toInt (X.1 3 1) ≤ Int32.toInt (M.1 3 1) + 1 ∧ zTr 3 1 4 ([10] : List Int32) M X) := by
  have hT : pvdom 4 = pvD_4 := rfl
  refine pw_blk hT 2 (S' := (4, [some (pvR 3), some (pvI 1), some (pvI 0), some (pvI n3), some (pvI 0), none, none], [pvI 40, pvI 0], M)) rfl ⟨trivial, trivial, trivial⟩ ?_
  refine pw_ic hT (c := 0 ≤ 40) rfl rfl (fun c1_ => ?_) (fun c1_ => absurd (by decide) c1_)
  refine pw_blk hT 2 (S' := (11, [some (pvR 3), some (pvI 1), some (pvI 0), some (pvI n3), some (pvI 0), none, none], [pvI 0, pvI 1], M)) rfl ⟨trivial, trivial, trivial⟩ ?_
  refine pw_callT hT (as := [pvI 1, pvI 0]) (lo1 := [some (pvI 1), some (pvI 0), none, none, none]) (d1 := d) (rest := []) rfl rfl rfl rfl rfl (fun h => absurd h (by decide)) (Nat.zero_le _) rfl rfl rfl (sf_X0_bodyFrom_1_0 M hok d) ?_
  refine pw_eqI (show ((pvstab 1041).getD (Int32.toNatClampNeg ((0 * 3) + 0)) 0) = 10 from by decide) ?_
  show PW 4 d (14, [some (pvR 3), some (pvI 1), some (pvI 0), some (pvI n3), some (pvI 0), none, none], [pvI 10], M) _
  refine pw_blk hT 7 (S' := (25, [some (pvR 3), some (pvI 1), some (pvI 0), some (pvI n3), some (pvI 0), some (pvI 10), some (pvI (0 + 1))], [pvI 10, pvR 3], M)) rfl ⟨trivial, trivial, trivial, trivial, trivial, trivial, trivial, trivial⟩ ?_
  refine pw_callVd hT (as := [pvR 3, pvI 10]) (lo1 := [some (pvR 3), some (pvI 10)]) (d1 := d) (rest := []) rfl rfl rfl rfl rfl (fun _ => rfl) (Nat.zero_le _) rfl rfl rfl (se_X0_note_3_x M hok 10 (zr_wide (show 10 ≤ Int32.toInt 10 ∧ Int32.toInt 10 ≤ 10 from (by decide)) (by decide) (by decide)) (zr_wide hc3_1 (by decide) (by decide)) d) (fun M11_ o13_ g14_ d9_ => ?_)
  have d7_ := d9_.1
  have d8_ := d9_.2
  have f15_ : pvFr fp_eX0_run_3_1_0_x_0_1 M M11_ := pvfr_t g14_ pvfr_0 fp_eX0_run_3_1_0_x_0_1_fp_eX0_note_3_x
  have b16_ : 0 ≤ Int32.toInt (M11_.1 3 1) ∧ Int32.toInt (M11_.1 3 1) ≤ 999 := (by have u0 := hc3_1; have u1 := d7_; have u2 := pvok_r o13_ 3 1 (lo := 0) (hi := 1000000) rfl; omega)
  refine pw_blk hT 1 (S' := (30, [some (pvR 3), some (pvI 1), some (pvI 0), some (pvI n3), some (pvI 0), some (pvI 10), some (pvI (0 + 1))], [pvI 10], M11_)) rfl ⟨trivial, trivial⟩ ?_
  refine pw_sw hT rfl rfl ?_
  refine And.intro (fun c17_ => ?_) (fun c17_ => absurd (by decide) c17_)
  show PW 4 d (128, [some (pvR 3), some (pvI 1), some (pvI 0), some (pvI n3), some (pvI 0), some (pvI 10), some (pvI (0 + 1))], [], M11_) _
  refine pw_blk hT 3 (S' := (133, [some (pvR 3), some (pvI 1), some (pvI 0), some (pvI n3), some (pvI 0), some (pvI 10), some (pvI (0 + 1))], [pvI (M11_.1 3 4), pvI n3], M11_)) rfl ⟨trivial, trivial, rfl, trivial⟩ ?_
  have e18_ : (M11_.1 3 4) = (M.1 3 4) := (g14_ 3 4 rfl)
  refine pw_eqI e18_ ?_
  refine pw_blk hT 1 (S' := (134, [some (pvR 3), some (pvI 1), some (pvI 0), some (pvI n3), some (pvI 0), some (pvI 10), some (pvI (0 + 1))], [pvI (n3 + (M.1 3 4))], M11_)) rfl ⟨trivial, trivial⟩ ?_
  exact pw_ret hT rfl (r := some (pvI (n3 + (M.1 3 4)))) (M' := M11_) ⟨rfl, rfl⟩ ⟨⟨_, rfl, trivial, rfl⟩, o13_, f15_, (by omega), (zTr_c0 (pvok_r hok 3 1 rfl).1 (zTr_0 3 1 4 M) d8_)⟩
def fpL_eX0_run_3_1_0_x_2_1 : List (Nat × Nat × Nat) := [(0, 3, 2), (0, 4, 0)]
def fp_eX0_run_3_1_0_x_2_1 (q k : Nat) : Bool := pvfp fpL_eX0_run_3_1_0_x_2_1 q k
theorem fp_eX0_run_3_1_0_x_2_1_fp_eX0_note_3_x (a b : Nat) (h : fp_eX0_note_3_x a b = true) : fp_eX0_run_3_1_0_x_2_1 a b = true := pvfp_sub (l1 := fpL_eX0_note_3_x) (l2 := fpL_eX0_run_3_1_0_x_2_1) (by decide) a b h
set_option maxHeartbeats 4000000 in
set_option maxRecDepth 10000 in
theorem se_X0_run_3_1_0_x_2_1 (M : pvM) (hok : pvOk M) (n3 : Int32) (hc3_1 : 0 ≤ Int32.toInt (M.1 3 1) ∧ Int32.toInt (M.1 3 1) ≤ 998) (hc3_2 : 1 ≤ Int32.toInt (M.1 3 2) ∧ Int32.toInt (M.1 3 2) ≤ 1) (d : Nat) : PW 4 d (0, [some (pvR 3), some (pvI 1), some (pvI 0), some (pvI n3), some (pvI 2), none, none], [], M) (fun r X => (∃ x : Int32, r = some (pvI x) ∧ True ∧ x = (n3 + (M.1 3 4))) ∧ pvOk X ∧ pvFr fp_eX0_run_3_1_0_x_2_1 M X ∧ Int32.toInt (X.1 3 1) ≤ Int32.toInt (M.1 3 1) + 1 ∧ zTr 3 1 4 ([10] : List Int32) M X) := by
  have hT : pvdom 4 = pvD_4 := rfl
  refine pw_blk hT 2 (S' := (4, [some (pvR 3), some (pvI 1), some (pvI 0), some (pvI n3), some (pvI 2), none, none], [pvI 40, pvI 2], M)) rfl ⟨trivial, trivial, trivial⟩ ?_
  refine pw_ic hT (c := 2 ≤ 40) rfl rfl (fun c1_ => ?_) (fun c1_ => absurd (by decide) c1_)
  refine pw_blk hT 2 (S' := (11, [some (pvR 3), some (pvI 1), some (pvI 0), some (pvI n3), some (pvI 2), none, none], [pvI 0, pvI 1], M)) rfl ⟨trivial, trivial, trivial⟩ ?_
  refine pw_callT hT (as := [pvI 1, pvI 0]) (lo1 := [some (pvI 1), some (pvI 0), none, none, none]) (d1 := d) (rest := []) rfl rfl rfl rfl rfl (fun h => absurd h (by decide)) (Nat.zero_le _) rfl rfl rfl (sf_X0_bodyFrom_1_0 M hok d) ?_
  refine pw_eqI (show ((pvstab 1041).getD (Int32.toNatClampNeg ((0 * 3) + 0)) 0) = 10 from by decide) ?_
  show PW 4 d (14, [some (pvR 3), some (pvI 1), some (pvI 0), some (pvI n3), some (pvI 2), none, none], [pvI 10], M) _
  refine pw_blk hT 7 (S' := (25, [some (pvR 3), some (pvI 1), some (pvI 0), some (pvI n3), some (pvI 2), some (pvI 10), some (pvI (2 + 1))], [pvI 10, pvR 3], M)) rfl ⟨trivial, trivial, trivial, trivial, trivial, trivial, trivial, trivial⟩ ?_
  refine pw_callVd hT (as := [pvR 3, pvI 10]) (lo1 := [some (pvR 3), some (pvI 10)]) (d1 := d) (rest := []) rfl rfl rfl rfl rfl (fun _ => rfl) (Nat.zero_le _) rfl rfl rfl (se_X0_note_3_x M hok 10 (zr_wide (show 10 ≤ Int32.toInt 10 ∧ Int32.toInt 10 ≤ 10 from (by decide)) (by decide) (by decide)) (zr_wide hc3_1 (by decide) (by decide)) d) (fun M11_ o13_ g14_ d9_ => ?_)
  have d7_ := d9_.1
  have d8_ := d9_.2
  have f15_ : pvFr fp_eX0_run_3_1_0_x_2_1 M M11_ := pvfr_t g14_ pvfr_0 fp_eX0_run_3_1_0_x_2_1_fp_eX0_note_3_x
  have b16_ : 0 ≤ Int32.toInt (M11_.1 3 1) ∧ Int32.toInt (M11_.1 3 1) ≤ 999 := (by have u0 := hc3_1; have u1 := d7_; have u2 := pvok_r o13_ 3 1 (lo := 0) (hi := 1000000) rfl; omega)
  refine pw_blk hT 1 (S' := (30, [some (pvR 3), some (pvI 1), some (pvI 0), some (pvI n3), some (pvI 2), some (pvI 10), some (pvI (2 + 1))], [pvI 10], M11_)) rfl ⟨trivial, trivial⟩ ?_
  refine pw_sw hT rfl rfl ?_
  refine And.intro (fun c17_ => ?_) (fun c17_ => absurd (by decide) c17_)
  show PW 4 d (128, [some (pvR 3), some (pvI 1), some (pvI 0), some (pvI n3), some (pvI 2), some (pvI 10), some (pvI (2 + 1))], [], M11_) _
  refine pw_blk hT 3 (S' := (133, [some (pvR 3), some (pvI 1), some (pvI 0), some (pvI n3), some (pvI 2), some (pvI 10), some (pvI (2 + 1))], [pvI (M11_.1 3 4), pvI n3], M11_)) rfl ⟨trivial, trivial, rfl, trivial⟩ ?_
  have e18_ : (M11_.1 3 4) = (M.1 3 4) := (g14_ 3 4 rfl)
  refine pw_eqI e18_ ?_
  refine pw_blk hT 1 (S' := (134, [some (pvR 3), some (pvI 1), some (pvI 0), some (pvI n3), some (pvI 2), some (pvI 10), some (pvI (2 + 1))], [pvI (n3 + (M.1 3 4))], M11_)) rfl ⟨trivial, trivial⟩ ?_
  exact pw_ret hT rfl (r := some (pvI (n3 + (M.1 3 4)))) (M' := M11_) ⟨rfl, rfl⟩ ⟨⟨_, rfl, trivial, rfl⟩, o13_, f15_, (by omega), (zTr_c0 (pvok_r hok 3 1 rfl).1 (zTr_0 3 1 4 M) d8_)⟩
def fpL_eX0_run_3_0_1_x_1_1 : List (Nat × Nat × Nat) := [(0, 3, 2), (0, 4, 0)]
def fp_eX0_run_3_0_1_x_1_1 (q k : Nat) : Bool := pvfp fpL_eX0_run_3_0_1_x_1_1 q k
theorem fp_eX0_run_3_0_1_x_1_1_fp_eX0_note_3_x (a b : Nat) (h : fp_eX0_note_3_x a b = true) : fp_eX0_run_3_0_1_x_1_1 a b = true := pvfp_sub (l1 := fpL_eX0_note_3_x) (l2 := fpL_eX0_run_3_0_1_x_1_1) (by decide) a b h
theorem fp_eX0_run_3_0_1_x_1_1_fp_eX0_run_3_1_0_x_2_1 (a b : Nat) (h : fp_eX0_run_3_1_0_x_2_1 a b = true) : fp_eX0_run_3_0_1_x_1_1 a b = true := pvfp_sub (l1 := fpL_eX0_run_3_1_0_x_2_1) (l2 := fpL_eX0_run_3_0_1_x_1_1) (by decide) a b h
set_option maxHeartbeats 4000000 in
set_option maxRecDepth 10000 in
theorem se_X0_run_3_0_1_x_1_1 (M : pvM) (hok : pvOk M) (n3 : Int32) (hc3_1 : 0 ≤ Int32.toInt (M.1 3 1) ∧ Int32.toInt (M.1 3 1) ≤ 997) (hc3_2 : 1 ≤ Int32.toInt (M.1 3 2) ∧ Int32.toInt (M.1 3 2) ≤ 1) (d : Nat) (hd : 1 ≤ d) : PW 4 d (0, [some (pvR 3), some (pvI 0), some (pvI 1), some (pvI n3), some (pvI 1), none, none], [], M) (fun r X => (∃ x : Int32, r = some (pvI x) ∧ True ∧ x = ((n3 + (M.1 3 4)) - (M.1 3 3))) ∧ pvOk X ∧ pvFr fp_eX0_run_3_0_1_x_1_1 M X ∧ Int32.toInt (X.1 3 1) ≤ Int32.toInt (M.1 3 1) + 2 ∧ zTr 3 1 4 (([11] : List Int32) ++ ([10] : List Int32)) M X) := by
  have hT : pvdom 4 = pvD_4 := rfl
  refine pw_blk hT 2 (S' := (4, [some (pvR 3), some (pvI 0), some (pvI 1), some (pvI n3), some (pvI 1), none, none], [pvI 40, pvI 1], M)) rfl ⟨trivial, trivial, trivial⟩ ?_
  refine pw_ic hT (c := 1 ≤ 40) rfl rfl (fun c1_ => ?_) (fun c1_ => absurd (by decide) c1_)
  refine pw_blk hT 2 (S' := (11, [some (pvR 3), some (pvI 0), some (pvI 1), some (pvI n3), some (pvI 1), none, none], [pvI 1, pvI 0], M)) rfl ⟨trivial, trivial, trivial⟩ ?_
  refine pw_callT hT (as := [pvI 0, pvI 1]) (lo1 := [some (pvI 0), some (pvI 1), none, none, none]) (d1 := d) (rest := []) rfl rfl rfl rfl rfl (fun h => absurd h (by decide)) (Nat.zero_le _) rfl rfl rfl (sf_X0_bodyFrom_0_1 M hok d) ?_
  refine pw_eqI (show ((pvstab 1041).getD (Int32.toNatClampNeg ((0 * 3) + 1)) 0) = 11 from by decide) ?_
  show PW 4 d (14, [some (pvR 3), some (pvI 0), some (pvI 1), some (pvI n3), some (pvI 1), none, none], [pvI 11], M) _
  refine pw_blk hT 7 (S' := (25, [some (pvR 3), some (pvI 0), some (pvI 1), some (pvI n3), some (pvI 1), some (pvI 11), some (pvI (1 + 1))], [pvI 11, pvR 3], M)) rfl ⟨trivial, trivial, trivial, trivial, trivial, trivial, trivial, trivial⟩ ?_
  refine pw_callVd hT (as := [pvR 3, pvI 11]) (lo1 := [some (pvR 3), some (pvI 11)]) (d1 := d) (rest := []) rfl rfl rfl rfl rfl (fun _ => rfl) (Nat.zero_le _) rfl rfl rfl (se_X0_note_3_x M hok 11 (zr_wide (show 11 ≤ Int32.toInt 11 ∧ Int32.toInt 11 ≤ 11 from (by decide)) (by decide) (by decide)) (zr_wide hc3_1 (by decide) (by decide)) d) (fun M11_ o13_ g14_ d9_ => ?_)
  have d7_ := d9_.1
  have d8_ := d9_.2
  have f15_ : pvFr fp_eX0_run_3_0_1_x_1_1 M M11_ := pvfr_t g14_ pvfr_0 fp_eX0_run_3_0_1_x_1_1_fp_eX0_note_3_x
  have b16_ : 0 ≤ Int32.toInt (M11_.1 3 1) ∧ Int32.toInt (M11_.1 3 1) ≤ 998 := (by have u0 := hc3_1; have u1 := d7_; have u2 := pvok_r o13_ 3 1 (lo := 0) (hi := 1000000) rfl; omega)
  refine pw_blk hT 1 (S' := (30, [some (pvR 3), some (pvI 0), some (pvI 1), some (pvI n3), some (pvI 1), some (pvI 11), some (pvI (1 + 1))], [pvI 11], M11_)) rfl ⟨trivial, trivial⟩ ?_
  refine pw_sw hT rfl rfl ?_
  refine And.intro (fun c17_ => absurd c17_ (by decide)) (fun c17_ => ?_)
  refine And.intro (fun c18_ => ?_) (fun c18_ => absurd (by decide) c18_)
  show PW 4 d (135, [some (pvR 3), some (pvI 0), some (pvI 1), some (pvI n3), some (pvI 1), some (pvI 11), some (pvI (1 + 1))], [], M11_) _
  have e19_ : (M11_.1 3 2) = (M.1 3 2) := (g14_ 3 2 rfl)
  have b20_ : 1 ≤ Int32.toInt (M11_.1 3 2) ∧ Int32.toInt (M11_.1 3 2) ≤ 1 := (by rw [e19_]; exact hc3_2)
  refine pw_blk hT 3 (S' := (140, [some (pvR 3), some (pvI 0), some (pvI 1), some (pvI n3), some (pvI 1), some (pvI 11), some (pvI (1 + 1))], [pvI (M11_.1 3 2), pvR 3], M11_)) rfl ⟨trivial, trivial, rfl, trivial⟩ ?_
  refine pw_eqI ((zi_eq _ (1)).mpr (by have u0 := b20_; have u1 : Int32.toInt (1) = 1 := (by decide); omega)) ?_
  refine pw_blk hT 3 (S' := (144, [some (pvR 3), some (pvI 0), some (pvI 1), some (pvI n3), some (pvI 1), some (pvI 11), some (pvI (1 + 1))], [pvI (1 + 1), pvI n3, pvI 0, pvI 1, pvR 3], M11_)) rfl ⟨trivial, trivial, trivial, trivial⟩ ?_
  refine pw_callGd hT (as := [pvR 3, pvI 1, pvI 0, pvI n3, pvI (1 + 1)]) (lo1 := [some (pvR 3), some (pvI 1), some (pvI 0), some (pvI n3), some (pvI (1 + 1)), none, none]) (d1 := (d - 1)) (rest := []) rfl rfl rfl rfl rfl (fun h => absurd h (by decide)) (show 1 ≤ d by omega) rfl rfl rfl (se_X0_run_3_1_0_x_2_1 M11_ o13_ n3 b16_ b20_ (d - 1)) (fun x24_ M25_ b26_ o27_ g28_ d23_ => ?_)
  have d21_ := d23_.1
  have d22_ := d23_.2
  have f29_ : pvFr fp_eX0_run_3_0_1_x_1_1 M M25_ := pvfr_t g28_ f15_ fp_eX0_run_3_0_1_x_1_1_fp_eX0_run_3_1_0_x_2_1
  have b30_ : 0 ≤ Int32.toInt (M25_.1 3 1) ∧ Int32.toInt (M25_.1 3 1) ≤ 999 := (by have u0 := b16_; have u1 := d21_; have u2 := pvok_r o27_ 3 1 (lo := 0) (hi := 1000000) rfl; omega)
  have u31_ : Int32.toInt 1 = 1 := by decide
  have u32_ : Int32.toInt 0 = 0 := by decide
  have u33_ : Int32.toInt (1 + 1) = 2 := by decide
  obtain ⟨b34_, d35_⟩ := b26_
  subst d35_
  have e36_ : (n3 + (M11_.1 3 4)) = (n3 + (M.1 3 4)) := (show (n3 + (M11_.1 3 4)) = (n3 + (M.1 3 4)) from by rw [(g14_ 3 4 rfl)])
  refine pw_eqI e36_ ?_
  refine pw_blk hT 2 (S' := (151, [some (pvR 3), some (pvI 0), some (pvI 1), some (pvI n3), some (pvI 1), some (pvI 11), some (pvI (1 + 1))], [pvI (M25_.1 3 3), pvI (n3 + (M.1 3 4))], M25_)) rfl ⟨trivial, rfl, trivial⟩ ?_
  have e37_ : (M25_.1 3 3) = (M.1 3 3) := ((g28_ 3 3 rfl).trans (g14_ 3 3 rfl))
  refine pw_eqI e37_ ?_
  refine pw_blk hT 1 (S' := (152, [some (pvR 3), some (pvI 0), some (pvI 1), some (pvI n3), some (pvI 1), some (pvI 11), some (pvI (1 + 1))], [pvI ((n3 + (M.1 3 4)) - (M.1 3 3))], M25_)) rfl ⟨trivial, trivial⟩ ?_
  exact pw_ret hT rfl (r := some (pvI ((n3 + (M.1 3 4)) - (M.1 3 3)))) (M' := M25_) ⟨rfl, rfl⟩ ⟨⟨_, rfl, trivial, rfl⟩, o27_, f29_, (by omega), (zTr_c (pvok_r hok 3 1 rfl).1 (zTr_c0 (pvok_r hok 3 1 rfl).1 (zTr_0 3 1 4 M) d8_) d22_)⟩
def fpL_eX0_run_3_1_1_x_0_1 : List (Nat × Nat × Nat) := [(0, 3, 2), (0, 4, 0)]
def fp_eX0_run_3_1_1_x_0_1 (q k : Nat) : Bool := pvfp fpL_eX0_run_3_1_1_x_0_1 q k
theorem fp_eX0_run_3_1_1_x_0_1_fp_eX0_note_3_x (a b : Nat) (h : fp_eX0_note_3_x a b = true) : fp_eX0_run_3_1_1_x_0_1 a b = true := pvfp_sub (l1 := fpL_eX0_note_3_x) (l2 := fpL_eX0_run_3_1_1_x_0_1) (by decide) a b h
theorem fp_eX0_run_3_1_1_x_0_1_fp_eX0_run_3_0_1_x_1_1 (a b : Nat) (h : fp_eX0_run_3_0_1_x_1_1 a b = true) : fp_eX0_run_3_1_1_x_0_1 a b = true := pvfp_sub (l1 := fpL_eX0_run_3_0_1_x_1_1) (l2 := fpL_eX0_run_3_1_1_x_0_1) (by decide) a b h
set_option maxHeartbeats 4000000 in
set_option maxRecDepth 10000 in
theorem se_X0_run_3_1_1_x_0_1 (M : pvM) (hok : pvOk M) (n3 : Int32) (hc3_1 : 0 ≤ Int32.toInt (M.1 3 1) ∧ Int32.toInt (M.1 3 1) ≤ 996) (hc3_2 : 1 ≤ Int32.toInt (M.1 3 2) ∧ Int32.toInt (M.1 3 2) ≤ 1) (d : Nat) (hd : 2 ≤ d) : PW 4 d (0, [some (pvR 3), some (pvI 1), some (pvI 1), some (pvI n3), some (pvI 0), none, none], [], M) (fun r X => (∃ x : Int32, r = some (pvI x) ∧ True ∧ x = (((n3 + (M.1 3 4)) - (M.1 3 3)) ^^^ 6)) ∧ pvOk X ∧ pvFr fp_eX0_run_3_1_1_x_0_1 M X ∧ Int32.toInt (X.1 3 1) ≤ Int32.toInt (M.1 3 1) + 3 ∧ zTr 3 1 4 (([20] : List Int32) ++ (([11] : List Int32) ++ ([10] : List Int32))) M X) := by
  have hT : pvdom 4 = pvD_4 := rfl
  refine pw_blk hT 2 (S' := (4, [some (pvR 3), some (pvI 1), some (pvI 1), some (pvI n3), some (pvI 0), none, none], [pvI 40, pvI 0], M)) rfl ⟨trivial, trivial, trivial⟩ ?_
  refine pw_ic hT (c := 0 ≤ 40) rfl rfl (fun c1_ => ?_) (fun c1_ => absurd (by decide) c1_)
  refine pw_blk hT 2 (S' := (11, [some (pvR 3), some (pvI 1), some (pvI 1), some (pvI n3), some (pvI 0), none, none], [pvI 1, pvI 1], M)) rfl ⟨trivial, trivial, trivial⟩ ?_
  refine pw_callT hT (as := [pvI 1, pvI 1]) (lo1 := [some (pvI 1), some (pvI 1), none, none, none]) (d1 := d) (rest := []) rfl rfl rfl rfl rfl (fun h => absurd h (by decide)) (Nat.zero_le _) rfl rfl rfl (sf_X0_bodyFrom_1_1 M hok d) ?_
  refine pw_eqI (show ((pvstab 1041).getD (Int32.toNatClampNeg ((1 * 3) + 1)) 0) = 20 from by decide) ?_
  show PW 4 d (14, [some (pvR 3), some (pvI 1), some (pvI 1), some (pvI n3), some (pvI 0), none, none], [pvI 20], M) _
  refine pw_blk hT 7 (S' := (25, [some (pvR 3), some (pvI 1), some (pvI 1), some (pvI n3), some (pvI 0), some (pvI 20), some (pvI (0 + 1))], [pvI 20, pvR 3], M)) rfl ⟨trivial, trivial, trivial, trivial, trivial, trivial, trivial, trivial⟩ ?_
  refine pw_callVd hT (as := [pvR 3, pvI 20]) (lo1 := [some (pvR 3), some (pvI 20)]) (d1 := d) (rest := []) rfl rfl rfl rfl rfl (fun _ => rfl) (Nat.zero_le _) rfl rfl rfl (se_X0_note_3_x M hok 20 (zr_wide (show 20 ≤ Int32.toInt 20 ∧ Int32.toInt 20 ≤ 20 from (by decide)) (by decide) (by decide)) (zr_wide hc3_1 (by decide) (by decide)) d) (fun M11_ o13_ g14_ d9_ => ?_)
  have d7_ := d9_.1
  have d8_ := d9_.2
  have f15_ : pvFr fp_eX0_run_3_1_1_x_0_1 M M11_ := pvfr_t g14_ pvfr_0 fp_eX0_run_3_1_1_x_0_1_fp_eX0_note_3_x
  have b16_ : 0 ≤ Int32.toInt (M11_.1 3 1) ∧ Int32.toInt (M11_.1 3 1) ≤ 997 := (by have u0 := hc3_1; have u1 := d7_; have u2 := pvok_r o13_ 3 1 (lo := 0) (hi := 1000000) rfl; omega)
  refine pw_blk hT 1 (S' := (30, [some (pvR 3), some (pvI 1), some (pvI 1), some (pvI n3), some (pvI 0), some (pvI 20), some (pvI (0 + 1))], [pvI 20], M11_)) rfl ⟨trivial, trivial⟩ ?_
  refine pw_sw hT rfl rfl ?_
  refine And.intro (fun c17_ => absurd c17_ (by decide)) (fun c17_ => ?_)
  refine And.intro (fun c18_ => absurd c18_ (by decide)) (fun c18_ => ?_)
  refine And.intro (fun c19_ => absurd c19_ (by decide)) (fun c19_ => ?_)
  refine And.intro (fun c20_ => ?_) (fun c20_ => absurd (by decide) c20_)
  show PW 4 d (168, [some (pvR 3), some (pvI 1), some (pvI 1), some (pvI n3), some (pvI 0), some (pvI 20), some (pvI (0 + 1))], [], M11_) _
  refine pw_blk hT 5 (S' := (174, [some (pvR 3), some (pvI 1), some (pvI 1), some (pvI n3), some (pvI 0), some (pvI 20), some (pvI (0 + 1))], [pvI (0 + 1), pvI n3, pvI 1, pvI 0, pvR 3], M11_)) rfl ⟨trivial, trivial, trivial, trivial, trivial, trivial⟩ ?_
  have e21_ : (M11_.1 3 2) = (M.1 3 2) := (g14_ 3 2 rfl)
  have b22_ : 1 ≤ Int32.toInt (M11_.1 3 2) ∧ Int32.toInt (M11_.1 3 2) ≤ 1 := (by rw [e21_]; exact hc3_2)
  refine pw_callGd hT (as := [pvR 3, pvI 0, pvI 1, pvI n3, pvI (0 + 1)]) (lo1 := [some (pvR 3), some (pvI 0), some (pvI 1), some (pvI n3), some (pvI (0 + 1)), none, none]) (d1 := (d - 1)) (rest := []) rfl rfl rfl rfl rfl (fun h => absurd h (by decide)) (show 1 ≤ d by omega) rfl rfl rfl (se_X0_run_3_0_1_x_1_1 M11_ o13_ n3 b16_ b22_ (d - 1) (by omega)) (fun x26_ M27_ b28_ o29_ g30_ d25_ => ?_)
  have d23_ := d25_.1
  have d24_ := d25_.2
  have f31_ : pvFr fp_eX0_run_3_1_1_x_0_1 M M27_ := pvfr_t g30_ f15_ fp_eX0_run_3_1_1_x_0_1_fp_eX0_run_3_0_1_x_1_1
  have b32_ : 0 ≤ Int32.toInt (M27_.1 3 1) ∧ Int32.toInt (M27_.1 3 1) ≤ 999 := (by have u0 := b16_; have u1 := d23_; have u2 := pvok_r o29_ 3 1 (lo := 0) (hi := 1000000) rfl; omega)
  have u33_ : Int32.toInt 0 = 0 := by decide
  have u34_ : Int32.toInt 1 = 1 := by decide
  have u35_ : Int32.toInt (0 + 1) = 1 := by decide
  obtain ⟨b36_, d37_⟩ := b28_
  subst d37_
  have e38_ : ((n3 + (M11_.1 3 4)) - (M11_.1 3 3)) = ((n3 + (M.1 3 4)) - (M.1 3 3)) := (show ((n3 + (M11_.1 3 4)) - (M11_.1 3 3)) = ((n3 + (M.1 3 4)) - (M.1 3 3)) from by rw [(g14_ 3 4 rfl), (g14_ 3 3 rfl)])
  refine pw_eqI e38_ ?_
  refine pw_blk hT 2 (S' := (180, [some (pvR 3), some (pvI 1), some (pvI 1), some (pvI n3), some (pvI 0), some (pvI 20), some (pvI (0 + 1))], [pvI (((n3 + (M.1 3 4)) - (M.1 3 3)) ^^^ 6)], M27_)) rfl ⟨trivial, trivial, trivial⟩ ?_
  exact pw_ret hT rfl (r := some (pvI (((n3 + (M.1 3 4)) - (M.1 3 3)) ^^^ 6))) (M' := M27_) ⟨rfl, rfl⟩ ⟨⟨_, rfl, trivial, rfl⟩, o29_, f31_, (by omega), (zTr_c (pvok_r hok 3 1 rfl).1 (zTr_c0 (pvok_r hok 3 1 rfl).1 (zTr_0 3 1 4 M) d8_) d24_)⟩
def fpL_eX0_run_3_1_0_x_3_1 : List (Nat × Nat × Nat) := [(0, 3, 2), (0, 4, 0)]
def fp_eX0_run_3_1_0_x_3_1 (q k : Nat) : Bool := pvfp fpL_eX0_run_3_1_0_x_3_1 q k
theorem fp_eX0_run_3_1_0_x_3_1_fp_eX0_note_3_x (a b : Nat) (h : fp_eX0_note_3_x a b = true) : fp_eX0_run_3_1_0_x_3_1 a b = true := pvfp_sub (l1 := fpL_eX0_note_3_x) (l2 := fpL_eX0_run_3_1_0_x_3_1) (by decide) a b h
set_option maxHeartbeats 4000000 in
set_option maxRecDepth 10000 in
theorem se_X0_run_3_1_0_x_3_1 (M : pvM) (hok : pvOk M) (n3 : Int32) (hc3_1 : 0 ≤ Int32.toInt (M.1 3 1) ∧ Int32.toInt (M.1 3 1) ≤ 998) (hc3_2 : 1 ≤ Int32.toInt (M.1 3 2) ∧ Int32.toInt (M.1 3 2) ≤ 1) (d : Nat) : PW 4 d (0, [some (pvR 3), some (pvI 1), some (pvI 0), some (pvI n3), some (pvI 3), none, none], [], M) (fun r X => (∃ x : Int32, r = some (pvI x) ∧ True ∧ x = (n3 + (M.1 3 4))) ∧ pvOk X ∧ pvFr fp_eX0_run_3_1_0_x_3_1 M X ∧ Int32.toInt (X.1 3 1) ≤ Int32.toInt (M.1 3 1) + 1 ∧ zTr 3 1 4 ([10] : List Int32) M X) := by
  have hT : pvdom 4 = pvD_4 := rfl
  refine pw_blk hT 2 (S' := (4, [some (pvR 3), some (pvI 1), some (pvI 0), some (pvI n3), some (pvI 3), none, none], [pvI 40, pvI 3], M)) rfl ⟨trivial, trivial, trivial⟩ ?_
  refine pw_ic hT (c := 3 ≤ 40) rfl rfl (fun c1_ => ?_) (fun c1_ => absurd (by decide) c1_)
  refine pw_blk hT 2 (S' := (11, [some (pvR 3), some (pvI 1), some (pvI 0), some (pvI n3), some (pvI 3), none, none], [pvI 0, pvI 1], M)) rfl ⟨trivial, trivial, trivial⟩ ?_
  refine pw_callT hT (as := [pvI 1, pvI 0]) (lo1 := [some (pvI 1), some (pvI 0), none, none, none]) (d1 := d) (rest := []) rfl rfl rfl rfl rfl (fun h => absurd h (by decide)) (Nat.zero_le _) rfl rfl rfl (sf_X0_bodyFrom_1_0 M hok d) ?_
  refine pw_eqI (show ((pvstab 1041).getD (Int32.toNatClampNeg ((0 * 3) + 0)) 0) = 10 from by decide) ?_
  show PW 4 d (14, [some (pvR 3), some (pvI 1), some (pvI 0), some (pvI n3), some (pvI 3), none, none], [pvI 10], M) _
  refine pw_blk hT 7 (S' := (25, [some (pvR 3), some (pvI 1), some (pvI 0), some (pvI n3), some (pvI 3), some (pvI 10), some (pvI (3 + 1))], [pvI 10, pvR 3], M)) rfl ⟨trivial, trivial, trivial, trivial, trivial, trivial, trivial, trivial⟩ ?_
  refine pw_callVd hT (as := [pvR 3, pvI 10]) (lo1 := [some (pvR 3), some (pvI 10)]) (d1 := d) (rest := []) rfl rfl rfl rfl rfl (fun _ => rfl) (Nat.zero_le _) rfl rfl rfl (se_X0_note_3_x M hok 10 (zr_wide (show 10 ≤ Int32.toInt 10 ∧ Int32.toInt 10 ≤ 10 from (by decide)) (by decide) (by decide)) (zr_wide hc3_1 (by decide) (by decide)) d) (fun M11_ o13_ g14_ d9_ => ?_)
  have d7_ := d9_.1
  have d8_ := d9_.2
  have f15_ : pvFr fp_eX0_run_3_1_0_x_3_1 M M11_ := pvfr_t g14_ pvfr_0 fp_eX0_run_3_1_0_x_3_1_fp_eX0_note_3_x
  have b16_ : 0 ≤ Int32.toInt (M11_.1 3 1) ∧ Int32.toInt (M11_.1 3 1) ≤ 999 := (by have u0 := hc3_1; have u1 := d7_; have u2 := pvok_r o13_ 3 1 (lo := 0) (hi := 1000000) rfl; omega)
  refine pw_blk hT 1 (S' := (30, [some (pvR 3), some (pvI 1), some (pvI 0), some (pvI n3), some (pvI 3), some (pvI 10), some (pvI (3 + 1))], [pvI 10], M11_)) rfl ⟨trivial, trivial⟩ ?_
  refine pw_sw hT rfl rfl ?_
  refine And.intro (fun c17_ => ?_) (fun c17_ => absurd (by decide) c17_)
  show PW 4 d (128, [some (pvR 3), some (pvI 1), some (pvI 0), some (pvI n3), some (pvI 3), some (pvI 10), some (pvI (3 + 1))], [], M11_) _
  refine pw_blk hT 3 (S' := (133, [some (pvR 3), some (pvI 1), some (pvI 0), some (pvI n3), some (pvI 3), some (pvI 10), some (pvI (3 + 1))], [pvI (M11_.1 3 4), pvI n3], M11_)) rfl ⟨trivial, trivial, rfl, trivial⟩ ?_
  have e18_ : (M11_.1 3 4) = (M.1 3 4) := (g14_ 3 4 rfl)
  refine pw_eqI e18_ ?_
  refine pw_blk hT 1 (S' := (134, [some (pvR 3), some (pvI 1), some (pvI 0), some (pvI n3), some (pvI 3), some (pvI 10), some (pvI (3 + 1))], [pvI (n3 + (M.1 3 4))], M11_)) rfl ⟨trivial, trivial⟩ ?_
  exact pw_ret hT rfl (r := some (pvI (n3 + (M.1 3 4)))) (M' := M11_) ⟨rfl, rfl⟩ ⟨⟨_, rfl, trivial, rfl⟩, o13_, f15_, (by omega), (zTr_c0 (pvok_r hok 3 1 rfl).1 (zTr_0 3 1 4 M) d8_)⟩
def fpL_eX0_run_3_0_1_x_2_1 : List (Nat × Nat × Nat) := [(0, 3, 2), (0, 4, 0)]
def fp_eX0_run_3_0_1_x_2_1 (q k : Nat) : Bool := pvfp fpL_eX0_run_3_0_1_x_2_1 q k
theorem fp_eX0_run_3_0_1_x_2_1_fp_eX0_note_3_x (a b : Nat) (h : fp_eX0_note_3_x a b = true) : fp_eX0_run_3_0_1_x_2_1 a b = true := pvfp_sub (l1 := fpL_eX0_note_3_x) (l2 := fpL_eX0_run_3_0_1_x_2_1) (by decide) a b h
theorem fp_eX0_run_3_0_1_x_2_1_fp_eX0_run_3_1_0_x_3_1 (a b : Nat) (h : fp_eX0_run_3_1_0_x_3_1 a b = true) : fp_eX0_run_3_0_1_x_2_1 a b = true := pvfp_sub (l1 := fpL_eX0_run_3_1_0_x_3_1) (l2 := fpL_eX0_run_3_0_1_x_2_1) (by decide) a b h
set_option maxHeartbeats 4000000 in
set_option maxRecDepth 10000 in
theorem se_X0_run_3_0_1_x_2_1 (M : pvM) (hok : pvOk M) (n3 : Int32) (hc3_1 : 0 ≤ Int32.toInt (M.1 3 1) ∧ Int32.toInt (M.1 3 1) ≤ 997) (hc3_2 : 1 ≤ Int32.toInt (M.1 3 2) ∧ Int32.toInt (M.1 3 2) ≤ 1) (d : Nat) (hd : 1 ≤ d) : PW 4 d (0, [some (pvR 3), some (pvI 0), some (pvI 1), some (pvI n3), some (pvI 2), none, none], [], M) (fun r X => (∃ x : Int32, r = some (pvI x) ∧ True ∧ x = ((n3 + (M.1 3 4)) - (M.1 3 3))) ∧ pvOk X ∧ pvFr fp_eX0_run_3_0_1_x_2_1 M X ∧ Int32.toInt (X.1 3 1) ≤ Int32.toInt (M.1 3 1) + 2 ∧ zTr 3 1 4 (([11] : List Int32) ++ ([10] : List Int32)) M X) := by
  have hT : pvdom 4 = pvD_4 := rfl
  refine pw_blk hT 2 (S' := (4, [some (pvR 3), some (pvI 0), some (pvI 1), some (pvI n3), some (pvI 2), none, none], [pvI 40, pvI 2], M)) rfl ⟨trivial, trivial, trivial⟩ ?_
  refine pw_ic hT (c := 2 ≤ 40) rfl rfl (fun c1_ => ?_) (fun c1_ => absurd (by decide) c1_)
  refine pw_blk hT 2 (S' := (11, [some (pvR 3), some (pvI 0), some (pvI 1), some (pvI n3), some (pvI 2), none, none], [pvI 1, pvI 0], M)) rfl ⟨trivial, trivial, trivial⟩ ?_
  refine pw_callT hT (as := [pvI 0, pvI 1]) (lo1 := [some (pvI 0), some (pvI 1), none, none, none]) (d1 := d) (rest := []) rfl rfl rfl rfl rfl (fun h => absurd h (by decide)) (Nat.zero_le _) rfl rfl rfl (sf_X0_bodyFrom_0_1 M hok d) ?_
  refine pw_eqI (show ((pvstab 1041).getD (Int32.toNatClampNeg ((0 * 3) + 1)) 0) = 11 from by decide) ?_
  show PW 4 d (14, [some (pvR 3), some (pvI 0), some (pvI 1), some (pvI n3), some (pvI 2), none, none], [pvI 11], M) _
  refine pw_blk hT 7 (S' := (25, [some (pvR 3), some (pvI 0), some (pvI 1), some (pvI n3), some (pvI 2), some (pvI 11), some (pvI (2 + 1))], [pvI 11, pvR 3], M)) rfl ⟨trivial, trivial, trivial, trivial, trivial, trivial, trivial, trivial⟩ ?_
  refine pw_callVd hT (as := [pvR 3, pvI 11]) (lo1 := [some (pvR 3), some (pvI 11)]) (d1 := d) (rest := []) rfl rfl rfl rfl rfl (fun _ => rfl) (Nat.zero_le _) rfl rfl rfl (se_X0_note_3_x M hok 11 (zr_wide (show 11 ≤ Int32.toInt 11 ∧ Int32.toInt 11 ≤ 11 from (by decide)) (by decide) (by decide)) (zr_wide hc3_1 (by decide) (by decide)) d) (fun M11_ o13_ g14_ d9_ => ?_)
  have d7_ := d9_.1
  have d8_ := d9_.2
  have f15_ : pvFr fp_eX0_run_3_0_1_x_2_1 M M11_ := pvfr_t g14_ pvfr_0 fp_eX0_run_3_0_1_x_2_1_fp_eX0_note_3_x
  have b16_ : 0 ≤ Int32.toInt (M11_.1 3 1) ∧ Int32.toInt (M11_.1 3 1) ≤ 998 := (by have u0 := hc3_1; have u1 := d7_; have u2 := pvok_r o13_ 3 1 (lo := 0) (hi := 1000000) rfl; omega)
  refine pw_blk hT 1 (S' := (30, [some (pvR 3), some (pvI 0), some (pvI 1), some (pvI n3), some (pvI 2), some (pvI 11), some (pvI (2 + 1))], [pvI 11], M11_)) rfl ⟨trivial, trivial⟩ ?_
  refine pw_sw hT rfl rfl ?_
  refine And.intro (fun c17_ => absurd c17_ (by decide)) (fun c17_ => ?_)
  refine And.intro (fun c18_ => ?_) (fun c18_ => absurd (by decide) c18_)
  show PW 4 d (135, [some (pvR 3), some (pvI 0), some (pvI 1), some (pvI n3), some (pvI 2), some (pvI 11), some (pvI (2 + 1))], [], M11_) _
  have e19_ : (M11_.1 3 2) = (M.1 3 2) := (g14_ 3 2 rfl)
  have b20_ : 1 ≤ Int32.toInt (M11_.1 3 2) ∧ Int32.toInt (M11_.1 3 2) ≤ 1 := (by rw [e19_]; exact hc3_2)
  refine pw_blk hT 3 (S' := (140, [some (pvR 3), some (pvI 0), some (pvI 1), some (pvI n3), some (pvI 2), some (pvI 11), some (pvI (2 + 1))], [pvI (M11_.1 3 2), pvR 3], M11_)) rfl ⟨trivial, trivial, rfl, trivial⟩ ?_
  refine pw_eqI ((zi_eq _ (1)).mpr (by have u0 := b20_; have u1 : Int32.toInt (1) = 1 := (by decide); omega)) ?_
  refine pw_blk hT 3 (S' := (144, [some (pvR 3), some (pvI 0), some (pvI 1), some (pvI n3), some (pvI 2), some (pvI 11), some (pvI (2 + 1))], [pvI (2 + 1), pvI n3, pvI 0, pvI 1, pvR 3], M11_)) rfl ⟨trivial, trivial, trivial, trivial⟩ ?_
  refine pw_callGd hT (as := [pvR 3, pvI 1, pvI 0, pvI n3, pvI (2 + 1)]) (lo1 := [some (pvR 3), some (pvI 1), some (pvI 0), some (pvI n3), some (pvI (2 + 1)), none, none]) (d1 := (d - 1)) (rest := []) rfl rfl rfl rfl rfl (fun h => absurd h (by decide)) (show 1 ≤ d by omega) rfl rfl rfl (se_X0_run_3_1_0_x_3_1 M11_ o13_ n3 b16_ b20_ (d - 1)) (fun x24_ M25_ b26_ o27_ g28_ d23_ => ?_)
  have d21_ := d23_.1
  have d22_ := d23_.2
  have f29_ : pvFr fp_eX0_run_3_0_1_x_2_1 M M25_ := pvfr_t g28_ f15_ fp_eX0_run_3_0_1_x_2_1_fp_eX0_run_3_1_0_x_3_1
  have b30_ : 0 ≤ Int32.toInt (M25_.1 3 1) ∧ Int32.toInt (M25_.1 3 1) ≤ 999 := (by have u0 := b16_; have u1 := d21_; have u2 := pvok_r o27_ 3 1 (lo := 0) (hi := 1000000) rfl; omega)
  have u31_ : Int32.toInt 1 = 1 := by decide
  have u32_ : Int32.toInt 0 = 0 := by decide
  have u33_ : Int32.toInt (2 + 1) = 3 := by decide
  obtain ⟨b34_, d35_⟩ := b26_
  subst d35_
  have e36_ : (n3 + (M11_.1 3 4)) = (n3 + (M.1 3 4)) := (show (n3 + (M11_.1 3 4)) = (n3 + (M.1 3 4)) from by rw [(g14_ 3 4 rfl)])
  refine pw_eqI e36_ ?_
  refine pw_blk hT 2 (S' := (151, [some (pvR 3), some (pvI 0), some (pvI 1), some (pvI n3), some (pvI 2), some (pvI 11), some (pvI (2 + 1))], [pvI (M25_.1 3 3), pvI (n3 + (M.1 3 4))], M25_)) rfl ⟨trivial, rfl, trivial⟩ ?_
  have e37_ : (M25_.1 3 3) = (M.1 3 3) := ((g28_ 3 3 rfl).trans (g14_ 3 3 rfl))
  refine pw_eqI e37_ ?_
  refine pw_blk hT 1 (S' := (152, [some (pvR 3), some (pvI 0), some (pvI 1), some (pvI n3), some (pvI 2), some (pvI 11), some (pvI (2 + 1))], [pvI ((n3 + (M.1 3 4)) - (M.1 3 3))], M25_)) rfl ⟨trivial, trivial⟩ ?_
  exact pw_ret hT rfl (r := some (pvI ((n3 + (M.1 3 4)) - (M.1 3 3)))) (M' := M25_) ⟨rfl, rfl⟩ ⟨⟨_, rfl, trivial, rfl⟩, o27_, f29_, (by omega), (zTr_c (pvok_r hok 3 1 rfl).1 (zTr_c0 (pvok_r hok 3 1 rfl).1 (zTr_0 3 1 4 M) d8_) d22_)⟩
def fpL_eX0_run_3_1_1_x_1_1 : List (Nat × Nat × Nat) := [(0, 3, 2), (0, 4, 0)]
def fp_eX0_run_3_1_1_x_1_1 (q k : Nat) : Bool := pvfp fpL_eX0_run_3_1_1_x_1_1 q k
theorem fp_eX0_run_3_1_1_x_1_1_fp_eX0_note_3_x (a b : Nat) (h : fp_eX0_note_3_x a b = true) : fp_eX0_run_3_1_1_x_1_1 a b = true := pvfp_sub (l1 := fpL_eX0_note_3_x) (l2 := fpL_eX0_run_3_1_1_x_1_1) (by decide) a b h
theorem fp_eX0_run_3_1_1_x_1_1_fp_eX0_run_3_0_1_x_2_1 (a b : Nat) (h : fp_eX0_run_3_0_1_x_2_1 a b = true) : fp_eX0_run_3_1_1_x_1_1 a b = true := pvfp_sub (l1 := fpL_eX0_run_3_0_1_x_2_1) (l2 := fpL_eX0_run_3_1_1_x_1_1) (by decide) a b h
set_option maxHeartbeats 4000000 in
set_option maxRecDepth 10000 in
theorem se_X0_run_3_1_1_x_1_1 (M : pvM) (hok : pvOk M) (n3 : Int32) (hc3_1 : 0 ≤ Int32.toInt (M.1 3 1) ∧ Int32.toInt (M.1 3 1) ≤ 996) (hc3_2 : 1 ≤ Int32.toInt (M.1 3 2) ∧ Int32.toInt (M.1 3 2) ≤ 1) (d : Nat) (hd : 2 ≤ d) : PW 4 d (0, [some (pvR 3), some (pvI 1), some (pvI 1), some (pvI n3), some (pvI 1), none, none], [], M) (fun r X => (∃ x : Int32, r = some (pvI x) ∧ True ∧ x = (((n3 + (M.1 3 4)) - (M.1 3 3)) ^^^ 6)) ∧ pvOk X ∧ pvFr fp_eX0_run_3_1_1_x_1_1 M X ∧ Int32.toInt (X.1 3 1) ≤ Int32.toInt (M.1 3 1) + 3 ∧ zTr 3 1 4 (([20] : List Int32) ++ (([11] : List Int32) ++ ([10] : List Int32))) M X) := by
  have hT : pvdom 4 = pvD_4 := rfl
  refine pw_blk hT 2 (S' := (4, [some (pvR 3), some (pvI 1), some (pvI 1), some (pvI n3), some (pvI 1), none, none], [pvI 40, pvI 1], M)) rfl ⟨trivial, trivial, trivial⟩ ?_
  refine pw_ic hT (c := 1 ≤ 40) rfl rfl (fun c1_ => ?_) (fun c1_ => absurd (by decide) c1_)
  refine pw_blk hT 2 (S' := (11, [some (pvR 3), some (pvI 1), some (pvI 1), some (pvI n3), some (pvI 1), none, none], [pvI 1, pvI 1], M)) rfl ⟨trivial, trivial, trivial⟩ ?_
  refine pw_callT hT (as := [pvI 1, pvI 1]) (lo1 := [some (pvI 1), some (pvI 1), none, none, none]) (d1 := d) (rest := []) rfl rfl rfl rfl rfl (fun h => absurd h (by decide)) (Nat.zero_le _) rfl rfl rfl (sf_X0_bodyFrom_1_1 M hok d) ?_
  refine pw_eqI (show ((pvstab 1041).getD (Int32.toNatClampNeg ((1 * 3) + 1)) 0) = 20 from by decide) ?_
  show PW 4 d (14, [some (pvR 3), some (pvI 1), some (pvI 1), some (pvI n3), some (pvI 1), none, none], [pvI 20], M) _
  refine pw_blk hT 7 (S' := (25, [some (pvR 3), some (pvI 1), some (pvI 1), some (pvI n3), some (pvI 1), some (pvI 20), some (pvI (1 + 1))], [pvI 20, pvR 3], M)) rfl ⟨trivial, trivial, trivial, trivial, trivial, trivial, trivial, trivial⟩ ?_
  refine pw_callVd hT (as := [pvR 3, pvI 20]) (lo1 := [some (pvR 3), some (pvI 20)]) (d1 := d) (rest := []) rfl rfl rfl rfl rfl (fun _ => rfl) (Nat.zero_le _) rfl rfl rfl (se_X0_note_3_x M hok 20 (zr_wide (show 20 ≤ Int32.toInt 20 ∧ Int32.toInt 20 ≤ 20 from (by decide)) (by decide) (by decide)) (zr_wide hc3_1 (by decide) (by decide)) d) (fun M11_ o13_ g14_ d9_ => ?_)
  have d7_ := d9_.1
  have d8_ := d9_.2
  have f15_ : pvFr fp_eX0_run_3_1_1_x_1_1 M M11_ := pvfr_t g14_ pvfr_0 fp_eX0_run_3_1_1_x_1_1_fp_eX0_note_3_x
  have b16_ : 0 ≤ Int32.toInt (M11_.1 3 1) ∧ Int32.toInt (M11_.1 3 1) ≤ 997 := (by have u0 := hc3_1; have u1 := d7_; have u2 := pvok_r o13_ 3 1 (lo := 0) (hi := 1000000) rfl; omega)
  refine pw_blk hT 1 (S' := (30, [some (pvR 3), some (pvI 1), some (pvI 1), some (pvI n3), some (pvI 1), some (pvI 20), some (pvI (1 + 1))], [pvI 20], M11_)) rfl ⟨trivial, trivial⟩ ?_
  refine pw_sw hT rfl rfl ?_
  refine And.intro (fun c17_ => absurd c17_ (by decide)) (fun c17_ => ?_)
  refine And.intro (fun c18_ => absurd c18_ (by decide)) (fun c18_ => ?_)
  refine And.intro (fun c19_ => absurd c19_ (by decide)) (fun c19_ => ?_)
  refine And.intro (fun c20_ => ?_) (fun c20_ => absurd (by decide) c20_)
  show PW 4 d (168, [some (pvR 3), some (pvI 1), some (pvI 1), some (pvI n3), some (pvI 1), some (pvI 20), some (pvI (1 + 1))], [], M11_) _
  refine pw_blk hT 5 (S' := (174, [some (pvR 3), some (pvI 1), some (pvI 1), some (pvI n3), some (pvI 1), some (pvI 20), some (pvI (1 + 1))], [pvI (1 + 1), pvI n3, pvI 1, pvI 0, pvR 3], M11_)) rfl ⟨trivial, trivial, trivial, trivial, trivial, trivial⟩ ?_
  have e21_ : (M11_.1 3 2) = (M.1 3 2) := (g14_ 3 2 rfl)
  have b22_ : 1 ≤ Int32.toInt (M11_.1 3 2) ∧ Int32.toInt (M11_.1 3 2) ≤ 1 := (by rw [e21_]; exact hc3_2)
  refine pw_callGd hT (as := [pvR 3, pvI 0, pvI 1, pvI n3, pvI (1 + 1)]) (lo1 := [some (pvR 3), some (pvI 0), some (pvI 1), some (pvI n3), some (pvI (1 + 1)), none, none]) (d1 := (d - 1)) (rest := []) rfl rfl rfl rfl rfl (fun h => absurd h (by decide)) (show 1 ≤ d by omega) rfl rfl rfl (se_X0_run_3_0_1_x_2_1 M11_ o13_ n3 b16_ b22_ (d - 1) (by omega)) (fun x26_ M27_ b28_ o29_ g30_ d25_ => ?_)
  have d23_ := d25_.1
  have d24_ := d25_.2
  have f31_ : pvFr fp_eX0_run_3_1_1_x_1_1 M M27_ := pvfr_t g30_ f15_ fp_eX0_run_3_1_1_x_1_1_fp_eX0_run_3_0_1_x_2_1
  have b32_ : 0 ≤ Int32.toInt (M27_.1 3 1) ∧ Int32.toInt (M27_.1 3 1) ≤ 999 := (by have u0 := b16_; have u1 := d23_; have u2 := pvok_r o29_ 3 1 (lo := 0) (hi := 1000000) rfl; omega)
  have u33_ : Int32.toInt 0 = 0 := by decide
  have u34_ : Int32.toInt 1 = 1 := by decide
  have u35_ : Int32.toInt (1 + 1) = 2 := by decide
  obtain ⟨b36_, d37_⟩ := b28_
  subst d37_
  have e38_ : ((n3 + (M11_.1 3 4)) - (M11_.1 3 3)) = ((n3 + (M.1 3 4)) - (M.1 3 3)) := (show ((n3 + (M11_.1 3 4)) - (M11_.1 3 3)) = ((n3 + (M.1 3 4)) - (M.1 3 3)) from by rw [(g14_ 3 4 rfl), (g14_ 3 3 rfl)])
  refine pw_eqI e38_ ?_
  refine pw_blk hT 2 (S' := (180, [some (pvR 3), some (pvI 1), some (pvI 1), some (pvI n3), some (pvI 1), some (pvI 20), some (pvI (1 + 1))], [pvI (((n3 + (M.1 3 4)) - (M.1 3 3)) ^^^ 6)], M27_)) rfl ⟨trivial, trivial, trivial⟩ ?_
  exact pw_ret hT rfl (r := some (pvI (((n3 + (M.1 3 4)) - (M.1 3 3)) ^^^ 6))) (M' := M27_) ⟨rfl, rfl⟩ ⟨⟨_, rfl, trivial, rfl⟩, o29_, f31_, (by omega), (zTr_c (pvok_r hok 3 1 rfl).1 (zTr_c0 (pvok_r hok 3 1 rfl).1 (zTr_0 3 1 4 M) d8_) d24_)⟩
def fpL_eX0_run_3_1_2_x_0_1 : List (Nat × Nat × Nat) := [(0, 3, 2), (0, 4, 0)]
def fp_eX0_run_3_1_2_x_0_1 (q k : Nat) : Bool := pvfp fpL_eX0_run_3_1_2_x_0_1 q k
theorem fp_eX0_run_3_1_2_x_0_1_fp_eX0_note_3_x (a b : Nat) (h : fp_eX0_note_3_x a b = true) : fp_eX0_run_3_1_2_x_0_1 a b = true := pvfp_sub (l1 := fpL_eX0_note_3_x) (l2 := fpL_eX0_run_3_1_2_x_0_1) (by decide) a b h
theorem fp_eX0_run_3_1_2_x_0_1_fp_eX0_run_3_1_1_x_1_1 (a b : Nat) (h : fp_eX0_run_3_1_1_x_1_1 a b = true) : fp_eX0_run_3_1_2_x_0_1 a b = true := pvfp_sub (l1 := fpL_eX0_run_3_1_1_x_1_1) (l2 := fpL_eX0_run_3_1_2_x_0_1) (by decide) a b h
set_option maxHeartbeats 4000000 in
set_option maxRecDepth 10000 in
theorem se_X0_run_3_1_2_x_0_1 (M : pvM) (hok : pvOk M) (n3 : Int32) (hc3_1 : 0 ≤ Int32.toInt (M.1 3 1) ∧ Int32.toInt (M.1 3 1) ≤ 995) (hc3_2 : 1 ≤ Int32.toInt (M.1 3 2) ∧ Int32.toInt (M.1 3 2) ≤ 1) (d : Nat) (hd : 3 ≤ d) : PW 4 d (0, [some (pvR 3), some (pvI 1), some (pvI 2), some (pvI n3), some (pvI 0), none, none], [], M) (fun r X => (∃ x : Int32, r = some (pvI x) ∧ True ∧ x = ((((n3 + (M.1 3 4)) - (M.1 3 3)) ^^^ 6) * 2)) ∧ pvOk X ∧ pvFr fp_eX0_run_3_1_2_x_0_1 M X ∧ Int32.toInt (X.1 3 1) ≤ Int32.toInt (M.1 3 1) + 4 ∧ zTr 3 1 4 (([12] : List Int32) ++ (([20] : List Int32) ++ (([11] : List Int32) ++ ([10] : List Int32)))) M X) := by
  have hT : pvdom 4 = pvD_4 := rfl
  refine pw_blk hT 2 (S' := (4, [some (pvR 3), some (pvI 1), some (pvI 2), some (pvI n3), some (pvI 0), none, none], [pvI 40, pvI 0], M)) rfl ⟨trivial, trivial, trivial⟩ ?_
  refine pw_ic hT (c := 0 ≤ 40) rfl rfl (fun c1_ => ?_) (fun c1_ => absurd (by decide) c1_)
  refine pw_blk hT 2 (S' := (11, [some (pvR 3), some (pvI 1), some (pvI 2), some (pvI n3), some (pvI 0), none, none], [pvI 2, pvI 1], M)) rfl ⟨trivial, trivial, trivial⟩ ?_
  refine pw_callT hT (as := [pvI 1, pvI 2]) (lo1 := [some (pvI 1), some (pvI 2), none, none, none]) (d1 := d) (rest := []) rfl rfl rfl rfl rfl (fun h => absurd h (by decide)) (Nat.zero_le _) rfl rfl rfl (sf_X0_bodyFrom_1_2 M hok d) ?_
  refine pw_eqI (show ((pvstab 1041).getD (Int32.toNatClampNeg ((0 * 3) + 2)) 0) = 12 from by decide) ?_
  show PW 4 d (14, [some (pvR 3), some (pvI 1), some (pvI 2), some (pvI n3), some (pvI 0), none, none], [pvI 12], M) _
  refine pw_blk hT 7 (S' := (25, [some (pvR 3), some (pvI 1), some (pvI 2), some (pvI n3), some (pvI 0), some (pvI 12), some (pvI (0 + 1))], [pvI 12, pvR 3], M)) rfl ⟨trivial, trivial, trivial, trivial, trivial, trivial, trivial, trivial⟩ ?_
  refine pw_callVd hT (as := [pvR 3, pvI 12]) (lo1 := [some (pvR 3), some (pvI 12)]) (d1 := d) (rest := []) rfl rfl rfl rfl rfl (fun _ => rfl) (Nat.zero_le _) rfl rfl rfl (se_X0_note_3_x M hok 12 (zr_wide (show 12 ≤ Int32.toInt 12 ∧ Int32.toInt 12 ≤ 12 from (by decide)) (by decide) (by decide)) (zr_wide hc3_1 (by decide) (by decide)) d) (fun M11_ o13_ g14_ d9_ => ?_)
  have d7_ := d9_.1
  have d8_ := d9_.2
  have f15_ : pvFr fp_eX0_run_3_1_2_x_0_1 M M11_ := pvfr_t g14_ pvfr_0 fp_eX0_run_3_1_2_x_0_1_fp_eX0_note_3_x
  have b16_ : 0 ≤ Int32.toInt (M11_.1 3 1) ∧ Int32.toInt (M11_.1 3 1) ≤ 996 := (by have u0 := hc3_1; have u1 := d7_; have u2 := pvok_r o13_ 3 1 (lo := 0) (hi := 1000000) rfl; omega)
  refine pw_blk hT 1 (S' := (30, [some (pvR 3), some (pvI 1), some (pvI 2), some (pvI n3), some (pvI 0), some (pvI 12), some (pvI (0 + 1))], [pvI 12], M11_)) rfl ⟨trivial, trivial⟩ ?_
  refine pw_sw hT rfl rfl ?_
  refine And.intro (fun c17_ => absurd c17_ (by decide)) (fun c17_ => ?_)
  refine And.intro (fun c18_ => absurd c18_ (by decide)) (fun c18_ => ?_)
  refine And.intro (fun c19_ => ?_) (fun c19_ => absurd (by decide) c19_)
  show PW 4 d (153, [some (pvR 3), some (pvI 1), some (pvI 2), some (pvI n3), some (pvI 0), some (pvI 12), some (pvI (0 + 1))], [], M11_) _
  have e20_ : (M11_.1 3 2) = (M.1 3 2) := (g14_ 3 2 rfl)
  have b21_ : 1 ≤ Int32.toInt (M11_.1 3 2) ∧ Int32.toInt (M11_.1 3 2) ≤ 1 := (by rw [e20_]; exact hc3_2)
  refine pw_blk hT 3 (S' := (158, [some (pvR 3), some (pvI 1), some (pvI 2), some (pvI n3), some (pvI 0), some (pvI 12), some (pvI (0 + 1))], [pvI (M11_.1 3 2), pvR 3], M11_)) rfl ⟨trivial, trivial, rfl, trivial⟩ ?_
  refine pw_eqI ((zi_eq _ (1)).mpr (by have u0 := b21_; have u1 : Int32.toInt (1) = 1 := (by decide); omega)) ?_
  refine pw_blk hT 3 (S' := (162, [some (pvR 3), some (pvI 1), some (pvI 2), some (pvI n3), some (pvI 0), some (pvI 12), some (pvI (0 + 1))], [pvI (0 + 1), pvI n3, pvI 1, pvI 1, pvR 3], M11_)) rfl ⟨trivial, trivial, trivial, trivial⟩ ?_
  refine pw_callGd hT (as := [pvR 3, pvI 1, pvI 1, pvI n3, pvI (0 + 1)]) (lo1 := [some (pvR 3), some (pvI 1), some (pvI 1), some (pvI n3), some (pvI (0 + 1)), none, none]) (d1 := (d - 1)) (rest := []) rfl rfl rfl rfl rfl (fun h => absurd h (by decide)) (show 1 ≤ d by omega) rfl rfl rfl (se_X0_run_3_1_1_x_1_1 M11_ o13_ n3 b16_ b21_ (d - 1) (by omega)) (fun x25_ M26_ b27_ o28_ g29_ d24_ => ?_)
  have d22_ := d24_.1
  have d23_ := d24_.2
  have f30_ : pvFr fp_eX0_run_3_1_2_x_0_1 M M26_ := pvfr_t g29_ f15_ fp_eX0_run_3_1_2_x_0_1_fp_eX0_run_3_1_1_x_1_1
  have b31_ : 0 ≤ Int32.toInt (M26_.1 3 1) ∧ Int32.toInt (M26_.1 3 1) ≤ 999 := (by have u0 := b16_; have u1 := d22_; have u2 := pvok_r o28_ 3 1 (lo := 0) (hi := 1000000) rfl; omega)
  have u32_ : Int32.toInt 1 = 1 := by decide
  have u33_ : Int32.toInt (0 + 1) = 1 := by decide
  obtain ⟨b34_, d35_⟩ := b27_
  subst d35_
  have e36_ : (((n3 + (M11_.1 3 4)) - (M11_.1 3 3)) ^^^ 6) = (((n3 + (M.1 3 4)) - (M.1 3 3)) ^^^ 6) := (show (((n3 + (M11_.1 3 4)) - (M11_.1 3 3)) ^^^ 6) = (((n3 + (M.1 3 4)) - (M.1 3 3)) ^^^ 6) from by rw [(g14_ 3 4 rfl), (g14_ 3 3 rfl)])
  refine pw_eqI e36_ ?_
  refine pw_blk hT 2 (S' := (167, [some (pvR 3), some (pvI 1), some (pvI 2), some (pvI n3), some (pvI 0), some (pvI 12), some (pvI (0 + 1))], [pvI ((((n3 + (M.1 3 4)) - (M.1 3 3)) ^^^ 6) * 2)], M26_)) rfl ⟨trivial, trivial, trivial⟩ ?_
  exact pw_ret hT rfl (r := some (pvI ((((n3 + (M.1 3 4)) - (M.1 3 3)) ^^^ 6) * 2))) (M' := M26_) ⟨rfl, rfl⟩ ⟨⟨_, rfl, trivial, rfl⟩, o28_, f30_, (by omega), (zTr_c (pvok_r hok 3 1 rfl).1 (zTr_c0 (pvok_r hok 3 1 rfl).1 (zTr_0 3 1 4 M) d8_) d23_)⟩
def fpL_eX0_run_3_0_0_x_1_2 : List (Nat × Nat × Nat) := [(0, 3, 2), (0, 4, 0)]
def fp_eX0_run_3_0_0_x_1_2 (q k : Nat) : Bool := pvfp fpL_eX0_run_3_0_0_x_1_2 q k
theorem fp_eX0_run_3_0_0_x_1_2_fp_eX0_note_3_x (a b : Nat) (h : fp_eX0_note_3_x a b = true) : fp_eX0_run_3_0_0_x_1_2 a b = true := pvfp_sub (l1 := fpL_eX0_note_3_x) (l2 := fpL_eX0_run_3_0_0_x_1_2) (by decide) a b h
set_option maxHeartbeats 4000000 in
set_option maxRecDepth 10000 in
theorem se_X0_run_3_0_0_x_1_2 (M : pvM) (hok : pvOk M) (n3 : Int32) (hc3_1 : 0 ≤ Int32.toInt (M.1 3 1) ∧ Int32.toInt (M.1 3 1) ≤ 998) (hc3_2 : 2 ≤ Int32.toInt (M.1 3 2) ∧ Int32.toInt (M.1 3 2) ≤ 2) (d : Nat) : PW 4 d (0, [some (pvR 3), some (pvI 0), some (pvI 0), some (pvI n3), some (pvI 1), none, none], [], M) (fun r X => (∃ x : Int32, r = some (pvI x) ∧ True ∧ x = (n3 + (M.1 3 4))) ∧ pvOk X ∧ pvFr fp_eX0_run_3_0_0_x_1_2 M X ∧ Int32.toInt (X.1 3 1) ≤ Int32.toInt (M.1 3 1) + 1 ∧ zTr 3 1 4 ([10] : List Int32) M X) := by
  have hT : pvdom 4 = pvD_4 := rfl
  refine pw_blk hT 2 (S' := (4, [some (pvR 3), some (pvI 0), some (pvI 0), some (pvI n3), some (pvI 1), none, none], [pvI 40, pvI 1], M)) rfl ⟨trivial, trivial, trivial⟩ ?_
  refine pw_ic hT (c := 1 ≤ 40) rfl rfl (fun c1_ => ?_) (fun c1_ => absurd (by decide) c1_)
  refine pw_blk hT 2 (S' := (11, [some (pvR 3), some (pvI 0), some (pvI 0), some (pvI n3), some (pvI 1), none, none], [pvI 0, pvI 0], M)) rfl ⟨trivial, trivial, trivial⟩ ?_
  refine pw_callT hT (as := [pvI 0, pvI 0]) (lo1 := [some (pvI 0), some (pvI 0), none, none, none]) (d1 := d) (rest := []) rfl rfl rfl rfl rfl (fun h => absurd h (by decide)) (Nat.zero_le _) rfl rfl rfl (sf_X0_bodyFrom_0_0 M hok d) ?_
  refine pw_eqI (show ((pvstab 1041).getD (Int32.toNatClampNeg ((0 * 3) + 0)) 0) = 10 from by decide) ?_
  show PW 4 d (14, [some (pvR 3), some (pvI 0), some (pvI 0), some (pvI n3), some (pvI 1), none, none], [pvI 10], M) _
  refine pw_blk hT 7 (S' := (25, [some (pvR 3), some (pvI 0), some (pvI 0), some (pvI n3), some (pvI 1), some (pvI 10), some (pvI (1 + 1))], [pvI 10, pvR 3], M)) rfl ⟨trivial, trivial, trivial, trivial, trivial, trivial, trivial, trivial⟩ ?_
  refine pw_callVd hT (as := [pvR 3, pvI 10]) (lo1 := [some (pvR 3), some (pvI 10)]) (d1 := d) (rest := []) rfl rfl rfl rfl rfl (fun _ => rfl) (Nat.zero_le _) rfl rfl rfl (se_X0_note_3_x M hok 10 (zr_wide (show 10 ≤ Int32.toInt 10 ∧ Int32.toInt 10 ≤ 10 from (by decide)) (by decide) (by decide)) (zr_wide hc3_1 (by decide) (by decide)) d) (fun M11_ o13_ g14_ d9_ => ?_)
  have d7_ := d9_.1
  have d8_ := d9_.2
  have f15_ : pvFr fp_eX0_run_3_0_0_x_1_2 M M11_ := pvfr_t g14_ pvfr_0 fp_eX0_run_3_0_0_x_1_2_fp_eX0_note_3_x
  have b16_ : 0 ≤ Int32.toInt (M11_.1 3 1) ∧ Int32.toInt (M11_.1 3 1) ≤ 999 := (by have u0 := hc3_1; have u1 := d7_; have u2 := pvok_r o13_ 3 1 (lo := 0) (hi := 1000000) rfl; omega)
  refine pw_blk hT 1 (S' := (30, [some (pvR 3), some (pvI 0), some (pvI 0), some (pvI n3), some (pvI 1), some (pvI 10), some (pvI (1 + 1))], [pvI 10], M11_)) rfl ⟨trivial, trivial⟩ ?_
  refine pw_sw hT rfl rfl ?_
  refine And.intro (fun c17_ => ?_) (fun c17_ => absurd (by decide) c17_)
  show PW 4 d (128, [some (pvR 3), some (pvI 0), some (pvI 0), some (pvI n3), some (pvI 1), some (pvI 10), some (pvI (1 + 1))], [], M11_) _
  refine pw_blk hT 3 (S' := (133, [some (pvR 3), some (pvI 0), some (pvI 0), some (pvI n3), some (pvI 1), some (pvI 10), some (pvI (1 + 1))], [pvI (M11_.1 3 4), pvI n3], M11_)) rfl ⟨trivial, trivial, rfl, trivial⟩ ?_
  have e18_ : (M11_.1 3 4) = (M.1 3 4) := (g14_ 3 4 rfl)
  refine pw_eqI e18_ ?_
  refine pw_blk hT 1 (S' := (134, [some (pvR 3), some (pvI 0), some (pvI 0), some (pvI n3), some (pvI 1), some (pvI 10), some (pvI (1 + 1))], [pvI (n3 + (M.1 3 4))], M11_)) rfl ⟨trivial, trivial⟩ ?_
  exact pw_ret hT rfl (r := some (pvI (n3 + (M.1 3 4)))) (M' := M11_) ⟨rfl, rfl⟩ ⟨⟨_, rfl, trivial, rfl⟩, o13_, f15_, (by omega), (zTr_c0 (pvok_r hok 3 1 rfl).1 (zTr_0 3 1 4 M) d8_)⟩
def fpL_eX0_run_3_2_0_x_0_2 : List (Nat × Nat × Nat) := [(0, 3, 2), (0, 4, 0)]
def fp_eX0_run_3_2_0_x_0_2 (q k : Nat) : Bool := pvfp fpL_eX0_run_3_2_0_x_0_2 q k
theorem fp_eX0_run_3_2_0_x_0_2_fp_eX0_note_3_x (a b : Nat) (h : fp_eX0_note_3_x a b = true) : fp_eX0_run_3_2_0_x_0_2 a b = true := pvfp_sub (l1 := fpL_eX0_note_3_x) (l2 := fpL_eX0_run_3_2_0_x_0_2) (by decide) a b h
theorem fp_eX0_run_3_2_0_x_0_2_fp_eX0_run_3_0_0_x_1_2 (a b : Nat) (h : fp_eX0_run_3_0_0_x_1_2 a b = true) : fp_eX0_run_3_2_0_x_0_2 a b = true := pvfp_sub (l1 := fpL_eX0_run_3_0_0_x_1_2) (l2 := fpL_eX0_run_3_2_0_x_0_2) (by decide) a b h
set_option maxHeartbeats 4000000 in
set_option maxRecDepth 10000 in
theorem se_X0_run_3_2_0_x_0_2 (M : pvM) (hok : pvOk M) (n3 : Int32) (hc3_1 : 0 ≤ Int32.toInt (M.1 3 1) ∧ Int32.toInt (M.1 3 1) ≤ 997) (hc3_2 : 2 ≤ Int32.toInt (M.1 3 2) ∧ Int32.toInt (M.1 3 2) ≤ 2) (d : Nat) (hd : 1 ≤ d) : PW 4 d (0, [some (pvR 3), some (pvI 2), some (pvI 0), some (pvI n3), some (pvI 0), none, none], [], M) (fun r X => (∃ x : Int32, r = some (pvI x) ∧ True ∧ x = ((n3 * 3) + (M.1 3 4))) ∧ pvOk X ∧ pvFr fp_eX0_run_3_2_0_x_0_2 M X ∧ Int32.toInt (X.1 3 1) ≤ Int32.toInt (M.1 3 1) + 2 ∧ zTr 3 1 4 (([30] : List Int32) ++ ([10] : List Int32)) M X) := by
  have hT : pvdom 4 = pvD_4 := rfl
  refine pw_blk hT 2 (S' := (4, [some (pvR 3), some (pvI 2), some (pvI 0), some (pvI n3), some (pvI 0), none, none], [pvI 40, pvI 0], M)) rfl ⟨trivial, trivial, trivial⟩ ?_
  refine pw_ic hT (c := 0 ≤ 40) rfl rfl (fun c1_ => ?_) (fun c1_ => absurd (by decide) c1_)
  refine pw_blk hT 2 (S' := (11, [some (pvR 3), some (pvI 2), some (pvI 0), some (pvI n3), some (pvI 0), none, none], [pvI 0, pvI 2], M)) rfl ⟨trivial, trivial, trivial⟩ ?_
  refine pw_callT hT (as := [pvI 2, pvI 0]) (lo1 := [some (pvI 2), some (pvI 0), none, none, none]) (d1 := d) (rest := []) rfl rfl rfl rfl rfl (fun h => absurd h (by decide)) (Nat.zero_le _) rfl rfl rfl (sf_X0_bodyFrom_2_0 M hok d) ?_
  refine pw_eqI (show ((pvstab 1041).getD (Int32.toNatClampNeg ((2 * 3) + 0)) 0) = 30 from by decide) ?_
  show PW 4 d (14, [some (pvR 3), some (pvI 2), some (pvI 0), some (pvI n3), some (pvI 0), none, none], [pvI 30], M) _
  refine pw_blk hT 7 (S' := (25, [some (pvR 3), some (pvI 2), some (pvI 0), some (pvI n3), some (pvI 0), some (pvI 30), some (pvI (0 + 1))], [pvI 30, pvR 3], M)) rfl ⟨trivial, trivial, trivial, trivial, trivial, trivial, trivial, trivial⟩ ?_
  refine pw_callVd hT (as := [pvR 3, pvI 30]) (lo1 := [some (pvR 3), some (pvI 30)]) (d1 := d) (rest := []) rfl rfl rfl rfl rfl (fun _ => rfl) (Nat.zero_le _) rfl rfl rfl (se_X0_note_3_x M hok 30 (zr_wide (show 30 ≤ Int32.toInt 30 ∧ Int32.toInt 30 ≤ 30 from (by decide)) (by decide) (by decide)) (zr_wide hc3_1 (by decide) (by decide)) d) (fun M11_ o13_ g14_ d9_ => ?_)
  have d7_ := d9_.1
  have d8_ := d9_.2
  have f15_ : pvFr fp_eX0_run_3_2_0_x_0_2 M M11_ := pvfr_t g14_ pvfr_0 fp_eX0_run_3_2_0_x_0_2_fp_eX0_note_3_x
  have b16_ : 0 ≤ Int32.toInt (M11_.1 3 1) ∧ Int32.toInt (M11_.1 3 1) ≤ 998 := (by have u0 := hc3_1; have u1 := d7_; have u2 := pvok_r o13_ 3 1 (lo := 0) (hi := 1000000) rfl; omega)
  refine pw_blk hT 1 (S' := (30, [some (pvR 3), some (pvI 2), some (pvI 0), some (pvI n3), some (pvI 0), some (pvI 30), some (pvI (0 + 1))], [pvI 30], M11_)) rfl ⟨trivial, trivial⟩ ?_
  refine pw_sw hT rfl rfl ?_
  refine And.intro (fun c17_ => absurd c17_ (by decide)) (fun c17_ => ?_)
  refine And.intro (fun c18_ => absurd c18_ (by decide)) (fun c18_ => ?_)
  refine And.intro (fun c19_ => absurd c19_ (by decide)) (fun c19_ => ?_)
  refine And.intro (fun c20_ => absurd c20_ (by decide)) (fun c20_ => ?_)
  refine And.intro (fun c21_ => ?_) (fun c21_ => absurd (by decide) c21_)
  show PW 4 d (181, [some (pvR 3), some (pvI 2), some (pvI 0), some (pvI n3), some (pvI 0), some (pvI 30), some (pvI (0 + 1))], [], M11_) _
  refine pw_blk hT 7 (S' := (189, [some (pvR 3), some (pvI 2), some (pvI 0), some (pvI n3), some (pvI 0), some (pvI 30), some (pvI (0 + 1))], [pvI (0 + 1), pvI (n3 * 3), pvI 0, pvI 0, pvR 3], M11_)) rfl ⟨trivial, trivial, trivial, trivial, trivial, trivial, trivial, trivial⟩ ?_
  have e22_ : (M11_.1 3 2) = (M.1 3 2) := (g14_ 3 2 rfl)
  have b23_ : 2 ≤ Int32.toInt (M11_.1 3 2) ∧ Int32.toInt (M11_.1 3 2) ≤ 2 := (by rw [e22_]; exact hc3_2)
  refine pw_callGd hT (as := [pvR 3, pvI 0, pvI 0, pvI (n3 * 3), pvI (0 + 1)]) (lo1 := [some (pvR 3), some (pvI 0), some (pvI 0), some (pvI (n3 * 3)), some (pvI (0 + 1)), none, none]) (d1 := (d - 1)) (rest := []) rfl rfl rfl rfl rfl (fun h => absurd h (by decide)) (show 1 ≤ d by omega) rfl rfl rfl (se_X0_run_3_0_0_x_1_2 M11_ o13_ (n3 * 3) b16_ b23_ (d - 1)) (fun x27_ M28_ b29_ o30_ g31_ d26_ => ?_)
  have d24_ := d26_.1
  have d25_ := d26_.2
  have f32_ : pvFr fp_eX0_run_3_2_0_x_0_2 M M28_ := pvfr_t g31_ f15_ fp_eX0_run_3_2_0_x_0_2_fp_eX0_run_3_0_0_x_1_2
  have b33_ : 0 ≤ Int32.toInt (M28_.1 3 1) ∧ Int32.toInt (M28_.1 3 1) ≤ 999 := (by have u0 := b16_; have u1 := d24_; have u2 := pvok_r o30_ 3 1 (lo := 0) (hi := 1000000) rfl; omega)
  have u34_ : Int32.toInt 0 = 0 := by decide
  have u35_ : Int32.toInt (0 + 1) = 1 := by decide
  obtain ⟨b36_, d37_⟩ := b29_
  subst d37_
  have e38_ : ((n3 * 3) + (M11_.1 3 4)) = ((n3 * 3) + (M.1 3 4)) := (show ((n3 * 3) + (M11_.1 3 4)) = ((n3 * 3) + (M.1 3 4)) from by rw [(g14_ 3 4 rfl)])
  refine pw_eqI e38_ ?_
  exact pw_ret hT rfl (r := some (pvI ((n3 * 3) + (M.1 3 4)))) (M' := M28_) ⟨rfl, rfl⟩ ⟨⟨_, rfl, trivial, rfl⟩, o30_, f32_, (by omega), (zTr_c (pvok_r hok 3 1 rfl).1 (zTr_c0 (pvok_r hok 3 1 rfl).1 (zTr_0 3 1 4 M) d8_) d25_)⟩
