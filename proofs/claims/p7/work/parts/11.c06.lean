def fpL_X9_leave_0 : List (Nat × Nat × Nat) := [(0, 106, 1), (0, 114, 0), (0, 12, 0), (0, 122, 0), (0, 13, 0), (0, 14, 0), (0, 5, 2), (0, 5, 3), (1, 112, 0)]
def fp_X9_leave_0 (q k : Nat) : Bool := pvfp fpL_X9_leave_0 q k
theorem fp_X9_leave_0_fp_X1_beginFromNow_5 (a b : Nat) (h : fp_X1_beginFromNow_5 a b = true) : fp_X9_leave_0 a b = true := pvfp_sub (l1 := fpL_X1_beginFromNow_5) (l2 := fpL_X9_leave_0) (by decide) a b h
theorem fp_X9_leave_0_fp_X1_costOfRound_5_x (a b : Nat) (h : fp_X1_costOfRound_5_x a b = true) : fp_X9_leave_0 a b = true := pvfp_sub (l1 := fpL_X1_costOfRound_5_x) (l2 := fpL_X9_leave_0) (by decide) a b h
theorem fp_X9_leave_0_fp_X1_costWithout_5_x (a b : Nat) (h : fp_X1_costWithout_5_x a b = true) : fp_X9_leave_0 a b = true := pvfp_sub (l1 := fpL_X1_costWithout_5_x) (l2 := fpL_X9_leave_0) (by decide) a b h
set_option maxHeartbeats 4000000 in
set_option maxRecDepth 10000 in
theorem sf_X9_leave_0 (M : pvM) (hok : pvOk M) (d : Nat) : PW 184 d (0, [some (pvR 0), none, none, none], [], M) (fun r X => (∃ x : Int32, r = some (pvI x) ∧ True) ∧ pvOk X ∧ pvFr fp_X9_leave_0 M X) := by
  have hT : pvdom 184 = pvD_184 := rfl
  refine pw_blk hT 2 (S' := (4, [some (pvR 0), none, none, none], [pvR 5], M)) rfl ⟨trivial, rfl, trivial⟩ ?_
  refine pw_callV hT (as := [pvR 5]) (lo1 := [some (pvR 5)]) (d1 := d) (rest := []) rfl rfl rfl rfl rfl (fun _ => rfl) (Nat.zero_le _) rfl rfl rfl (sf_X1_beginFromNow_5 M hok d) (fun M2_ o4_ g5_ => ?_)
  have f6_ : pvFr fp_X9_leave_0 M M2_ := pvfr_t g5_ pvfr_0 fp_X9_leave_0_fp_X1_beginFromNow_5
  refine pw_blk hT 3 (S' := (12, [some (pvR 0), none, none, none], [pvI 0, pvR 5], M2_)) rfl ⟨trivial, rfl, trivial, trivial⟩ ?_
  refine pw_callG hT (as := [pvR 5, pvI 0]) (lo1 := [some (pvR 5), some (pvI 0)]) (d1 := d) (rest := []) rfl rfl rfl rfl rfl (fun _ => rfl) (Nat.zero_le _) rfl rfl rfl (sf_X1_costOfRound_5_x M2_ o4_ 0 (zr_wide (show 0 ≤ Int32.toInt 0 ∧ Int32.toInt 0 ≤ 0 from (by decide)) (by decide) (by decide)) d) (fun x7_ M8_ b9_ o10_ g11_ => ?_)
  have f12_ : pvFr fp_X9_leave_0 M M8_ := pvfr_t g11_ f6_ fp_X9_leave_0_fp_X1_costOfRound_5_x
  refine pw_blk hT 5 (S' := (20, [some (pvR 0), some (pvI x7_), some (pvI 0), some (pvI 0)], [], M8_)) rfl ⟨trivial, trivial, trivial, trivial, trivial, trivial⟩ ?_
  have hlz113_ : ∀ (nz113_ : Nat) (i2z113_ : Int32) (i3z113_ : Int32) (Mz113_ : pvM), (pvOk Mz113_) → (pvFr fp_X9_leave_0 M Mz113_) → (0 ≤ Int32.toInt i3z113_ ∧ Int32.toInt i3z113_ ≤ 7) → ((8 - Int32.toInt i3z113_).toNat < nz113_) → PW 184 d (20, [some (pvR 0), some (pvI x7_), some (pvI i2z113_), some (pvI i3z113_)], [], Mz113_) (fun r X => (∃ x : Int32, r = some (pvI x) ∧ True) ∧ pvOk X ∧ pvFr fp_X9_leave_0 M X) := by
    intro nz113_
    induction nz113_ with
    | zero => intro i2z113_ i3z113_ Mz113_ oz113_ fz113_ h3z113_ hmz113_; exact absurd hmz113_ (Nat.not_lt_zero _)
    | succ nz113_ ihz113_ =>
      intro i2z113_ i3z113_ Mz113_ oz113_ fz113_ h3z113_ hmz113_
      have b114_ : 0 ≤ Int32.toInt (Mz113_.1 100 0) ∧ Int32.toInt (Mz113_.1 100 0) ≤ 7 := pvok_r oz113_ 100 0 rfl
      refine pw_blk hT 5 (S' := (31, [some (pvR 0), some (pvI x7_), some (pvI i2z113_), some (pvI i3z113_)], [pvI (Mz113_.1 100 0), pvI i3z113_], Mz113_)) rfl ⟨trivial, trivial, rfl, rfl, rfl, trivial⟩ ?_
      refine pw_ic hT (c := (Mz113_.1 100 0) ≤ i3z113_) rfl rfl (fun c115_ => ?_) (fun c115_ => ?_)
      · have d116_ : Int32.toInt (Mz113_.1 100 0) ≤ Int32.toInt i3z113_ := (zi_le _ _).mp c115_
        refine pw_blk hT 1 (S' := (70, [some (pvR 0), some (pvI x7_), some (pvI i2z113_), some (pvI i3z113_)], [pvI i2z113_], Mz113_)) rfl ⟨trivial, trivial⟩ ?_
        exact pw_ret hT rfl (r := some (pvI i2z113_)) (M' := Mz113_) ⟨rfl, rfl⟩ ⟨⟨_, rfl, trivial⟩, oz113_, fz113_⟩
      · have b117_ : 1 ≤ Int32.toInt (Mz113_.1 100 0) ∧ Int32.toInt (Mz113_.1 100 0) ≤ 7 := zr_nle_l 1 c115_ b114_ h3z113_ (by decide)
        have b118_ : 0 ≤ Int32.toInt i3z113_ ∧ Int32.toInt i3z113_ ≤ 6 := zr_nle_r 6 c115_ h3z113_ b117_ (by decide)
        have d119_ : Int32.toInt (Mz113_.1 100 0) > Int32.toInt i3z113_ := Int.not_le.mp ((not_congr (zi_le _ _)).mp c115_)
        refine pw_blk hT 3 (S' := (39, [some (pvR 0), some (pvI x7_), some (pvI i2z113_), some (pvI i3z113_)], [pvI i3z113_, pvR 5], Mz113_)) rfl ⟨trivial, rfl, trivial, trivial⟩ ?_
        refine pw_callG hT (as := [pvR 5, pvI i3z113_]) (lo1 := [some (pvR 5), some (pvI i3z113_), none]) (d1 := d) (rest := []) rfl rfl rfl rfl rfl (fun _ => rfl) (Nat.zero_le _) rfl rfl rfl (sf_X1_costWithout_5_x Mz113_ oz113_ i3z113_ b118_ d) (fun x120_ M121_ b122_ o123_ g124_ => ?_)
        have f125_ : pvFr fp_X9_leave_0 M M121_ := pvfr_t g124_ fz113_ fp_X9_leave_0_fp_X1_costWithout_5_x
        refine pw_blk hT 1 (S' := (43, [some (pvR 0), some (pvI x7_), some (pvI i2z113_), some (pvI i3z113_)], [pvI x7_, pvI x120_], M121_)) rfl ⟨trivial, trivial⟩ ?_
        refine pw_ic hT (c := x7_ < x120_) rfl rfl (fun c126_ => ?_) (fun c126_ => ?_)
        · have b127_ : 0 ≤ Int32.toInt x7_ ∧ Int32.toInt x7_ ≤ 34999999 := zr_lt_l 34999999 c126_ b9_ b122_ (by decide)
          have b128_ : 1 ≤ Int32.toInt x120_ ∧ Int32.toInt x120_ ≤ 35000000 := zr_lt_r 1 c126_ b122_ b127_ (by decide)
          have d129_ : Int32.toInt x7_ < Int32.toInt x120_ := (zi_lt _ _).mp c126_
          obtain ⟨q131_, b130_⟩ : (Int32.toInt (i3z113_ + 1) = Int32.toInt i3z113_ + Int32.toInt 1) ∧ (1 ≤ Int32.toInt (i3z113_ + 1) ∧ Int32.toInt (i3z113_ + 1) ≤ 7) := zadd_r i3z113_ 1 1 7 b118_ (show 1 ≤ Int32.toInt 1 ∧ Int32.toInt 1 ≤ 1 from (by decide)) (by decide) (by decide) (by decide) (by decide)
          have u132_ : Int32.toInt 1 = 1 := by decide
          refine pw_blk hT 2 (S' := (20, [some (pvR 0), some (pvI x7_), some (pvI i2z113_), some (pvI (i3z113_ + 1))], [], M121_)) rfl ⟨trivial, trivial, trivial⟩ ?_
          exact ihz113_ i2z113_ (i3z113_ + 1) M121_ o123_ f125_ (zr_wide b130_ (by decide) (by decide)) (by omega)
        · have d133_ : Int32.toInt x7_ ≥ Int32.toInt x120_ := Int.not_lt.mp ((not_congr (zi_lt _ _)).mp c126_)
          have b134_ : 0 ≤ Int32.toInt (M121_.1 108 (Int32.toNatClampNeg i3z113_)) ∧ Int32.toInt (M121_.1 108 (Int32.toNatClampNeg i3z113_)) ≤ 6 := pvok_r o123_ 108 (Int32.toNatClampNeg i3z113_) rfl
          obtain ⟨q136_, b135_⟩ : (Int32.toInt (i3z113_ + 1) = Int32.toInt i3z113_ + Int32.toInt 1) ∧ (1 ≤ Int32.toInt (i3z113_ + 1) ∧ Int32.toInt (i3z113_ + 1) ≤ 7) := zadd_r i3z113_ 1 1 7 b118_ (show 1 ≤ Int32.toInt 1 ∧ Int32.toInt 1 ≤ 1 from (by decide)) (by decide) (by decide) (by decide) (by decide)
          have u137_ : Int32.toInt 1 = 1 := by decide
          refine pw_blk hT 13 (S' := (20, [some (pvR 0), some (pvI x7_), some (pvI (i2z113_ ||| (1 <<< ((M121_.1 108 (Int32.toNatClampNeg i3z113_)) &&& 31)))), some (pvI (i3z113_ + 1))], [], M121_)) rfl ⟨trivial, trivial, trivial, rfl, rfl, rfl, trivial, ⟨rfl, (zr_in (n := 7) b118_ (by decide) (by decide))⟩, trivial, trivial, trivial, trivial, trivial, trivial⟩ ?_
          exact ihz113_ (i2z113_ ||| (1 <<< ((M121_.1 108 (Int32.toNatClampNeg i3z113_)) &&& 31))) (i3z113_ + 1) M121_ o123_ f125_ (zr_wide b135_ (by decide) (by decide)) (by omega)
  exact hlz113_ _ 0 0 M8_ o10_ f12_ (zr_wide (show 0 ≤ Int32.toInt 0 ∧ Int32.toInt 0 ≤ 0 from (by decide)) (by decide) (by decide)) (Nat.lt_succ_self _)
def fpL_X9_looked_0 : List (Nat × Nat × Nat) := [(0, 12, 0), (0, 13, 0), (0, 14, 0), (0, 5, 2), (0, 5, 3), (1, 112, 0)]
def fp_X9_looked_0 (q k : Nat) : Bool := pvfp fpL_X9_looked_0 q k
theorem fp_X9_looked_0_fp_X1_beginFromNow_5 (a b : Nat) (h : fp_X1_beginFromNow_5 a b = true) : fp_X9_looked_0 a b = true := pvfp_sub (l1 := fpL_X1_beginFromNow_5) (l2 := fpL_X9_looked_0) (by decide) a b h
theorem fp_X9_looked_0_fp_X1_goRound_5_x (a b : Nat) (h : fp_X1_goRound_5_x a b = true) : fp_X9_looked_0 a b = true := pvfp_sub (l1 := fpL_X1_goRound_5_x) (l2 := fpL_X9_looked_0) (by decide) a b h
set_option maxHeartbeats 4000000 in
set_option maxRecDepth 10000 in
theorem sf_X9_looked_0 (M : pvM) (hok : pvOk M) (d : Nat) : PW 185 d (0, [some (pvR 0), none], [], M) (fun r X => (∃ x : Int32, r = some (pvI x) ∧ (-5) ≤ Int32.toInt x ∧ Int32.toInt x ≤ 7) ∧ pvOk X ∧ pvFr fp_X9_looked_0 M X) := by
  have hT : pvdom 185 = pvD_185 := rfl
  refine pw_blk hT 2 (S' := (4, [some (pvR 0), none], [pvR 5], M)) rfl ⟨trivial, rfl, trivial⟩ ?_
  refine pw_callV hT (as := [pvR 5]) (lo1 := [some (pvR 5)]) (d1 := d) (rest := []) rfl rfl rfl rfl rfl (fun _ => rfl) (Nat.zero_le _) rfl rfl rfl (sf_X1_beginFromNow_5 M hok d) (fun M2_ o4_ g5_ => ?_)
  have f6_ : pvFr fp_X9_looked_0 M M2_ := pvfr_t g5_ pvfr_0 fp_X9_looked_0_fp_X1_beginFromNow_5
  refine pw_blk hT 3 (S' := (12, [some (pvR 0), none], [pvI 0, pvR 5], M2_)) rfl ⟨trivial, rfl, trivial, trivial⟩ ?_
  refine pw_callG hT (as := [pvR 5, pvI 0]) (lo1 := [some (pvR 5), some (pvI 0)]) (d1 := d) (rest := []) rfl rfl rfl rfl rfl (fun _ => rfl) (Nat.zero_le _) rfl rfl rfl (sf_X1_goRound_5_x M2_ o4_ 0 (zr_wide (show 0 ≤ Int32.toInt 0 ∧ Int32.toInt 0 ≤ 0 from (by decide)) (by decide) (by decide)) d) (fun x7_ M8_ b9_ o10_ g11_ => ?_)
  have f12_ : pvFr fp_X9_looked_0 M M8_ := pvfr_t g11_ f6_ fp_X9_looked_0_fp_X1_goRound_5_x
  refine pw_blk hT 3 (S' := (18, [some (pvR 0), some (pvI 0)], [], M8_)) rfl ⟨trivial, trivial, trivial, trivial⟩ ?_
  have hlz67_ : ∀ (nz67_ : Nat) (i1z67_ : Int32), (0 ≤ Int32.toInt i1z67_ ∧ Int32.toInt i1z67_ ≤ 8) → ((9 - Int32.toInt i1z67_).toNat < nz67_) → PW 185 d (18, [some (pvR 0), some (pvI i1z67_)], [], M8_) (fun r X => (∃ x : Int32, r = some (pvI x) ∧ (-5) ≤ Int32.toInt x ∧ Int32.toInt x ≤ 7) ∧ pvOk X ∧ pvFr fp_X9_looked_0 M X) := by
    intro nz67_
    induction nz67_ with
    | zero => intro i1z67_ h1z67_ hmz67_; exact absurd hmz67_ (Nat.not_lt_zero _)
    | succ nz67_ ihz67_ =>
      intro i1z67_ h1z67_ hmz67_
      have b68_ : 0 ≤ Int32.toInt (M8_.1 104 0) ∧ Int32.toInt (M8_.1 104 0) ≤ 8 := pvok_r o10_ 104 0 rfl
      refine pw_blk hT 5 (S' := (29, [some (pvR 0), some (pvI i1z67_)], [pvI (M8_.1 104 0), pvI i1z67_], M8_)) rfl ⟨trivial, trivial, rfl, rfl, rfl, trivial⟩ ?_
      refine pw_ic hT (c := (M8_.1 104 0) ≤ i1z67_) rfl rfl (fun c69_ => ?_) (fun c69_ => ?_)
      · have d70_ : Int32.toInt (M8_.1 104 0) ≤ Int32.toInt i1z67_ := (zi_le _ _).mp c69_
        refine pw_blk hT 1 (S' := (77, [some (pvR 0), some (pvI i1z67_)], [pvI (-5)], M8_)) rfl ⟨trivial, trivial⟩ ?_
        exact pw_ret hT rfl (r := some (pvI (-5))) (M' := M8_) ⟨rfl, rfl⟩ ⟨⟨_, rfl, (zr_wide (show (-5) ≤ Int32.toInt (-5) ∧ Int32.toInt (-5) ≤ (-5) from (by decide)) (by decide) (by decide))⟩, o10_, f12_⟩
      · have b71_ : 1 ≤ Int32.toInt (M8_.1 104 0) ∧ Int32.toInt (M8_.1 104 0) ≤ 8 := zr_nle_l 1 c69_ b68_ h1z67_ (by decide)
        have b72_ : 0 ≤ Int32.toInt i1z67_ ∧ Int32.toInt i1z67_ ≤ 7 := zr_nle_r 7 c69_ h1z67_ b71_ (by decide)
        have d73_ : Int32.toInt (M8_.1 104 0) > Int32.toInt i1z67_ := Int.not_le.mp ((not_congr (zi_le _ _)).mp c69_)
        have b74_ : 0 ≤ Int32.toInt (M8_.1 112 (Int32.toNatClampNeg i1z67_)) ∧ Int32.toInt (M8_.1 112 (Int32.toNatClampNeg i1z67_)) ≤ 6 := pvok_r o10_ 112 (Int32.toNatClampNeg i1z67_) rfl
        have b75_ : 0 ≤ Int32.toInt (M8_.1 12 (Int32.toNatClampNeg (M8_.1 112 (Int32.toNatClampNeg i1z67_)))) ∧ Int32.toInt (M8_.1 12 (Int32.toNatClampNeg (M8_.1 112 (Int32.toNatClampNeg i1z67_)))) ≤ 1000000 := pvok_r o10_ 12 (Int32.toNatClampNeg (M8_.1 112 (Int32.toNatClampNeg i1z67_))) rfl
        have b76_ : 0 ≤ Int32.toInt (M8_.1 120 (Int32.toNatClampNeg i1z67_)) ∧ Int32.toInt (M8_.1 120 (Int32.toNatClampNeg i1z67_)) ≤ 9999 := pvok_r o10_ 120 (Int32.toNatClampNeg i1z67_) rfl
        refine pw_blk hT 16 (S' := (64, [some (pvR 0), some (pvI i1z67_)], [pvI (M8_.1 120 (Int32.toNatClampNeg i1z67_)), pvI (M8_.1 12 (Int32.toNatClampNeg (M8_.1 112 (Int32.toNatClampNeg i1z67_))))], M8_)) rfl ⟨trivial, rfl, rfl, trivial, rfl, rfl, rfl, trivial, ⟨rfl, (zr_in (n := 8) b72_ (by decide) (by decide))⟩, ⟨rfl, (zr_in (n := 7) b74_ (by decide) (by decide))⟩, trivial, rfl, rfl, rfl, trivial, ⟨rfl, (zr_in (n := 8) b72_ (by decide) (by decide))⟩, trivial⟩ ?_
        refine pw_ic hT (c := (M8_.1 12 (Int32.toNatClampNeg (M8_.1 112 (Int32.toNatClampNeg i1z67_)))) ≤ (M8_.1 120 (Int32.toNatClampNeg i1z67_))) rfl rfl (fun c77_ => ?_) (fun c77_ => ?_)
        · have b78_ : 0 ≤ Int32.toInt (M8_.1 12 (Int32.toNatClampNeg (M8_.1 112 (Int32.toNatClampNeg i1z67_)))) ∧ Int32.toInt (M8_.1 12 (Int32.toNatClampNeg (M8_.1 112 (Int32.toNatClampNeg i1z67_)))) ≤ 9999 := zr_le_l 9999 c77_ b75_ b76_ (by decide)
          have d79_ : Int32.toInt (M8_.1 12 (Int32.toNatClampNeg (M8_.1 112 (Int32.toNatClampNeg i1z67_)))) ≤ Int32.toInt (M8_.1 120 (Int32.toNatClampNeg i1z67_)) := (zi_le _ _).mp c77_
          obtain ⟨q81_, b80_⟩ : (Int32.toInt (i1z67_ + 1) = Int32.toInt i1z67_ + Int32.toInt 1) ∧ (1 ≤ Int32.toInt (i1z67_ + 1) ∧ Int32.toInt (i1z67_ + 1) ≤ 8) := zadd_r i1z67_ 1 1 8 b72_ (show 1 ≤ Int32.toInt 1 ∧ Int32.toInt 1 ≤ 1 from (by decide)) (by decide) (by decide) (by decide) (by decide)
          have u82_ : Int32.toInt 1 = 1 := by decide
          refine pw_blk hT 2 (S' := (18, [some (pvR 0), some (pvI (i1z67_ + 1))], [], M8_)) rfl ⟨trivial, trivial, trivial⟩ ?_
          exact ihz67_ (i1z67_ + 1) (zr_wide b80_ (by decide) (by decide)) (by omega)
        · have b83_ : 1 ≤ Int32.toInt (M8_.1 12 (Int32.toNatClampNeg (M8_.1 112 (Int32.toNatClampNeg i1z67_)))) ∧ Int32.toInt (M8_.1 12 (Int32.toNatClampNeg (M8_.1 112 (Int32.toNatClampNeg i1z67_)))) ≤ 1000000 := zr_nle_l 1 c77_ b75_ b76_ (by decide)
          have d84_ : Int32.toInt (M8_.1 12 (Int32.toNatClampNeg (M8_.1 112 (Int32.toNatClampNeg i1z67_)))) > Int32.toInt (M8_.1 120 (Int32.toNatClampNeg i1z67_)) := Int.not_le.mp ((not_congr (zi_le _ _)).mp c77_)
          refine pw_blk hT 1 (S' := (68, [some (pvR 0), some (pvI i1z67_)], [pvI i1z67_], M8_)) rfl ⟨trivial, trivial⟩ ?_
          exact pw_ret hT rfl (r := some (pvI i1z67_)) (M' := M8_) ⟨rfl, rfl⟩ ⟨⟨_, rfl, (zr_wide b72_ (by decide) (by decide))⟩, o10_, f12_⟩
  exact hlz67_ _ 0 (zr_wide (show 0 ≤ Int32.toInt 0 ∧ Int32.toInt 0 ≤ 0 from (by decide)) (by decide) (by decide)) (Nat.lt_succ_self _)
set_option maxHeartbeats 4000000 in
set_option maxRecDepth 10000 in
theorem sf_X9_greatestShared_x_x (M : pvM) (hok : pvOk M) (n0 : Int32) (n1 : Int32) (hn0 : 0 ≤ Int32.toInt n0 ∧ Int32.toInt n0 ≤ 350000000) (hn1 : 1 ≤ Int32.toInt n1 ∧ Int32.toInt n1 ≤ 10) (d : Nat) : PW 176 d (0, [some (pvI n0), some (pvI n1), none], [], M) (fun r X => (∃ x : Int32, r = some (pvI x) ∧ 1 ≤ Int32.toInt x ∧ Int32.toInt x ≤ 10) ∧ X = M) := by
  have hT : pvdom 176 = pvD_176 := rfl
  have q1_ : Int32.toInt (if n0 < 0 then 0 else n0) = max (Int32.toInt n0) (Int32.toInt 0) := pvmax n0 0
  have b2_ : 0 ≤ Int32.toInt (if n0 < 0 then 0 else n0) ∧ Int32.toInt (if n0 < 0 then 0 else n0) ≤ 350000000 := (by have u0 := hn0; have u1 := (show 0 ≤ Int32.toInt 0 ∧ Int32.toInt 0 ≤ 0 from (by decide)); omega)
  have q3_ : Int32.toInt (if n1 < (if n0 < 0 then 0 else n0) then n1 else (if n0 < 0 then 0 else n0)) = min (Int32.toInt (if n0 < 0 then 0 else n0)) (Int32.toInt n1) := pvmin (if n0 < 0 then 0 else n0) n1
  have b4_ : 0 ≤ Int32.toInt (if n1 < (if n0 < 0 then 0 else n0) then n1 else (if n0 < 0 then 0 else n0)) ∧ Int32.toInt (if n1 < (if n0 < 0 then 0 else n0) then n1 else (if n0 < 0 then 0 else n0)) ≤ 10 := (by have u0 := b2_; have u1 := hn1; omega)
  refine pw_blk hT 6 (S' := (10, [some (pvI n0), some (pvI n1), some (pvI (if n1 < (if n0 < 0 then 0 else n0) then n1 else (if n0 < 0 then 0 else n0)))], [], M)) rfl ⟨trivial, trivial, (Nat.le_of_ble_eq_true rfl), trivial, (Nat.le_of_ble_eq_true rfl), trivial, trivial⟩ ?_
  have hlz30_ : ∀ (nz30_ : Nat) (i2z30_ : Int32), (0 ≤ Int32.toInt i2z30_ ∧ Int32.toInt i2z30_ ≤ 10) → ((Int32.toInt i2z30_).toNat < nz30_) → PW 176 d (10, [some (pvI n0), some (pvI n1), some (pvI i2z30_)], [], M) (fun r X => (∃ x : Int32, r = some (pvI x) ∧ 1 ≤ Int32.toInt x ∧ Int32.toInt x ≤ 10) ∧ X = M) := by
    intro nz30_
    induction nz30_ with
    | zero => intro i2z30_ h2z30_ hmz30_; exact absurd hmz30_ (Nat.not_lt_zero _)
    | succ nz30_ ihz30_ =>
      intro i2z30_ h2z30_ hmz30_
      refine pw_blk hT 2 (S' := (12, [some (pvI n0), some (pvI n1), some (pvI i2z30_)], [pvI 1, pvI i2z30_], M)) rfl ⟨trivial, trivial, trivial⟩ ?_
      refine pw_ic hT (c := i2z30_ ≤ 1) rfl rfl (fun c31_ => ?_) (fun c31_ => ?_)
      · have b32_ : 0 ≤ Int32.toInt i2z30_ ∧ Int32.toInt i2z30_ ≤ 1 := zr_le_l 1 c31_ h2z30_ (show 1 ≤ Int32.toInt 1 ∧ Int32.toInt 1 ≤ 1 from (by decide)) (by decide)
        refine pw_blk hT 1 (S' := (36, [some (pvI n0), some (pvI n1), some (pvI i2z30_)], [pvI n0], M)) rfl ⟨trivial, trivial⟩ ?_
        refine pw_ifn hT (c := n0 = 0) rfl rfl (fun c33_ => ?_) (fun c33_ => ?_)
        · have b34_ : 1 ≤ Int32.toInt n0 ∧ Int32.toInt n0 ≤ 350000000 := (by have u0 := hn0; have u1 := (not_congr (zi_eq _ _)).mp c33_; have u2 := (show 0 ≤ Int32.toInt 0 ∧ Int32.toInt 0 ≤ 0 from (by decide)); omega)
          refine pw_blk hT 1 (S' := (48, [some (pvI n0), some (pvI n1), some (pvI i2z30_)], [pvI 1], M)) rfl ⟨trivial, trivial⟩ ?_
          exact pw_ret hT rfl (r := some (pvI 1)) (M' := M) ⟨rfl, rfl⟩ ⟨⟨_, rfl, (zr_wide (show 1 ≤ Int32.toInt 1 ∧ Int32.toInt 1 ≤ 1 from (by decide)) (by decide) (by decide))⟩, rfl⟩
        · have b35_ : 0 ≤ Int32.toInt n0 ∧ Int32.toInt n0 ≤ 0 := (by have u0 := hn0; have u1 := (zi_eq _ _).mp c33_; have u2 := (show 0 ≤ Int32.toInt 0 ∧ Int32.toInt 0 ≤ 0 from (by decide)); omega)
          have q36_ : Int32.toInt (if n1 < 1 then 1 else n1) = max (Int32.toInt n1) (Int32.toInt 1) := pvmax n1 1
          have b37_ : 1 ≤ Int32.toInt (if n1 < 1 then 1 else n1) ∧ Int32.toInt (if n1 < 1 then 1 else n1) ≤ 10 := (by have u0 := hn1; have u1 := (show 1 ≤ Int32.toInt 1 ∧ Int32.toInt 1 ≤ 1 from (by decide)); omega)
          refine pw_blk hT 4 (S' := (48, [some (pvI n0), some (pvI n1), some (pvI i2z30_)], [pvI (if n1 < 1 then 1 else n1)], M)) rfl ⟨trivial, trivial, (Nat.le_of_ble_eq_true rfl), trivial, trivial⟩ ?_
          exact pw_ret hT rfl (r := some (pvI (if n1 < 1 then 1 else n1))) (M' := M) ⟨rfl, rfl⟩ ⟨⟨_, rfl, b37_⟩, rfl⟩
      · have b38_ : 2 ≤ Int32.toInt i2z30_ ∧ Int32.toInt i2z30_ ≤ 10 := zr_nle_l 2 c31_ h2z30_ (show 1 ≤ Int32.toInt 1 ∧ Int32.toInt 1 ≤ 1 from (by decide)) (by decide)
        have q39_ : 0 ≤ Int32.toInt (n0 - n0 / i2z30_ * i2z30_) ∧ Int32.toInt (n0 - n0 / i2z30_ * i2z30_) < Int32.toInt i2z30_ := pvrem n0 i2z30_ (by have u0 := hn0; omega) (by have u0 := b38_; have u1 := (not_congr (zi_eq _ _)).mp (fun z0 => by have u0 := b38_; have u1 := (zi_eq _ _).mp z0; have u2 : (0 : Int32).toInt = 0 := (by decide); omega); have u2 : (0 : Int32).toInt = 0 := (by decide); omega)
        have b40_ : 0 ≤ Int32.toInt (n0 - n0 / i2z30_ * i2z30_) ∧ Int32.toInt (n0 - n0 / i2z30_ * i2z30_) ≤ 9 := (by have u0 := q39_; have u1 := b38_; omega)
        refine pw_blk hT 3 (S' := (18, [some (pvI n0), some (pvI n1), some (pvI i2z30_)], [pvI (n0 - n0 / i2z30_ * i2z30_)], M)) rfl ⟨trivial, trivial, (fun z0 => by have u0 := b38_; have u1 := (zi_eq _ _).mp z0; have u2 : (0 : Int32).toInt = 0 := (by decide); omega), trivial⟩ ?_
        refine pw_ifn hT (c := (n0 - n0 / i2z30_ * i2z30_) = 0) rfl rfl (fun c41_ => ?_) (fun c41_ => ?_)
        · have b42_ : 1 ≤ Int32.toInt (n0 - n0 / i2z30_ * i2z30_) ∧ Int32.toInt (n0 - n0 / i2z30_ * i2z30_) ≤ 9 := (by have u0 := b40_; have u1 := (not_congr (zi_eq _ _)).mp c41_; have u2 := (show 0 ≤ Int32.toInt 0 ∧ Int32.toInt 0 ≤ 0 from (by decide)); omega)
          obtain ⟨q44_, b43_⟩ : (Int32.toInt (i2z30_ + (-1)) = Int32.toInt i2z30_ + Int32.toInt (-1)) ∧ (1 ≤ Int32.toInt (i2z30_ + (-1)) ∧ Int32.toInt (i2z30_ + (-1)) ≤ 9) := zadd_r i2z30_ (-1) 1 9 b38_ (show (-1) ≤ Int32.toInt (-1) ∧ Int32.toInt (-1) ≤ (-1) from (by decide)) (by decide) (by decide) (by decide) (by decide)
          have u45_ : Int32.toInt (-1) = (-1) := by decide
          refine pw_blk hT 2 (S' := (10, [some (pvI n0), some (pvI n1), some (pvI (i2z30_ + (-1)))], [], M)) rfl ⟨trivial, trivial, trivial⟩ ?_
          exact ihz30_ (i2z30_ + (-1)) (zr_wide b43_ (by decide) (by decide)) (by omega)
        · have b46_ : 0 ≤ Int32.toInt (n0 - n0 / i2z30_ * i2z30_) ∧ Int32.toInt (n0 - n0 / i2z30_ * i2z30_) ≤ 0 := (by have u0 := b40_; have u1 := (zi_eq _ _).mp c41_; have u2 := (show 0 ≤ Int32.toInt 0 ∧ Int32.toInt 0 ≤ 0 from (by decide)); omega)
          have q47_ : 0 ≤ Int32.toInt (n1 - n1 / i2z30_ * i2z30_) ∧ Int32.toInt (n1 - n1 / i2z30_ * i2z30_) < Int32.toInt i2z30_ := pvrem n1 i2z30_ (by have u0 := hn1; omega) (by have u0 := b38_; have u1 := (not_congr (zi_eq _ _)).mp (fun z0 => by have u0 := b38_; have u1 := (zi_eq _ _).mp z0; have u2 : (0 : Int32).toInt = 0 := (by decide); omega); have u2 : (0 : Int32).toInt = 0 := (by decide); omega)
          have b48_ : 0 ≤ Int32.toInt (n1 - n1 / i2z30_ * i2z30_) ∧ Int32.toInt (n1 - n1 / i2z30_ * i2z30_) ≤ 9 := (by have u0 := q47_; have u1 := b38_; omega)
          refine pw_blk hT 3 (S' := (24, [some (pvI n0), some (pvI n1), some (pvI i2z30_)], [pvI (n1 - n1 / i2z30_ * i2z30_)], M)) rfl ⟨trivial, trivial, (fun z0 => by have u0 := b38_; have u1 := (zi_eq _ _).mp z0; have u2 : (0 : Int32).toInt = 0 := (by decide); omega), trivial⟩ ?_
          refine pw_ifn hT (c := (n1 - n1 / i2z30_ * i2z30_) = 0) rfl rfl (fun c49_ => ?_) (fun c49_ => ?_)
          · have b50_ : 1 ≤ Int32.toInt (n1 - n1 / i2z30_ * i2z30_) ∧ Int32.toInt (n1 - n1 / i2z30_ * i2z30_) ≤ 9 := (by have u0 := b48_; have u1 := (not_congr (zi_eq _ _)).mp c49_; have u2 := (show 0 ≤ Int32.toInt 0 ∧ Int32.toInt 0 ≤ 0 from (by decide)); omega)
            obtain ⟨q52_, b51_⟩ : (Int32.toInt (i2z30_ + (-1)) = Int32.toInt i2z30_ + Int32.toInt (-1)) ∧ (1 ≤ Int32.toInt (i2z30_ + (-1)) ∧ Int32.toInt (i2z30_ + (-1)) ≤ 9) := zadd_r i2z30_ (-1) 1 9 b38_ (show (-1) ≤ Int32.toInt (-1) ∧ Int32.toInt (-1) ≤ (-1) from (by decide)) (by decide) (by decide) (by decide) (by decide)
            have u53_ : Int32.toInt (-1) = (-1) := by decide
            refine pw_blk hT 2 (S' := (10, [some (pvI n0), some (pvI n1), some (pvI (i2z30_ + (-1)))], [], M)) rfl ⟨trivial, trivial, trivial⟩ ?_
            exact ihz30_ (i2z30_ + (-1)) (zr_wide b51_ (by decide) (by decide)) (by omega)
          · have b54_ : 0 ≤ Int32.toInt (n1 - n1 / i2z30_ * i2z30_) ∧ Int32.toInt (n1 - n1 / i2z30_ * i2z30_) ≤ 0 := (by have u0 := b48_; have u1 := (zi_eq _ _).mp c49_; have u2 := (show 0 ≤ Int32.toInt 0 ∧ Int32.toInt 0 ≤ 0 from (by decide)); omega)
            refine pw_blk hT 1 (S' := (28, [some (pvI n0), some (pvI n1), some (pvI i2z30_)], [pvI i2z30_], M)) rfl ⟨trivial, trivial⟩ ?_
            exact pw_ret hT rfl (r := some (pvI i2z30_)) (M' := M) ⟨rfl, rfl⟩ ⟨⟨_, rfl, (zr_wide b38_ (by decide) (by decide))⟩, rfl⟩
  exact hlz30_ _ (if n1 < (if n0 < 0 then 0 else n0) then n1 else (if n0 < 0 then 0 else n0)) b4_ (Nat.lt_succ_self _)
set_option maxHeartbeats 4000000 in
set_option maxRecDepth 10000 in
theorem sf_X9_partOf_x_x_x (M : pvM) (hok : pvOk M) (n0 : Int32) (n1 : Int32) (n2 : Int32) (hn0 : 0 ≤ Int32.toInt n0 ∧ Int32.toInt n0 ≤ 350000000) (hn1 : 1 ≤ Int32.toInt n1 ∧ Int32.toInt n1 ≤ 10) (d : Nat) : PW 191 d (0, [some (pvI n0), some (pvI n1), some (pvI n2), none], [], M) (fun r X => (∃ x : Int64, r = some (pvJ x)) ∧ X = M) := by
  have hT : pvdom 191 = pvD_191 := rfl
  refine pw_blk hT 2 (S' := (2, [some (pvI n0), some (pvI n1), some (pvI n2), none], [pvI n1, pvI n0], M)) rfl ⟨trivial, trivial, trivial⟩ ?_
  refine pw_callGp hT (as := [pvI n0, pvI n1]) (lo1 := [some (pvI n0), some (pvI n1), none]) (d1 := d) (rest := []) rfl rfl rfl rfl rfl (fun h => absurd h (by decide)) (Nat.zero_le _) rfl rfl rfl (sf_X9_greatestShared_x_x M hok n0 n1 hn0 hn1 d) (fun x1_ b3_ => ?_)
  refine pw_blk hT 2 (S' := (7, [some (pvI n0), some (pvI n1), some (pvI n2), some (pvI x1_)], [pvI n2], M)) rfl ⟨trivial, trivial, trivial⟩ ?_
  refine pw_ifn hT (c := n2 = 0) rfl rfl (fun c6_ => ?_) (fun c6_ => ?_)
  · refine pw_blk hT 4 (S' := (21, [some (pvI n0), some (pvI n1), some (pvI n2), some (pvI x1_)], [pvJ (Int32.toInt64 (n1 / x1_))], M)) rfl ⟨trivial, trivial, (fun z0 => by have u0 := b3_; have u1 := (zi_eq _ _).mp z0; have u2 : (0 : Int32).toInt = 0 := (by decide); omega), trivial, trivial⟩ ?_
    exact pw_ret hT rfl (r := some (pvJ (Int32.toInt64 (n1 / x1_)))) (M' := M) ⟨rfl, rfl⟩ ⟨⟨_, rfl⟩, rfl⟩
  · have b7_ : 0 ≤ Int32.toInt n2 ∧ Int32.toInt n2 ≤ 0 := (by have u0 := (zbnd n2); have u1 := (zi_eq _ _).mp c6_; have u2 := (show 0 ≤ Int32.toInt 0 ∧ Int32.toInt 0 ≤ 0 from (by decide)); omega)
    refine pw_blk hT 5 (S' := (21, [some (pvI n0), some (pvI n1), some (pvI n2), some (pvI x1_)], [pvJ (Int32.toInt64 (n0 / x1_))], M)) rfl ⟨trivial, trivial, (fun z0 => by have u0 := b3_; have u1 := (zi_eq _ _).mp z0; have u2 : (0 : Int32).toInt = 0 := (by decide); omega), trivial, trivial, trivial⟩ ?_
    exact pw_ret hT rfl (r := some (pvJ (Int32.toInt64 (n0 / x1_)))) (M' := M) ⟨rfl, rfl⟩ ⟨⟨_, rfl⟩, rfl⟩
def fpL_X9_mean_0_x : List (Nat × Nat × Nat) := [(0, 12, 0), (0, 13, 0), (0, 14, 0), (0, 5, 2), (0, 5, 3), (1, 112, 0)]
def fp_X9_mean_0_x (q k : Nat) : Bool := pvfp fpL_X9_mean_0_x q k
theorem fp_X9_mean_0_x_fp_X1_beginFromNow_5 (a b : Nat) (h : fp_X1_beginFromNow_5 a b = true) : fp_X9_mean_0_x a b = true := pvfp_sub (l1 := fpL_X1_beginFromNow_5) (l2 := fpL_X9_mean_0_x) (by decide) a b h
theorem fp_X9_mean_0_x_fp_X1_goRound_5_x (a b : Nat) (h : fp_X1_goRound_5_x a b = true) : fp_X9_mean_0_x a b = true := pvfp_sub (l1 := fpL_X1_goRound_5_x) (l2 := fpL_X9_mean_0_x) (by decide) a b h
set_option maxHeartbeats 4000000 in
set_option maxRecDepth 10000 in
theorem sf_X9_mean_0_x (M : pvM) (hok : pvOk M) (n1 : Int32) (d : Nat) : PW 186 d (0, [some (pvR 0), some (pvI n1), none, none], [], M) (fun r X => (∃ x : Int64, r = some (pvJ x)) ∧ pvOk X ∧ pvFr fp_X9_mean_0_x M X) := by
  have hT : pvdom 186 = pvD_186 := rfl
  refine pw_blk hT 3 (S' := (3, [some (pvR 0), some (pvI n1), none, none], [pvI 1, pvI 0, pvI n1], M)) rfl ⟨trivial, trivial, trivial, trivial⟩ ?_
  refine pw_callT hT (as := [pvI n1, pvI 0, pvI 1]) (lo1 := [some (pvI n1), some (pvI 0), some (pvI 1)]) (d1 := d) (rest := []) rfl rfl rfl rfl rfl (fun h => absurd h (by decide)) (Nat.zero_le _) rfl rfl rfl (sf_X9_within_x_x_x M hok n1 0 1 d) ?_
  by_cases c6_ : n1 < 0
  · refine pw_eqI (if_pos c6_) ?_
    have b7_ : (-2147483648) ≤ Int32.toInt n1 ∧ Int32.toInt n1 ≤ (-1) := zr_lt_l (-1) c6_ (zbnd n1) (show 0 ≤ Int32.toInt 0 ∧ Int32.toInt 0 ≤ 0 from (by decide)) (by decide)
    show PW 186 d (6, [some (pvR 0), some (pvI n1), none, none], [pvI 0], M) _
    refine pw_ifn hT (c := 0 = 0) rfl rfl (fun c8_ => absurd (by decide) c8_) (fun c8_ => ?_)
    refine pw_blk hT 1 (S' := (12, [some (pvR 0), some (pvI n1), none, none], [pvJ (-9223372036854775808)], M)) rfl ⟨trivial, trivial⟩ ?_
    exact pw_ret hT rfl (r := some (pvJ (-9223372036854775808))) (M' := M) ⟨rfl, rfl⟩ ⟨⟨_, rfl⟩, hok, pvfr_0⟩
  · refine pw_eqI (if_neg c6_) ?_
    have b9_ : 0 ≤ Int32.toInt n1 ∧ Int32.toInt n1 ≤ 2147483647 := zr_nlt_l 0 c6_ (zbnd n1) (show 0 ≤ Int32.toInt 0 ∧ Int32.toInt 0 ≤ 0 from (by decide)) (by decide)
    by_cases c10_ : 1 < n1
    · refine pw_eqI (if_pos c10_) ?_
      have b11_ : 2 ≤ Int32.toInt n1 ∧ Int32.toInt n1 ≤ 2147483647 := zr_lt_r 2 c10_ b9_ (show 1 ≤ Int32.toInt 1 ∧ Int32.toInt 1 ≤ 1 from (by decide)) (by decide)
      show PW 186 d (6, [some (pvR 0), some (pvI n1), none, none], [pvI 0], M) _
      refine pw_ifn hT (c := 0 = 0) rfl rfl (fun c12_ => absurd (by decide) c12_) (fun c12_ => ?_)
      refine pw_blk hT 1 (S' := (12, [some (pvR 0), some (pvI n1), none, none], [pvJ (-9223372036854775808)], M)) rfl ⟨trivial, trivial⟩ ?_
      exact pw_ret hT rfl (r := some (pvJ (-9223372036854775808))) (M' := M) ⟨rfl, rfl⟩ ⟨⟨_, rfl⟩, hok, pvfr_0⟩
    · refine pw_eqI (if_neg c10_) ?_
      have b13_ : 0 ≤ Int32.toInt n1 ∧ Int32.toInt n1 ≤ 1 := zr_nlt_r 1 c10_ b9_ (show 1 ≤ Int32.toInt 1 ∧ Int32.toInt 1 ≤ 1 from (by decide)) (by decide)
      show PW 186 d (6, [some (pvR 0), some (pvI n1), none, none], [pvI 1], M) _
      refine pw_ifn hT (c := 1 = 0) rfl rfl (fun c14_ => ?_) (fun c14_ => absurd c14_ (by decide))
      refine pw_blk hT 2 (S' := (17, [some (pvR 0), some (pvI n1), none, none], [pvR 5], M)) rfl ⟨trivial, rfl, trivial⟩ ?_
      refine pw_callV hT (as := [pvR 5]) (lo1 := [some (pvR 5)]) (d1 := d) (rest := []) rfl rfl rfl rfl rfl (fun _ => rfl) (Nat.zero_le _) rfl rfl rfl (sf_X1_beginFromNow_5 M hok d) (fun M16_ o18_ g19_ => ?_)
      have f20_ : pvFr fp_X9_mean_0_x M M16_ := pvfr_t g19_ pvfr_0 fp_X9_mean_0_x_fp_X1_beginFromNow_5
      refine pw_blk hT 3 (S' := (25, [some (pvR 0), some (pvI n1), none, none], [pvI 0, pvR 5], M16_)) rfl ⟨trivial, rfl, trivial, trivial⟩ ?_
      refine pw_callG hT (as := [pvR 5, pvI 0]) (lo1 := [some (pvR 5), some (pvI 0)]) (d1 := d) (rest := []) rfl rfl rfl rfl rfl (fun _ => rfl) (Nat.zero_le _) rfl rfl rfl (sf_X1_goRound_5_x M16_ o18_ 0 (zr_wide (show 0 ≤ Int32.toInt 0 ∧ Int32.toInt 0 ≤ 0 from (by decide)) (by decide) (by decide)) d) (fun x21_ M22_ b23_ o24_ g25_ => ?_)
      have f26_ : pvFr fp_X9_mean_0_x M M22_ := pvfr_t g25_ f20_ fp_X9_mean_0_x_fp_X1_goRound_5_x
      refine pw_blk hT 5 (S' := (33, [some (pvR 0), some (pvI n1), some (pvI 0), some (pvI 0)], [], M22_)) rfl ⟨trivial, trivial, trivial, trivial, trivial, trivial⟩ ?_
      have hlz120_ : ∀ (nz120_ : Nat) (i2z120_ : Int32) (i3z120_ : Int32) (Mz120_ : pvM), (pvOk Mz120_) → (pvFr fp_X9_mean_0_x M Mz120_) → (0 ≤ Int32.toInt i2z120_ ∧ Int32.toInt i2z120_ ≤ 350000000) → (0 ≤ Int32.toInt i3z120_ ∧ Int32.toInt i3z120_ ≤ 10) → (Int32.toInt i2z120_ ≤ 35000000 * Int32.toInt i3z120_) → ((11 - Int32.toInt i3z120_).toNat < nz120_) → PW 186 d (33, [some (pvR 0), some (pvI n1), some (pvI i2z120_), some (pvI i3z120_)], [], Mz120_) (fun r X => (∃ x : Int64, r = some (pvJ x)) ∧ pvOk X ∧ pvFr fp_X9_mean_0_x M X) := by
        intro nz120_
        induction nz120_ with
        | zero => intro i2z120_ i3z120_ Mz120_ oz120_ fz120_ h2z120_ h3z120_ j0z120_ hmz120_; exact absurd hmz120_ (Nat.not_lt_zero _)
        | succ nz120_ ihz120_ =>
          intro i2z120_ i3z120_ Mz120_ oz120_ fz120_ h2z120_ h3z120_ j0z120_ hmz120_
          refine pw_blk hT 2 (S' := (36, [some (pvR 0), some (pvI n1), some (pvI i2z120_), some (pvI i3z120_)], [pvI 10, pvI i3z120_], Mz120_)) rfl ⟨trivial, trivial, trivial⟩ ?_
          refine pw_ic hT (c := 10 ≤ i3z120_) rfl rfl (fun c121_ => ?_) (fun c121_ => ?_)
          · have b122_ : 10 ≤ Int32.toInt i3z120_ ∧ Int32.toInt i3z120_ ≤ 10 := zr_le_r 10 c121_ h3z120_ (show 10 ≤ Int32.toInt 10 ∧ Int32.toInt 10 ≤ 10 from (by decide)) (by decide)
            refine pw_blk hT 3 (S' := (75, [some (pvR 0), some (pvI n1), some (pvI i2z120_), some (pvI i3z120_)], [pvI n1, pvI 10, pvI i2z120_], Mz120_)) rfl ⟨trivial, trivial, trivial, trivial⟩ ?_
            refine pw_callJp hT (as := [pvI i2z120_, pvI 10, pvI n1]) (lo1 := [some (pvI i2z120_), some (pvI 10), some (pvI n1), none]) (d1 := d) (rest := []) rfl rfl rfl rfl rfl (fun h => absurd h (by decide)) (Nat.zero_le _) rfl rfl rfl (sf_X9_partOf_x_x_x Mz120_ oz120_ i2z120_ 10 n1 h2z120_ (zr_wide (show 10 ≤ Int32.toInt 10 ∧ Int32.toInt 10 ≤ 10 from (by decide)) (by decide) (by decide)) d) (fun x123_ b125_ => ?_)
            exact pw_ret hT rfl (r := some (pvJ x123_)) (M' := Mz120_) ⟨rfl, rfl⟩ ⟨⟨_, rfl⟩, oz120_, fz120_⟩
          · have b128_ : 0 ≤ Int32.toInt i3z120_ ∧ Int32.toInt i3z120_ ≤ 9 := zr_nle_r 9 c121_ h3z120_ (show 10 ≤ Int32.toInt 10 ∧ Int32.toInt 10 ≤ 10 from (by decide)) (by decide)
            have b129_ : 0 ≤ Int32.toInt (Mz120_.1 8 2) ∧ Int32.toInt (Mz120_.1 8 2) ≤ 99 := pvok_r oz120_ 8 2 rfl
            obtain ⟨q131_, b130_⟩ : (Int32.toInt ((Mz120_.1 8 2) + i3z120_) = Int32.toInt (Mz120_.1 8 2) + Int32.toInt i3z120_) ∧ (0 ≤ Int32.toInt ((Mz120_.1 8 2) + i3z120_) ∧ Int32.toInt ((Mz120_.1 8 2) + i3z120_) ≤ 108) := zadd_r (Mz120_.1 8 2) i3z120_ 0 108 b129_ b128_ (by decide) (by decide) (by decide) (by decide)
            refine pw_blkw hT 8 (pc := 55) (lo := [some (pvR 0), some (pvI n1), some (pvI i2z120_), some (pvI i3z120_)]) (st := []) (M := pvu Mz120_ 5 2 ((Mz120_.1 8 2) + i3z120_)) rfl ⟨trivial, rfl, trivial, rfl, rfl, trivial, trivial, rfl, trivial⟩ (fun M132_ e133_ => ?_)
            have o134_ : pvOk M132_ := pvok_u2 e133_ oz120_ rfl b130_
            have f135_ : pvFr fp_X9_mean_0_x M M132_ := pvfr_u e133_ fz120_ rfl
            refine pw_blk hT 3 (S' := (60, [some (pvR 0), some (pvI n1), some (pvI i2z120_), some (pvI i3z120_)], [pvR 5, pvI i2z120_], M132_)) rfl ⟨trivial, trivial, rfl, trivial⟩ ?_
            refine pw_callGp hT (as := [pvR 5]) (lo1 := [some (pvR 5)]) (d1 := d) (rest := [pvI i2z120_]) rfl rfl rfl rfl rfl (fun _ => rfl) (Nat.zero_le _) rfl rfl rfl (sf_X1_cost_5 M132_ o134_ d) (fun x136_ b138_ => ?_)
            obtain ⟨q142_, b141_⟩ : (Int32.toInt (i2z120_ + x136_) = Int32.toInt i2z120_ + Int32.toInt x136_) ∧ (0 ≤ Int32.toInt (i2z120_ + x136_) ∧ Int32.toInt (i2z120_ + x136_) ≤ 385000000) := zadd_r i2z120_ x136_ 0 385000000 h2z120_ b138_ (by decide) (by decide) (by decide) (by decide)
            obtain ⟨q144_, b143_⟩ : (Int32.toInt (i3z120_ + 1) = Int32.toInt i3z120_ + Int32.toInt 1) ∧ (1 ≤ Int32.toInt (i3z120_ + 1) ∧ Int32.toInt (i3z120_ + 1) ≤ 10) := zadd_r i3z120_ 1 1 10 b128_ (show 1 ≤ Int32.toInt 1 ∧ Int32.toInt 1 ≤ 1 from (by decide)) (by decide) (by decide) (by decide) (by decide)
            have u145_ : Int32.toInt 1 = 1 := by decide
            refine pw_blk hT 4 (S' := (33, [some (pvR 0), some (pvI n1), some (pvI (i2z120_ + x136_)), some (pvI (i3z120_ + 1))], [], M132_)) rfl ⟨trivial, trivial, trivial, trivial, trivial⟩ ?_
            have j146_ : Int32.toInt (i2z120_ + x136_) ≤ 35000000 * Int32.toInt (i3z120_ + 1) := by omega
            exact ihz120_ (i2z120_ + x136_) (i3z120_ + 1) M132_ o134_ f135_ (by have u0 := b141_; omega) (zr_wide b143_ (by decide) (by decide)) j146_ (by omega)
      have u147_ : Int32.toInt 0 = 0 := by decide
      have j148_ : Int32.toInt 0 ≤ 35000000 * Int32.toInt 0 := by omega
      exact hlz120_ _ 0 0 M22_ o24_ f26_ (zr_wide (show 0 ≤ Int32.toInt 0 ∧ Int32.toInt 0 ≤ 0 from (by decide)) (by decide) (by decide)) (zr_wide (show 0 ≤ Int32.toInt 0 ∧ Int32.toInt 0 ≤ 0 from (by decide)) (by decide) (by decide)) j148_ (Nat.lt_succ_self _)
def fpL_X1_costOfOne_5_x : List (Nat × Nat × Nat) := [(0, 106, 1), (0, 114, 0), (0, 12, 0), (0, 122, 0)]
def fp_X1_costOfOne_5_x (q k : Nat) : Bool := pvfp fpL_X1_costOfOne_5_x q k
theorem fp_X1_costOfOne_5_x_fp_X1_costOfTried_5 (a b : Nat) (h : fp_X1_costOfTried_5 a b = true) : fp_X1_costOfOne_5_x a b = true := pvfp_sub (l1 := fpL_X1_costOfTried_5) (l2 := fpL_X1_costOfOne_5_x) (by decide) a b h
theorem fp_X1_costOfOne_5_x_fp_X6_append_106_x_x (a b : Nat) (h : fp_X6_append_106_x_x a b = true) : fp_X1_costOfOne_5_x a b = true := pvfp_sub (l1 := fpL_X6_append_106_x_x) (l2 := fpL_X1_costOfOne_5_x) (by decide) a b h
theorem fp_X1_costOfOne_5_x_fp_X6_clear_106 (a b : Nat) (h : fp_X6_clear_106 a b = true) : fp_X1_costOfOne_5_x a b = true := pvfp_sub (l1 := fpL_X6_clear_106) (l2 := fpL_X1_costOfOne_5_x) (by decide) a b h
set_option maxHeartbeats 4000000 in
set_option maxRecDepth 10000 in
theorem sf_X1_costOfOne_5_x (M : pvM) (hok : pvOk M) (n1 : Int32) (hn1 : 0 ≤ Int32.toInt n1 ∧ Int32.toInt n1 ≤ 6) (d : Nat) : PW 104 d (0, [some (pvR 5), some (pvI n1)], [], M) (fun r X => (∃ x : Int32, r = some (pvI x) ∧ 0 ≤ Int32.toInt x ∧ Int32.toInt x ≤ 35000000) ∧ pvOk X ∧ pvFr fp_X1_costOfOne_5_x M X) := by
  have hT : pvdom 104 = pvD_104 := rfl
  refine pw_blk hT 2 (S' := (4, [some (pvR 5), some (pvI n1)], [pvR 106], M)) rfl ⟨trivial, rfl, trivial⟩ ?_
  refine pw_callG hT (as := [pvR 106]) (lo1 := [some (pvR 106)]) (d1 := d) (rest := []) rfl rfl rfl rfl rfl (fun _ => rfl) (Nat.zero_le _) rfl rfl rfl (sf_X6_clear_106 M hok d) (fun x1_ M2_ b3_ o4_ g5_ => ?_)
  have f6_ : pvFr fp_X1_costOfOne_5_x M M2_ := pvfr_t g5_ pvfr_0 fp_X1_costOfOne_5_x_fp_X6_clear_106
  refine pw_blk hT 5 (S' := (14, [some (pvR 5), some (pvI n1)], [pvI 0, pvI n1, pvR 106], M2_)) rfl ⟨trivial, trivial, rfl, trivial, trivial, trivial⟩ ?_
  refine pw_callG hT (as := [pvR 106, pvI n1, pvI 0]) (lo1 := [some (pvR 106), some (pvI n1), some (pvI 0)]) (d1 := d) (rest := []) rfl rfl rfl rfl rfl (fun _ => rfl) (Nat.zero_le _) rfl rfl rfl (sf_X6_append_106_x_x M2_ o4_ n1 0 hn1 (zr_wide (show 0 ≤ Int32.toInt 0 ∧ Int32.toInt 0 ≤ 0 from (by decide)) (by decide) (by decide)) d) (fun x7_ M8_ b9_ o10_ g11_ => ?_)
  have f12_ : pvFr fp_X1_costOfOne_5_x M M8_ := pvfr_t g11_ f6_ fp_X1_costOfOne_5_x_fp_X6_append_106_x_x
  refine pw_blk hT 2 (S' := (19, [some (pvR 5), some (pvI n1)], [pvR 5], M8_)) rfl ⟨trivial, trivial, trivial⟩ ?_
  refine pw_callG hT (as := [pvR 5]) (lo1 := [some (pvR 5)]) (d1 := d) (rest := []) rfl rfl rfl rfl rfl (fun _ => rfl) (Nat.zero_le _) rfl rfl rfl (sf_X1_costOfTried_5 M8_ o10_ d) (fun x13_ M14_ b15_ o16_ g17_ => ?_)
  have f18_ : pvFr fp_X1_costOfOne_5_x M M14_ := pvfr_t g17_ f12_ fp_X1_costOfOne_5_x_fp_X1_costOfTried_5
  exact pw_ret hT rfl (r := some (pvI x13_)) (M' := M14_) ⟨rfl, rfl⟩ ⟨⟨_, rfl, b15_⟩, o16_, f18_⟩
def fpL_X9_next_0 : List (Nat × Nat × Nat) := [(0, 106, 1), (0, 114, 0), (0, 12, 0), (0, 122, 0), (0, 13, 0), (0, 14, 0), (0, 5, 2), (0, 5, 3), (1, 112, 0)]
def fp_X9_next_0 (q k : Nat) : Bool := pvfp fpL_X9_next_0 q k
theorem fp_X9_next_0_fp_X1_beginFromNow_5 (a b : Nat) (h : fp_X1_beginFromNow_5 a b = true) : fp_X9_next_0 a b = true := pvfp_sub (l1 := fpL_X1_beginFromNow_5) (l2 := fpL_X9_next_0) (by decide) a b h
theorem fp_X9_next_0_fp_X1_costOfOne_5_x (a b : Nat) (h : fp_X1_costOfOne_5_x a b = true) : fp_X9_next_0 a b = true := pvfp_sub (l1 := fpL_X1_costOfOne_5_x) (l2 := fpL_X9_next_0) (by decide) a b h
set_option maxHeartbeats 4000000 in
set_option maxRecDepth 10000 in
theorem sf_X9_next_0 (M : pvM) (hok : pvOk M) (d : Nat) : PW 187 d (0, [some (pvR 0), none, none, none, none], [], M) (fun r X => (∃ x : Int32, r = some (pvI x) ∧ (-5) ≤ Int32.toInt x ∧ Int32.toInt x ≤ 2147483647) ∧ pvOk X ∧ pvFr fp_X9_next_0 M X) := by
  have hT : pvdom 187 = pvD_187 := rfl
  refine pw_blk hT 2 (S' := (4, [some (pvR 0), none, none, none, none], [pvR 5], M)) rfl ⟨trivial, rfl, trivial⟩ ?_
  refine pw_callV hT (as := [pvR 5]) (lo1 := [some (pvR 5)]) (d1 := d) (rest := []) rfl rfl rfl rfl rfl (fun _ => rfl) (Nat.zero_le _) rfl rfl rfl (sf_X1_beginFromNow_5 M hok d) (fun M2_ o4_ g5_ => ?_)
  have f6_ : pvFr fp_X9_next_0 M M2_ := pvfr_t g5_ pvfr_0 fp_X9_next_0_fp_X1_beginFromNow_5
  refine pw_blk hT 6 (S' := (14, [some (pvR 0), some (pvI (-5)), some (pvI 0), some (pvI 0), none], [], M2_)) rfl ⟨trivial, trivial, trivial, trivial, trivial, trivial, trivial⟩ ?_
  have hlz141_ : ∀ (nz141_ : Nat) (i1z141_ : Int32) (i2z141_ : Int32) (i3z141_ : Int32) (v4z141_ : Option pvV) (Mz141_ : pvM), (pvOk Mz141_) → (pvFr fp_X9_next_0 M Mz141_) → ((-5) ≤ Int32.toInt i1z141_ ∧ Int32.toInt i1z141_ ≤ 2147483647) → (0 ≤ Int32.toInt i2z141_ ∧ Int32.toInt i2z141_ ≤ 2147483647) → (0 ≤ Int32.toInt i3z141_ ∧ Int32.toInt i3z141_ ≤ 7) → ((8 - Int32.toInt i3z141_).toNat < nz141_) → PW 187 d (14, [some (pvR 0), some (pvI i1z141_), some (pvI i2z141_), some (pvI i3z141_), v4z141_], [], Mz141_) (fun r X => (∃ x : Int32, r = some (pvI x) ∧ (-5) ≤ Int32.toInt x ∧ Int32.toInt x ≤ 2147483647) ∧ pvOk X ∧ pvFr fp_X9_next_0 M X) := by
    intro nz141_
    induction nz141_ with
    | zero => intro i1z141_ i2z141_ i3z141_ v4z141_ Mz141_ oz141_ fz141_ h1z141_ h2z141_ h3z141_ hmz141_; exact absurd hmz141_ (Nat.not_lt_zero _)
    | succ nz141_ ihz141_ =>
      intro i1z141_ i2z141_ i3z141_ v4z141_ Mz141_ oz141_ fz141_ h1z141_ h2z141_ h3z141_ hmz141_
      have b142_ : 0 ≤ Int32.toInt (Mz141_.1 8 1) ∧ Int32.toInt (Mz141_.1 8 1) ≤ 7 := pvok_r oz141_ 8 1 rfl
      refine pw_blk hT 4 (S' := (22, [some (pvR 0), some (pvI i1z141_), some (pvI i2z141_), some (pvI i3z141_), v4z141_], [pvI (Mz141_.1 8 1), pvI i3z141_], Mz141_)) rfl ⟨trivial, trivial, rfl, rfl, trivial⟩ ?_
      refine pw_ic hT (c := (Mz141_.1 8 1) ≤ i3z141_) rfl rfl (fun c143_ => ?_) (fun c143_ => ?_)
      · have d144_ : Int32.toInt (Mz141_.1 8 1) ≤ Int32.toInt i3z141_ := (zi_le _ _).mp c143_
        refine pw_blk hT 1 (S' := (77, [some (pvR 0), some (pvI i1z141_), some (pvI i2z141_), some (pvI i3z141_), v4z141_], [pvI i1z141_], Mz141_)) rfl ⟨trivial, trivial⟩ ?_
        exact pw_ret hT rfl (r := some (pvI i1z141_)) (M' := Mz141_) ⟨rfl, rfl⟩ ⟨⟨_, rfl, h1z141_⟩, oz141_, fz141_⟩
      · have b145_ : 1 ≤ Int32.toInt (Mz141_.1 8 1) ∧ Int32.toInt (Mz141_.1 8 1) ≤ 7 := zr_nle_l 1 c143_ b142_ h3z141_ (by decide)
        have b146_ : 0 ≤ Int32.toInt i3z141_ ∧ Int32.toInt i3z141_ ≤ 6 := zr_nle_r 6 c143_ h3z141_ b145_ (by decide)
        have d147_ : Int32.toInt (Mz141_.1 8 1) > Int32.toInt i3z141_ := Int.not_le.mp ((not_congr (zi_le _ _)).mp c143_)
        refine pw_blkr hT 5 (pc := 34) (lo := [some (pvR 0), some (pvI i1z141_), some (pvI i2z141_), some (pvI i3z141_), v4z141_]) (st := []) (M := Mz141_) (z := (pvbs 10 + Int32.toNatClampNeg i3z141_)) rfl ⟨trivial, rfl, rfl, trivial, ⟨rfl, (zr_in (n := 7) b146_ (by decide) (by decide))⟩, trivial⟩ (fun q148_ e150_ => ?_)
        have k149_ : pvkl q148_ = 3 := pvel_10 (zr_in (n := 7) b146_ (by decide) (by decide)) e150_
        have b151_ : 0 ≤ Int32.toInt (Mz141_.1 q148_ 5) ∧ Int32.toInt (Mz141_.1 q148_ 5) ≤ 1 := pvok_r oz141_ q148_ 5 ((pvrg_o 5 k149_ (by decide) (by decide)).trans rfl)
        refine pw_blk hT 1 (S' := (37, [some (pvR 0), some (pvI i1z141_), some (pvI i2z141_), some (pvI i3z141_), v4z141_], [pvI (Mz141_.1 q148_ 5)], Mz141_)) rfl ⟨k149_, trivial⟩ ?_
        refine pw_if hT (c := (Mz141_.1 q148_ 5) = 0) rfl rfl (fun c152_ => ?_) (fun c152_ => ?_)
        · have b153_ : 0 ≤ Int32.toInt (Mz141_.1 q148_ 5) ∧ Int32.toInt (Mz141_.1 q148_ 5) ≤ 0 := (by have u0 := b151_; have u1 := (zi_eq _ _).mp c152_; have u2 := (show 0 ≤ Int32.toInt 0 ∧ Int32.toInt 0 ≤ 0 from (by decide)); omega)
          refine pw_blk hT 3 (S' := (48, [some (pvR 0), some (pvI i1z141_), some (pvI i2z141_), some (pvI i3z141_), v4z141_], [pvI i3z141_, pvR 5], Mz141_)) rfl ⟨trivial, rfl, trivial, trivial⟩ ?_
          refine pw_callG hT (as := [pvR 5, pvI i3z141_]) (lo1 := [some (pvR 5), some (pvI i3z141_)]) (d1 := d) (rest := []) rfl rfl rfl rfl rfl (fun _ => rfl) (Nat.zero_le _) rfl rfl rfl (sf_X1_costOfOne_5_x Mz141_ oz141_ i3z141_ b146_ d) (fun x154_ M155_ b156_ o157_ g158_ => ?_)
          have f159_ : pvFr fp_X9_next_0 M M155_ := pvfr_t g158_ fz141_ fp_X9_next_0_fp_X1_costOfOne_5_x
          refine pw_blk hT 3 (S' := (56, [some (pvR 0), some (pvI i1z141_), some (pvI i2z141_), some (pvI i3z141_), some (pvI x154_)], [pvI (-5), pvI i1z141_], M155_)) rfl ⟨trivial, trivial, trivial, trivial⟩ ?_
          refine pw_ic hT (c := i1z141_ = (-5)) rfl rfl (fun c160_ => ?_) (fun c160_ => ?_)
          · have b161_ : (-5) ≤ Int32.toInt i1z141_ ∧ Int32.toInt i1z141_ ≤ (-5) := (by have u0 := h1z141_; have u1 := (zi_eq _ _).mp c160_; have u2 := (show (-5) ≤ Int32.toInt (-5) ∧ Int32.toInt (-5) ≤ (-5) from (by decide)); omega)
            obtain ⟨q163_, b162_⟩ : (Int32.toInt (i3z141_ + 1) = Int32.toInt i3z141_ + Int32.toInt 1) ∧ (1 ≤ Int32.toInt (i3z141_ + 1) ∧ Int32.toInt (i3z141_ + 1) ≤ 7) := zadd_r i3z141_ 1 1 7 b146_ (show 1 ≤ Int32.toInt 1 ∧ Int32.toInt 1 ≤ 1 from (by decide)) (by decide) (by decide) (by decide) (by decide)
            have u164_ : Int32.toInt 1 = 1 := by decide
            refine pw_blk hT 6 (S' := (14, [some (pvR 0), some (pvI i3z141_), some (pvI x154_), some (pvI (i3z141_ + 1)), some (pvI x154_)], [], M155_)) rfl ⟨trivial, trivial, trivial, trivial, trivial, trivial, trivial⟩ ?_
            exact ihz141_ i3z141_ x154_ (i3z141_ + 1) (some (pvI x154_)) M155_ o157_ f159_ (zr_wide b146_ (by decide) (by decide)) (zr_wide b156_ (by decide) (by decide)) (zr_wide b162_ (by decide) (by decide)) (by omega)
          · have b165_ : (-4) ≤ Int32.toInt i1z141_ ∧ Int32.toInt i1z141_ ≤ 2147483647 := (by have u0 := h1z141_; have u1 := (not_congr (zi_eq _ _)).mp c160_; have u2 := (show (-5) ≤ Int32.toInt (-5) ∧ Int32.toInt (-5) ≤ (-5) from (by decide)); omega)
            refine pw_blk hT 2 (S' := (62, [some (pvR 0), some (pvI i1z141_), some (pvI i2z141_), some (pvI i3z141_), some (pvI x154_)], [pvI i2z141_, pvI x154_], M155_)) rfl ⟨trivial, trivial, trivial⟩ ?_
            refine pw_ic hT (c := i2z141_ ≤ x154_) rfl rfl (fun c166_ => ?_) (fun c166_ => ?_)
            · have b167_ : 0 ≤ Int32.toInt i2z141_ ∧ Int32.toInt i2z141_ ≤ 35000000 := zr_le_l 35000000 c166_ h2z141_ b156_ (by decide)
              have d168_ : Int32.toInt i2z141_ ≤ Int32.toInt x154_ := (zi_le _ _).mp c166_
              obtain ⟨q170_, b169_⟩ : (Int32.toInt (i3z141_ + 1) = Int32.toInt i3z141_ + Int32.toInt 1) ∧ (1 ≤ Int32.toInt (i3z141_ + 1) ∧ Int32.toInt (i3z141_ + 1) ≤ 7) := zadd_r i3z141_ 1 1 7 b146_ (show 1 ≤ Int32.toInt 1 ∧ Int32.toInt 1 ≤ 1 from (by decide)) (by decide) (by decide) (by decide) (by decide)
              have u171_ : Int32.toInt 1 = 1 := by decide
              refine pw_blk hT 2 (S' := (14, [some (pvR 0), some (pvI i1z141_), some (pvI i2z141_), some (pvI (i3z141_ + 1)), some (pvI x154_)], [], M155_)) rfl ⟨trivial, trivial, trivial⟩ ?_
              exact ihz141_ i1z141_ i2z141_ (i3z141_ + 1) (some (pvI x154_)) M155_ o157_ f159_ (zr_wide b165_ (by decide) (by decide)) (zr_wide b167_ (by decide) (by decide)) (zr_wide b169_ (by decide) (by decide)) (by omega)
            · have b172_ : 1 ≤ Int32.toInt i2z141_ ∧ Int32.toInt i2z141_ ≤ 2147483647 := zr_nle_l 1 c166_ h2z141_ b156_ (by decide)
              have d173_ : Int32.toInt i2z141_ > Int32.toInt x154_ := Int.not_le.mp ((not_congr (zi_le _ _)).mp c166_)
              obtain ⟨q175_, b174_⟩ : (Int32.toInt (i3z141_ + 1) = Int32.toInt i3z141_ + Int32.toInt 1) ∧ (1 ≤ Int32.toInt (i3z141_ + 1) ∧ Int32.toInt (i3z141_ + 1) ≤ 7) := zadd_r i3z141_ 1 1 7 b146_ (show 1 ≤ Int32.toInt 1 ∧ Int32.toInt 1 ≤ 1 from (by decide)) (by decide) (by decide) (by decide) (by decide)
              have u176_ : Int32.toInt 1 = 1 := by decide
              refine pw_blk hT 6 (S' := (14, [some (pvR 0), some (pvI i3z141_), some (pvI x154_), some (pvI (i3z141_ + 1)), some (pvI x154_)], [], M155_)) rfl ⟨trivial, trivial, trivial, trivial, trivial, trivial, trivial⟩ ?_
              exact ihz141_ i3z141_ x154_ (i3z141_ + 1) (some (pvI x154_)) M155_ o157_ f159_ (zr_wide b146_ (by decide) (by decide)) (zr_wide b156_ (by decide) (by decide)) (zr_wide b174_ (by decide) (by decide)) (by omega)
        · have b177_ : 1 ≤ Int32.toInt (Mz141_.1 q148_ 5) ∧ Int32.toInt (Mz141_.1 q148_ 5) ≤ 1 := (by have u0 := b151_; have u1 := (not_congr (zi_eq _ _)).mp c152_; have u2 := (show 0 ≤ Int32.toInt 0 ∧ Int32.toInt 0 ≤ 0 from (by decide)); omega)
          obtain ⟨q179_, b178_⟩ : (Int32.toInt (i3z141_ + 1) = Int32.toInt i3z141_ + Int32.toInt 1) ∧ (1 ≤ Int32.toInt (i3z141_ + 1) ∧ Int32.toInt (i3z141_ + 1) ≤ 7) := zadd_r i3z141_ 1 1 7 b146_ (show 1 ≤ Int32.toInt 1 ∧ Int32.toInt 1 ≤ 1 from (by decide)) (by decide) (by decide) (by decide) (by decide)
          have u180_ : Int32.toInt 1 = 1 := by decide
          refine pw_blk hT 3 (S' := (14, [some (pvR 0), some (pvI i1z141_), some (pvI i2z141_), some (pvI (i3z141_ + 1)), v4z141_], [], Mz141_)) rfl ⟨trivial, trivial, trivial, trivial⟩ ?_
          exact ihz141_ i1z141_ i2z141_ (i3z141_ + 1) v4z141_ Mz141_ oz141_ fz141_ h1z141_ h2z141_ (zr_wide b178_ (by decide) (by decide)) (by omega)
  exact hlz141_ _ (-5) 0 0 none M2_ o4_ f6_ (zr_wide (show (-5) ≤ Int32.toInt (-5) ∧ Int32.toInt (-5) ≤ (-5) from (by decide)) (by decide) (by decide)) (zr_wide (show 0 ≤ Int32.toInt 0 ∧ Int32.toInt 0 ≤ 0 from (by decide)) (by decide) (by decide)) (zr_wide (show 0 ≤ Int32.toInt 0 ∧ Int32.toInt 0 ≤ 0 from (by decide)) (by decide) (by decide)) (Nat.lt_succ_self _)
def fpL_X9_odds_0_x_x : List (Nat × Nat × Nat) := [(0, 12, 0), (0, 13, 0), (0, 14, 0), (0, 5, 2), (0, 5, 3), (1, 112, 0)]
def fp_X9_odds_0_x_x (q k : Nat) : Bool := pvfp fpL_X9_odds_0_x_x q k
theorem fp_X9_odds_0_x_x_fp_X1_beginFromNow_5 (a b : Nat) (h : fp_X1_beginFromNow_5 a b = true) : fp_X9_odds_0_x_x a b = true := pvfp_sub (l1 := fpL_X1_beginFromNow_5) (l2 := fpL_X9_odds_0_x_x) (by decide) a b h
theorem fp_X9_odds_0_x_x_fp_X1_goRound_5_x (a b : Nat) (h : fp_X1_goRound_5_x a b = true) : fp_X9_odds_0_x_x a b = true := pvfp_sub (l1 := fpL_X1_goRound_5_x) (l2 := fpL_X9_odds_0_x_x) (by decide) a b h
theorem fp_X9_odds_0_x_x_fp_X1_turnTo_5_x (a b : Nat) (h : fp_X1_turnTo_5_x a b = true) : fp_X9_odds_0_x_x a b = true := pvfp_sub (l1 := fpL_X1_turnTo_5_x) (l2 := fpL_X9_odds_0_x_x) (by decide) a b h
set_option maxHeartbeats 4000000 in
set_option maxRecDepth 10000 in
theorem sf_X9_odds_0_x_x (M : pvM) (hok : pvOk M) (n1 : Int32) (n2 : Int32) (d : Nat) : PW 188 d (0, [some (pvR 0), some (pvI n1), some (pvI n2), none, none], [], M) (fun r X => (∃ x : Int64, r = some (pvJ x)) ∧ pvOk X ∧ pvFr fp_X9_odds_0_x_x M X) := by
  have hT : pvdom 188 = pvD_188 := rfl
  refine pw_blk hT 3 (S' := (4, [some (pvR 0), some (pvI n1), some (pvI n2), none, none], [pvI 99999, pvI 0, pvI n1], M)) rfl ⟨trivial, trivial, trivial, trivial⟩ ?_
  refine pw_callT hT (as := [pvI n1, pvI 0, pvI 99999]) (lo1 := [some (pvI n1), some (pvI 0), some (pvI 99999)]) (d1 := d) (rest := []) rfl rfl rfl rfl rfl (fun h => absurd h (by decide)) (Nat.zero_le _) rfl rfl rfl (sf_X9_within_x_x_x M hok n1 0 99999 d) ?_
  by_cases c6_ : n1 < 0
  · refine pw_eqI (if_pos c6_) ?_
    have b7_ : (-2147483648) ≤ Int32.toInt n1 ∧ Int32.toInt n1 ≤ (-1) := zr_lt_l (-1) c6_ (zbnd n1) (show 0 ≤ Int32.toInt 0 ∧ Int32.toInt 0 ≤ 0 from (by decide)) (by decide)
    show PW 188 d (7, [some (pvR 0), some (pvI n1), some (pvI n2), none, none], [pvI 0], M) _
    refine pw_if hT (c := 0 = 0) rfl rfl (fun c8_ => ?_) (fun c8_ => absurd (by decide) c8_)
    refine pw_blk hT 1 (S' := (22, [some (pvR 0), some (pvI n1), some (pvI n2), none, none], [pvJ (-9223372036854775808)], M)) rfl ⟨trivial, trivial⟩ ?_
    exact pw_ret hT rfl (r := some (pvJ (-9223372036854775808))) (M' := M) ⟨rfl, rfl⟩ ⟨⟨_, rfl⟩, hok, pvfr_0⟩
  · refine pw_eqI (if_neg c6_) ?_
    have b9_ : 0 ≤ Int32.toInt n1 ∧ Int32.toInt n1 ≤ 2147483647 := zr_nlt_l 0 c6_ (zbnd n1) (show 0 ≤ Int32.toInt 0 ∧ Int32.toInt 0 ≤ 0 from (by decide)) (by decide)
    by_cases c10_ : 99999 < n1
    · refine pw_eqI (if_pos c10_) ?_
      have b11_ : 100000 ≤ Int32.toInt n1 ∧ Int32.toInt n1 ≤ 2147483647 := zr_lt_r 100000 c10_ b9_ (show 99999 ≤ Int32.toInt 99999 ∧ Int32.toInt 99999 ≤ 99999 from (by decide)) (by decide)
      show PW 188 d (7, [some (pvR 0), some (pvI n1), some (pvI n2), none, none], [pvI 0], M) _
      refine pw_if hT (c := 0 = 0) rfl rfl (fun c12_ => ?_) (fun c12_ => absurd (by decide) c12_)
      refine pw_blk hT 1 (S' := (22, [some (pvR 0), some (pvI n1), some (pvI n2), none, none], [pvJ (-9223372036854775808)], M)) rfl ⟨trivial, trivial⟩ ?_
      exact pw_ret hT rfl (r := some (pvJ (-9223372036854775808))) (M' := M) ⟨rfl, rfl⟩ ⟨⟨_, rfl⟩, hok, pvfr_0⟩
    · refine pw_eqI (if_neg c10_) ?_
      have b13_ : 0 ≤ Int32.toInt n1 ∧ Int32.toInt n1 ≤ 99999 := zr_nlt_r 99999 c10_ b9_ (show 99999 ≤ Int32.toInt 99999 ∧ Int32.toInt 99999 ≤ 99999 from (by decide)) (by decide)
      show PW 188 d (7, [some (pvR 0), some (pvI n1), some (pvI n2), none, none], [pvI 1], M) _
      refine pw_if hT (c := 1 = 0) rfl rfl (fun c14_ => absurd c14_ (by decide)) (fun c14_ => ?_)
      refine pw_blk hT 3 (S' := (13, [some (pvR 0), some (pvI n1), some (pvI n2), none, none], [pvI 1, pvI 0, pvI n2], M)) rfl ⟨trivial, trivial, trivial, trivial⟩ ?_
      refine pw_callT hT (as := [pvI n2, pvI 0, pvI 1]) (lo1 := [some (pvI n2), some (pvI 0), some (pvI 1)]) (d1 := d) (rest := []) rfl rfl rfl rfl rfl (fun h => absurd h (by decide)) (Nat.zero_le _) rfl rfl rfl (sf_X9_within_x_x_x M hok n2 0 1 d) ?_
      by_cases c20_ : n2 < 0
      · refine pw_eqI (if_pos c20_) ?_
        have b21_ : (-2147483648) ≤ Int32.toInt n2 ∧ Int32.toInt n2 ≤ (-1) := zr_lt_l (-1) c20_ (zbnd n2) (show 0 ≤ Int32.toInt 0 ∧ Int32.toInt 0 ≤ 0 from (by decide)) (by decide)
        show PW 188 d (16, [some (pvR 0), some (pvI n1), some (pvI n2), none, none], [pvI 0], M) _
        refine pw_ifn hT (c := 0 = 0) rfl rfl (fun c22_ => absurd (by decide) c22_) (fun c22_ => ?_)
        refine pw_blk hT 1 (S' := (22, [some (pvR 0), some (pvI n1), some (pvI n2), none, none], [pvJ (-9223372036854775808)], M)) rfl ⟨trivial, trivial⟩ ?_
        exact pw_ret hT rfl (r := some (pvJ (-9223372036854775808))) (M' := M) ⟨rfl, rfl⟩ ⟨⟨_, rfl⟩, hok, pvfr_0⟩
      · refine pw_eqI (if_neg c20_) ?_
        have b23_ : 0 ≤ Int32.toInt n2 ∧ Int32.toInt n2 ≤ 2147483647 := zr_nlt_l 0 c20_ (zbnd n2) (show 0 ≤ Int32.toInt 0 ∧ Int32.toInt 0 ≤ 0 from (by decide)) (by decide)
        by_cases c24_ : 1 < n2
        · refine pw_eqI (if_pos c24_) ?_
          have b25_ : 2 ≤ Int32.toInt n2 ∧ Int32.toInt n2 ≤ 2147483647 := zr_lt_r 2 c24_ b23_ (show 1 ≤ Int32.toInt 1 ∧ Int32.toInt 1 ≤ 1 from (by decide)) (by decide)
          show PW 188 d (16, [some (pvR 0), some (pvI n1), some (pvI n2), none, none], [pvI 0], M) _
          refine pw_ifn hT (c := 0 = 0) rfl rfl (fun c26_ => absurd (by decide) c26_) (fun c26_ => ?_)
          refine pw_blk hT 1 (S' := (22, [some (pvR 0), some (pvI n1), some (pvI n2), none, none], [pvJ (-9223372036854775808)], M)) rfl ⟨trivial, trivial⟩ ?_
          exact pw_ret hT rfl (r := some (pvJ (-9223372036854775808))) (M' := M) ⟨rfl, rfl⟩ ⟨⟨_, rfl⟩, hok, pvfr_0⟩
        · refine pw_eqI (if_neg c24_) ?_
          have b27_ : 0 ≤ Int32.toInt n2 ∧ Int32.toInt n2 ≤ 1 := zr_nlt_r 1 c24_ b23_ (show 1 ≤ Int32.toInt 1 ∧ Int32.toInt 1 ≤ 1 from (by decide)) (by decide)
          show PW 188 d (16, [some (pvR 0), some (pvI n1), some (pvI n2), none, none], [pvI 1], M) _
          refine pw_ifn hT (c := 1 = 0) rfl rfl (fun c28_ => ?_) (fun c28_ => absurd c28_ (by decide))
          refine pw_blk hT 2 (S' := (27, [some (pvR 0), some (pvI n1), some (pvI n2), none, none], [pvR 5], M)) rfl ⟨trivial, rfl, trivial⟩ ?_
          refine pw_callV hT (as := [pvR 5]) (lo1 := [some (pvR 5)]) (d1 := d) (rest := []) rfl rfl rfl rfl rfl (fun _ => rfl) (Nat.zero_le _) rfl rfl rfl (sf_X1_beginFromNow_5 M hok d) (fun M30_ o32_ g33_ => ?_)
          have f34_ : pvFr fp_X9_odds_0_x_x M M30_ := pvfr_t g33_ pvfr_0 fp_X9_odds_0_x_x_fp_X1_beginFromNow_5
          refine pw_blk hT 3 (S' := (35, [some (pvR 0), some (pvI n1), some (pvI n2), none, none], [pvI 0, pvR 5], M30_)) rfl ⟨trivial, rfl, trivial, trivial⟩ ?_
          refine pw_callG hT (as := [pvR 5, pvI 0]) (lo1 := [some (pvR 5), some (pvI 0)]) (d1 := d) (rest := []) rfl rfl rfl rfl rfl (fun _ => rfl) (Nat.zero_le _) rfl rfl rfl (sf_X1_goRound_5_x M30_ o32_ 0 (zr_wide (show 0 ≤ Int32.toInt 0 ∧ Int32.toInt 0 ≤ 0 from (by decide)) (by decide) (by decide)) d) (fun x35_ M36_ b37_ o38_ g39_ => ?_)
          have f40_ : pvFr fp_X9_odds_0_x_x M M36_ := pvfr_t g39_ f34_ fp_X9_odds_0_x_x_fp_X1_goRound_5_x
          refine pw_blk hT 5 (S' := (44, [some (pvR 0), some (pvI n1), some (pvI n2), some (pvI 0), some (pvI 0)], [], M36_)) rfl ⟨trivial, trivial, trivial, trivial, trivial, trivial⟩ ?_
          have hlz162_ : ∀ (nz162_ : Nat) (i3z162_ : Int32) (i4z162_ : Int32) (Mz162_ : pvM), (pvOk Mz162_) → (pvFr fp_X9_odds_0_x_x M Mz162_) → (0 ≤ Int32.toInt i3z162_ ∧ Int32.toInt i3z162_ ≤ 4) → (0 ≤ Int32.toInt i4z162_ ∧ Int32.toInt i4z162_ ≤ 4) → (Int32.toInt i3z162_ ≤ Int32.toInt i4z162_) → ((5 - Int32.toInt i4z162_).toNat < nz162_) → PW 188 d (44, [some (pvR 0), some (pvI n1), some (pvI n2), some (pvI i3z162_), some (pvI i4z162_)], [], Mz162_) (fun r X => (∃ x : Int64, r = some (pvJ x)) ∧ pvOk X ∧ pvFr fp_X9_odds_0_x_x M X) := by
            intro nz162_
            induction nz162_ with
            | zero => intro i3z162_ i4z162_ Mz162_ oz162_ fz162_ h3z162_ h4z162_ j0z162_ hmz162_; exact absurd hmz162_ (Nat.not_lt_zero _)
            | succ nz162_ ihz162_ =>
              intro i3z162_ i4z162_ Mz162_ oz162_ fz162_ h3z162_ h4z162_ j0z162_ hmz162_
              refine pw_blk hT 2 (S' := (47, [some (pvR 0), some (pvI n1), some (pvI n2), some (pvI i3z162_), some (pvI i4z162_)], [pvI 4, pvI i4z162_], Mz162_)) rfl ⟨trivial, trivial, trivial⟩ ?_
              refine pw_ic hT (c := 4 ≤ i4z162_) rfl rfl (fun c163_ => ?_) (fun c163_ => ?_)
              · have b164_ : 4 ≤ Int32.toInt i4z162_ ∧ Int32.toInt i4z162_ ≤ 4 := zr_le_r 4 c163_ h4z162_ (show 4 ≤ Int32.toInt 4 ∧ Int32.toInt 4 ≤ 4 from (by decide)) (by decide)
                refine pw_blk hT 3 (S' := (82, [some (pvR 0), some (pvI n1), some (pvI n2), some (pvI i3z162_), some (pvI i4z162_)], [pvI n2, pvI 4, pvI i3z162_], Mz162_)) rfl ⟨trivial, trivial, trivial, trivial⟩ ?_
                refine pw_callJp hT (as := [pvI i3z162_, pvI 4, pvI n2]) (lo1 := [some (pvI i3z162_), some (pvI 4), some (pvI n2), none]) (d1 := d) (rest := []) rfl rfl rfl rfl rfl (fun h => absurd h (by decide)) (Nat.zero_le _) rfl rfl rfl (sf_X9_partOf_x_x_x Mz162_ oz162_ i3z162_ 4 n2 (zr_wide h3z162_ (by decide) (by decide)) (zr_wide (show 4 ≤ Int32.toInt 4 ∧ Int32.toInt 4 ≤ 4 from (by decide)) (by decide) (by decide)) d) (fun x165_ b167_ => ?_)
                exact pw_ret hT rfl (r := some (pvJ x165_)) (M' := Mz162_) ⟨rfl, rfl⟩ ⟨⟨_, rfl⟩, oz162_, fz162_⟩
              · have b170_ : 0 ≤ Int32.toInt i4z162_ ∧ Int32.toInt i4z162_ ≤ 3 := zr_nle_r 3 c163_ h4z162_ (show 4 ≤ Int32.toInt 4 ∧ Int32.toInt 4 ≤ 4 from (by decide)) (by decide)
                refine pw_blk hT 3 (S' := (56, [some (pvR 0), some (pvI n1), some (pvI n2), some (pvI i3z162_), some (pvI i4z162_)], [pvI i4z162_, pvR 5], Mz162_)) rfl ⟨trivial, rfl, trivial, trivial⟩ ?_
                refine pw_callV hT (as := [pvR 5, pvI i4z162_]) (lo1 := [some (pvR 5), some (pvI i4z162_), none]) (d1 := d) (rest := []) rfl rfl rfl rfl rfl (fun _ => rfl) (Nat.zero_le _) rfl rfl rfl (sf_X1_turnTo_5_x Mz162_ oz162_ i4z162_ d) (fun M172_ o174_ g175_ => ?_)
                have f176_ : pvFr fp_X9_odds_0_x_x M M172_ := pvfr_t g175_ fz162_ fp_X9_odds_0_x_x_fp_X1_turnTo_5_x
                refine pw_blk hT 2 (S' := (63, [some (pvR 0), some (pvI n1), some (pvI n2), some (pvI i3z162_), some (pvI i4z162_)], [pvR 5], M172_)) rfl ⟨trivial, rfl, trivial⟩ ?_
                refine pw_callGp hT (as := [pvR 5]) (lo1 := [some (pvR 5)]) (d1 := d) (rest := []) rfl rfl rfl rfl rfl (fun _ => rfl) (Nat.zero_le _) rfl rfl rfl (sf_X1_cost_5 M172_ o174_ d) (fun x177_ b179_ => ?_)
                refine pw_blk hT 1 (S' := (67, [some (pvR 0), some (pvI n1), some (pvI n2), some (pvI i3z162_), some (pvI i4z162_)], [pvI n1, pvI x177_], M172_)) rfl ⟨trivial, trivial⟩ ?_
                refine pw_ic hT (c := n1 < x177_) rfl rfl (fun c182_ => ?_) (fun c182_ => ?_)
                · have b183_ : 1 ≤ Int32.toInt x177_ ∧ Int32.toInt x177_ ≤ 35000000 := zr_lt_r 1 c182_ b179_ b13_ (by decide)
                  have d184_ : Int32.toInt n1 < Int32.toInt x177_ := (zi_lt _ _).mp c182_
                  obtain ⟨q186_, b185_⟩ : (Int32.toInt (i4z162_ + 1) = Int32.toInt i4z162_ + Int32.toInt 1) ∧ (1 ≤ Int32.toInt (i4z162_ + 1) ∧ Int32.toInt (i4z162_ + 1) ≤ 4) := zadd_r i4z162_ 1 1 4 b170_ (show 1 ≤ Int32.toInt 1 ∧ Int32.toInt 1 ≤ 1 from (by decide)) (by decide) (by decide) (by decide) (by decide)
                  have u187_ : Int32.toInt 1 = 1 := by decide
                  refine pw_blk hT 2 (S' := (44, [some (pvR 0), some (pvI n1), some (pvI n2), some (pvI i3z162_), some (pvI (i4z162_ + 1))], [], M172_)) rfl ⟨trivial, trivial, trivial⟩ ?_
                  have j188_ : Int32.toInt i3z162_ ≤ Int32.toInt (i4z162_ + 1) := by omega
                  exact ihz162_ i3z162_ (i4z162_ + 1) M172_ o174_ f176_ h3z162_ (zr_wide b185_ (by decide) (by decide)) j188_ (by omega)
                · have b189_ : 0 ≤ Int32.toInt x177_ ∧ Int32.toInt x177_ ≤ 99999 := zr_nlt_r 99999 c182_ b179_ b13_ (by decide)
                  have d190_ : Int32.toInt n1 ≥ Int32.toInt x177_ := Int.not_lt.mp ((not_congr (zi_lt _ _)).mp c182_)
                  obtain ⟨q192_, b191_⟩ : (Int32.toInt (i3z162_ + 1) = Int32.toInt i3z162_ + Int32.toInt 1) ∧ (1 ≤ Int32.toInt (i3z162_ + 1) ∧ Int32.toInt (i3z162_ + 1) ≤ 5) := zadd_r i3z162_ 1 1 5 h3z162_ (show 1 ≤ Int32.toInt 1 ∧ Int32.toInt 1 ≤ 1 from (by decide)) (by decide) (by decide) (by decide) (by decide)
                  have u193_ : Int32.toInt 1 = 1 := by decide
                  obtain ⟨q195_, b194_⟩ : (Int32.toInt (i4z162_ + 1) = Int32.toInt i4z162_ + Int32.toInt 1) ∧ (1 ≤ Int32.toInt (i4z162_ + 1) ∧ Int32.toInt (i4z162_ + 1) ≤ 4) := zadd_r i4z162_ 1 1 4 b170_ (show 1 ≤ Int32.toInt 1 ∧ Int32.toInt 1 ≤ 1 from (by decide)) (by decide) (by decide) (by decide) (by decide)
                  refine pw_blk hT 3 (S' := (44, [some (pvR 0), some (pvI n1), some (pvI n2), some (pvI (i3z162_ + 1)), some (pvI (i4z162_ + 1))], [], M172_)) rfl ⟨trivial, trivial, trivial, trivial⟩ ?_
                  have j196_ : Int32.toInt (i3z162_ + 1) ≤ Int32.toInt (i4z162_ + 1) := by omega
                  exact ihz162_ (i3z162_ + 1) (i4z162_ + 1) M172_ o174_ f176_ (by have u0 := b191_; omega) (zr_wide b194_ (by decide) (by decide)) j196_ (by omega)
          have u197_ : Int32.toInt 0 = 0 := by decide
          have j198_ : Int32.toInt 0 ≤ Int32.toInt 0 := by omega
          exact hlz162_ _ 0 0 M36_ o38_ f40_ (zr_wide (show 0 ≤ Int32.toInt 0 ∧ Int32.toInt 0 ≤ 0 from (by decide)) (by decide) (by decide)) (zr_wide (show 0 ≤ Int32.toInt 0 ∧ Int32.toInt 0 ≤ 0 from (by decide)) (by decide) (by decide)) j198_ (Nat.lt_succ_self _)
def fpL_X9_of_0_x_x : List (Nat × Nat × Nat) := [(0, 12, 0), (0, 13, 0), (0, 14, 0), (0, 5, 2), (0, 5, 3), (1, 112, 0)]
def fp_X9_of_0_x_x (q k : Nat) : Bool := pvfp fpL_X9_of_0_x_x q k
theorem fp_X9_of_0_x_x_fp_X1_beginFromNow_5 (a b : Nat) (h : fp_X1_beginFromNow_5 a b = true) : fp_X9_of_0_x_x a b = true := pvfp_sub (l1 := fpL_X1_beginFromNow_5) (l2 := fpL_X9_of_0_x_x) (by decide) a b h
set_option maxHeartbeats 4000000 in
set_option maxRecDepth 10000 in
theorem sf_X9_of_0_x_x (M : pvM) (hok : pvOk M) (n1 : Int32) (n2 : Int32) (d : Nat) : PW 189 d (0, [some (pvR 0), some (pvI n1), some (pvI n2), none], [], M) (fun r X => (∃ x : Int32, r = some (pvI x) ∧ True) ∧ pvOk X ∧ pvFr fp_X9_of_0_x_x M X) := by
  have hT : pvdom 189 = pvD_189 := rfl
  refine pw_blk hT 3 (S' := (5, [some (pvR 0), some (pvI n1), some (pvI n2), none], [pvI n1, pvR 8], M)) rfl ⟨trivial, rfl, trivial, trivial⟩ ?_
  refine pw_callT hT (as := [pvR 8, pvI n1]) (lo1 := [some (pvR 8), some (pvI n1)]) (d1 := d) (rest := []) rfl rfl rfl rfl rfl (fun _ => rfl) (Nat.zero_le _) rfl rfl rfl (sf_X7_has_8_x M hok n1 d) ?_
  by_cases c6_ : n1 < 0
  · refine pw_eqI (if_pos c6_) ?_
    have b7_ : (-2147483648) ≤ Int32.toInt n1 ∧ Int32.toInt n1 ≤ (-1) := zr_lt_l (-1) c6_ (zbnd n1) (show 0 ≤ Int32.toInt 0 ∧ Int32.toInt 0 ≤ 0 from (by decide)) (by decide)
    show PW 189 d (8, [some (pvR 0), some (pvI n1), some (pvI n2), none], [pvI 0], M) _
    refine pw_ifn hT (c := 0 = 0) rfl rfl (fun c8_ => absurd (by decide) c8_) (fun c8_ => ?_)
    refine pw_blk hT 1 (S' := (12, [some (pvR 0), some (pvI n1), some (pvI n2), none], [pvI (-1)], M)) rfl ⟨trivial, trivial⟩ ?_
    exact pw_ret hT rfl (r := some (pvI (-1))) (M' := M) ⟨rfl, rfl⟩ ⟨⟨_, rfl, trivial⟩, hok, pvfr_0⟩
  · refine pw_eqI (if_neg c6_) ?_
    have b9_ : 0 ≤ Int32.toInt n1 ∧ Int32.toInt n1 ≤ 2147483647 := zr_nlt_l 0 c6_ (zbnd n1) (show 0 ≤ Int32.toInt 0 ∧ Int32.toInt 0 ≤ 0 from (by decide)) (by decide)
    have b10_ : 0 ≤ Int32.toInt (M.1 8 1) ∧ Int32.toInt (M.1 8 1) ≤ 7 := pvok_r hok 8 1 rfl
    by_cases c11_ : (M.1 8 1) ≤ n1
    · refine pw_eqI (if_pos c11_) ?_
      have d12_ : Int32.toInt (M.1 8 1) ≤ Int32.toInt n1 := (zi_le _ _).mp c11_
      show PW 189 d (8, [some (pvR 0), some (pvI n1), some (pvI n2), none], [pvI 0], M) _
      refine pw_ifn hT (c := 0 = 0) rfl rfl (fun c13_ => absurd (by decide) c13_) (fun c13_ => ?_)
      refine pw_blk hT 1 (S' := (12, [some (pvR 0), some (pvI n1), some (pvI n2), none], [pvI (-1)], M)) rfl ⟨trivial, trivial⟩ ?_
      exact pw_ret hT rfl (r := some (pvI (-1))) (M' := M) ⟨rfl, rfl⟩ ⟨⟨_, rfl, trivial⟩, hok, pvfr_0⟩
    · refine pw_eqI (if_neg c11_) ?_
      have b14_ : 1 ≤ Int32.toInt (M.1 8 1) ∧ Int32.toInt (M.1 8 1) ≤ 7 := zr_nle_l 1 c11_ b10_ b9_ (by decide)
      have b15_ : 0 ≤ Int32.toInt n1 ∧ Int32.toInt n1 ≤ 6 := zr_nle_r 6 c11_ b9_ b14_ (by decide)
      have d16_ : Int32.toInt (M.1 8 1) > Int32.toInt n1 := Int.not_le.mp ((not_congr (zi_le _ _)).mp c11_)
      show PW 189 d (8, [some (pvR 0), some (pvI n1), some (pvI n2), none], [pvI 1], M) _
      refine pw_ifn hT (c := 1 = 0) rfl rfl (fun c17_ => ?_) (fun c17_ => absurd c17_ (by decide))
      refine pw_blkr hT 5 (pc := 22) (lo := [some (pvR 0), some (pvI n1), some (pvI n2), none]) (st := []) (M := M) (z := (pvbs 10 + Int32.toNatClampNeg n1)) rfl ⟨trivial, rfl, rfl, trivial, ⟨rfl, (zr_in (n := 7) b15_ (by decide) (by decide))⟩, trivial⟩ (fun q18_ e20_ => ?_)
      have k19_ : pvkl q18_ = 3 := pvel_10 (zr_in (n := 7) b15_ (by decide) (by decide)) e20_
      refine pw_blk hT 2 (S' := (24, [some (pvR 0), some (pvI n1), some (pvI n2), some (pvR q18_)], [pvI n2], M)) rfl ⟨trivial, trivial, trivial⟩ ?_
      refine pw_sw hT rfl rfl ?_
      refine And.intro (fun c21_ => ?_) (fun c21_ => ?_)
      · show PW 189 d (72, [some (pvR 0), some (pvI n1), some (pvI n2), some (pvR q18_)], [], M) _
        have b22_ : 0 ≤ Int32.toInt n2 ∧ Int32.toInt n2 ≤ 0 := (by have u0 := (zbnd n2); have u1 := (zi_eq _ _).mp c21_; have u2 := (show 0 ≤ Int32.toInt 0 ∧ Int32.toInt 0 ≤ 0 from (by decide)); omega)
        have b23_ : 0 ≤ Int32.toInt (M.1 q18_ 0) ∧ Int32.toInt (M.1 q18_ 0) ≤ 6 := pvok_r hok q18_ 0 ((pvrg_o 0 k19_ (by decide) (by decide)).trans rfl)
        refine pw_blk hT 2 (S' := (76, [some (pvR 0), some (pvI n1), some (pvI n2), some (pvR q18_)], [pvI (M.1 q18_ 0)], M)) rfl ⟨trivial, k19_, trivial⟩ ?_
        exact pw_ret hT rfl (r := some (pvI (M.1 q18_ 0))) (M' := M) ⟨rfl, rfl⟩ ⟨⟨_, rfl, trivial⟩, hok, pvfr_0⟩
      · refine And.intro (fun c24_ => ?_) (fun c24_ => ?_)
        · show PW 189 d (77, [some (pvR 0), some (pvI n1), some (pvI n2), some (pvR q18_)], [], M) _
          have b25_ : 1 ≤ Int32.toInt n2 ∧ Int32.toInt n2 ≤ 1 := (by have u0 := (zbnd n2); have u1 := (zi_eq _ _).mp c24_; have u2 := (show 1 ≤ Int32.toInt 1 ∧ Int32.toInt 1 ≤ 1 from (by decide)); omega)
          have b26_ : 0 ≤ Int32.toInt (M.1 q18_ 1) ∧ Int32.toInt (M.1 q18_ 1) ≤ 9 := pvok_r hok q18_ 1 ((pvrg_o 1 k19_ (by decide) (by decide)).trans rfl)
          refine pw_blk hT 2 (S' := (81, [some (pvR 0), some (pvI n1), some (pvI n2), some (pvR q18_)], [pvI (M.1 q18_ 1)], M)) rfl ⟨trivial, k19_, trivial⟩ ?_
          exact pw_ret hT rfl (r := some (pvI (M.1 q18_ 1))) (M' := M) ⟨rfl, rfl⟩ ⟨⟨_, rfl, trivial⟩, hok, pvfr_0⟩
        · refine And.intro (fun c27_ => ?_) (fun c27_ => ?_)
          · show PW 189 d (82, [some (pvR 0), some (pvI n1), some (pvI n2), some (pvR q18_)], [], M) _
            have b28_ : 2 ≤ Int32.toInt n2 ∧ Int32.toInt n2 ≤ 2 := (by have u0 := (zbnd n2); have u1 := (zi_eq _ _).mp c27_; have u2 := (show 2 ≤ Int32.toInt 2 ∧ Int32.toInt 2 ≤ 2 from (by decide)); omega)
            have b29_ : 0 ≤ Int32.toInt (M.1 q18_ 2) ∧ Int32.toInt (M.1 q18_ 2) ≤ 3 := pvok_r hok q18_ 2 ((pvrg_o 2 k19_ (by decide) (by decide)).trans rfl)
            refine pw_blk hT 2 (S' := (86, [some (pvR 0), some (pvI n1), some (pvI n2), some (pvR q18_)], [pvI (M.1 q18_ 2)], M)) rfl ⟨trivial, k19_, trivial⟩ ?_
            exact pw_ret hT rfl (r := some (pvI (M.1 q18_ 2))) (M' := M) ⟨rfl, rfl⟩ ⟨⟨_, rfl, trivial⟩, hok, pvfr_0⟩
          · refine And.intro (fun c30_ => ?_) (fun c30_ => ?_)
            · show PW 189 d (87, [some (pvR 0), some (pvI n1), some (pvI n2), some (pvR q18_)], [], M) _
              have b31_ : 3 ≤ Int32.toInt n2 ∧ Int32.toInt n2 ≤ 3 := (by have u0 := (zbnd n2); have u1 := (zi_eq _ _).mp c30_; have u2 := (show 3 ≤ Int32.toInt 3 ∧ Int32.toInt 3 ≤ 3 from (by decide)); omega)
              have b32_ : 0 ≤ Int32.toInt (M.1 q18_ 3) ∧ Int32.toInt (M.1 q18_ 3) ≤ 4 := pvok_r hok q18_ 3 ((pvrg_o 3 k19_ (by decide) (by decide)).trans rfl)
              refine pw_blk hT 2 (S' := (91, [some (pvR 0), some (pvI n1), some (pvI n2), some (pvR q18_)], [pvI (M.1 q18_ 3)], M)) rfl ⟨trivial, k19_, trivial⟩ ?_
              exact pw_ret hT rfl (r := some (pvI (M.1 q18_ 3))) (M' := M) ⟨rfl, rfl⟩ ⟨⟨_, rfl, trivial⟩, hok, pvfr_0⟩
            · refine And.intro (fun c33_ => ?_) (fun c33_ => ?_)
              · show PW 189 d (92, [some (pvR 0), some (pvI n1), some (pvI n2), some (pvR q18_)], [], M) _
                have b34_ : 4 ≤ Int32.toInt n2 ∧ Int32.toInt n2 ≤ 4 := (by have u0 := (zbnd n2); have u1 := (zi_eq _ _).mp c33_; have u2 := (show 4 ≤ Int32.toInt 4 ∧ Int32.toInt 4 ≤ 4 from (by decide)); omega)
                have b35_ : 0 ≤ Int32.toInt (M.1 q18_ 4) ∧ Int32.toInt (M.1 q18_ 4) ≤ 9 := pvok_r hok q18_ 4 ((pvrg_o 4 k19_ (by decide) (by decide)).trans rfl)
                refine pw_blk hT 2 (S' := (96, [some (pvR 0), some (pvI n1), some (pvI n2), some (pvR q18_)], [pvI (M.1 q18_ 4)], M)) rfl ⟨trivial, k19_, trivial⟩ ?_
                exact pw_ret hT rfl (r := some (pvI (M.1 q18_ 4))) (M' := M) ⟨rfl, rfl⟩ ⟨⟨_, rfl, trivial⟩, hok, pvfr_0⟩
              · refine And.intro (fun c36_ => ?_) (fun c36_ => ?_)
                · show PW 189 d (97, [some (pvR 0), some (pvI n1), some (pvI n2), some (pvR q18_)], [], M) _
                  have b37_ : 5 ≤ Int32.toInt n2 ∧ Int32.toInt n2 ≤ 5 := (by have u0 := (zbnd n2); have u1 := (zi_eq _ _).mp c36_; have u2 := (show 5 ≤ Int32.toInt 5 ∧ Int32.toInt 5 ≤ 5 from (by decide)); omega)
                  have b38_ : 0 ≤ Int32.toInt (M.1 q18_ 5) ∧ Int32.toInt (M.1 q18_ 5) ≤ 1 := pvok_r hok q18_ 5 ((pvrg_o 5 k19_ (by decide) (by decide)).trans rfl)
                  refine pw_blk hT 2 (S' := (101, [some (pvR 0), some (pvI n1), some (pvI n2), some (pvR q18_)], [pvI (M.1 q18_ 5)], M)) rfl ⟨trivial, k19_, trivial⟩ ?_
                  refine pw_if hT (c := (M.1 q18_ 5) = 0) rfl rfl (fun c39_ => ?_) (fun c39_ => ?_)
                  · have b40_ : 0 ≤ Int32.toInt (M.1 q18_ 5) ∧ Int32.toInt (M.1 q18_ 5) ≤ 0 := (by have u0 := b38_; have u1 := (zi_eq _ _).mp c39_; have u2 := (show 0 ≤ Int32.toInt 0 ∧ Int32.toInt 0 ≤ 0 from (by decide)); omega)
                    refine pw_blk hT 1 (S' := (109, [some (pvR 0), some (pvI n1), some (pvI n2), some (pvR q18_)], [pvI 0], M)) rfl ⟨trivial, trivial⟩ ?_
                    exact pw_ret hT rfl (r := some (pvI 0)) (M' := M) ⟨rfl, rfl⟩ ⟨⟨_, rfl, trivial⟩, hok, pvfr_0⟩
                  · have b41_ : 1 ≤ Int32.toInt (M.1 q18_ 5) ∧ Int32.toInt (M.1 q18_ 5) ≤ 1 := (by have u0 := b38_; have u1 := (not_congr (zi_eq _ _)).mp c39_; have u2 := (show 0 ≤ Int32.toInt 0 ∧ Int32.toInt 0 ≤ 0 from (by decide)); omega)
                    refine pw_blk hT 2 (S' := (109, [some (pvR 0), some (pvI n1), some (pvI n2), some (pvR q18_)], [pvI 1], M)) rfl ⟨trivial, trivial, trivial⟩ ?_
                    exact pw_ret hT rfl (r := some (pvI 1)) (M' := M) ⟨rfl, rfl⟩ ⟨⟨_, rfl, trivial⟩, hok, pvfr_0⟩
                · refine And.intro (fun c42_ => ?_) (fun c42_ => ?_)
                  · show PW 189 d (110, [some (pvR 0), some (pvI n1), some (pvI n2), some (pvR q18_)], [], M) _
                    have b43_ : 6 ≤ Int32.toInt n2 ∧ Int32.toInt n2 ≤ 6 := (by have u0 := (zbnd n2); have u1 := (zi_eq _ _).mp c42_; have u2 := (show 6 ≤ Int32.toInt 6 ∧ Int32.toInt 6 ≤ 6 from (by decide)); omega)
                    have b44_ : 0 ≤ Int32.toInt (M.1 8 6) ∧ Int32.toInt (M.1 8 6) ≤ 3 := pvok_r hok 8 6 rfl
                    have b45_ : 0 ≤ Int32.toInt (M.1 8 7) ∧ Int32.toInt (M.1 8 7) ≤ 4 := pvok_r hok 8 7 rfl
                    have b46_ : 15 ≤ Int32.toInt (M.1 8 8) ∧ Int32.toInt (M.1 8 8) ≤ 23 := pvok_r hok 8 8 rfl
                    refine pw_blkr hT 10 (pc := 132) (lo := [some (pvR 0), some (pvI n1), some (pvI n2), some (pvR q18_)]) (st := [pvI (M.1 8 7), pvI (M.1 8 6), pvR q18_]) (M := M) (z := (pvhp (M.1 8 8))) rfl ⟨trivial, trivial, rfl, rfl, trivial, rfl, rfl, trivial, rfl, rfl, trivial⟩ (fun q47_ e49_ => ?_)
                    have k48_ : pvkl q47_ = 2 := pvhp_k b46_ e49_
                    have b50_ : 0 ≤ Int32.toInt (M.1 q47_ 0) ∧ Int32.toInt (M.1 q47_ 0) ≤ 99 := pvok_r hok q47_ 0 ((pvrg_o 0 k48_ (by decide) (by decide)).trans rfl)
                    refine pw_blk hT 1 (S' := (135, [some (pvR 0), some (pvI n1), some (pvI n2), some (pvR q18_)], [pvI (M.1 q47_ 0), pvI (M.1 8 7), pvI (M.1 8 6), pvR q18_], M)) rfl ⟨k48_, trivial⟩ ?_
                    refine pw_callGp hT (as := [pvR q18_, pvI (M.1 8 6), pvI (M.1 8 7), pvI (M.1 q47_ 0)]) (lo1 := [some (pvR q18_), some (pvI (M.1 8 6)), some (pvI (M.1 8 7)), some (pvI (M.1 q47_ 0))]) (d1 := d) (rest := []) rfl rfl rfl rfl rfl (fun _ => k19_) (Nat.zero_le _) rfl rfl rfl (sf_X4_wayFrom_x_x_x_x M hok q18_ (M.1 8 6) (M.1 8 7) (M.1 q47_ 0) k19_ b44_ b45_ b50_ d) (fun x51_ b53_ => ?_)
                    exact pw_ret hT rfl (r := some (pvI x51_)) (M' := M) ⟨rfl, rfl⟩ ⟨⟨_, rfl, trivial⟩, hok, pvfr_0⟩
                  · refine And.intro (fun c56_ => ?_) (fun c56_ => ?_)
                    · show PW 189 d (139, [some (pvR 0), some (pvI n1), some (pvI n2), some (pvR q18_)], [], M) _
                      have b57_ : 7 ≤ Int32.toInt n2 ∧ Int32.toInt n2 ≤ 7 := (by have u0 := (zbnd n2); have u1 := (zi_eq _ _).mp c56_; have u2 := (show 7 ≤ Int32.toInt 7 ∧ Int32.toInt 7 ≤ 7 from (by decide)); omega)
                      refine pw_blk hT 2 (S' := (143, [some (pvR 0), some (pvI n1), some (pvI n2), some (pvR q18_)], [pvR 5], M)) rfl ⟨trivial, rfl, trivial⟩ ?_
                      refine pw_callV hT (as := [pvR 5]) (lo1 := [some (pvR 5)]) (d1 := d) (rest := []) rfl rfl rfl rfl rfl (fun _ => rfl) (Nat.zero_le _) rfl rfl rfl (sf_X1_beginFromNow_5 M hok d) (fun M59_ o61_ g62_ => ?_)
                      have f63_ : pvFr fp_X9_of_0_x_x M M59_ := pvfr_t g62_ pvfr_0 fp_X9_of_0_x_x_fp_X1_beginFromNow_5
                      have b64_ : 0 ≤ Int32.toInt (M59_.1 8 4) ∧ Int32.toInt (M59_.1 8 4) ≤ 9999 := pvok_r o61_ 8 4 rfl
                      obtain ⟨q66_, b65_⟩ : (Int32.toInt ((M59_.1 8 4) + 1) = Int32.toInt (M59_.1 8 4) + Int32.toInt 1) ∧ (1 ≤ Int32.toInt ((M59_.1 8 4) + 1) ∧ Int32.toInt ((M59_.1 8 4) + 1) ≤ 10000) := zadd_r (M59_.1 8 4) 1 1 10000 b64_ (show 1 ≤ Int32.toInt 1 ∧ Int32.toInt 1 ≤ 1 from (by decide)) (by decide) (by decide) (by decide) (by decide)
                      have u67_ : Int32.toInt 1 = 1 := by decide
                      refine pw_blk hT 11 (S' := (167, [some (pvR 0), some (pvI n1), some (pvI n2), some (pvR q18_)], [pvI ((M59_.1 8 4) + 1), pvI (M59_.1 8 4), pvI n1, pvR 5], M59_)) rfl ⟨trivial, rfl, trivial, trivial, rfl, rfl, trivial, rfl, rfl, trivial, trivial, trivial⟩ ?_
                      refine pw_callGp hT (as := [pvR 5, pvI n1, pvI (M59_.1 8 4), pvI ((M59_.1 8 4) + 1)]) (lo1 := [some (pvR 5), some (pvI n1), some (pvI (M59_.1 8 4)), some (pvI ((M59_.1 8 4) + 1)), none, none, none, none]) (d1 := d) (rest := []) rfl rfl rfl rfl rfl (fun _ => rfl) (Nat.zero_le _) rfl rfl rfl (sf_X1_harmOf_5_x_x_x M59_ o61_ n1 (M59_.1 8 4) ((M59_.1 8 4) + 1) b15_ (zr_wide b64_ (by decide) (by decide)) (zr_wide b65_ (by decide) (by decide)) d) (fun x68_ b70_ => ?_)
                      exact pw_ret hT rfl (r := some (pvI x68_)) (M' := M59_) ⟨rfl, rfl⟩ ⟨⟨_, rfl, trivial⟩, o61_, f63_⟩
                    · show PW 189 d (171, [some (pvR 0), some (pvI n1), some (pvI n2), some (pvR q18_)], [], M) _
                      refine pw_blk hT 1 (S' := (172, [some (pvR 0), some (pvI n1), some (pvI n2), some (pvR q18_)], [pvI (-1)], M)) rfl ⟨trivial, trivial⟩ ?_
                      exact pw_ret hT rfl (r := some (pvI (-1))) (M' := M) ⟨rfl, rfl⟩ ⟨⟨_, rfl, trivial⟩, hok, pvfr_0⟩
set_option maxHeartbeats 4000000 in
set_option maxRecDepth 10000 in
theorem sf_X9_wetMore_0_x (M : pvM) (hok : pvOk M) (n1 : Int32) (hn1 : 0 ≤ Int32.toInt n1 ∧ Int32.toInt n1 ≤ 9999) (d : Nat) : PW 209 d (0, [some (pvR 0), some (pvI n1), none], [], M) (fun r X => (∃ x : Int32, r = some (pvI x) ∧ (0 ≤ Int32.toInt x ∧ Int32.toInt x ≤ 999999) ∧ Int32.toInt x + Int32.toInt (M.1 8 5) ≤ 999999) ∧ X = M) := by
  have hT : pvdom 209 = pvD_209 := rfl
  have b1_ : 0 ≤ Int32.toInt (M.1 8 4) ∧ Int32.toInt (M.1 8 4) ≤ 9999 := pvok_r hok 8 4 rfl
  obtain ⟨q3_, b2_⟩ : (Int32.toInt ((M.1 8 4) + n1) = Int32.toInt (M.1 8 4) + Int32.toInt n1) ∧ (0 ≤ Int32.toInt ((M.1 8 4) + n1) ∧ Int32.toInt ((M.1 8 4) + n1) ≤ 19998) := zadd_r (M.1 8 4) n1 0 19998 b1_ hn1 (by decide) (by decide) (by decide) (by decide)
  refine pw_blk hT 10 (S' := (20, [some (pvR 0), some (pvI n1), none], [pvI ((M.1 8 4) + n1), pvI (M.1 8 4), pvR 5], M)) rfl ⟨trivial, rfl, trivial, rfl, rfl, trivial, rfl, rfl, trivial, trivial, trivial⟩ ?_
  refine pw_callGp hT (as := [pvR 5, pvI (M.1 8 4), pvI ((M.1 8 4) + n1)]) (lo1 := [some (pvR 5), some (pvI (M.1 8 4)), some (pvI ((M.1 8 4) + n1)), none, none]) (d1 := d) (rest := []) rfl rfl rfl rfl rfl (fun _ => rfl) (Nat.zero_le _) rfl rfl rfl (sf_X1_harmOfAll_5_x_x M hok (M.1 8 4) ((M.1 8 4) + n1) (zr_wide b1_ (by decide) (by decide)) (zr_wide b2_ (by decide) (by decide)) d) (fun x4_ b6_ => ?_)
  have b9_ : 0 ≤ Int32.toInt (M.1 8 5) ∧ Int32.toInt (M.1 8 5) ≤ 999999 := pvok_r hok 8 5 rfl
  obtain ⟨q11_, b10_⟩ : (Int32.toInt (999999 - (M.1 8 5)) = Int32.toInt 999999 - Int32.toInt (M.1 8 5)) ∧ (0 ≤ Int32.toInt (999999 - (M.1 8 5)) ∧ Int32.toInt (999999 - (M.1 8 5)) ≤ 999999) := zsub_r 999999 (M.1 8 5) 0 999999 (show 999999 ≤ Int32.toInt 999999 ∧ Int32.toInt 999999 ≤ 999999 from (by decide)) b9_ (by decide) (by decide) (by decide) (by decide)
  have u12_ : Int32.toInt 999999 = 999999 := by decide
  have q13_ : Int32.toInt (if (999999 - (M.1 8 5)) < x4_ then (999999 - (M.1 8 5)) else x4_) = min (Int32.toInt x4_) (Int32.toInt (999999 - (M.1 8 5))) := pvmin x4_ (999999 - (M.1 8 5))
  have b14_ : 0 ≤ Int32.toInt (if (999999 - (M.1 8 5)) < x4_ then (999999 - (M.1 8 5)) else x4_) ∧ Int32.toInt (if (999999 - (M.1 8 5)) < x4_ then (999999 - (M.1 8 5)) else x4_) ≤ 999999 := (by have u0 := b6_; have u1 := b10_; omega)
  refine pw_blk hT 8 (S' := (39, [some (pvR 0), some (pvI n1), some (pvI x4_)], [pvI (if (999999 - (M.1 8 5)) < x4_ then (999999 - (M.1 8 5)) else x4_)], M)) rfl ⟨trivial, trivial, trivial, trivial, rfl, rfl, trivial, (Nat.le_of_ble_eq_true rfl), trivial⟩ ?_
  exact pw_ret hT rfl (r := some (pvI (if (999999 - (M.1 8 5)) < x4_ then (999999 - (M.1 8 5)) else x4_))) (M' := M) ⟨rfl, rfl⟩ ⟨⟨_, rfl, b14_, (by omega)⟩, rfl⟩
def fpL_X9_on_0_x : List (Nat × Nat × Nat) := [(0, 12, 0), (0, 13, 0), (0, 14, 0), (0, 5, 2), (0, 5, 3), (1, 112, 0)]
def fp_X9_on_0_x (q k : Nat) : Bool := pvfp fpL_X9_on_0_x q k
theorem fp_X9_on_0_x_fp_X1_beginFromNow_5 (a b : Nat) (h : fp_X1_beginFromNow_5 a b = true) : fp_X9_on_0_x a b = true := pvfp_sub (l1 := fpL_X1_beginFromNow_5) (l2 := fpL_X9_on_0_x) (by decide) a b h
set_option maxHeartbeats 4000000 in
set_option maxRecDepth 10000 in
theorem sf_X9_on_0_x (M : pvM) (hok : pvOk M) (n1 : Int32) (d : Nat) : PW 190 d (0, [some (pvR 0), some (pvI n1)], [], M) (fun r X => (∃ x : Int32, r = some (pvI x) ∧ (-2) ≤ Int32.toInt x ∧ Int32.toInt x ≤ 999999) ∧ pvOk X ∧ pvFr fp_X9_on_0_x M X) := by
  have hT : pvdom 190 = pvD_190 := rfl
  refine pw_blk hT 3 (S' := (4, [some (pvR 0), some (pvI n1)], [pvI 99, pvI 0, pvI n1], M)) rfl ⟨trivial, trivial, trivial, trivial⟩ ?_
  refine pw_callT hT (as := [pvI n1, pvI 0, pvI 99]) (lo1 := [some (pvI n1), some (pvI 0), some (pvI 99)]) (d1 := d) (rest := []) rfl rfl rfl rfl rfl (fun h => absurd h (by decide)) (Nat.zero_le _) rfl rfl rfl (sf_X9_within_x_x_x M hok n1 0 99 d) ?_
  by_cases c6_ : n1 < 0
  · refine pw_eqI (if_pos c6_) ?_
    have b7_ : (-2147483648) ≤ Int32.toInt n1 ∧ Int32.toInt n1 ≤ (-1) := zr_lt_l (-1) c6_ (zbnd n1) (show 0 ≤ Int32.toInt 0 ∧ Int32.toInt 0 ≤ 0 from (by decide)) (by decide)
    show PW 190 d (7, [some (pvR 0), some (pvI n1)], [pvI 0], M) _
    refine pw_ifn hT (c := 0 = 0) rfl rfl (fun c8_ => absurd (by decide) c8_) (fun c8_ => ?_)
    refine pw_blk hT 1 (S' := (12, [some (pvR 0), some (pvI n1)], [pvI (-2)], M)) rfl ⟨trivial, trivial⟩ ?_
    exact pw_ret hT rfl (r := some (pvI (-2))) (M' := M) ⟨rfl, rfl⟩ ⟨⟨_, rfl, (zr_wide (show (-2) ≤ Int32.toInt (-2) ∧ Int32.toInt (-2) ≤ (-2) from (by decide)) (by decide) (by decide))⟩, hok, pvfr_0⟩
  · refine pw_eqI (if_neg c6_) ?_
    have b9_ : 0 ≤ Int32.toInt n1 ∧ Int32.toInt n1 ≤ 2147483647 := zr_nlt_l 0 c6_ (zbnd n1) (show 0 ≤ Int32.toInt 0 ∧ Int32.toInt 0 ≤ 0 from (by decide)) (by decide)
    by_cases c10_ : 99 < n1
    · refine pw_eqI (if_pos c10_) ?_
      have b11_ : 100 ≤ Int32.toInt n1 ∧ Int32.toInt n1 ≤ 2147483647 := zr_lt_r 100 c10_ b9_ (show 99 ≤ Int32.toInt 99 ∧ Int32.toInt 99 ≤ 99 from (by decide)) (by decide)
      show PW 190 d (7, [some (pvR 0), some (pvI n1)], [pvI 0], M) _
      refine pw_ifn hT (c := 0 = 0) rfl rfl (fun c12_ => absurd (by decide) c12_) (fun c12_ => ?_)
      refine pw_blk hT 1 (S' := (12, [some (pvR 0), some (pvI n1)], [pvI (-2)], M)) rfl ⟨trivial, trivial⟩ ?_
      exact pw_ret hT rfl (r := some (pvI (-2))) (M' := M) ⟨rfl, rfl⟩ ⟨⟨_, rfl, (zr_wide (show (-2) ≤ Int32.toInt (-2) ∧ Int32.toInt (-2) ≤ (-2) from (by decide)) (by decide) (by decide))⟩, hok, pvfr_0⟩
    · refine pw_eqI (if_neg c10_) ?_
      have b13_ : 0 ≤ Int32.toInt n1 ∧ Int32.toInt n1 ≤ 99 := zr_nlt_r 99 c10_ b9_ (show 99 ≤ Int32.toInt 99 ∧ Int32.toInt 99 ≤ 99 from (by decide)) (by decide)
      show PW 190 d (7, [some (pvR 0), some (pvI n1)], [pvI 1], M) _
      refine pw_ifn hT (c := 1 = 0) rfl rfl (fun c14_ => ?_) (fun c14_ => absurd c14_ (by decide))
      refine pw_blk hT 2 (S' := (17, [some (pvR 0), some (pvI n1)], [pvR 5], M)) rfl ⟨trivial, rfl, trivial⟩ ?_
      refine pw_callV hT (as := [pvR 5]) (lo1 := [some (pvR 5)]) (d1 := d) (rest := []) rfl rfl rfl rfl rfl (fun _ => rfl) (Nat.zero_le _) rfl rfl rfl (sf_X1_beginFromNow_5 M hok d) (fun M16_ o18_ g19_ => ?_)
      have f20_ : pvFr fp_X9_on_0_x M M16_ := pvfr_t g19_ pvfr_0 fp_X9_on_0_x_fp_X1_beginFromNow_5
      refine pw_blk hT 2 (S' := (22, [some (pvR 0), some (pvI n1)], [pvI n1, pvR 0], M16_)) rfl ⟨trivial, trivial, trivial⟩ ?_
      refine pw_callGp hT (as := [pvR 0, pvI n1]) (lo1 := [some (pvR 0), some (pvI n1), none]) (d1 := d) (rest := []) rfl rfl rfl rfl rfl (fun _ => rfl) (Nat.zero_le _) rfl rfl rfl (sf_X9_wetMore_0_x M16_ o18_ n1 (zr_wide b13_ (by decide) (by decide)) d) (fun x21_ b23_ => ?_)
      obtain ⟨b26_, d27_⟩ := b23_
      exact pw_ret hT rfl (r := some (pvI x21_)) (M' := M16_) ⟨rfl, rfl⟩ ⟨⟨_, rfl, (zr_wide b26_ (by decide) (by decide))⟩, o18_, f20_⟩
def fpL_X9_go_0_x : List (Nat × Nat × Nat) := [(0, 8, 5), (0, 8, 6)]
def fp_X9_go_0_x (q k : Nat) : Bool := pvfp fpL_X9_go_0_x q k
set_option maxHeartbeats 4000000 in
set_option maxRecDepth 10000 in
theorem sf_X9_go_0_x (M : pvM) (hok : pvOk M) (n1 : Int32) (hn1 : 0 ≤ Int32.toInt n1 ∧ Int32.toInt n1 ≤ 9999) (hx0 : Int32.toInt (M.1 8 4) + Int32.toInt n1 ≤ 9999) (d : Nat) : PW 175 d (0, [some (pvR 0), some (pvI n1), none], [], M) (fun r X => (∃ x : Int32, r = some (pvI x) ∧ 0 ≤ Int32.toInt x ∧ Int32.toInt x ≤ 999999) ∧ pvOk X ∧ pvFr fp_X9_go_0_x M X) := by
  have hT : pvdom 175 = pvD_175 := rfl
  have b1_ : 0 ≤ Int32.toInt (M.1 8 4) ∧ Int32.toInt (M.1 8 4) ≤ 9999 := pvok_r hok 8 4 rfl
  have b2_ : 0 ≤ Int32.toInt (M.1 8 5) ∧ Int32.toInt (M.1 8 5) ≤ 999999 := pvok_r hok 8 5 rfl
  refine pw_blk hT 2 (S' := (2, [some (pvR 0), some (pvI n1), none], [pvI n1, pvR 0], M)) rfl ⟨trivial, trivial, trivial⟩ ?_
  refine pw_callGp hT (as := [pvR 0, pvI n1]) (lo1 := [some (pvR 0), some (pvI n1), none]) (d1 := d) (rest := []) rfl rfl rfl rfl rfl (fun _ => rfl) (Nat.zero_le _) rfl rfl rfl (sf_X9_wetMore_0_x M hok n1 hn1 d) (fun x3_ b5_ => ?_)
  obtain ⟨b8_, d9_⟩ := b5_
  obtain ⟨q11_, b10_⟩ : (Int32.toInt ((M.1 8 5) + x3_) = Int32.toInt (M.1 8 5) + Int32.toInt x3_) ∧ (0 ≤ Int32.toInt ((M.1 8 5) + x3_) ∧ Int32.toInt ((M.1 8 5) + x3_) ≤ 1999998) := zadd_r (M.1 8 5) x3_ 0 1999998 b2_ b8_ (by decide) (by decide) (by decide) (by decide)
  refine pw_blkw hT 8 (pc := 19) (lo := [some (pvR 0), some (pvI n1), some (pvI x3_)]) (st := []) (M := pvu M 8 5 ((M.1 8 5) + x3_)) rfl ⟨trivial, trivial, rfl, trivial, rfl, trivial, trivial, rfl, trivial⟩ (fun M12_ e13_ => ?_)
  have o14_ : pvOk M12_ := pvok_u2 e13_ hok rfl (by have u0 := b10_; omega)
  have f15_ : pvFr fp_X9_go_0_x M M12_ := pvfr_u e13_ pvfr_0 rfl
  have e16_ : (M12_.1 8 4) = (M.1 8 4) := (pvu_n e13_ 8 4 (Or.inr (by decide)))
  have b17_ : 0 ≤ Int32.toInt (M12_.1 8 4) ∧ Int32.toInt (M12_.1 8 4) ≤ 9999 := (by rw [e16_]; exact b1_)
  have d18_ : Int32.toInt (M12_.1 8 4) = Int32.toInt (M.1 8 4) := congrArg Int32.toInt e16_
  obtain ⟨q20_, b19_⟩ : (Int32.toInt ((M12_.1 8 4) + n1) = Int32.toInt (M12_.1 8 4) + Int32.toInt n1) ∧ (0 ≤ Int32.toInt ((M12_.1 8 4) + n1) ∧ Int32.toInt ((M12_.1 8 4) + n1) ≤ 19998) := zadd_r (M12_.1 8 4) n1 0 19998 b17_ hn1 (by decide) (by decide) (by decide) (by decide)
  refine pw_blkw hT 7 (pc := 32) (lo := [some (pvR 0), some (pvI n1), some (pvI x3_)]) (st := []) (M := pvu M12_ 8 4 ((M12_.1 8 4) + n1)) rfl ⟨trivial, rfl, trivial, rfl, trivial, trivial, rfl, trivial⟩ (fun M21_ e22_ => ?_)
  have o23_ : pvOk M21_ := pvok_u2 e22_ o14_ rfl (by have u0 := b19_; omega)
  have f24_ : pvFr fp_X9_go_0_x M M21_ := pvfr_u e22_ f15_ rfl
  refine pw_blk hT 1 (S' := (33, [some (pvR 0), some (pvI n1), some (pvI x3_)], [pvI x3_], M21_)) rfl ⟨trivial, trivial⟩ ?_
  exact pw_ret hT rfl (r := some (pvI x3_)) (M' := M21_) ⟨rfl, rfl⟩ ⟨⟨_, rfl, b8_⟩, o23_, f24_⟩
def fpL_X9_pass_0_x : List (Nat × Nat × Nat) := [(0, 12, 0), (0, 13, 0), (0, 14, 0), (0, 5, 2), (0, 5, 3), (0, 8, 5), (0, 8, 6), (1, 112, 0)]
def fp_X9_pass_0_x (q k : Nat) : Bool := pvfp fpL_X9_pass_0_x q k
theorem fp_X9_pass_0_x_fp_X1_beginFromNow_5 (a b : Nat) (h : fp_X1_beginFromNow_5 a b = true) : fp_X9_pass_0_x a b = true := pvfp_sub (l1 := fpL_X1_beginFromNow_5) (l2 := fpL_X9_pass_0_x) (by decide) a b h
theorem fp_X9_pass_0_x_fp_X9_go_0_x (a b : Nat) (h : fp_X9_go_0_x a b = true) : fp_X9_pass_0_x a b = true := pvfp_sub (l1 := fpL_X9_go_0_x) (l2 := fpL_X9_pass_0_x) (by decide) a b h
set_option maxHeartbeats 4000000 in
set_option maxRecDepth 10000 in
theorem sf_X9_pass_0_x (M : pvM) (hok : pvOk M) (n1 : Int32) (d : Nat) : PW 192 d (0, [some (pvR 0), some (pvI n1)], [], M) (fun r X => (∃ x : Int32, r = some (pvI x) ∧ (-3) ≤ Int32.toInt x ∧ Int32.toInt x ≤ 999999) ∧ pvOk X ∧ pvFr fp_X9_pass_0_x M X) := by
  have hT : pvdom 192 = pvD_192 := rfl
  refine pw_blk hT 3 (S' := (4, [some (pvR 0), some (pvI n1)], [pvI 99, pvI 0, pvI n1], M)) rfl ⟨trivial, trivial, trivial, trivial⟩ ?_
  refine pw_callT hT (as := [pvI n1, pvI 0, pvI 99]) (lo1 := [some (pvI n1), some (pvI 0), some (pvI 99)]) (d1 := d) (rest := []) rfl rfl rfl rfl rfl (fun h => absurd h (by decide)) (Nat.zero_le _) rfl rfl rfl (sf_X9_within_x_x_x M hok n1 0 99 d) ?_
  by_cases c6_ : n1 < 0
  · refine pw_eqI (if_pos c6_) ?_
    have b7_ : (-2147483648) ≤ Int32.toInt n1 ∧ Int32.toInt n1 ≤ (-1) := zr_lt_l (-1) c6_ (zbnd n1) (show 0 ≤ Int32.toInt 0 ∧ Int32.toInt 0 ≤ 0 from (by decide)) (by decide)
    show PW 192 d (7, [some (pvR 0), some (pvI n1)], [pvI 0], M) _
    refine pw_ifn hT (c := 0 = 0) rfl rfl (fun c8_ => absurd (by decide) c8_) (fun c8_ => ?_)
    refine pw_blk hT 1 (S' := (12, [some (pvR 0), some (pvI n1)], [pvI (-2)], M)) rfl ⟨trivial, trivial⟩ ?_
    exact pw_ret hT rfl (r := some (pvI (-2))) (M' := M) ⟨rfl, rfl⟩ ⟨⟨_, rfl, (zr_wide (show (-2) ≤ Int32.toInt (-2) ∧ Int32.toInt (-2) ≤ (-2) from (by decide)) (by decide) (by decide))⟩, hok, pvfr_0⟩
  · refine pw_eqI (if_neg c6_) ?_
    have b9_ : 0 ≤ Int32.toInt n1 ∧ Int32.toInt n1 ≤ 2147483647 := zr_nlt_l 0 c6_ (zbnd n1) (show 0 ≤ Int32.toInt 0 ∧ Int32.toInt 0 ≤ 0 from (by decide)) (by decide)
    by_cases c10_ : 99 < n1
    · refine pw_eqI (if_pos c10_) ?_
      have b11_ : 100 ≤ Int32.toInt n1 ∧ Int32.toInt n1 ≤ 2147483647 := zr_lt_r 100 c10_ b9_ (show 99 ≤ Int32.toInt 99 ∧ Int32.toInt 99 ≤ 99 from (by decide)) (by decide)
      show PW 192 d (7, [some (pvR 0), some (pvI n1)], [pvI 0], M) _
      refine pw_ifn hT (c := 0 = 0) rfl rfl (fun c12_ => absurd (by decide) c12_) (fun c12_ => ?_)
      refine pw_blk hT 1 (S' := (12, [some (pvR 0), some (pvI n1)], [pvI (-2)], M)) rfl ⟨trivial, trivial⟩ ?_
      exact pw_ret hT rfl (r := some (pvI (-2))) (M' := M) ⟨rfl, rfl⟩ ⟨⟨_, rfl, (zr_wide (show (-2) ≤ Int32.toInt (-2) ∧ Int32.toInt (-2) ≤ (-2) from (by decide)) (by decide) (by decide))⟩, hok, pvfr_0⟩
    · refine pw_eqI (if_neg c10_) ?_
      have b13_ : 0 ≤ Int32.toInt n1 ∧ Int32.toInt n1 ≤ 99 := zr_nlt_r 99 c10_ b9_ (show 99 ≤ Int32.toInt 99 ∧ Int32.toInt 99 ≤ 99 from (by decide)) (by decide)
      show PW 192 d (7, [some (pvR 0), some (pvI n1)], [pvI 1], M) _
      refine pw_ifn hT (c := 1 = 0) rfl rfl (fun c14_ => ?_) (fun c14_ => absurd c14_ (by decide))
      have b15_ : 0 ≤ Int32.toInt (M.1 8 4) ∧ Int32.toInt (M.1 8 4) ≤ 9999 := pvok_r hok 8 4 rfl
      obtain ⟨q17_, b16_⟩ : (Int32.toInt ((M.1 8 4) + n1) = Int32.toInt (M.1 8 4) + Int32.toInt n1) ∧ (0 ≤ Int32.toInt ((M.1 8 4) + n1) ∧ Int32.toInt ((M.1 8 4) + n1) ≤ 10098) := zadd_r (M.1 8 4) n1 0 10098 b15_ b13_ (by decide) (by decide) (by decide) (by decide)
      refine pw_blk hT 6 (S' := (25, [some (pvR 0), some (pvI n1)], [pvI 9999, pvI ((M.1 8 4) + n1)], M)) rfl ⟨trivial, rfl, rfl, trivial, trivial, trivial, trivial⟩ ?_
      refine pw_ic hT (c := ((M.1 8 4) + n1) ≤ 9999) rfl rfl (fun c18_ => ?_) (fun c18_ => ?_)
      · have b19_ : 0 ≤ Int32.toInt ((M.1 8 4) + n1) ∧ Int32.toInt ((M.1 8 4) + n1) ≤ 9999 := zr_le_l 9999 c18_ b16_ (show 9999 ≤ Int32.toInt 9999 ∧ Int32.toInt 9999 ≤ 9999 from (by decide)) (by decide)
        refine pw_blk hT 2 (S' := (35, [some (pvR 0), some (pvI n1)], [pvR 5], M)) rfl ⟨trivial, rfl, trivial⟩ ?_
        refine pw_callV hT (as := [pvR 5]) (lo1 := [some (pvR 5)]) (d1 := d) (rest := []) rfl rfl rfl rfl rfl (fun _ => rfl) (Nat.zero_le _) rfl rfl rfl (sf_X1_beginFromNow_5 M hok d) (fun M21_ o23_ g24_ => ?_)
        have f25_ : pvFr fp_X9_pass_0_x M M21_ := pvfr_t g24_ pvfr_0 fp_X9_pass_0_x_fp_X1_beginFromNow_5
        refine pw_blk hT 2 (S' := (40, [some (pvR 0), some (pvI n1)], [pvI n1, pvR 0], M21_)) rfl ⟨trivial, trivial, trivial⟩ ?_
        refine pw_callG hT (as := [pvR 0, pvI n1]) (lo1 := [some (pvR 0), some (pvI n1), none]) (d1 := d) (rest := []) rfl rfl rfl rfl rfl (fun _ => rfl) (Nat.zero_le _) rfl rfl rfl (sf_X9_go_0_x M21_ o23_ n1 (zr_wide b13_ (by decide) (by decide)) (show Int32.toInt (M21_.1 8 4) + Int32.toInt n1 ≤ 9999 from (by omega)) d) (fun x26_ M27_ b28_ o29_ g30_ => ?_)
        have f31_ : pvFr fp_X9_pass_0_x M M27_ := pvfr_t g30_ f25_ fp_X9_pass_0_x_fp_X9_go_0_x
        exact pw_ret hT rfl (r := some (pvI x26_)) (M' := M27_) ⟨rfl, rfl⟩ ⟨⟨_, rfl, (zr_wide b28_ (by decide) (by decide))⟩, o29_, f31_⟩
      · have b32_ : 10000 ≤ Int32.toInt ((M.1 8 4) + n1) ∧ Int32.toInt ((M.1 8 4) + n1) ≤ 10098 := zr_nle_l 10000 c18_ b16_ (show 9999 ≤ Int32.toInt 9999 ∧ Int32.toInt 9999 ≤ 9999 from (by decide)) (by decide)
        refine pw_blk hT 1 (S' := (30, [some (pvR 0), some (pvI n1)], [pvI (-3)], M)) rfl ⟨trivial, trivial⟩ ?_
        exact pw_ret hT rfl (r := some (pvI (-3))) (M' := M) ⟨rfl, rfl⟩ ⟨⟨_, rfl, (zr_wide (show (-3) ≤ Int32.toInt (-3) ∧ Int32.toInt (-3) ≤ (-3) from (by decide)) (by decide) (by decide))⟩, hok, pvfr_0⟩
