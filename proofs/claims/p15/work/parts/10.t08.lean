def fpL_X10_late_124_x : List (Nat × Nat × Nat) := [(0, 124, 33), (0, 124, 36), (0, 141, 0), (0, 142, 0), (0, 143, 0), (0, 144, 0)]
def fp_X10_late_124_x (q k : Nat) : Bool := pvfp fpL_X10_late_124_x q k
theorem fp_X10_late_124_x_fp_X10_costOfPath_124_x (a b : Nat) (h : fp_X10_costOfPath_124_x a b = true) : fp_X10_late_124_x a b = true := pvfp_sub (l1 := fpL_X10_costOfPath_124_x) (l2 := fpL_X10_late_124_x) (by decide) a b h
theorem fp_X10_late_124_x_fp_X10_layRain_124 (a b : Nat) (h : fp_X10_layRain_124 a b = true) : fp_X10_late_124_x a b = true := pvfp_sub (l1 := fpL_X10_layRain_124) (l2 := fpL_X10_late_124_x) (by decide) a b h
theorem fp_X10_late_124_x_fp_X10_layRound_124 (a b : Nat) (h : fp_X10_layRound_124 a b = true) : fp_X10_late_124_x a b = true := pvfp_sub (l1 := fpL_X10_layRound_124) (l2 := fpL_X10_late_124_x) (by decide) a b h
set_option maxHeartbeats 4000000 in
set_option maxRecDepth 10000 in
theorem sf_X10_late_124_x (M : pvM) (hok : pvOk M) (n1 : Int32) (hz : pvWF M) (d : Nat) : PW 47 d (0, [some (pvR 124), some (pvI n1), none], [], M) (fun r X => (∃ x : Int32, r = some (pvI x) ∧ (-5) ≤ Int32.toInt x ∧ Int32.toInt x ≤ 60) ∧ pvOk X ∧ pvFr fp_X10_late_124_x M X) := by
  have hT : pvdom 47 = pvD_47 := rfl
  refine pw_blk hT 2 (S' := (2, [some (pvR 124), some (pvI n1), none], [pvI n1, pvR 124], M)) rfl ⟨trivial, trivial, trivial⟩ ?_
  refine pw_callT hT (as := [pvR 124, pvI n1]) (lo1 := [some (pvR 124), some (pvI n1)]) (d1 := d) (rest := []) rfl rfl rfl rfl rfl (fun _ => rfl) (Nat.zero_le _) rfl rfl rfl (sf_X10_isLimit_124_x M hok n1 d) ?_
  by_cases c6_ : n1 < 0
  · refine pw_eqI (if_pos c6_) ?_
    have b7_ : (-2147483648) ≤ Int32.toInt n1 ∧ Int32.toInt n1 ≤ (-1) := zr_lt_l (-1) c6_ (zbnd n1) (show 0 ≤ Int32.toInt 0 ∧ Int32.toInt 0 ≤ 0 from (by decide)) (by decide)
    show PW 47 d (5, [some (pvR 124), some (pvI n1), none], [pvI 0], M) _
    refine pw_ifn hT (c := 0 = 0) rfl rfl (fun c8_ => absurd (by decide) c8_) (fun c8_ => ?_)
    refine pw_blk hT 1 (S' := (10, [some (pvR 124), some (pvI n1), none], [pvI (-2)], M)) rfl ⟨trivial, trivial⟩ ?_
    exact pw_ret hT rfl (r := some (pvI (-2))) (M' := M) ⟨rfl, rfl⟩ ⟨⟨_, rfl, (zr_wide (show (-2) ≤ Int32.toInt (-2) ∧ Int32.toInt (-2) ≤ (-2) from (by decide)) (by decide) (by decide))⟩, hok, pvfr_0⟩
  · refine pw_eqI (if_neg c6_) ?_
    have b9_ : 0 ≤ Int32.toInt n1 ∧ Int32.toInt n1 ≤ 2147483647 := zr_nlt_l 0 c6_ (zbnd n1) (show 0 ≤ Int32.toInt 0 ∧ Int32.toInt 0 ≤ 0 from (by decide)) (by decide)
    by_cases c10_ : 99999 < n1
    · refine pw_eqI (if_pos c10_) ?_
      have b11_ : 100000 ≤ Int32.toInt n1 ∧ Int32.toInt n1 ≤ 2147483647 := zr_lt_r 100000 c10_ b9_ (show 99999 ≤ Int32.toInt 99999 ∧ Int32.toInt 99999 ≤ 99999 from (by decide)) (by decide)
      show PW 47 d (5, [some (pvR 124), some (pvI n1), none], [pvI 0], M) _
      refine pw_ifn hT (c := 0 = 0) rfl rfl (fun c12_ => absurd (by decide) c12_) (fun c12_ => ?_)
      refine pw_blk hT 1 (S' := (10, [some (pvR 124), some (pvI n1), none], [pvI (-2)], M)) rfl ⟨trivial, trivial⟩ ?_
      exact pw_ret hT rfl (r := some (pvI (-2))) (M' := M) ⟨rfl, rfl⟩ ⟨⟨_, rfl, (zr_wide (show (-2) ≤ Int32.toInt (-2) ∧ Int32.toInt (-2) ≤ (-2) from (by decide)) (by decide) (by decide))⟩, hok, pvfr_0⟩
    · refine pw_eqI (if_neg c10_) ?_
      have b13_ : 0 ≤ Int32.toInt n1 ∧ Int32.toInt n1 ≤ 99999 := zr_nlt_r 99999 c10_ b9_ (show 99999 ≤ Int32.toInt 99999 ∧ Int32.toInt 99999 ≤ 99999 from (by decide)) (by decide)
      show PW 47 d (5, [some (pvR 124), some (pvI n1), none], [pvI 1], M) _
      refine pw_ifn hT (c := 1 = 0) rfl rfl (fun c14_ => ?_) (fun c14_ => absurd c14_ (by decide))
      refine pw_blk hT 1 (S' := (12, [some (pvR 124), some (pvI n1), none], [pvR 124], M)) rfl ⟨trivial, trivial⟩ ?_
      refine pw_callV hT (as := [pvR 124]) (lo1 := [some (pvR 124), none, none]) (d1 := d) (rest := []) rfl rfl rfl rfl rfl (fun _ => rfl) (Nat.zero_le _) rfl rfl rfl (sf_X10_layRain_124 M hok hz d) (fun M16_ o18_ g19_ => ?_)
      have f20_ : pvFr fp_X10_late_124_x M M16_ := pvfr_t g19_ pvfr_0 fp_X10_late_124_x_fp_X10_layRain_124
      refine pw_blk hT 1 (S' := (16, [some (pvR 124), some (pvI n1), none], [pvR 124], M16_)) rfl ⟨trivial, trivial⟩ ?_
      refine pw_callV hT (as := [pvR 124]) (lo1 := [some (pvR 124), none]) (d1 := d) (rest := []) rfl rfl rfl rfl rfl (fun _ => rfl) (Nat.zero_le _) rfl rfl rfl (sf_X10_layRound_124 M16_ o18_ d) (fun M22_ o24_ g25_ => ?_)
      have f26_ : pvFr fp_X10_late_124_x M M22_ := pvfr_t g25_ f20_ fp_X10_late_124_x_fp_X10_layRound_124
      refine pw_blk hT 2 (S' := (22, [some (pvR 124), some (pvI n1), some (pvI 60)], [], M22_)) rfl ⟨trivial, trivial, trivial⟩ ?_
      have hlz93_ : ∀ (nz93_ : Nat) (i2z93_ : Int32) (Mz93_ : pvM), (pvOk Mz93_) → (pvFr fp_X10_late_124_x M Mz93_) → ((-1) ≤ Int32.toInt i2z93_ ∧ Int32.toInt i2z93_ ≤ 60) → (zhide ((Int32.toInt i2z93_ + 2).toNat < nz93_)) → PW 47 d (22, [some (pvR 124), some (pvI n1), some (pvI i2z93_)], [], Mz93_) (fun r X => (∃ x : Int32, r = some (pvI x) ∧ (-5) ≤ Int32.toInt x ∧ Int32.toInt x ≤ 60) ∧ pvOk X ∧ pvFr fp_X10_late_124_x M X) := by
        intro nz93_
        induction nz93_ with
        | zero => intro i2z93_ Mz93_ oz93_ fz93_ h2z93_ hmz93_; exact absurd (zshow hmz93_) (Nat.not_lt_zero _)
        | succ nz93_ ihz93_ =>
          intro i2z93_ Mz93_ oz93_ fz93_ h2z93_ hmz93_
          refine pw_blk hT 1 (S' := (23, [some (pvR 124), some (pvI n1), some (pvI i2z93_)], [pvI i2z93_], Mz93_)) rfl ⟨trivial, trivial⟩ ?_
          refine pw_if hT (c := i2z93_ < 0) rfl rfl (fun c94_ => ?_) (fun c94_ => ?_)
          · have b95_ : (-1) ≤ Int32.toInt i2z93_ ∧ Int32.toInt i2z93_ ≤ (-1) := zr_lt_l (-1) c94_ h2z93_ (show 0 ≤ Int32.toInt 0 ∧ Int32.toInt 0 ≤ 0 from (by decide)) (by decide)
            refine pw_blk hT 1 (S' := (45, [some (pvR 124), some (pvI n1), some (pvI i2z93_)], [pvI (-5)], Mz93_)) rfl ⟨trivial, trivial⟩ ?_
            exact pw_ret hT rfl (r := some (pvI (-5))) (M' := Mz93_) ⟨rfl, rfl⟩ ⟨⟨_, rfl, (zr_wide (show (-5) ≤ Int32.toInt (-5) ∧ Int32.toInt (-5) ≤ (-5) from (by decide)) (by decide) (by decide))⟩, oz93_, fz93_⟩
          · have b96_ : 0 ≤ Int32.toInt i2z93_ ∧ Int32.toInt i2z93_ ≤ 60 := zr_nlt_l 0 c94_ h2z93_ (show 0 ≤ Int32.toInt 0 ∧ Int32.toInt 0 ≤ 0 from (by decide)) (by decide)
            refine pw_blk hT 2 (S' := (28, [some (pvR 124), some (pvI n1), some (pvI i2z93_)], [pvI i2z93_, pvR 124], Mz93_)) rfl ⟨trivial, trivial, trivial⟩ ?_
            refine pw_callG hT (as := [pvR 124, pvI i2z93_]) (lo1 := [some (pvR 124), some (pvI i2z93_), none]) (d1 := d) (rest := []) rfl rfl rfl rfl rfl (fun _ => rfl) (Nat.zero_le _) rfl rfl rfl (sf_X10_costOfPath_124_x Mz93_ oz93_ i2z93_ b96_ d) (fun x97_ M98_ b99_ o100_ g101_ => ?_)
            have f102_ : pvFr fp_X10_late_124_x M M98_ := pvfr_t g101_ fz93_ fp_X10_late_124_x_fp_X10_costOfPath_124_x
            refine pw_blk hT 1 (S' := (32, [some (pvR 124), some (pvI n1), some (pvI i2z93_)], [pvI n1, pvI x97_], M98_)) rfl ⟨trivial, trivial⟩ ?_
            refine pw_ic hT (c := n1 < x97_) rfl rfl (fun c103_ => ?_) (fun c103_ => ?_)
            · have b104_ : 1 ≤ Int32.toInt x97_ ∧ Int32.toInt x97_ ≤ 9000000 := zr_lt_r 1 c103_ b99_ b13_ (by decide)
              have d105_ : Int32.toInt n1 < Int32.toInt x97_ := (zi_lt _ _).mp c103_
              obtain ⟨q107_, b106_⟩ : (Int32.toInt (i2z93_ + (-1)) = Int32.toInt i2z93_ + (-1)) ∧ ((-1) ≤ Int32.toInt (i2z93_ + (-1)) ∧ Int32.toInt (i2z93_ + (-1)) ≤ 59) := zadd_k i2z93_ (-1) (-1) (-1) 59 b96_ (by decide) (by decide) (by decide) (by decide) (by decide)
              refine pw_blk hT 2 (S' := (22, [some (pvR 124), some (pvI n1), some (pvI (i2z93_ + (-1)))], [], M98_)) rfl ⟨trivial, trivial, trivial⟩ ?_
              exact ihz93_ (i2z93_ + (-1)) M98_ o100_ f102_ (zr_wide b106_ (by decide) (by decide)) (zhid (pvms_dn (zshow hmz93_) h2z93_ q107_ (by decide) (by decide)))
            · have b108_ : 0 ≤ Int32.toInt x97_ ∧ Int32.toInt x97_ ≤ 99999 := zr_nlt_r 99999 c103_ b99_ b13_ (by decide)
              have d109_ : Int32.toInt n1 ≥ Int32.toInt x97_ := Int.not_lt.mp ((not_congr (zi_lt _ _)).mp c103_)
              refine pw_blk hT 1 (S' := (36, [some (pvR 124), some (pvI n1), some (pvI i2z93_)], [pvI i2z93_], M98_)) rfl ⟨trivial, trivial⟩ ?_
              exact pw_ret hT rfl (r := some (pvI i2z93_)) (M' := M98_) ⟨rfl, rfl⟩ ⟨⟨_, rfl, (zr_wide b96_ (by decide) (by decide))⟩, o100_, f102_⟩
      exact hlz93_ _ 60 M22_ o24_ f26_ (zr_wide (show 60 ≤ Int32.toInt 60 ∧ Int32.toInt 60 ≤ 60 from (by decide)) (by decide) (by decide)) (zhid (Nat.lt_succ_self _))
def fpL_X10_leave_124 : List (Nat × Nat × Nat) := [(0, 124, 33), (0, 124, 36), (0, 141, 0), (0, 142, 0), (0, 143, 0), (0, 144, 0)]
def fp_X10_leave_124 (q k : Nat) : Bool := pvfp fpL_X10_leave_124 q k
theorem fp_X10_leave_124_fp_X10_costOfPath_124_x (a b : Nat) (h : fp_X10_costOfPath_124_x a b = true) : fp_X10_leave_124 a b = true := pvfp_sub (l1 := fpL_X10_costOfPath_124_x) (l2 := fpL_X10_leave_124) (by decide) a b h
theorem fp_X10_leave_124_fp_X10_costOfRound_124_x (a b : Nat) (h : fp_X10_costOfRound_124_x a b = true) : fp_X10_leave_124 a b = true := pvfp_sub (l1 := fpL_X10_costOfRound_124_x) (l2 := fpL_X10_leave_124) (by decide) a b h
set_option maxHeartbeats 4000000 in
set_option maxRecDepth 10000 in
theorem sf_X10_leave_124 (M : pvM) (hok : pvOk M) (hz : pvWF M) (d : Nat) : PW 52 d (0, [some (pvR 124), none, none, none, none], [], M) (fun r X => (∃ x : Int32, r = some (pvI x) ∧ True) ∧ pvOk X ∧ pvFr fp_X10_leave_124 M X) := by
  have hT : pvdom 52 = pvD_52 := rfl
  refine pw_blk hT 2 (S' := (2, [some (pvR 124), none, none, none, none], [pvI 0, pvR 124], M)) rfl ⟨trivial, trivial, trivial⟩ ?_
  have u1_ : Int32.toInt 0 = 0 := by decide
  refine pw_callG hT (as := [pvR 124, pvI 0]) (lo1 := [some (pvR 124), some (pvI 0)]) (d1 := d) (rest := []) rfl rfl rfl rfl rfl (fun _ => rfl) (Nat.zero_le _) rfl rfl rfl (sf_X10_costOfRound_124_x M hok 0 (zr_wide (show 0 ≤ Int32.toInt 0 ∧ Int32.toInt 0 ≤ 0 from (by decide)) (by decide) (by decide)) hz d) (fun x2_ M3_ b4_ o5_ g6_ => ?_)
  have f7_ : pvFr fp_X10_leave_124 M M3_ := pvfr_t g6_ pvfr_0 fp_X10_leave_124_fp_X10_costOfRound_124_x
  refine pw_blk hT 5 (S' := (10, [some (pvR 124), some (pvI x2_), some (pvI 0), some (pvI 0), none], [], M3_)) rfl ⟨trivial, trivial, trivial, trivial, trivial, trivial⟩ ?_
  have hlz800_ : ∀ (nz800_ : Nat) (i2z800_ : Int32) (i3z800_ : Int32) (v4z800_ : Option pvV) (Mz800_ : pvM), (pvOk Mz800_) → (pvFr fp_X10_leave_124 M Mz800_) → (0 ≤ Int32.toInt i3z800_ ∧ Int32.toInt i3z800_ ≤ 7) → (zhide ((8 - Int32.toInt i3z800_).toNat < nz800_)) → PW 52 d (10, [some (pvR 124), some (pvI x2_), some (pvI i2z800_), some (pvI i3z800_), v4z800_], [], Mz800_) (fun r X => (∃ x : Int32, r = some (pvI x) ∧ True) ∧ pvOk X ∧ pvFr fp_X10_leave_124 M X) := by
    intro nz800_
    induction nz800_ with
    | zero => intro i2z800_ i3z800_ v4z800_ Mz800_ oz800_ fz800_ h3z800_ hmz800_; exact absurd (zshow hmz800_) (Nat.not_lt_zero _)
    | succ nz800_ ihz800_ =>
      intro i2z800_ i3z800_ v4z800_ Mz800_ oz800_ fz800_ h3z800_ hmz800_
      have b801_ : 0 ≤ Int32.toInt (Mz800_.1 124 37) ∧ Int32.toInt (Mz800_.1 124 37) ≤ 7 := pvok_r oz800_ 124 37 rfl
      refine pw_blk hT 3 (S' := (15, [some (pvR 124), some (pvI x2_), some (pvI i2z800_), some (pvI i3z800_), v4z800_], [pvI (Mz800_.1 124 37), pvI i3z800_], Mz800_)) rfl ⟨trivial, trivial, rfl, trivial⟩ ?_
      refine pw_ic hT (c := (Mz800_.1 124 37) ≤ i3z800_) rfl rfl (fun c802_ => ?_) (fun c802_ => ?_)
      · have d803_ : Int32.toInt (Mz800_.1 124 37) ≤ Int32.toInt i3z800_ := (zi_le _ _).mp c802_
        refine pw_blk hT 1 (S' := (107, [some (pvR 124), some (pvI x2_), some (pvI i2z800_), some (pvI i3z800_), v4z800_], [pvI i2z800_], Mz800_)) rfl ⟨trivial, trivial⟩ ?_
        exact pw_ret hT rfl (r := some (pvI i2z800_)) (M' := Mz800_) ⟨rfl, rfl⟩ ⟨⟨_, rfl, trivial⟩, oz800_, fz800_⟩
      · have b804_ : 1 ≤ Int32.toInt (Mz800_.1 124 37) ∧ Int32.toInt (Mz800_.1 124 37) ≤ 7 := zr_nle_l 1 c802_ b801_ h3z800_ (by decide)
        have b805_ : 0 ≤ Int32.toInt i3z800_ ∧ Int32.toInt i3z800_ ≤ 6 := zr_nle_r 6 c802_ h3z800_ b804_ (by decide)
        have d806_ : Int32.toInt (Mz800_.1 124 37) > Int32.toInt i3z800_ := Int.not_le.mp ((not_congr (zi_le _ _)).mp c802_)
        refine pw_blkw hT 3 (pc := 23) (lo := [some (pvR 124), some (pvI x2_), some (pvI i2z800_), some (pvI i3z800_), v4z800_]) (st := []) (M := pvu Mz800_ 124 35 0) rfl ⟨trivial, trivial, rfl, trivial⟩ (fun M807_ e808_ => ?_)
        have o809_ : pvOk M807_ := pvok_u2 e808_ oz800_ rfl (zr_wide (show 0 ≤ Int32.toInt 0 ∧ Int32.toInt 0 ≤ 0 from (by decide)) (by decide) (by decide))
        have f810_ : pvFr fp_X10_leave_124 M M807_ := pvfr_u e808_ fz800_ rfl
        refine pw_blk hT 2 (S' := (26, [some (pvR 124), some (pvI x2_), some (pvI i2z800_), some (pvI i3z800_), some (pvI 0)], [], M807_)) rfl ⟨trivial, trivial, trivial⟩ ?_
        have e811_ : (M807_.1 124 37) = (Mz800_.1 124 37) := (pvu_n e808_ 124 37 (Or.inr (by decide)))
        have b812_ : 1 ≤ Int32.toInt (M807_.1 124 37) ∧ Int32.toInt (M807_.1 124 37) ≤ 7 := (by rw [e811_]; exact b804_)
        have hlz949_ : ∀ (nz949_ : Nat) (i4z949_ : Int32) (Mz949_ : pvM), (pvOk Mz949_) → (pvFr fp_X10_leave_124 M Mz949_) → (Mz949_.1 124 37 = M807_.1 124 37) → (0 ≤ Int32.toInt i4z949_ ∧ Int32.toInt i4z949_ ≤ 7) → (Int32.toInt (Mz949_.1 124 35) ≤ Int32.toInt i4z949_) → (zhide ((8 - Int32.toInt i4z949_).toNat < nz949_)) → PW 52 d (26, [some (pvR 124), some (pvI x2_), some (pvI i2z800_), some (pvI i3z800_), some (pvI i4z949_)], [], Mz949_) (fun r X => (∃ x : Int32, r = some (pvI x) ∧ True) ∧ pvOk X ∧ pvFr fp_X10_leave_124 M X) := by
          intro nz949_
          induction nz949_ with
          | zero => intro i4z949_ Mz949_ oz949_ fz949_ k124_37z949_ h4z949_ j0z949_ hmz949_; exact absurd (zshow hmz949_) (Nat.not_lt_zero _)
          | succ nz949_ ihz949_ =>
            intro i4z949_ Mz949_ oz949_ fz949_ k124_37z949_ h4z949_ j0z949_ hmz949_
            have b950_ : 0 ≤ Int32.toInt (Mz949_.1 124 35) ∧ Int32.toInt (Mz949_.1 124 35) ≤ 7 := pvok_r oz949_ 124 35 rfl
            have e951_ : (Mz949_.1 124 37) = (M807_.1 124 37) := (k124_37z949_)
            have b952_ : 1 ≤ Int32.toInt (Mz949_.1 124 37) ∧ Int32.toInt (Mz949_.1 124 37) ≤ 7 := (by rw [e951_]; exact b812_)
            refine pw_blk hT 3 (S' := (32, [some (pvR 124), some (pvI x2_), some (pvI i2z800_), some (pvI i3z800_), some (pvI i4z949_)], [pvI (Mz949_.1 124 37), pvI i4z949_], Mz949_)) rfl ⟨trivial, trivial, rfl, trivial⟩ ?_
            refine pw_ic hT (c := (Mz949_.1 124 37) ≤ i4z949_) rfl rfl (fun c953_ => ?_) (fun c953_ => ?_)
            · have b954_ : 1 ≤ Int32.toInt i4z949_ ∧ Int32.toInt i4z949_ ≤ 7 := zr_le_r 1 c953_ h4z949_ b952_ (by decide)
              have d955_ : Int32.toInt (Mz949_.1 124 37) ≤ Int32.toInt i4z949_ := (zi_le _ _).mp c953_
              refine pw_blk hT 3 (S' := (79, [some (pvR 124), some (pvI x2_), some (pvI i2z800_), some (pvI i3z800_), some (pvI i4z949_)], [pvI 0, pvR 124, pvI i2z800_], Mz949_)) rfl ⟨trivial, trivial, trivial, trivial⟩ ?_
              refine pw_callG hT (as := [pvR 124, pvI 0]) (lo1 := [some (pvR 124), some (pvI 0), none]) (d1 := d) (rest := [pvI i2z800_]) rfl rfl rfl rfl rfl (fun _ => rfl) (Nat.zero_le _) rfl rfl rfl (sf_X10_costOfPath_124_x Mz949_ oz949_ 0 (zr_wide (show 0 ≤ Int32.toInt 0 ∧ Int32.toInt 0 ≤ 0 from (by decide)) (by decide) (by decide)) d) (fun x956_ M957_ b958_ o959_ g960_ => ?_)
              have f961_ : pvFr fp_X10_leave_124 M M957_ := pvfr_t g960_ fz949_ fp_X10_leave_124_fp_X10_costOfPath_124_x
              refine pw_blk hT 1 (S' := (83, [some (pvR 124), some (pvI x2_), some (pvI i2z800_), some (pvI i3z800_), some (pvI i4z949_)], [pvI x2_, pvI x956_, pvI i2z800_], M957_)) rfl ⟨trivial, trivial⟩ ?_
              refine pw_ic hT (c := x2_ < x956_) rfl rfl (fun c962_ => ?_) (fun c962_ => ?_)
              · have b963_ : 0 ≤ Int32.toInt x2_ ∧ Int32.toInt x2_ ≤ 8999999 := zr_lt_l 8999999 c962_ b4_ b958_ (by decide)
                have b964_ : 1 ≤ Int32.toInt x956_ ∧ Int32.toInt x956_ ≤ 9000000 := zr_lt_r 1 c962_ b958_ b963_ (by decide)
                have d965_ : Int32.toInt x2_ < Int32.toInt x956_ := (zi_lt _ _).mp c962_
                obtain ⟨q967_, b966_⟩ : (Int32.toInt (i3z800_ + 1) = Int32.toInt i3z800_ + 1) ∧ (1 ≤ Int32.toInt (i3z800_ + 1) ∧ Int32.toInt (i3z800_ + 1) ≤ 7) := zadd_k i3z800_ 1 1 1 7 b805_ (by decide) (by decide) (by decide) (by decide) (by decide)
                refine pw_blk hT 5 (S' := (10, [some (pvR 124), some (pvI x2_), some (pvI (i2z800_ ||| 0)), some (pvI (i3z800_ + 1)), some (pvI i4z949_)], [], M957_)) rfl ⟨trivial, trivial, trivial, trivial, trivial, trivial⟩ ?_
                exact ihz800_ (i2z800_ ||| 0) (i3z800_ + 1) (some (pvI i4z949_)) M957_ o959_ f961_ (zr_wide b966_ (by decide) (by decide)) (zhid (pvms_up (zshow hmz800_) h3z800_ q967_ (by decide) (by decide)))
              · have d968_ : Int32.toInt x2_ ≥ Int32.toInt x956_ := Int.not_lt.mp ((not_congr (zi_lt _ _)).mp c962_)
                have b969_ : 0 ≤ Int32.toInt (M957_.1 145 (Int32.toNatClampNeg i3z800_)) ∧ Int32.toInt (M957_.1 145 (Int32.toNatClampNeg i3z800_)) ≤ 6 := pvok_r o959_ 145 (Int32.toNatClampNeg i3z800_) rfl
                obtain ⟨q971_, b970_⟩ : (Int32.toInt (i3z800_ + 1) = Int32.toInt i3z800_ + 1) ∧ (1 ≤ Int32.toInt (i3z800_ + 1) ∧ Int32.toInt (i3z800_ + 1) ≤ 7) := zadd_k i3z800_ 1 1 1 7 b805_ (by decide) (by decide) (by decide) (by decide) (by decide)
                refine pw_blk hT 11 (S' := (10, [some (pvR 124), some (pvI x2_), some (pvI (i2z800_ ||| (1 <<< ((M957_.1 145 (Int32.toNatClampNeg i3z800_)) &&& 31)))), some (pvI (i3z800_ + 1)), some (pvI i4z949_)], [], M957_)) rfl ⟨trivial, trivial, rfl, trivial, ⟨rfl, (zr_in (n := 7) b805_ (by decide) (by decide))⟩, trivial, trivial, trivial, trivial, trivial, trivial, trivial⟩ ?_
                exact ihz800_ (i2z800_ ||| (1 <<< ((M957_.1 145 (Int32.toNatClampNeg i3z800_)) &&& 31))) (i3z800_ + 1) (some (pvI i4z949_)) M957_ o959_ f961_ (zr_wide b970_ (by decide) (by decide)) (zhid (pvms_up (zshow hmz800_) h3z800_ q971_ (by decide) (by decide)))
            · have b972_ : 0 ≤ Int32.toInt i4z949_ ∧ Int32.toInt i4z949_ ≤ 6 := zr_nle_r 6 c953_ h4z949_ b952_ (by decide)
              have d973_ : Int32.toInt (Mz949_.1 124 37) > Int32.toInt i4z949_ := Int.not_le.mp ((not_congr (zi_le _ _)).mp c953_)
              refine pw_blk hT 2 (S' := (38, [some (pvR 124), some (pvI x2_), some (pvI i2z800_), some (pvI i3z800_), some (pvI i4z949_)], [pvI i3z800_, pvI i4z949_], Mz949_)) rfl ⟨trivial, trivial, trivial⟩ ?_
              refine pw_icn hT (c := i4z949_ = i3z800_) rfl rfl (fun c974_ => ?_) (fun c974_ => ?_)
              · have b975_ : 0 ≤ Int32.toInt (Mz949_.1 145 (Int32.toNatClampNeg i4z949_)) ∧ Int32.toInt (Mz949_.1 145 (Int32.toNatClampNeg i4z949_)) ≤ 6 := pvok_r oz949_ 145 (Int32.toNatClampNeg i4z949_) rfl
                refine pw_blkw hT 9 (pc := 60) (lo := [some (pvR 124), some (pvI x2_), some (pvI i2z800_), some (pvI i3z800_), some (pvI i4z949_)]) (st := []) (M := pvu Mz949_ 144 (Int32.toNatClampNeg (Mz949_.1 124 35)) (Mz949_.1 145 (Int32.toNatClampNeg i4z949_))) rfl ⟨trivial, rfl, trivial, rfl, trivial, rfl, trivial, ⟨rfl, (zr_in (n := 7) b972_ (by decide) (by decide))⟩, ⟨rfl, (vp_in_iff.mpr (show 0 ≤ Int32.toInt (Mz949_.1 124 35) ∧ Int32.toInt (Mz949_.1 124 35) < ((7 : Nat) : Int) from (by have u0 := b950_; omega)))⟩, trivial⟩ (fun M976_ e977_ => ?_)
                have o978_ : pvOk M976_ := pvok_u2 e977_ oz949_ rfl b975_
                have f979_ : pvFr fp_X10_leave_124 M M976_ := pvfr_u e977_ fz949_ rfl
                have e980_ : (M976_.1 124 35) = (Mz949_.1 124 35) := (pvu_n e977_ 124 35 (Or.inl (by decide)))
                have b981_ : 0 ≤ Int32.toInt (M976_.1 124 35) ∧ Int32.toInt (M976_.1 124 35) ≤ 7 := pvok_r o978_ 124 35 rfl
                have d982_ : Int32.toInt (M976_.1 124 35) = Int32.toInt (Mz949_.1 124 35) := congrArg Int32.toInt e980_
                obtain ⟨q984_, b983_⟩ : (Int32.toInt ((M976_.1 124 35) + 1) = Int32.toInt (M976_.1 124 35) + 1) ∧ (1 ≤ Int32.toInt ((M976_.1 124 35) + 1) ∧ Int32.toInt ((M976_.1 124 35) + 1) ≤ 8) := zadd_k (M976_.1 124 35) 1 1 1 8 b981_ (by decide) (by decide) (by decide) (by decide) (by decide)
                refine pw_blkw hT 6 (pc := 70) (lo := [some (pvR 124), some (pvI x2_), some (pvI i2z800_), some (pvI i3z800_), some (pvI i4z949_)]) (st := []) (M := pvu M976_ 124 35 ((M976_.1 124 35) + 1)) rfl ⟨trivial, trivial, rfl, trivial, trivial, rfl, trivial⟩ (fun M985_ e986_ => ?_)
                have o987_ : pvOk M985_ := pvok_u2 e986_ o978_ rfl (by have u0 := b983_; omega)
                have f988_ : pvFr fp_X10_leave_124 M M985_ := pvfr_u e986_ f979_ rfl
                obtain ⟨q990_, b989_⟩ : (Int32.toInt (i4z949_ + 1) = Int32.toInt i4z949_ + 1) ∧ (1 ≤ Int32.toInt (i4z949_ + 1) ∧ Int32.toInt (i4z949_ + 1) ≤ 7) := zadd_k i4z949_ 1 1 1 7 b972_ (by decide) (by decide) (by decide) (by decide) (by decide)
                refine pw_blk hT 2 (S' := (26, [some (pvR 124), some (pvI x2_), some (pvI i2z800_), some (pvI i3z800_), some (pvI (i4z949_ + 1))], [], M985_)) rfl ⟨trivial, trivial, trivial⟩ ?_
                have j991_ : Int32.toInt (M985_.1 124 35) ≤ Int32.toInt (i4z949_ + 1) := by have y01 : Int32.toInt (M985_.1 124 35) = Int32.toInt ((M976_.1 124 35) + 1) := congrArg Int32.toInt (pvu_s e986_); have y02 : Int32.toInt (M976_.1 124 35) = Int32.toInt (Mz949_.1 124 35) := congrArg Int32.toInt (pvu_n e977_ 124 35 (Or.inl (by decide))); omega
                exact ihz949_ (i4z949_ + 1) M985_ o987_ f988_ (((pvu_n e986_ 124 37 (Or.inr (by decide))).trans (pvu_n e977_ 124 37 (Or.inl (by decide)))).trans (k124_37z949_)) (zr_wide b989_ (by decide) (by decide)) j991_ (zhid (by have hm0 := zshow hmz949_; have y01 : Int32.toInt (M985_.1 124 35) = Int32.toInt ((M976_.1 124 35) + 1) := congrArg Int32.toInt (pvu_s e986_); have y02 : Int32.toInt (M976_.1 124 35) = Int32.toInt (Mz949_.1 124 35) := congrArg Int32.toInt (pvu_n e977_ 124 35 (Or.inl (by decide))); omega))
              · have d992_ : Int32.toInt i4z949_ = Int32.toInt i3z800_ := (zi_eq _ _).mp c974_
                obtain ⟨q994_, b993_⟩ : (Int32.toInt (i4z949_ + 1) = Int32.toInt i4z949_ + 1) ∧ (1 ≤ Int32.toInt (i4z949_ + 1) ∧ Int32.toInt (i4z949_ + 1) ≤ 7) := zadd_k i4z949_ 1 1 1 7 b972_ (by decide) (by decide) (by decide) (by decide) (by decide)
                refine pw_blk hT 3 (S' := (26, [some (pvR 124), some (pvI x2_), some (pvI i2z800_), some (pvI i3z800_), some (pvI (i4z949_ + 1))], [], Mz949_)) rfl ⟨trivial, trivial, trivial, trivial⟩ ?_
                have j995_ : Int32.toInt (Mz949_.1 124 35) ≤ Int32.toInt (i4z949_ + 1) := by omega
                exact ihz949_ (i4z949_ + 1) Mz949_ oz949_ fz949_ (k124_37z949_) (zr_wide b993_ (by decide) (by decide)) j995_ (zhid (pvms_up (zshow hmz949_) h4z949_ q994_ (by decide) (by decide)))
        have j996_ : Int32.toInt (M807_.1 124 35) ≤ Int32.toInt 0 := by have y01 : Int32.toInt (M807_.1 124 35) = Int32.toInt 0 := congrArg Int32.toInt (pvu_s e808_); have y03 : Int32.toInt 0 = 0 := (by decide); omega
        exact hlz949_ _ 0 M807_ o809_ f810_ rfl (zr_wide (show 0 ≤ Int32.toInt 0 ∧ Int32.toInt 0 ≤ 0 from (by decide)) (by decide) (by decide)) j996_ (zhid (Nat.lt_succ_self _))
  exact hlz800_ _ 0 0 none M3_ o5_ f7_ (zr_wide (show 0 ≤ Int32.toInt 0 ∧ Int32.toInt 0 ≤ 0 from (by decide)) (by decide) (by decide)) (zhid (Nat.lt_succ_self _))
def fpL_X10_looked_124 : List (Nat × Nat × Nat) := [(0, 124, 36), (0, 143, 0), (0, 144, 0)]
def fp_X10_looked_124 (q k : Nat) : Bool := pvfp fpL_X10_looked_124 q k
theorem fp_X10_looked_124_fp_X10_goes_124_x_x_x (a b : Nat) (h : fp_X10_goes_124_x_x_x a b = true) : fp_X10_looked_124 a b = true := pvfp_sub (l1 := fpL_X10_goes_124_x_x_x) (l2 := fpL_X10_looked_124) (by decide) a b h
theorem fp_X10_looked_124_fp_X10_layOpen_124 (a b : Nat) (h : fp_X10_layOpen_124 a b = true) : fp_X10_looked_124 a b = true := pvfp_sub (l1 := fpL_X10_layOpen_124) (l2 := fpL_X10_looked_124) (by decide) a b h
theorem fp_X10_looked_124_fp_X10_layRound_124 (a b : Nat) (h : fp_X10_layRound_124 a b = true) : fp_X10_looked_124 a b = true := pvfp_sub (l1 := fpL_X10_layRound_124) (l2 := fpL_X10_looked_124) (by decide) a b h
set_option maxHeartbeats 4000000 in
set_option maxRecDepth 10000 in
theorem sf_X10_looked_124 (M : pvM) (hok : pvOk M) (d : Nat) : PW 53 d (0, [some (pvR 124), none, none], [], M) (fun r X => (∃ x : Int32, r = some (pvI x) ∧ (-5) ≤ Int32.toInt x ∧ Int32.toInt x ≤ 7) ∧ pvOk X ∧ pvFr fp_X10_looked_124 M X) := by
  have hT : pvdom 53 = pvD_53 := rfl
  refine pw_blk hT 1 (S' := (1, [some (pvR 124), none, none], [pvR 124], M)) rfl ⟨trivial, trivial⟩ ?_
  refine pw_callV hT (as := [pvR 124]) (lo1 := [some (pvR 124), none]) (d1 := d) (rest := []) rfl rfl rfl rfl rfl (fun _ => rfl) (Nat.zero_le _) rfl rfl rfl (sf_X10_layRound_124 M hok d) (fun M2_ o4_ g5_ => ?_)
  have f6_ : pvFr fp_X10_looked_124 M M2_ := pvfr_t g5_ pvfr_0 fp_X10_looked_124_fp_X10_layRound_124
  refine pw_blk hT 1 (S' := (5, [some (pvR 124), none, none], [pvR 124], M2_)) rfl ⟨trivial, trivial⟩ ?_
  refine pw_callV hT (as := [pvR 124]) (lo1 := [some (pvR 124), none]) (d1 := d) (rest := []) rfl rfl rfl rfl rfl (fun _ => rfl) (Nat.zero_le _) rfl rfl rfl (sf_X10_layOpen_124 M2_ o4_ d) (fun M8_ o10_ g11_ => ?_)
  have f12_ : pvFr fp_X10_looked_124 M M8_ := pvfr_t g11_ f6_ fp_X10_looked_124_fp_X10_layOpen_124
  have b13_ : 0 ≤ Int32.toInt (M8_.1 124 35) ∧ Int32.toInt (M8_.1 124 35) ≤ 7 := pvok_r o10_ 124 35 rfl
  have b14_ : 0 ≤ Int32.toInt (M8_.1 124 1) ∧ Int32.toInt (M8_.1 124 1) ≤ 9999 := pvok_r o10_ 124 1 rfl
  refine pw_blk hT 6 (S' := (18, [some (pvR 124), none, none], [pvI (M8_.1 124 1), pvI (M8_.1 124 35), pvI 0, pvR 124], M8_)) rfl ⟨trivial, trivial, trivial, rfl, trivial, rfl, trivial⟩ ?_
  refine pw_callG hT (as := [pvR 124, pvI 0, pvI (M8_.1 124 35), pvI (M8_.1 124 1)]) (lo1 := [some (pvR 124), some (pvI 0), some (pvI (M8_.1 124 35)), some (pvI (M8_.1 124 1)), none, none, none, none, none]) (d1 := d) (rest := []) rfl rfl rfl rfl rfl (fun _ => rfl) (Nat.zero_le _) rfl rfl rfl (sf_X10_goes_124_x_x_x M8_ o10_ 0 (M8_.1 124 35) (M8_.1 124 1) (zr_wide (show 0 ≤ Int32.toInt 0 ∧ Int32.toInt 0 ≤ 0 from (by decide)) (by decide) (by decide)) b13_ (zr_wide b14_ (by decide) (by decide)) d) (fun x15_ M16_ b17_ o18_ g19_ => ?_)
  have f20_ : pvFr fp_X10_looked_124 M M16_ := pvfr_t g19_ f12_ fp_X10_looked_124_fp_X10_goes_124_x_x_x
  refine pw_blk hT 3 (S' := (24, [some (pvR 124), some (pvI x15_), some (pvI 0)], [], M16_)) rfl ⟨trivial, trivial, trivial, trivial⟩ ?_
  have hlz72_ : ∀ (nz72_ : Nat) (i2z72_ : Int32), (0 ≤ Int32.toInt i2z72_ ∧ Int32.toInt i2z72_ ≤ 8) → (zhide ((9 - Int32.toInt i2z72_).toNat < nz72_)) → PW 53 d (24, [some (pvR 124), some (pvI x15_), some (pvI i2z72_)], [], M16_) (fun r X => (∃ x : Int32, r = some (pvI x) ∧ (-5) ≤ Int32.toInt x ∧ Int32.toInt x ≤ 7) ∧ pvOk X ∧ pvFr fp_X10_looked_124 M X) := by
    intro nz72_
    induction nz72_ with
    | zero => intro i2z72_ h2z72_ hmz72_; exact absurd (zshow hmz72_) (Nat.not_lt_zero _)
    | succ nz72_ ihz72_ =>
      intro i2z72_ h2z72_ hmz72_
      have b73_ : 0 ≤ Int32.toInt (M16_.1 124 43) ∧ Int32.toInt (M16_.1 124 43) ≤ 8 := pvok_r o18_ 124 43 rfl
      refine pw_blk hT 3 (S' := (29, [some (pvR 124), some (pvI x15_), some (pvI i2z72_)], [pvI (M16_.1 124 43), pvI i2z72_], M16_)) rfl ⟨trivial, trivial, rfl, trivial⟩ ?_
      refine pw_ic hT (c := (M16_.1 124 43) ≤ i2z72_) rfl rfl (fun c74_ => ?_) (fun c74_ => ?_)
      · have d75_ : Int32.toInt (M16_.1 124 43) ≤ Int32.toInt i2z72_ := (zi_le _ _).mp c74_
        refine pw_blk hT 1 (S' := (62, [some (pvR 124), some (pvI x15_), some (pvI i2z72_)], [pvI (-5)], M16_)) rfl ⟨trivial, trivial⟩ ?_
        exact pw_ret hT rfl (r := some (pvI (-5))) (M' := M16_) ⟨rfl, rfl⟩ ⟨⟨_, rfl, (zr_wide (show (-5) ≤ Int32.toInt (-5) ∧ Int32.toInt (-5) ≤ (-5) from (by decide)) (by decide) (by decide))⟩, o18_, f20_⟩
      · have b76_ : 1 ≤ Int32.toInt (M16_.1 124 43) ∧ Int32.toInt (M16_.1 124 43) ≤ 8 := zr_nle_l 1 c74_ b73_ h2z72_ (by decide)
        have b77_ : 0 ≤ Int32.toInt i2z72_ ∧ Int32.toInt i2z72_ ≤ 7 := zr_nle_r 7 c74_ h2z72_ b76_ (by decide)
        have d78_ : Int32.toInt (M16_.1 124 43) > Int32.toInt i2z72_ := Int.not_le.mp ((not_congr (zi_le _ _)).mp c74_)
        have b79_ : 0 ≤ Int32.toInt (M16_.1 149 (Int32.toNatClampNeg i2z72_)) ∧ Int32.toInt (M16_.1 149 (Int32.toNatClampNeg i2z72_)) ≤ 6 := pvok_r o18_ 149 (Int32.toNatClampNeg i2z72_) rfl
        have b80_ : (-1) ≤ Int32.toInt (M16_.1 143 (Int32.toNatClampNeg (M16_.1 149 (Int32.toNatClampNeg i2z72_)))) ∧ Int32.toInt (M16_.1 143 (Int32.toNatClampNeg (M16_.1 149 (Int32.toNatClampNeg i2z72_)))) ≤ 99999 := pvok_r o18_ 143 (Int32.toNatClampNeg (M16_.1 149 (Int32.toNatClampNeg i2z72_))) rfl
        have b81_ : 0 ≤ Int32.toInt (M16_.1 150 (Int32.toNatClampNeg i2z72_)) ∧ Int32.toInt (M16_.1 150 (Int32.toNatClampNeg i2z72_)) ≤ 9999 := pvok_r o18_ 150 (Int32.toNatClampNeg i2z72_) rfl
        refine pw_blk hT 11 (S' := (49, [some (pvR 124), some (pvI x15_), some (pvI i2z72_)], [pvI (M16_.1 150 (Int32.toNatClampNeg i2z72_)), pvI (M16_.1 143 (Int32.toNatClampNeg (M16_.1 149 (Int32.toNatClampNeg i2z72_))))], M16_)) rfl ⟨trivial, rfl, trivial, rfl, trivial, ⟨rfl, (zr_in (n := 8) b77_ (by decide) (by decide))⟩, ⟨rfl, (zr_in (n := 7) b79_ (by decide) (by decide))⟩, trivial, rfl, trivial, ⟨rfl, (zr_in (n := 8) b77_ (by decide) (by decide))⟩, trivial⟩ ?_
        refine pw_ic hT (c := (M16_.1 143 (Int32.toNatClampNeg (M16_.1 149 (Int32.toNatClampNeg i2z72_)))) ≤ (M16_.1 150 (Int32.toNatClampNeg i2z72_))) rfl rfl (fun c82_ => ?_) (fun c82_ => ?_)
        · have b83_ : (-1) ≤ Int32.toInt (M16_.1 143 (Int32.toNatClampNeg (M16_.1 149 (Int32.toNatClampNeg i2z72_)))) ∧ Int32.toInt (M16_.1 143 (Int32.toNatClampNeg (M16_.1 149 (Int32.toNatClampNeg i2z72_)))) ≤ 9999 := zr_le_l 9999 c82_ b80_ b81_ (by decide)
          have d84_ : Int32.toInt (M16_.1 143 (Int32.toNatClampNeg (M16_.1 149 (Int32.toNatClampNeg i2z72_)))) ≤ Int32.toInt (M16_.1 150 (Int32.toNatClampNeg i2z72_)) := (zi_le _ _).mp c82_
          obtain ⟨q86_, b85_⟩ : (Int32.toInt (i2z72_ + 1) = Int32.toInt i2z72_ + 1) ∧ (1 ≤ Int32.toInt (i2z72_ + 1) ∧ Int32.toInt (i2z72_ + 1) ≤ 8) := zadd_k i2z72_ 1 1 1 8 b77_ (by decide) (by decide) (by decide) (by decide) (by decide)
          refine pw_blk hT 2 (S' := (24, [some (pvR 124), some (pvI x15_), some (pvI (i2z72_ + 1))], [], M16_)) rfl ⟨trivial, trivial, trivial⟩ ?_
          exact ihz72_ (i2z72_ + 1) (zr_wide b85_ (by decide) (by decide)) (zhid (pvms_up (zshow hmz72_) h2z72_ q86_ (by decide) (by decide)))
        · have b87_ : 1 ≤ Int32.toInt (M16_.1 143 (Int32.toNatClampNeg (M16_.1 149 (Int32.toNatClampNeg i2z72_)))) ∧ Int32.toInt (M16_.1 143 (Int32.toNatClampNeg (M16_.1 149 (Int32.toNatClampNeg i2z72_)))) ≤ 99999 := zr_nle_l 1 c82_ b80_ b81_ (by decide)
          have d88_ : Int32.toInt (M16_.1 143 (Int32.toNatClampNeg (M16_.1 149 (Int32.toNatClampNeg i2z72_)))) > Int32.toInt (M16_.1 150 (Int32.toNatClampNeg i2z72_)) := Int.not_le.mp ((not_congr (zi_le _ _)).mp c82_)
          refine pw_blk hT 1 (S' := (53, [some (pvR 124), some (pvI x15_), some (pvI i2z72_)], [pvI i2z72_], M16_)) rfl ⟨trivial, trivial⟩ ?_
          exact pw_ret hT rfl (r := some (pvI i2z72_)) (M' := M16_) ⟨rfl, rfl⟩ ⟨⟨_, rfl, (zr_wide b77_ (by decide) (by decide))⟩, o18_, f20_⟩
  exact hlz72_ _ 0 (zr_wide (show 0 ≤ Int32.toInt 0 ∧ Int32.toInt 0 ≤ 0 from (by decide)) (by decide) (by decide)) (zhid (Nat.lt_succ_self _))
set_option maxHeartbeats 4000000 in
set_option maxRecDepth 10000 in
theorem sf_X10_lowest_124_x_x_x (M : pvM) (hok : pvOk M) (n1 : Int32) (n2 : Int32) (n3 : Int32) (hn1 : 0 ≤ Int32.toInt n1 ∧ Int32.toInt n1 ≤ 90000000) (hn2 : 1 ≤ Int32.toInt n2 ∧ Int32.toInt n2 ≤ 10) (d : Nat) : PW 54 d (0, [some (pvR 124), some (pvI n1), some (pvI n2), some (pvI n3), none], [], M) (fun r X => (∃ x : Int64, r = some (pvJ x)) ∧ X = M) := by
  have hT : pvdom 54 = pvD_54 := rfl
  refine pw_blk hT 3 (S' := (3, [some (pvR 124), some (pvI n1), some (pvI n2), some (pvI n3), none], [pvI n2, pvI n1, pvR 124], M)) rfl ⟨trivial, trivial, trivial, trivial⟩ ?_
  refine pw_callGp hT (as := [pvR 124, pvI n1, pvI n2]) (lo1 := [some (pvR 124), some (pvI n1), some (pvI n2), none, none, none]) (d1 := d) (rest := []) rfl rfl rfl rfl rfl (fun _ => rfl) (Nat.zero_le _) rfl rfl rfl (sf_X10_divisor_124_x_x M hok n1 n2 hn1 hn2 d) (fun x1_ b3_ => ?_)
  refine pw_blk hT 2 (S' := (9, [some (pvR 124), some (pvI n1), some (pvI n2), some (pvI n3), some (pvI x1_)], [pvI n3], M)) rfl ⟨trivial, trivial, trivial⟩ ?_
  refine pw_ifn hT (c := n3 = 0) rfl rfl (fun c6_ => ?_) (fun c6_ => ?_)
  · refine pw_blk hT 4 (S' := (25, [some (pvR 124), some (pvI n1), some (pvI n2), some (pvI n3), some (pvI x1_)], [pvJ (Int32.toInt64 (n2 / x1_))], M)) rfl ⟨trivial, trivial, (fun z0 => by have u0 := b3_; have u1 := (zi_eq x1_ 0).mp z0; have u2 : (0 : Int32).toInt = 0 := (by decide); omega), trivial, trivial⟩ ?_
    exact pw_ret hT rfl (r := some (pvJ (Int32.toInt64 (n2 / x1_)))) (M' := M) ⟨rfl, rfl⟩ ⟨⟨_, rfl⟩, rfl⟩
  · have b7_ : 0 ≤ Int32.toInt n3 ∧ Int32.toInt n3 ≤ 0 := (by have u0 := (zbnd n3); have u1 := (zi_eq _ _).mp c6_; have u2 := (show 0 ≤ Int32.toInt 0 ∧ Int32.toInt 0 ≤ 0 from (by decide)); omega)
    refine pw_blk hT 5 (S' := (25, [some (pvR 124), some (pvI n1), some (pvI n2), some (pvI n3), some (pvI x1_)], [pvJ (Int32.toInt64 (n1 / x1_))], M)) rfl ⟨trivial, trivial, (fun z0 => by have u0 := b3_; have u1 := (zi_eq x1_ 0).mp z0; have u2 : (0 : Int32).toInt = 0 := (by decide); omega), trivial, trivial, trivial⟩ ?_
    exact pw_ret hT rfl (r := some (pvJ (Int32.toInt64 (n1 / x1_)))) (M' := M) ⟨rfl, rfl⟩ ⟨⟨_, rfl⟩, rfl⟩
def fpL_X10_mean_124_x : List (Nat × Nat × Nat) := [(0, 124, 4), (0, 124, 33), (0, 124, 36), (0, 141, 0), (0, 142, 0), (0, 143, 0), (0, 144, 0)]
def fp_X10_mean_124_x (q k : Nat) : Bool := pvfp fpL_X10_mean_124_x q k
theorem fp_X10_mean_124_x_fp_X10_costOfRound_124_x (a b : Nat) (h : fp_X10_costOfRound_124_x a b = true) : fp_X10_mean_124_x a b = true := pvfp_sub (l1 := fpL_X10_costOfRound_124_x) (l2 := fpL_X10_mean_124_x) (by decide) a b h
set_option maxHeartbeats 4000000 in
set_option maxRecDepth 10000 in
theorem sf_X10_mean_124_x (M : pvM) (hok : pvOk M) (n1 : Int32) (hz : pvWF M) (hx0 : Int32.toInt (M.1 124 3) ≤ 99) (d : Nat) : PW 55 d (0, [some (pvR 124), some (pvI n1), none, none, none], [], M) (fun r X => (∃ x : Int64, r = some (pvJ x)) ∧ pvOk X ∧ pvFr fp_X10_mean_124_x M X ∧ X.1 124 3 = M.1 124 3) := by
  have hT : pvdom 55 = pvD_55 := rfl
  refine pw_blk hT 4 (S' := (4, [some (pvR 124), some (pvI n1), none, none, none], [pvI 1, pvI 0, pvI n1, pvR 124], M)) rfl ⟨trivial, trivial, trivial, trivial, trivial⟩ ?_
  refine pw_callT hT (as := [pvR 124, pvI n1, pvI 0, pvI 1]) (lo1 := [some (pvR 124), some (pvI n1), some (pvI 0), some (pvI 1)]) (d1 := d) (rest := []) rfl rfl rfl rfl rfl (fun _ => rfl) (Nat.zero_le _) rfl rfl rfl (sf_X10_in_124_x_x_x M hok n1 0 1 d) ?_
  by_cases c6_ : n1 < 0
  · refine pw_eqI (if_pos c6_) ?_
    have b7_ : (-2147483648) ≤ Int32.toInt n1 ∧ Int32.toInt n1 ≤ (-1) := zr_lt_l (-1) c6_ (zbnd n1) (show 0 ≤ Int32.toInt 0 ∧ Int32.toInt 0 ≤ 0 from (by decide)) (by decide)
    show PW 55 d (7, [some (pvR 124), some (pvI n1), none, none, none], [pvI 0], M) _
    refine pw_ifn hT (c := 0 = 0) rfl rfl (fun c8_ => absurd (by decide) c8_) (fun c8_ => ?_)
    refine pw_blk hT 1 (S' := (13, [some (pvR 124), some (pvI n1), none, none, none], [pvJ (-9223372036854775808)], M)) rfl ⟨trivial, trivial⟩ ?_
    exact pw_ret hT rfl (r := some (pvJ (-9223372036854775808))) (M' := M) ⟨rfl, rfl⟩ ⟨⟨_, rfl⟩, hok, pvfr_0, rfl⟩
  · refine pw_eqI (if_neg c6_) ?_
    have b9_ : 0 ≤ Int32.toInt n1 ∧ Int32.toInt n1 ≤ 2147483647 := zr_nlt_l 0 c6_ (zbnd n1) (show 0 ≤ Int32.toInt 0 ∧ Int32.toInt 0 ≤ 0 from (by decide)) (by decide)
    by_cases c10_ : 1 < n1
    · refine pw_eqI (if_pos c10_) ?_
      have b11_ : 2 ≤ Int32.toInt n1 ∧ Int32.toInt n1 ≤ 2147483647 := zr_lt_r 2 c10_ b9_ (show 1 ≤ Int32.toInt 1 ∧ Int32.toInt 1 ≤ 1 from (by decide)) (by decide)
      show PW 55 d (7, [some (pvR 124), some (pvI n1), none, none, none], [pvI 0], M) _
      refine pw_ifn hT (c := 0 = 0) rfl rfl (fun c12_ => absurd (by decide) c12_) (fun c12_ => ?_)
      refine pw_blk hT 1 (S' := (13, [some (pvR 124), some (pvI n1), none, none, none], [pvJ (-9223372036854775808)], M)) rfl ⟨trivial, trivial⟩ ?_
      exact pw_ret hT rfl (r := some (pvJ (-9223372036854775808))) (M' := M) ⟨rfl, rfl⟩ ⟨⟨_, rfl⟩, hok, pvfr_0, rfl⟩
    · refine pw_eqI (if_neg c10_) ?_
      have b13_ : 0 ≤ Int32.toInt n1 ∧ Int32.toInt n1 ≤ 1 := zr_nlt_r 1 c10_ b9_ (show 1 ≤ Int32.toInt 1 ∧ Int32.toInt 1 ≤ 1 from (by decide)) (by decide)
      show PW 55 d (7, [some (pvR 124), some (pvI n1), none, none, none], [pvI 1], M) _
      refine pw_ifn hT (c := 1 = 0) rfl rfl (fun c14_ => ?_) (fun c14_ => absurd c14_ (by decide))
      have b15_ : 0 ≤ Int32.toInt (M.1 124 3) ∧ Int32.toInt (M.1 124 3) ≤ 108 := pvok_r hok 124 3 rfl
      refine pw_blk hT 7 (S' := (24, [some (pvR 124), some (pvI n1), some (pvI (M.1 124 3)), some (pvI 0), some (pvI 0)], [], M)) rfl ⟨trivial, rfl, trivial, trivial, trivial, trivial, trivial, trivial⟩ ?_
      have hlz121_ : ∀ (nz121_ : Nat) (i3z121_ : Int32) (i4z121_ : Int32) (Mz121_ : pvM), (pvOk Mz121_) → (pvFr fp_X10_mean_124_x M Mz121_) → (0 ≤ Int32.toInt i3z121_ ∧ Int32.toInt i3z121_ ≤ 90000000) → (0 ≤ Int32.toInt i4z121_ ∧ Int32.toInt i4z121_ ≤ 10) → (Int32.toInt i3z121_ ≤ 9000000 * Int32.toInt i4z121_) → (zhide ((11 - Int32.toInt i4z121_).toNat < nz121_)) → PW 55 d (24, [some (pvR 124), some (pvI n1), some (pvI (M.1 124 3)), some (pvI i3z121_), some (pvI i4z121_)], [], Mz121_) (fun r X => (∃ x : Int64, r = some (pvJ x)) ∧ pvOk X ∧ pvFr fp_X10_mean_124_x M X ∧ X.1 124 3 = M.1 124 3) := by
        intro nz121_
        induction nz121_ with
        | zero => intro i3z121_ i4z121_ Mz121_ oz121_ fz121_ h3z121_ h4z121_ j0z121_ hmz121_; exact absurd (zshow hmz121_) (Nat.not_lt_zero _)
        | succ nz121_ ihz121_ =>
          intro i3z121_ i4z121_ Mz121_ oz121_ fz121_ h3z121_ h4z121_ j0z121_ hmz121_
          refine pw_blk hT 2 (S' := (28, [some (pvR 124), some (pvI n1), some (pvI (M.1 124 3)), some (pvI i3z121_), some (pvI i4z121_)], [pvI 10, pvI i4z121_], Mz121_)) rfl ⟨trivial, trivial, trivial⟩ ?_
          refine pw_ic hT (c := 10 ≤ i4z121_) rfl rfl (fun c122_ => ?_) (fun c122_ => ?_)
          · have b123_ : 10 ≤ Int32.toInt i4z121_ ∧ Int32.toInt i4z121_ ≤ 10 := zr_le_r 10 c122_ h4z121_ (show 10 ≤ Int32.toInt 10 ∧ Int32.toInt 10 ≤ 10 from (by decide)) (by decide)
            refine pw_blkw hT 3 (pc := 58) (lo := [some (pvR 124), some (pvI n1), some (pvI (M.1 124 3)), some (pvI i3z121_), some (pvI i4z121_)]) (st := []) (M := pvu Mz121_ 124 3 (M.1 124 3)) rfl ⟨trivial, trivial, rfl, trivial⟩ (fun M124_ e125_ => ?_)
            have o126_ : pvOk M124_ := pvok_u2 e125_ oz121_ rfl b15_
            have f127_ : pvFr fp_X10_mean_124_x M M124_ := pvfr_u e125_ fz121_ rfl
            refine pw_blk hT 4 (S' := (63, [some (pvR 124), some (pvI n1), some (pvI (M.1 124 3)), some (pvI i3z121_), some (pvI i4z121_)], [pvI n1, pvI 10, pvI i3z121_, pvR 124], M124_)) rfl ⟨trivial, trivial, trivial, trivial, trivial⟩ ?_
            refine pw_callJp hT (as := [pvR 124, pvI i3z121_, pvI 10, pvI n1]) (lo1 := [some (pvR 124), some (pvI i3z121_), some (pvI 10), some (pvI n1), none]) (d1 := d) (rest := []) rfl rfl rfl rfl rfl (fun _ => rfl) (Nat.zero_le _) rfl rfl rfl (sf_X10_lowest_124_x_x_x M124_ o126_ i3z121_ 10 n1 h3z121_ (zr_wide (show 10 ≤ Int32.toInt 10 ∧ Int32.toInt 10 ≤ 10 from (by decide)) (by decide) (by decide)) d) (fun x128_ b130_ => ?_)
            exact pw_ret hT rfl (r := some (pvJ x128_)) (M' := M124_) ⟨rfl, rfl⟩ ⟨⟨_, rfl⟩, o126_, f127_, (pvu_s e125_)⟩
          · have b133_ : 0 ≤ Int32.toInt i4z121_ ∧ Int32.toInt i4z121_ ≤ 9 := zr_nle_r 9 c122_ h4z121_ (show 10 ≤ Int32.toInt 10 ∧ Int32.toInt 10 ≤ 10 from (by decide)) (by decide)
            obtain ⟨q135_, b134_⟩ : (Int32.toInt ((M.1 124 3) + i4z121_) = Int32.toInt (M.1 124 3) + Int32.toInt i4z121_) ∧ (0 ≤ Int32.toInt ((M.1 124 3) + i4z121_) ∧ Int32.toInt ((M.1 124 3) + i4z121_) ≤ 117) := zadd_r (M.1 124 3) i4z121_ 0 117 b15_ b133_ (by decide) (by decide) (by decide) (by decide)
            refine pw_blkw hT 5 (pc := 39) (lo := [some (pvR 124), some (pvI n1), some (pvI (M.1 124 3)), some (pvI i3z121_), some (pvI i4z121_)]) (st := []) (M := pvu Mz121_ 124 3 ((M.1 124 3) + i4z121_)) rfl ⟨trivial, trivial, trivial, trivial, rfl, trivial⟩ (fun M136_ e137_ => ?_)
            have o138_ : pvOk M136_ := pvok_u2 e137_ oz121_ rfl (by have u0 := b134_; omega)
            have f139_ : pvFr fp_X10_mean_124_x M M136_ := pvfr_u e137_ fz121_ rfl
            refine pw_blk hT 3 (S' := (42, [some (pvR 124), some (pvI n1), some (pvI (M.1 124 3)), some (pvI i3z121_), some (pvI i4z121_)], [pvI 0, pvR 124, pvI i3z121_], M136_)) rfl ⟨trivial, trivial, trivial, trivial⟩ ?_
            have u140_ : Int32.toInt 0 = 0 := by decide
            refine pw_callG hT (as := [pvR 124, pvI 0]) (lo1 := [some (pvR 124), some (pvI 0)]) (d1 := d) (rest := [pvI i3z121_]) rfl rfl rfl rfl rfl (fun _ => rfl) (Nat.zero_le _) rfl rfl rfl (sf_X10_costOfRound_124_x M136_ o138_ 0 (zr_wide (show 0 ≤ Int32.toInt 0 ∧ Int32.toInt 0 ≤ 0 from (by decide)) (by decide) (by decide)) (pvWF_fr (L := fpL_X10_mean_124_x) rfl f139_ hz) d) (fun x141_ M142_ b143_ o144_ g145_ => ?_)
            have f146_ : pvFr fp_X10_mean_124_x M M142_ := pvfr_t g145_ f139_ fp_X10_mean_124_x_fp_X10_costOfRound_124_x
            obtain ⟨q148_, b147_⟩ : (Int32.toInt (i3z121_ + x141_) = Int32.toInt i3z121_ + Int32.toInt x141_) ∧ (0 ≤ Int32.toInt (i3z121_ + x141_) ∧ Int32.toInt (i3z121_ + x141_) ≤ 99000000) := zadd_r i3z121_ x141_ 0 99000000 h3z121_ b143_ (by decide) (by decide) (by decide) (by decide)
            obtain ⟨q150_, b149_⟩ : (Int32.toInt (i4z121_ + 1) = Int32.toInt i4z121_ + 1) ∧ (1 ≤ Int32.toInt (i4z121_ + 1) ∧ Int32.toInt (i4z121_ + 1) ≤ 10) := zadd_k i4z121_ 1 1 1 10 b133_ (by decide) (by decide) (by decide) (by decide) (by decide)
            refine pw_blk hT 4 (S' := (24, [some (pvR 124), some (pvI n1), some (pvI (M.1 124 3)), some (pvI (i3z121_ + x141_)), some (pvI (i4z121_ + 1))], [], M142_)) rfl ⟨trivial, trivial, trivial, trivial, trivial⟩ ?_
            have j151_ : Int32.toInt (i3z121_ + x141_) ≤ 9000000 * Int32.toInt (i4z121_ + 1) := by omega
            exact ihz121_ (i3z121_ + x141_) (i4z121_ + 1) M142_ o144_ f146_ (by have u0 := b147_; omega) (zr_wide b149_ (by decide) (by decide)) j151_ (zhid (pvms_up (zshow hmz121_) h4z121_ q150_ (by decide) (by decide)))
      have u152_ : Int32.toInt 0 = 0 := by decide
      have j153_ : Int32.toInt 0 ≤ 9000000 * Int32.toInt 0 := by omega
      exact hlz121_ _ 0 0 M hok pvfr_0 (zr_wide (show 0 ≤ Int32.toInt 0 ∧ Int32.toInt 0 ≤ 0 from (by decide)) (by decide) (by decide)) (zr_wide (show 0 ≤ Int32.toInt 0 ∧ Int32.toInt 0 ≤ 0 from (by decide)) (by decide) (by decide)) j153_ (zhid (Nat.lt_succ_self _))
def fpL_X10_next_124 : List (Nat × Nat × Nat) := [(0, 124, 33), (0, 124, 36), (0, 141, 0), (0, 142, 0), (0, 143, 0), (0, 144, 0)]
def fp_X10_next_124 (q k : Nat) : Bool := pvfp fpL_X10_next_124 q k
theorem fp_X10_next_124_fp_X10_costOfPath_124_x (a b : Nat) (h : fp_X10_costOfPath_124_x a b = true) : fp_X10_next_124 a b = true := pvfp_sub (l1 := fpL_X10_costOfPath_124_x) (l2 := fpL_X10_next_124) (by decide) a b h
theorem fp_X10_next_124_fp_X10_layRain_124 (a b : Nat) (h : fp_X10_layRain_124 a b = true) : fp_X10_next_124 a b = true := pvfp_sub (l1 := fpL_X10_layRain_124) (l2 := fpL_X10_next_124) (by decide) a b h
set_option maxHeartbeats 4000000 in
set_option maxRecDepth 10000 in
theorem sf_X10_next_124 (M : pvM) (hok : pvOk M) (hz : pvWF M) (d : Nat) : PW 57 d (0, [some (pvR 124), none, none, none, none], [], M) (fun r X => (∃ x : Int32, r = some (pvI x) ∧ (-5) ≤ Int32.toInt x ∧ Int32.toInt x ≤ 2147483647) ∧ pvOk X ∧ pvFr fp_X10_next_124 M X) := by
  have hT : pvdom 57 = pvD_57 := rfl
  refine pw_blk hT 1 (S' := (1, [some (pvR 124), none, none, none, none], [pvR 124], M)) rfl ⟨trivial, trivial⟩ ?_
  refine pw_callV hT (as := [pvR 124]) (lo1 := [some (pvR 124), none, none]) (d1 := d) (rest := []) rfl rfl rfl rfl rfl (fun _ => rfl) (Nat.zero_le _) rfl rfl rfl (sf_X10_layRain_124 M hok hz d) (fun M2_ o4_ g5_ => ?_)
  have f6_ : pvFr fp_X10_next_124 M M2_ := pvfr_t g5_ pvfr_0 fp_X10_next_124_fp_X10_layRain_124
  refine pw_blk hT 6 (S' := (11, [some (pvR 124), some (pvI (-5)), some (pvI 0), some (pvI 0), none], [], M2_)) rfl ⟨trivial, trivial, trivial, trivial, trivial, trivial, trivial⟩ ?_
  have hlz149_ : ∀ (nz149_ : Nat) (i1z149_ : Int32) (i2z149_ : Int32) (i3z149_ : Int32) (v4z149_ : Option pvV) (Mz149_ : pvM), (pvOk Mz149_) → (pvFr fp_X10_next_124 M Mz149_) → ((-5) ≤ Int32.toInt i1z149_ ∧ Int32.toInt i1z149_ ≤ 2147483647) → (0 ≤ Int32.toInt i2z149_ ∧ Int32.toInt i2z149_ ≤ 2147483647) → (0 ≤ Int32.toInt i3z149_ ∧ Int32.toInt i3z149_ ≤ 7) → (zhide ((8 - Int32.toInt i3z149_).toNat < nz149_)) → PW 57 d (11, [some (pvR 124), some (pvI i1z149_), some (pvI i2z149_), some (pvI i3z149_), v4z149_], [], Mz149_) (fun r X => (∃ x : Int32, r = some (pvI x) ∧ (-5) ≤ Int32.toInt x ∧ Int32.toInt x ≤ 2147483647) ∧ pvOk X ∧ pvFr fp_X10_next_124 M X) := by
    intro nz149_
    induction nz149_ with
    | zero => intro i1z149_ i2z149_ i3z149_ v4z149_ Mz149_ oz149_ fz149_ h1z149_ h2z149_ h3z149_ hmz149_; exact absurd (zshow hmz149_) (Nat.not_lt_zero _)
    | succ nz149_ ihz149_ =>
      intro i1z149_ i2z149_ i3z149_ v4z149_ Mz149_ oz149_ fz149_ h1z149_ h2z149_ h3z149_ hmz149_
      have b150_ : 0 ≤ Int32.toInt (Mz149_.1 124 0) ∧ Int32.toInt (Mz149_.1 124 0) ≤ 7 := pvok_r oz149_ 124 0 rfl
      refine pw_blk hT 3 (S' := (16, [some (pvR 124), some (pvI i1z149_), some (pvI i2z149_), some (pvI i3z149_), v4z149_], [pvI (Mz149_.1 124 0), pvI i3z149_], Mz149_)) rfl ⟨trivial, trivial, rfl, trivial⟩ ?_
      refine pw_ic hT (c := (Mz149_.1 124 0) ≤ i3z149_) rfl rfl (fun c151_ => ?_) (fun c151_ => ?_)
      · have d152_ : Int32.toInt (Mz149_.1 124 0) ≤ Int32.toInt i3z149_ := (zi_le _ _).mp c151_
        refine pw_blk hT 1 (S' := (75, [some (pvR 124), some (pvI i1z149_), some (pvI i2z149_), some (pvI i3z149_), v4z149_], [pvI i1z149_], Mz149_)) rfl ⟨trivial, trivial⟩ ?_
        exact pw_ret hT rfl (r := some (pvI i1z149_)) (M' := Mz149_) ⟨rfl, rfl⟩ ⟨⟨_, rfl, h1z149_⟩, oz149_, fz149_⟩
      · have b153_ : 1 ≤ Int32.toInt (Mz149_.1 124 0) ∧ Int32.toInt (Mz149_.1 124 0) ≤ 7 := zr_nle_l 1 c151_ b150_ h3z149_ (by decide)
        have b154_ : 0 ≤ Int32.toInt i3z149_ ∧ Int32.toInt i3z149_ ≤ 6 := zr_nle_r 6 c151_ h3z149_ b153_ (by decide)
        have d155_ : Int32.toInt (Mz149_.1 124 0) > Int32.toInt i3z149_ := Int.not_le.mp ((not_congr (zi_le _ _)).mp c151_)
        have b156_ : 0 ≤ Int32.toInt (Mz149_.1 131 (Int32.toNatClampNeg i3z149_)) ∧ Int32.toInt (Mz149_.1 131 (Int32.toNatClampNeg i3z149_)) ≤ 1 := pvok_r oz149_ 131 (Int32.toNatClampNeg i3z149_) rfl
        refine pw_blk hT 4 (S' := (25, [some (pvR 124), some (pvI i1z149_), some (pvI i2z149_), some (pvI i3z149_), v4z149_], [pvI (Mz149_.1 131 (Int32.toNatClampNeg i3z149_))], Mz149_)) rfl ⟨trivial, rfl, trivial, ⟨rfl, (zr_in (n := 7) b154_ (by decide) (by decide))⟩, trivial⟩ ?_
        refine pw_if hT (c := (Mz149_.1 131 (Int32.toNatClampNeg i3z149_)) = 0) rfl rfl (fun c157_ => ?_) (fun c157_ => ?_)
        · have b158_ : 0 ≤ Int32.toInt (Mz149_.1 131 (Int32.toNatClampNeg i3z149_)) ∧ Int32.toInt (Mz149_.1 131 (Int32.toNatClampNeg i3z149_)) ≤ 0 := (by have u0 := b156_; have u1 := (zi_eq _ _).mp c157_; have u2 := (show 0 ≤ Int32.toInt 0 ∧ Int32.toInt 0 ≤ 0 from (by decide)); omega)
          refine pw_blkw hT 3 (pc := 36) (lo := [some (pvR 124), some (pvI i1z149_), some (pvI i2z149_), some (pvI i3z149_), v4z149_]) (st := []) (M := pvu Mz149_ 124 35 1) rfl ⟨trivial, trivial, rfl, trivial⟩ (fun M159_ e160_ => ?_)
          have o161_ : pvOk M159_ := pvok_u2 e160_ oz149_ rfl (zr_wide (show 1 ≤ Int32.toInt 1 ∧ Int32.toInt 1 ≤ 1 from (by decide)) (by decide) (by decide))
          have f162_ : pvFr fp_X10_next_124 M M159_ := pvfr_u e160_ fz149_ rfl
          refine pw_blkw hT 5 (pc := 43) (lo := [some (pvR 124), some (pvI i1z149_), some (pvI i2z149_), some (pvI i3z149_), v4z149_]) (st := []) (M := pvu M159_ 144 (Int32.toNatClampNeg 0) i3z149_) rfl ⟨trivial, rfl, trivial, trivial, ⟨rfl, (zr_in (n := 7) (show 0 ≤ Int32.toInt 0 ∧ Int32.toInt 0 ≤ 0 from (by decide)) (by decide) (by decide))⟩, trivial⟩ (fun M163_ e164_ => ?_)
          have o165_ : pvOk M163_ := pvok_u2 e164_ o161_ rfl b154_
          have f166_ : pvFr fp_X10_next_124 M M163_ := pvfr_u e164_ f162_ rfl
          refine pw_blk hT 2 (S' := (45, [some (pvR 124), some (pvI i1z149_), some (pvI i2z149_), some (pvI i3z149_), v4z149_], [pvI 0, pvR 124], M163_)) rfl ⟨trivial, trivial, trivial⟩ ?_
          refine pw_callG hT (as := [pvR 124, pvI 0]) (lo1 := [some (pvR 124), some (pvI 0), none]) (d1 := d) (rest := []) rfl rfl rfl rfl rfl (fun _ => rfl) (Nat.zero_le _) rfl rfl rfl (sf_X10_costOfPath_124_x M163_ o165_ 0 (zr_wide (show 0 ≤ Int32.toInt 0 ∧ Int32.toInt 0 ≤ 0 from (by decide)) (by decide) (by decide)) d) (fun x167_ M168_ b169_ o170_ g171_ => ?_)
          have f172_ : pvFr fp_X10_next_124 M M168_ := pvfr_t g171_ f166_ fp_X10_next_124_fp_X10_costOfPath_124_x
          refine pw_blk hT 2 (S' := (51, [some (pvR 124), some (pvI i1z149_), some (pvI i2z149_), some (pvI i3z149_), some (pvI x167_)], [pvI i1z149_], M168_)) rfl ⟨trivial, trivial, trivial⟩ ?_
          refine pw_if hT (c := i1z149_ < 0) rfl rfl (fun c173_ => ?_) (fun c173_ => ?_)
          · have b174_ : (-5) ≤ Int32.toInt i1z149_ ∧ Int32.toInt i1z149_ ≤ (-1) := zr_lt_l (-1) c173_ h1z149_ (show 0 ≤ Int32.toInt 0 ∧ Int32.toInt 0 ≤ 0 from (by decide)) (by decide)
            obtain ⟨q176_, b175_⟩ : (Int32.toInt (i3z149_ + 1) = Int32.toInt i3z149_ + 1) ∧ (1 ≤ Int32.toInt (i3z149_ + 1) ∧ Int32.toInt (i3z149_ + 1) ≤ 7) := zadd_k i3z149_ 1 1 1 7 b154_ (by decide) (by decide) (by decide) (by decide) (by decide)
            refine pw_blk hT 6 (S' := (11, [some (pvR 124), some (pvI i3z149_), some (pvI x167_), some (pvI (i3z149_ + 1)), some (pvI x167_)], [], M168_)) rfl ⟨trivial, trivial, trivial, trivial, trivial, trivial, trivial⟩ ?_
            exact ihz149_ i3z149_ x167_ (i3z149_ + 1) (some (pvI x167_)) M168_ o170_ f172_ (zr_wide b154_ (by decide) (by decide)) (zr_wide b169_ (by decide) (by decide)) (zr_wide b175_ (by decide) (by decide)) (zhid (pvms_up (zshow hmz149_) h3z149_ q176_ (by decide) (by decide)))
          · have b177_ : 0 ≤ Int32.toInt i1z149_ ∧ Int32.toInt i1z149_ ≤ 2147483647 := zr_nlt_l 0 c173_ h1z149_ (show 0 ≤ Int32.toInt 0 ∧ Int32.toInt 0 ≤ 0 from (by decide)) (by decide)
            refine pw_blk hT 2 (S' := (57, [some (pvR 124), some (pvI i1z149_), some (pvI i2z149_), some (pvI i3z149_), some (pvI x167_)], [pvI i2z149_, pvI x167_], M168_)) rfl ⟨trivial, trivial, trivial⟩ ?_
            refine pw_ic hT (c := x167_ < i2z149_) rfl rfl (fun c178_ => ?_) (fun c178_ => ?_)
            · have b179_ : 1 ≤ Int32.toInt i2z149_ ∧ Int32.toInt i2z149_ ≤ 2147483647 := zr_lt_r 1 c178_ h2z149_ b169_ (by decide)
              have d180_ : Int32.toInt x167_ < Int32.toInt i2z149_ := (zi_lt _ _).mp c178_
              obtain ⟨q182_, b181_⟩ : (Int32.toInt (i3z149_ + 1) = Int32.toInt i3z149_ + 1) ∧ (1 ≤ Int32.toInt (i3z149_ + 1) ∧ Int32.toInt (i3z149_ + 1) ≤ 7) := zadd_k i3z149_ 1 1 1 7 b154_ (by decide) (by decide) (by decide) (by decide) (by decide)
              refine pw_blk hT 6 (S' := (11, [some (pvR 124), some (pvI i3z149_), some (pvI x167_), some (pvI (i3z149_ + 1)), some (pvI x167_)], [], M168_)) rfl ⟨trivial, trivial, trivial, trivial, trivial, trivial, trivial⟩ ?_
              exact ihz149_ i3z149_ x167_ (i3z149_ + 1) (some (pvI x167_)) M168_ o170_ f172_ (zr_wide b154_ (by decide) (by decide)) (zr_wide b169_ (by decide) (by decide)) (zr_wide b181_ (by decide) (by decide)) (zhid (pvms_up (zshow hmz149_) h3z149_ q182_ (by decide) (by decide)))
            · have b183_ : 0 ≤ Int32.toInt i2z149_ ∧ Int32.toInt i2z149_ ≤ 9000000 := zr_nlt_r 9000000 c178_ h2z149_ b169_ (by decide)
              have d184_ : Int32.toInt x167_ ≥ Int32.toInt i2z149_ := Int.not_lt.mp ((not_congr (zi_lt _ _)).mp c178_)
              obtain ⟨q186_, b185_⟩ : (Int32.toInt (i3z149_ + 1) = Int32.toInt i3z149_ + 1) ∧ (1 ≤ Int32.toInt (i3z149_ + 1) ∧ Int32.toInt (i3z149_ + 1) ≤ 7) := zadd_k i3z149_ 1 1 1 7 b154_ (by decide) (by decide) (by decide) (by decide) (by decide)
              refine pw_blk hT 3 (S' := (11, [some (pvR 124), some (pvI i1z149_), some (pvI i2z149_), some (pvI (i3z149_ + 1)), some (pvI x167_)], [], M168_)) rfl ⟨trivial, trivial, trivial, trivial⟩ ?_
              exact ihz149_ i1z149_ i2z149_ (i3z149_ + 1) (some (pvI x167_)) M168_ o170_ f172_ (zr_wide b177_ (by decide) (by decide)) (zr_wide b183_ (by decide) (by decide)) (zr_wide b185_ (by decide) (by decide)) (zhid (pvms_up (zshow hmz149_) h3z149_ q186_ (by decide) (by decide)))
        · have b187_ : 1 ≤ Int32.toInt (Mz149_.1 131 (Int32.toNatClampNeg i3z149_)) ∧ Int32.toInt (Mz149_.1 131 (Int32.toNatClampNeg i3z149_)) ≤ 1 := (by have u0 := b156_; have u1 := (not_congr (zi_eq _ _)).mp c157_; have u2 := (show 0 ≤ Int32.toInt 0 ∧ Int32.toInt 0 ≤ 0 from (by decide)); omega)
          obtain ⟨q189_, b188_⟩ : (Int32.toInt (i3z149_ + 1) = Int32.toInt i3z149_ + 1) ∧ (1 ≤ Int32.toInt (i3z149_ + 1) ∧ Int32.toInt (i3z149_ + 1) ≤ 7) := zadd_k i3z149_ 1 1 1 7 b154_ (by decide) (by decide) (by decide) (by decide) (by decide)
          refine pw_blk hT 3 (S' := (11, [some (pvR 124), some (pvI i1z149_), some (pvI i2z149_), some (pvI (i3z149_ + 1)), v4z149_], [], Mz149_)) rfl ⟨trivial, trivial, trivial, trivial⟩ ?_
          exact ihz149_ i1z149_ i2z149_ (i3z149_ + 1) v4z149_ Mz149_ oz149_ fz149_ h1z149_ h2z149_ (zr_wide b188_ (by decide) (by decide)) (zhid (pvms_up (zshow hmz149_) h3z149_ q189_ (by decide) (by decide)))
  exact hlz149_ _ (-5) 0 0 none M2_ o4_ f6_ (zr_wide (show (-5) ≤ Int32.toInt (-5) ∧ Int32.toInt (-5) ≤ (-5) from (by decide)) (by decide) (by decide)) (zr_wide (show 0 ≤ Int32.toInt 0 ∧ Int32.toInt 0 ≤ 0 from (by decide)) (by decide) (by decide)) (zr_wide (show 0 ≤ Int32.toInt 0 ∧ Int32.toInt 0 ≤ 0 from (by decide)) (by decide) (by decide)) (zhid (Nat.lt_succ_self _))
def fpL_X10_odds_124_x_x : List (Nat × Nat × Nat) := [(0, 124, 33), (0, 124, 36), (0, 124, 5), (0, 141, 0), (0, 142, 0), (0, 143, 0), (0, 144, 0)]
def fp_X10_odds_124_x_x (q k : Nat) : Bool := pvfp fpL_X10_odds_124_x_x q k
theorem fp_X10_odds_124_x_x_fp_X10_costOfRound_124_x (a b : Nat) (h : fp_X10_costOfRound_124_x a b = true) : fp_X10_odds_124_x_x a b = true := pvfp_sub (l1 := fpL_X10_costOfRound_124_x) (l2 := fpL_X10_odds_124_x_x) (by decide) a b h
set_option maxHeartbeats 4000000 in
set_option maxRecDepth 10000 in
theorem sf_X10_odds_124_x_x (M : pvM) (hok : pvOk M) (n1 : Int32) (n2 : Int32) (hz : pvWF M) (d : Nat) : PW 58 d (0, [some (pvR 124), some (pvI n1), some (pvI n2), none, none], [], M) (fun r X => (∃ x : Int64, r = some (pvJ x)) ∧ pvOk X ∧ pvFr fp_X10_odds_124_x_x M X) := by
  have hT : pvdom 58 = pvD_58 := rfl
  refine pw_blk hT 2 (S' := (2, [some (pvR 124), some (pvI n1), some (pvI n2), none, none], [pvI n1, pvR 124], M)) rfl ⟨trivial, trivial, trivial⟩ ?_
  refine pw_callT hT (as := [pvR 124, pvI n1]) (lo1 := [some (pvR 124), some (pvI n1)]) (d1 := d) (rest := []) rfl rfl rfl rfl rfl (fun _ => rfl) (Nat.zero_le _) rfl rfl rfl (sf_X10_isLimit_124_x M hok n1 d) ?_
  by_cases c6_ : n1 < 0
  · refine pw_eqI (if_pos c6_) ?_
    have b7_ : (-2147483648) ≤ Int32.toInt n1 ∧ Int32.toInt n1 ≤ (-1) := zr_lt_l (-1) c6_ (zbnd n1) (show 0 ≤ Int32.toInt 0 ∧ Int32.toInt 0 ≤ 0 from (by decide)) (by decide)
    show PW 58 d (5, [some (pvR 124), some (pvI n1), some (pvI n2), none, none], [pvI 0], M) _
    refine pw_if hT (c := 0 = 0) rfl rfl (fun c8_ => ?_) (fun c8_ => absurd (by decide) c8_)
    refine pw_blk hT 1 (S' := (21, [some (pvR 124), some (pvI n1), some (pvI n2), none, none], [pvJ (-9223372036854775808)], M)) rfl ⟨trivial, trivial⟩ ?_
    exact pw_ret hT rfl (r := some (pvJ (-9223372036854775808))) (M' := M) ⟨rfl, rfl⟩ ⟨⟨_, rfl⟩, hok, pvfr_0⟩
  · refine pw_eqI (if_neg c6_) ?_
    have b9_ : 0 ≤ Int32.toInt n1 ∧ Int32.toInt n1 ≤ 2147483647 := zr_nlt_l 0 c6_ (zbnd n1) (show 0 ≤ Int32.toInt 0 ∧ Int32.toInt 0 ≤ 0 from (by decide)) (by decide)
    by_cases c10_ : 99999 < n1
    · refine pw_eqI (if_pos c10_) ?_
      have b11_ : 100000 ≤ Int32.toInt n1 ∧ Int32.toInt n1 ≤ 2147483647 := zr_lt_r 100000 c10_ b9_ (show 99999 ≤ Int32.toInt 99999 ∧ Int32.toInt 99999 ≤ 99999 from (by decide)) (by decide)
      show PW 58 d (5, [some (pvR 124), some (pvI n1), some (pvI n2), none, none], [pvI 0], M) _
      refine pw_if hT (c := 0 = 0) rfl rfl (fun c12_ => ?_) (fun c12_ => absurd (by decide) c12_)
      refine pw_blk hT 1 (S' := (21, [some (pvR 124), some (pvI n1), some (pvI n2), none, none], [pvJ (-9223372036854775808)], M)) rfl ⟨trivial, trivial⟩ ?_
      exact pw_ret hT rfl (r := some (pvJ (-9223372036854775808))) (M' := M) ⟨rfl, rfl⟩ ⟨⟨_, rfl⟩, hok, pvfr_0⟩
    · refine pw_eqI (if_neg c10_) ?_
      have b13_ : 0 ≤ Int32.toInt n1 ∧ Int32.toInt n1 ≤ 99999 := zr_nlt_r 99999 c10_ b9_ (show 99999 ≤ Int32.toInt 99999 ∧ Int32.toInt 99999 ≤ 99999 from (by decide)) (by decide)
      show PW 58 d (5, [some (pvR 124), some (pvI n1), some (pvI n2), none, none], [pvI 1], M) _
      refine pw_if hT (c := 1 = 0) rfl rfl (fun c14_ => absurd c14_ (by decide)) (fun c14_ => ?_)
      refine pw_blk hT 4 (S' := (12, [some (pvR 124), some (pvI n1), some (pvI n2), none, none], [pvI 1, pvI 0, pvI n2, pvR 124], M)) rfl ⟨trivial, trivial, trivial, trivial, trivial⟩ ?_
      refine pw_callT hT (as := [pvR 124, pvI n2, pvI 0, pvI 1]) (lo1 := [some (pvR 124), some (pvI n2), some (pvI 0), some (pvI 1)]) (d1 := d) (rest := []) rfl rfl rfl rfl rfl (fun _ => rfl) (Nat.zero_le _) rfl rfl rfl (sf_X10_in_124_x_x_x M hok n2 0 1 d) ?_
      by_cases c20_ : n2 < 0
      · refine pw_eqI (if_pos c20_) ?_
        have b21_ : (-2147483648) ≤ Int32.toInt n2 ∧ Int32.toInt n2 ≤ (-1) := zr_lt_l (-1) c20_ (zbnd n2) (show 0 ≤ Int32.toInt 0 ∧ Int32.toInt 0 ≤ 0 from (by decide)) (by decide)
        show PW 58 d (15, [some (pvR 124), some (pvI n1), some (pvI n2), none, none], [pvI 0], M) _
        refine pw_ifn hT (c := 0 = 0) rfl rfl (fun c22_ => absurd (by decide) c22_) (fun c22_ => ?_)
        refine pw_blk hT 1 (S' := (21, [some (pvR 124), some (pvI n1), some (pvI n2), none, none], [pvJ (-9223372036854775808)], M)) rfl ⟨trivial, trivial⟩ ?_
        exact pw_ret hT rfl (r := some (pvJ (-9223372036854775808))) (M' := M) ⟨rfl, rfl⟩ ⟨⟨_, rfl⟩, hok, pvfr_0⟩
      · refine pw_eqI (if_neg c20_) ?_
        have b23_ : 0 ≤ Int32.toInt n2 ∧ Int32.toInt n2 ≤ 2147483647 := zr_nlt_l 0 c20_ (zbnd n2) (show 0 ≤ Int32.toInt 0 ∧ Int32.toInt 0 ≤ 0 from (by decide)) (by decide)
        by_cases c24_ : 1 < n2
        · refine pw_eqI (if_pos c24_) ?_
          have b25_ : 2 ≤ Int32.toInt n2 ∧ Int32.toInt n2 ≤ 2147483647 := zr_lt_r 2 c24_ b23_ (show 1 ≤ Int32.toInt 1 ∧ Int32.toInt 1 ≤ 1 from (by decide)) (by decide)
          show PW 58 d (15, [some (pvR 124), some (pvI n1), some (pvI n2), none, none], [pvI 0], M) _
          refine pw_ifn hT (c := 0 = 0) rfl rfl (fun c26_ => absurd (by decide) c26_) (fun c26_ => ?_)
          refine pw_blk hT 1 (S' := (21, [some (pvR 124), some (pvI n1), some (pvI n2), none, none], [pvJ (-9223372036854775808)], M)) rfl ⟨trivial, trivial⟩ ?_
          exact pw_ret hT rfl (r := some (pvJ (-9223372036854775808))) (M' := M) ⟨rfl, rfl⟩ ⟨⟨_, rfl⟩, hok, pvfr_0⟩
        · refine pw_eqI (if_neg c24_) ?_
          have b27_ : 0 ≤ Int32.toInt n2 ∧ Int32.toInt n2 ≤ 1 := zr_nlt_r 1 c24_ b23_ (show 1 ≤ Int32.toInt 1 ∧ Int32.toInt 1 ≤ 1 from (by decide)) (by decide)
          show PW 58 d (15, [some (pvR 124), some (pvI n1), some (pvI n2), none, none], [pvI 1], M) _
          refine pw_ifn hT (c := 1 = 0) rfl rfl (fun c28_ => ?_) (fun c28_ => absurd c28_ (by decide))
          have b29_ : 0 ≤ Int32.toInt (M.1 124 4) ∧ Int32.toInt (M.1 124 4) ≤ 4 := pvok_r hok 124 4 rfl
          refine pw_blkw hT 8 (pc := 35) (lo := [some (pvR 124), some (pvI n1), some (pvI n2), some (pvI (M.1 124 4)), some (pvI 0)]) (st := []) (M := pvu M 124 4 0) rfl ⟨trivial, rfl, trivial, trivial, trivial, trivial, trivial, rfl, trivial⟩ (fun M30_ e31_ => ?_)
          have o32_ : pvOk M30_ := pvok_u2 e31_ hok rfl (zr_wide (show 0 ≤ Int32.toInt 0 ∧ Int32.toInt 0 ≤ 0 from (by decide)) (by decide) (by decide))
          have f33_ : pvFr fp_X10_odds_124_x_x M M30_ := pvfr_u e31_ pvfr_0 rfl
          have hlz206_ : ∀ (nz206_ : Nat) (i4z206_ : Int32) (Mz206_ : pvM), (pvOk Mz206_) → (pvFr fp_X10_odds_124_x_x M Mz206_) → (0 ≤ Int32.toInt i4z206_ ∧ Int32.toInt i4z206_ ≤ 4) → (Int32.toInt i4z206_ ≤ Int32.toInt (Mz206_.1 124 4)) → (zhide ((5 - Int32.toInt (Mz206_.1 124 4)).toNat < nz206_)) → PW 58 d (35, [some (pvR 124), some (pvI n1), some (pvI n2), some (pvI (M.1 124 4)), some (pvI i4z206_)], [], Mz206_) (fun r X => (∃ x : Int64, r = some (pvJ x)) ∧ pvOk X ∧ pvFr fp_X10_odds_124_x_x M X) := by
            intro nz206_
            induction nz206_ with
            | zero => intro i4z206_ Mz206_ oz206_ fz206_ h4z206_ j0z206_ hmz206_; exact absurd (zshow hmz206_) (Nat.not_lt_zero _)
            | succ nz206_ ihz206_ =>
              intro i4z206_ Mz206_ oz206_ fz206_ h4z206_ j0z206_ hmz206_
              have b207_ : 0 ≤ Int32.toInt (Mz206_.1 124 4) ∧ Int32.toInt (Mz206_.1 124 4) ≤ 4 := pvok_r oz206_ 124 4 rfl
              refine pw_blk hT 3 (S' := (40, [some (pvR 124), some (pvI n1), some (pvI n2), some (pvI (M.1 124 4)), some (pvI i4z206_)], [pvI 4, pvI (Mz206_.1 124 4)], Mz206_)) rfl ⟨trivial, rfl, trivial, trivial⟩ ?_
              refine pw_ic hT (c := 4 ≤ (Mz206_.1 124 4)) rfl rfl (fun c208_ => ?_) (fun c208_ => ?_)
              · have b209_ : 4 ≤ Int32.toInt (Mz206_.1 124 4) ∧ Int32.toInt (Mz206_.1 124 4) ≤ 4 := zr_le_r 4 c208_ b207_ (show 4 ≤ Int32.toInt 4 ∧ Int32.toInt 4 ≤ 4 from (by decide)) (by decide)
                refine pw_blkw hT 3 (pc := 80) (lo := [some (pvR 124), some (pvI n1), some (pvI n2), some (pvI (M.1 124 4)), some (pvI i4z206_)]) (st := []) (M := pvu Mz206_ 124 4 (M.1 124 4)) rfl ⟨trivial, trivial, rfl, trivial⟩ (fun M210_ e211_ => ?_)
                have o212_ : pvOk M210_ := pvok_u2 e211_ oz206_ rfl b29_
                have f213_ : pvFr fp_X10_odds_124_x_x M M210_ := pvfr_u e211_ fz206_ rfl
                refine pw_blk hT 4 (S' := (85, [some (pvR 124), some (pvI n1), some (pvI n2), some (pvI (M.1 124 4)), some (pvI i4z206_)], [pvI n2, pvI 4, pvI i4z206_, pvR 124], M210_)) rfl ⟨trivial, trivial, trivial, trivial, trivial⟩ ?_
                refine pw_callJp hT (as := [pvR 124, pvI i4z206_, pvI 4, pvI n2]) (lo1 := [some (pvR 124), some (pvI i4z206_), some (pvI 4), some (pvI n2), none]) (d1 := d) (rest := []) rfl rfl rfl rfl rfl (fun _ => rfl) (Nat.zero_le _) rfl rfl rfl (sf_X10_lowest_124_x_x_x M210_ o212_ i4z206_ 4 n2 (zr_wide h4z206_ (by decide) (by decide)) (zr_wide (show 4 ≤ Int32.toInt 4 ∧ Int32.toInt 4 ≤ 4 from (by decide)) (by decide) (by decide)) d) (fun x214_ b216_ => ?_)
                exact pw_ret hT rfl (r := some (pvJ x214_)) (M' := M210_) ⟨rfl, rfl⟩ ⟨⟨_, rfl⟩, o212_, f213_⟩
              · have b219_ : 0 ≤ Int32.toInt (Mz206_.1 124 4) ∧ Int32.toInt (Mz206_.1 124 4) ≤ 3 := zr_nle_r 3 c208_ b207_ (show 4 ≤ Int32.toInt 4 ∧ Int32.toInt 4 ≤ 4 from (by decide)) (by decide)
                refine pw_blk hT 3 (S' := (47, [some (pvR 124), some (pvI n1), some (pvI n2), some (pvI (M.1 124 4)), some (pvI i4z206_)], [pvI 0, pvR 124, pvI i4z206_], Mz206_)) rfl ⟨trivial, trivial, trivial, trivial⟩ ?_
                have u220_ : Int32.toInt 0 = 0 := by decide
                refine pw_callG hT (as := [pvR 124, pvI 0]) (lo1 := [some (pvR 124), some (pvI 0)]) (d1 := d) (rest := [pvI i4z206_]) rfl rfl rfl rfl rfl (fun _ => rfl) (Nat.zero_le _) rfl rfl rfl (sf_X10_costOfRound_124_x Mz206_ oz206_ 0 (zr_wide (show 0 ≤ Int32.toInt 0 ∧ Int32.toInt 0 ≤ 0 from (by decide)) (by decide) (by decide)) (pvWF_fr (L := fpL_X10_odds_124_x_x) rfl fz206_ hz) d) (fun x221_ M222_ b223_ o224_ g225_ => ?_)
                have f226_ : pvFr fp_X10_odds_124_x_x M M222_ := pvfr_t g225_ fz206_ fp_X10_odds_124_x_x_fp_X10_costOfRound_124_x
                refine pw_blk hT 1 (S' := (51, [some (pvR 124), some (pvI n1), some (pvI n2), some (pvI (M.1 124 4)), some (pvI i4z206_)], [pvI n1, pvI x221_, pvI i4z206_], M222_)) rfl ⟨trivial, trivial⟩ ?_
                refine pw_ic hT (c := n1 < x221_) rfl rfl (fun c227_ => ?_) (fun c227_ => ?_)
                · have b228_ : 1 ≤ Int32.toInt x221_ ∧ Int32.toInt x221_ ≤ 9000000 := zr_lt_r 1 c227_ b223_ b13_ (by decide)
                  have d229_ : Int32.toInt n1 < Int32.toInt x221_ := (zi_lt _ _).mp c227_
                  obtain ⟨q231_, b230_⟩ : (Int32.toInt (i4z206_ + 0) = Int32.toInt i4z206_ + 0) ∧ (0 ≤ Int32.toInt (i4z206_ + 0) ∧ Int32.toInt (i4z206_ + 0) ≤ 4) := zadd_k i4z206_ 0 0 0 4 h4z206_ (by decide) (by decide) (by decide) (by decide) (by decide)
                  have e232_ : (M222_.1 124 4) = (Mz206_.1 124 4) := (g225_ 124 4 rfl)
                  have b233_ : 0 ≤ Int32.toInt (M222_.1 124 4) ∧ Int32.toInt (M222_.1 124 4) ≤ 3 := (by rw [e232_]; exact b219_)
                  have d234_ : Int32.toInt (M222_.1 124 4) = Int32.toInt (Mz206_.1 124 4) := congrArg Int32.toInt e232_
                  obtain ⟨q236_, b235_⟩ : (Int32.toInt ((M222_.1 124 4) + 1) = Int32.toInt (M222_.1 124 4) + 1) ∧ (1 ≤ Int32.toInt ((M222_.1 124 4) + 1) ∧ Int32.toInt ((M222_.1 124 4) + 1) ≤ 4) := zadd_k (M222_.1 124 4) 1 1 1 4 b233_ (by decide) (by decide) (by decide) (by decide) (by decide)
                  refine pw_blkw hT 9 (pc := 72) (lo := [some (pvR 124), some (pvI n1), some (pvI n2), some (pvI (M.1 124 4)), some (pvI (i4z206_ + 0))]) (st := []) (M := pvu M222_ 124 4 ((M222_.1 124 4) + 1)) rfl ⟨trivial, trivial, trivial, trivial, trivial, rfl, trivial, trivial, rfl, trivial⟩ (fun M237_ e238_ => ?_)
                  have o239_ : pvOk M237_ := pvok_u2 e238_ o224_ rfl (zr_wide b235_ (by decide) (by decide))
                  have f240_ : pvFr fp_X10_odds_124_x_x M M237_ := pvfr_u e238_ f226_ rfl
                  refine pw_blk hT 1 (S' := (35, [some (pvR 124), some (pvI n1), some (pvI n2), some (pvI (M.1 124 4)), some (pvI (i4z206_ + 0))], [], M237_)) rfl ⟨trivial, trivial⟩ ?_
                  have j241_ : Int32.toInt (i4z206_ + 0) ≤ Int32.toInt (M237_.1 124 4) := by have z1 : Int32.toInt (M237_.1 124 4) = Int32.toInt ((M222_.1 124 4) + 1) := congrArg Int32.toInt (pvu_s e238_); have z2 : Int32.toInt (M222_.1 124 4) = Int32.toInt (Mz206_.1 124 4) := congrArg Int32.toInt (g225_ 124 4 rfl); have y01 : Int32.toInt (M237_.1 124 4) = Int32.toInt ((M222_.1 124 4) + 1) := congrArg Int32.toInt (pvu_s e238_); have y02 : Int32.toInt (M222_.1 124 4) = Int32.toInt (Mz206_.1 124 4) := congrArg Int32.toInt (g225_ 124 4 rfl); omega
                  exact ihz206_ (i4z206_ + 0) M237_ o239_ f240_ b230_ j241_ (zhid (by have hm0 := zshow hmz206_; have z1 : Int32.toInt (M237_.1 124 4) = Int32.toInt ((M222_.1 124 4) + 1) := congrArg Int32.toInt (pvu_s e238_); have z2 : Int32.toInt (M222_.1 124 4) = Int32.toInt (Mz206_.1 124 4) := congrArg Int32.toInt (g225_ 124 4 rfl); have y01 : Int32.toInt (M237_.1 124 4) = Int32.toInt ((M222_.1 124 4) + 1) := congrArg Int32.toInt (pvu_s e238_); have y02 : Int32.toInt (M222_.1 124 4) = Int32.toInt (Mz206_.1 124 4) := congrArg Int32.toInt (g225_ 124 4 rfl); omega))
                · have b242_ : 0 ≤ Int32.toInt x221_ ∧ Int32.toInt x221_ ≤ 99999 := zr_nlt_r 99999 c227_ b223_ b13_ (by decide)
                  have d243_ : Int32.toInt n1 ≥ Int32.toInt x221_ := Int.not_lt.mp ((not_congr (zi_lt _ _)).mp c227_)
                  obtain ⟨q245_, b244_⟩ : (Int32.toInt (i4z206_ + 1) = Int32.toInt i4z206_ + 1) ∧ (1 ≤ Int32.toInt (i4z206_ + 1) ∧ Int32.toInt (i4z206_ + 1) ≤ 5) := zadd_k i4z206_ 1 1 1 5 h4z206_ (by decide) (by decide) (by decide) (by decide) (by decide)
                  have e246_ : (M222_.1 124 4) = (Mz206_.1 124 4) := (g225_ 124 4 rfl)
                  have b247_ : 0 ≤ Int32.toInt (M222_.1 124 4) ∧ Int32.toInt (M222_.1 124 4) ≤ 3 := (by rw [e246_]; exact b219_)
                  have d248_ : Int32.toInt (M222_.1 124 4) = Int32.toInt (Mz206_.1 124 4) := congrArg Int32.toInt e246_
                  obtain ⟨q250_, b249_⟩ : (Int32.toInt ((M222_.1 124 4) + 1) = Int32.toInt (M222_.1 124 4) + 1) ∧ (1 ≤ Int32.toInt ((M222_.1 124 4) + 1) ∧ Int32.toInt ((M222_.1 124 4) + 1) ≤ 4) := zadd_k (M222_.1 124 4) 1 1 1 4 b247_ (by decide) (by decide) (by decide) (by decide) (by decide)
                  refine pw_blkw hT 10 (pc := 72) (lo := [some (pvR 124), some (pvI n1), some (pvI n2), some (pvI (M.1 124 4)), some (pvI (i4z206_ + 1))]) (st := []) (M := pvu M222_ 124 4 ((M222_.1 124 4) + 1)) rfl ⟨trivial, trivial, trivial, trivial, trivial, trivial, rfl, trivial, trivial, rfl, trivial⟩ (fun M251_ e252_ => ?_)
                  have o253_ : pvOk M251_ := pvok_u2 e252_ o224_ rfl (zr_wide b249_ (by decide) (by decide))
                  have f254_ : pvFr fp_X10_odds_124_x_x M M251_ := pvfr_u e252_ f226_ rfl
                  refine pw_blk hT 1 (S' := (35, [some (pvR 124), some (pvI n1), some (pvI n2), some (pvI (M.1 124 4)), some (pvI (i4z206_ + 1))], [], M251_)) rfl ⟨trivial, trivial⟩ ?_
                  have j255_ : Int32.toInt (i4z206_ + 1) ≤ Int32.toInt (M251_.1 124 4) := by have z1 : Int32.toInt (M251_.1 124 4) = Int32.toInt ((M222_.1 124 4) + 1) := congrArg Int32.toInt (pvu_s e252_); have z2 : Int32.toInt (M222_.1 124 4) = Int32.toInt (Mz206_.1 124 4) := congrArg Int32.toInt (g225_ 124 4 rfl); have y01 : Int32.toInt (M251_.1 124 4) = Int32.toInt ((M222_.1 124 4) + 1) := congrArg Int32.toInt (pvu_s e252_); have y02 : Int32.toInt (M222_.1 124 4) = Int32.toInt (Mz206_.1 124 4) := congrArg Int32.toInt (g225_ 124 4 rfl); omega
                  exact ihz206_ (i4z206_ + 1) M251_ o253_ f254_ (by have u0 := b244_; omega) j255_ (zhid (by have hm0 := zshow hmz206_; have z1 : Int32.toInt (M251_.1 124 4) = Int32.toInt ((M222_.1 124 4) + 1) := congrArg Int32.toInt (pvu_s e252_); have z2 : Int32.toInt (M222_.1 124 4) = Int32.toInt (Mz206_.1 124 4) := congrArg Int32.toInt (g225_ 124 4 rfl); have y01 : Int32.toInt (M251_.1 124 4) = Int32.toInt ((M222_.1 124 4) + 1) := congrArg Int32.toInt (pvu_s e252_); have y02 : Int32.toInt (M222_.1 124 4) = Int32.toInt (Mz206_.1 124 4) := congrArg Int32.toInt (g225_ 124 4 rfl); omega))
          have u256_ : Int32.toInt 0 = 0 := by decide
          have j257_ : Int32.toInt 0 ≤ Int32.toInt (M30_.1 124 4) := by have y01 : Int32.toInt (M30_.1 124 4) = Int32.toInt 0 := congrArg Int32.toInt (pvu_s e31_); have y03 : Int32.toInt 0 = 0 := (by decide); omega
          exact hlz206_ _ 0 M30_ o32_ f33_ (zr_wide (show 0 ≤ Int32.toInt 0 ∧ Int32.toInt 0 ≤ 0 from (by decide)) (by decide) (by decide)) j257_ (zhid (Nat.lt_succ_self _))
def fpL_X10_of_124_x_x : List (Nat × Nat × Nat) := [(0, 124, 33), (0, 141, 0), (0, 142, 0), (0, 143, 0)]
def fp_X10_of_124_x_x (q k : Nat) : Bool := pvfp fpL_X10_of_124_x_x q k
theorem fp_X10_of_124_x_x_fp_X10_layOpen_124 (a b : Nat) (h : fp_X10_layOpen_124 a b = true) : fp_X10_of_124_x_x a b = true := pvfp_sub (l1 := fpL_X10_layOpen_124) (l2 := fpL_X10_of_124_x_x) (by decide) a b h
theorem fp_X10_of_124_x_x_fp_X10_layRain_124 (a b : Nat) (h : fp_X10_layRain_124 a b = true) : fp_X10_of_124_x_x a b = true := pvfp_sub (l1 := fpL_X10_layRain_124) (l2 := fpL_X10_of_124_x_x) (by decide) a b h
set_option maxHeartbeats 4000000 in
set_option maxRecDepth 10000 in
theorem sf_X10_of_124_x_x (M : pvM) (hok : pvOk M) (n1 : Int32) (n2 : Int32) (hz : pvWF M) (d : Nat) : PW 59 d (0, [some (pvR 124), some (pvI n1), some (pvI n2)], [], M) (fun r X => (∃ x : Int32, r = some (pvI x) ∧ (-1) ≤ Int32.toInt x ∧ Int32.toInt x ≤ 12009) ∧ pvOk X ∧ pvFr fp_X10_of_124_x_x M X) := by
  have hT : pvdom 59 = pvD_59 := rfl
  refine pw_blk hT 2 (S' := (2, [some (pvR 124), some (pvI n1), some (pvI n2)], [pvI n1, pvR 124], M)) rfl ⟨trivial, trivial, trivial⟩ ?_
  refine pw_callT hT (as := [pvR 124, pvI n1]) (lo1 := [some (pvR 124), some (pvI n1)]) (d1 := d) (rest := []) rfl rfl rfl rfl rfl (fun _ => rfl) (Nat.zero_le _) rfl rfl rfl (sf_X10_isWindow_124_x M hok n1 d) ?_
  by_cases c6_ : n1 < 0
  · refine pw_eqI (if_pos c6_) ?_
    have b7_ : (-2147483648) ≤ Int32.toInt n1 ∧ Int32.toInt n1 ≤ (-1) := zr_lt_l (-1) c6_ (zbnd n1) (show 0 ≤ Int32.toInt 0 ∧ Int32.toInt 0 ≤ 0 from (by decide)) (by decide)
    show PW 59 d (5, [some (pvR 124), some (pvI n1), some (pvI n2)], [pvI 0], M) _
    refine pw_ifn hT (c := 0 = 0) rfl rfl (fun c8_ => absurd (by decide) c8_) (fun c8_ => ?_)
    refine pw_blk hT 1 (S' := (9, [some (pvR 124), some (pvI n1), some (pvI n2)], [pvI (-1)], M)) rfl ⟨trivial, trivial⟩ ?_
    exact pw_ret hT rfl (r := some (pvI (-1))) (M' := M) ⟨rfl, rfl⟩ ⟨⟨_, rfl, (zr_wide (show (-1) ≤ Int32.toInt (-1) ∧ Int32.toInt (-1) ≤ (-1) from (by decide)) (by decide) (by decide))⟩, hok, pvfr_0⟩
  · refine pw_eqI (if_neg c6_) ?_
    have b9_ : 0 ≤ Int32.toInt n1 ∧ Int32.toInt n1 ≤ 2147483647 := zr_nlt_l 0 c6_ (zbnd n1) (show 0 ≤ Int32.toInt 0 ∧ Int32.toInt 0 ≤ 0 from (by decide)) (by decide)
    have b10_ : 0 ≤ Int32.toInt (M.1 124 0) ∧ Int32.toInt (M.1 124 0) ≤ 7 := pvok_r hok 124 0 rfl
    obtain ⟨q12_, b11_⟩ : (Int32.toInt ((M.1 124 0) - 1) = Int32.toInt (M.1 124 0) - 1) ∧ ((-1) ≤ Int32.toInt ((M.1 124 0) - 1) ∧ Int32.toInt ((M.1 124 0) - 1) ≤ 6) := zsub_k (M.1 124 0) 1 1 (-1) 6 b10_ (by decide) (by decide) (by decide) (by decide) (by decide)
    by_cases c13_ : ((M.1 124 0) - 1) < n1
    · refine pw_eqI (if_pos c13_) ?_
      have d14_ : Int32.toInt ((M.1 124 0) - 1) < Int32.toInt n1 := (zi_lt _ _).mp c13_
      show PW 59 d (5, [some (pvR 124), some (pvI n1), some (pvI n2)], [pvI 0], M) _
      refine pw_ifn hT (c := 0 = 0) rfl rfl (fun c15_ => absurd (by decide) c15_) (fun c15_ => ?_)
      refine pw_blk hT 1 (S' := (9, [some (pvR 124), some (pvI n1), some (pvI n2)], [pvI (-1)], M)) rfl ⟨trivial, trivial⟩ ?_
      exact pw_ret hT rfl (r := some (pvI (-1))) (M' := M) ⟨rfl, rfl⟩ ⟨⟨_, rfl, (zr_wide (show (-1) ≤ Int32.toInt (-1) ∧ Int32.toInt (-1) ≤ (-1) from (by decide)) (by decide) (by decide))⟩, hok, pvfr_0⟩
    · refine pw_eqI (if_neg c13_) ?_
      have b16_ : 0 ≤ Int32.toInt ((M.1 124 0) - 1) ∧ Int32.toInt ((M.1 124 0) - 1) ≤ 6 := zr_nlt_l 0 c13_ b11_ b9_ (by decide)
      have b17_ : 0 ≤ Int32.toInt n1 ∧ Int32.toInt n1 ≤ 6 := zr_nlt_r 6 c13_ b9_ b16_ (by decide)
      have d18_ : Int32.toInt ((M.1 124 0) - 1) ≥ Int32.toInt n1 := Int.not_lt.mp ((not_congr (zi_lt _ _)).mp c13_)
      show PW 59 d (5, [some (pvR 124), some (pvI n1), some (pvI n2)], [pvI 1], M) _
      refine pw_ifn hT (c := 1 = 0) rfl rfl (fun c19_ => ?_) (fun c19_ => absurd c19_ (by decide))
      refine pw_blk hT 1 (S' := (11, [some (pvR 124), some (pvI n1), some (pvI n2)], [pvI n2], M)) rfl ⟨trivial, trivial⟩ ?_
      refine pw_sw hT rfl rfl ?_
      refine And.intro (fun c20_ => ?_) (fun c20_ => ?_)
      · show PW 59 d (56, [some (pvR 124), some (pvI n1), some (pvI n2)], [], M) _
        have b21_ : 0 ≤ Int32.toInt n2 ∧ Int32.toInt n2 ≤ 0 := (by have u0 := (zbnd n2); have u1 := (zi_eq _ _).mp c20_; have u2 := (show 0 ≤ Int32.toInt 0 ∧ Int32.toInt 0 ≤ 0 from (by decide)); omega)
        have b22_ : 0 ≤ Int32.toInt (M.1 125 (Int32.toNatClampNeg n1)) ∧ Int32.toInt (M.1 125 (Int32.toNatClampNeg n1)) ≤ 6 := pvok_r hok 125 (Int32.toNatClampNeg n1) rfl
        refine pw_blk hT 4 (S' := (62, [some (pvR 124), some (pvI n1), some (pvI n2)], [pvI (M.1 125 (Int32.toNatClampNeg n1))], M)) rfl ⟨trivial, rfl, trivial, ⟨rfl, (zr_in (n := 7) b17_ (by decide) (by decide))⟩, trivial⟩ ?_
        exact pw_ret hT rfl (r := some (pvI (M.1 125 (Int32.toNatClampNeg n1)))) (M' := M) ⟨rfl, rfl⟩ ⟨⟨_, rfl, (zr_wide b22_ (by decide) (by decide))⟩, hok, pvfr_0⟩
      · refine And.intro (fun c23_ => ?_) (fun c23_ => ?_)
        · show PW 59 d (63, [some (pvR 124), some (pvI n1), some (pvI n2)], [], M) _
          have b24_ : 1 ≤ Int32.toInt n2 ∧ Int32.toInt n2 ≤ 1 := (by have u0 := (zbnd n2); have u1 := (zi_eq _ _).mp c23_; have u2 := (show 1 ≤ Int32.toInt 1 ∧ Int32.toInt 1 ≤ 1 from (by decide)); omega)
          have b25_ : 0 ≤ Int32.toInt (M.1 126 (Int32.toNatClampNeg n1)) ∧ Int32.toInt (M.1 126 (Int32.toNatClampNeg n1)) ≤ 9 := pvok_r hok 126 (Int32.toNatClampNeg n1) rfl
          refine pw_blk hT 4 (S' := (69, [some (pvR 124), some (pvI n1), some (pvI n2)], [pvI (M.1 126 (Int32.toNatClampNeg n1))], M)) rfl ⟨trivial, rfl, trivial, ⟨rfl, (zr_in (n := 7) b17_ (by decide) (by decide))⟩, trivial⟩ ?_
          exact pw_ret hT rfl (r := some (pvI (M.1 126 (Int32.toNatClampNeg n1)))) (M' := M) ⟨rfl, rfl⟩ ⟨⟨_, rfl, (zr_wide b25_ (by decide) (by decide))⟩, hok, pvfr_0⟩
        · refine And.intro (fun c26_ => ?_) (fun c26_ => ?_)
          · show PW 59 d (70, [some (pvR 124), some (pvI n1), some (pvI n2)], [], M) _
            have b27_ : 2 ≤ Int32.toInt n2 ∧ Int32.toInt n2 ≤ 2 := (by have u0 := (zbnd n2); have u1 := (zi_eq _ _).mp c26_; have u2 := (show 2 ≤ Int32.toInt 2 ∧ Int32.toInt 2 ≤ 2 from (by decide)); omega)
            have b28_ : 0 ≤ Int32.toInt (M.1 127 (Int32.toNatClampNeg n1)) ∧ Int32.toInt (M.1 127 (Int32.toNatClampNeg n1)) ≤ 3 := pvok_r hok 127 (Int32.toNatClampNeg n1) rfl
            refine pw_blk hT 4 (S' := (76, [some (pvR 124), some (pvI n1), some (pvI n2)], [pvI (M.1 127 (Int32.toNatClampNeg n1))], M)) rfl ⟨trivial, rfl, trivial, ⟨rfl, (zr_in (n := 7) b17_ (by decide) (by decide))⟩, trivial⟩ ?_
            exact pw_ret hT rfl (r := some (pvI (M.1 127 (Int32.toNatClampNeg n1)))) (M' := M) ⟨rfl, rfl⟩ ⟨⟨_, rfl, (zr_wide b28_ (by decide) (by decide))⟩, hok, pvfr_0⟩
          · refine And.intro (fun c29_ => ?_) (fun c29_ => ?_)
            · show PW 59 d (77, [some (pvR 124), some (pvI n1), some (pvI n2)], [], M) _
              have b30_ : 3 ≤ Int32.toInt n2 ∧ Int32.toInt n2 ≤ 3 := (by have u0 := (zbnd n2); have u1 := (zi_eq _ _).mp c29_; have u2 := (show 3 ≤ Int32.toInt 3 ∧ Int32.toInt 3 ≤ 3 from (by decide)); omega)
              have b31_ : 0 ≤ Int32.toInt (M.1 128 (Int32.toNatClampNeg n1)) ∧ Int32.toInt (M.1 128 (Int32.toNatClampNeg n1)) ≤ 4 := pvok_r hok 128 (Int32.toNatClampNeg n1) rfl
              refine pw_blk hT 4 (S' := (83, [some (pvR 124), some (pvI n1), some (pvI n2)], [pvI (M.1 128 (Int32.toNatClampNeg n1))], M)) rfl ⟨trivial, rfl, trivial, ⟨rfl, (zr_in (n := 7) b17_ (by decide) (by decide))⟩, trivial⟩ ?_
              exact pw_ret hT rfl (r := some (pvI (M.1 128 (Int32.toNatClampNeg n1)))) (M' := M) ⟨rfl, rfl⟩ ⟨⟨_, rfl, (zr_wide b31_ (by decide) (by decide))⟩, hok, pvfr_0⟩
            · refine And.intro (fun c32_ => ?_) (fun c32_ => ?_)
              · show PW 59 d (84, [some (pvR 124), some (pvI n1), some (pvI n2)], [], M) _
                have b33_ : 4 ≤ Int32.toInt n2 ∧ Int32.toInt n2 ≤ 4 := (by have u0 := (zbnd n2); have u1 := (zi_eq _ _).mp c32_; have u2 := (show 4 ≤ Int32.toInt 4 ∧ Int32.toInt 4 ≤ 4 from (by decide)); omega)
                have b34_ : 0 ≤ Int32.toInt (M.1 129 (Int32.toNatClampNeg n1)) ∧ Int32.toInt (M.1 129 (Int32.toNatClampNeg n1)) ≤ 9 := pvok_r hok 129 (Int32.toNatClampNeg n1) rfl
                refine pw_blk hT 4 (S' := (90, [some (pvR 124), some (pvI n1), some (pvI n2)], [pvI (M.1 129 (Int32.toNatClampNeg n1))], M)) rfl ⟨trivial, rfl, trivial, ⟨rfl, (zr_in (n := 7) b17_ (by decide) (by decide))⟩, trivial⟩ ?_
                exact pw_ret hT rfl (r := some (pvI (M.1 129 (Int32.toNatClampNeg n1)))) (M' := M) ⟨rfl, rfl⟩ ⟨⟨_, rfl, (zr_wide b34_ (by decide) (by decide))⟩, hok, pvfr_0⟩
              · refine And.intro (fun c35_ => ?_) (fun c35_ => ?_)
                · show PW 59 d (91, [some (pvR 124), some (pvI n1), some (pvI n2)], [], M) _
                  have b36_ : 5 ≤ Int32.toInt n2 ∧ Int32.toInt n2 ≤ 5 := (by have u0 := (zbnd n2); have u1 := (zi_eq _ _).mp c35_; have u2 := (show 5 ≤ Int32.toInt 5 ∧ Int32.toInt 5 ≤ 5 from (by decide)); omega)
                  have b37_ : 0 ≤ Int32.toInt (M.1 131 (Int32.toNatClampNeg n1)) ∧ Int32.toInt (M.1 131 (Int32.toNatClampNeg n1)) ≤ 1 := pvok_r hok 131 (Int32.toNatClampNeg n1) rfl
                  refine pw_blk hT 4 (S' := (97, [some (pvR 124), some (pvI n1), some (pvI n2)], [pvI (M.1 131 (Int32.toNatClampNeg n1))], M)) rfl ⟨trivial, rfl, trivial, ⟨rfl, (zr_in (n := 7) b17_ (by decide) (by decide))⟩, trivial⟩ ?_
                  refine pw_if hT (c := (M.1 131 (Int32.toNatClampNeg n1)) = 0) rfl rfl (fun c38_ => ?_) (fun c38_ => ?_)
                  · have b39_ : 0 ≤ Int32.toInt (M.1 131 (Int32.toNatClampNeg n1)) ∧ Int32.toInt (M.1 131 (Int32.toNatClampNeg n1)) ≤ 0 := (by have u0 := b37_; have u1 := (zi_eq _ _).mp c38_; have u2 := (show 0 ≤ Int32.toInt 0 ∧ Int32.toInt 0 ≤ 0 from (by decide)); omega)
                    refine pw_blk hT 1 (S' := (105, [some (pvR 124), some (pvI n1), some (pvI n2)], [pvI 0], M)) rfl ⟨trivial, trivial⟩ ?_
                    exact pw_ret hT rfl (r := some (pvI 0)) (M' := M) ⟨rfl, rfl⟩ ⟨⟨_, rfl, (zr_wide (show 0 ≤ Int32.toInt 0 ∧ Int32.toInt 0 ≤ 0 from (by decide)) (by decide) (by decide))⟩, hok, pvfr_0⟩
                  · have b40_ : 1 ≤ Int32.toInt (M.1 131 (Int32.toNatClampNeg n1)) ∧ Int32.toInt (M.1 131 (Int32.toNatClampNeg n1)) ≤ 1 := (by have u0 := b37_; have u1 := (not_congr (zi_eq _ _)).mp c38_; have u2 := (show 0 ≤ Int32.toInt 0 ∧ Int32.toInt 0 ≤ 0 from (by decide)); omega)
                    refine pw_blk hT 2 (S' := (105, [some (pvR 124), some (pvI n1), some (pvI n2)], [pvI 1], M)) rfl ⟨trivial, trivial, trivial⟩ ?_
                    exact pw_ret hT rfl (r := some (pvI 1)) (M' := M) ⟨rfl, rfl⟩ ⟨⟨_, rfl, (zr_wide (show 1 ≤ Int32.toInt 1 ∧ Int32.toInt 1 ≤ 1 from (by decide)) (by decide) (by decide))⟩, hok, pvfr_0⟩
                · refine And.intro (fun c41_ => ?_) (fun c41_ => ?_)
                  · show PW 59 d (106, [some (pvR 124), some (pvI n1), some (pvI n2)], [], M) _
                    have b42_ : 6 ≤ Int32.toInt n2 ∧ Int32.toInt n2 ≤ 6 := (by have u0 := (zbnd n2); have u1 := (zi_eq _ _).mp c41_; have u2 := (show 6 ≤ Int32.toInt 6 ∧ Int32.toInt 6 ≤ 6 from (by decide)); omega)
                    have b43_ : 0 ≤ Int32.toInt (M.1 124 5) ∧ Int32.toInt (M.1 124 5) ≤ 3 := pvok_r hok 124 5 rfl
                    have b44_ : 0 ≤ Int32.toInt (M.1 124 6) ∧ Int32.toInt (M.1 124 6) ≤ 4 := pvok_r hok 124 6 rfl
                    refine pw_blk hT 6 (S' := (116, [some (pvR 124), some (pvI n1), some (pvI n2)], [pvI n1, pvI (M.1 124 6), pvI (M.1 124 5), pvR 124], M)) rfl ⟨trivial, trivial, rfl, trivial, rfl, trivial, trivial⟩ ?_
                    refine pw_callGp hT (as := [pvR 124, pvI (M.1 124 5), pvI (M.1 124 6), pvI n1]) (lo1 := [some (pvR 124), some (pvI (M.1 124 5)), some (pvI (M.1 124 6)), some (pvI n1)]) (d1 := d) (rest := []) rfl rfl rfl rfl rfl (fun _ => rfl) (Nat.zero_le _) rfl rfl rfl (sf_X10_way_124_x_x_x M hok (M.1 124 5) (M.1 124 6) n1 b43_ b44_ b17_ d) (fun x45_ b47_ => ?_)
                    exact pw_ret hT rfl (r := some (pvI x45_)) (M' := M) ⟨rfl, rfl⟩ ⟨⟨_, rfl, (zr_wide b47_ (by decide) (by decide))⟩, hok, pvfr_0⟩
                  · refine And.intro (fun c50_ => ?_) (fun c50_ => ?_)
                    · show PW 59 d (120, [some (pvR 124), some (pvI n1), some (pvI n2)], [], M) _
                      have b51_ : 7 ≤ Int32.toInt n2 ∧ Int32.toInt n2 ≤ 7 := (by have u0 := (zbnd n2); have u1 := (zi_eq _ _).mp c50_; have u2 := (show 7 ≤ Int32.toInt 7 ∧ Int32.toInt 7 ≤ 7 from (by decide)); omega)
                      refine pw_blk hT 1 (S' := (121, [some (pvR 124), some (pvI n1), some (pvI n2)], [pvR 124], M)) rfl ⟨trivial, trivial⟩ ?_
                      refine pw_callV hT (as := [pvR 124]) (lo1 := [some (pvR 124), none, none]) (d1 := d) (rest := []) rfl rfl rfl rfl rfl (fun _ => rfl) (Nat.zero_le _) rfl rfl rfl (sf_X10_layRain_124 M hok hz d) (fun M53_ o55_ g56_ => ?_)
                      have f57_ : pvFr fp_X10_of_124_x_x M M53_ := pvfr_t g56_ pvfr_0 fp_X10_of_124_x_x_fp_X10_layRain_124
                      refine pw_blk hT 1 (S' := (125, [some (pvR 124), some (pvI n1), some (pvI n2)], [pvR 124], M53_)) rfl ⟨trivial, trivial⟩ ?_
                      refine pw_callV hT (as := [pvR 124]) (lo1 := [some (pvR 124), none]) (d1 := d) (rest := []) rfl rfl rfl rfl rfl (fun _ => rfl) (Nat.zero_le _) rfl rfl rfl (sf_X10_layOpen_124 M53_ o55_ d) (fun M59_ o61_ g62_ => ?_)
                      have f63_ : pvFr fp_X10_of_124_x_x M M59_ := pvfr_t g62_ f57_ fp_X10_of_124_x_x_fp_X10_layOpen_124
                      have b64_ : 0 ≤ Int32.toInt (M59_.1 124 1) ∧ Int32.toInt (M59_.1 124 1) ≤ 9999 := pvok_r o61_ 124 1 rfl
                      refine pw_blk hT 4 (S' := (134, [some (pvR 124), some (pvI n1), some (pvI n2)], [pvI (M59_.1 124 1), pvI n1, pvR 124], M59_)) rfl ⟨trivial, trivial, trivial, rfl, trivial⟩ ?_
                      refine pw_callGp hT (as := [pvR 124, pvI n1, pvI (M59_.1 124 1)]) (lo1 := [some (pvR 124), some (pvI n1), some (pvI (M59_.1 124 1)), none, none]) (d1 := d) (rest := []) rfl rfl rfl rfl rfl (fun _ => rfl) (Nat.zero_le _) rfl rfl rfl (sf_X10_harm_124_x_x M59_ o61_ n1 (M59_.1 124 1) b17_ (zr_wide b64_ (by decide) (by decide)) d) (fun x65_ b67_ => ?_)
                      exact pw_ret hT rfl (r := some (pvI x65_)) (M' := M59_) ⟨rfl, rfl⟩ ⟨⟨_, rfl, (zr_wide b67_ (by decide) (by decide))⟩, o61_, f63_⟩
                    · show PW 59 d (138, [some (pvR 124), some (pvI n1), some (pvI n2)], [], M) _
                      refine pw_blk hT 1 (S' := (139, [some (pvR 124), some (pvI n1), some (pvI n2)], [pvI (-1)], M)) rfl ⟨trivial, trivial⟩ ?_
                      exact pw_ret hT rfl (r := some (pvI (-1))) (M' := M) ⟨rfl, rfl⟩ ⟨⟨_, rfl, (zr_wide (show (-1) ≤ Int32.toInt (-1) ∧ Int32.toInt (-1) ≤ (-1) from (by decide)) (by decide) (by decide))⟩, hok, pvfr_0⟩
def fpL_X10_on_124_x : List (Nat × Nat × Nat) := [(0, 124, 33), (0, 141, 0), (0, 142, 0), (0, 143, 0)]
def fp_X10_on_124_x (q k : Nat) : Bool := pvfp fpL_X10_on_124_x q k
theorem fp_X10_on_124_x_fp_X10_layOpen_124 (a b : Nat) (h : fp_X10_layOpen_124 a b = true) : fp_X10_on_124_x a b = true := pvfp_sub (l1 := fpL_X10_layOpen_124) (l2 := fpL_X10_on_124_x) (by decide) a b h
theorem fp_X10_on_124_x_fp_X10_layRain_124 (a b : Nat) (h : fp_X10_layRain_124 a b = true) : fp_X10_on_124_x a b = true := pvfp_sub (l1 := fpL_X10_layRain_124) (l2 := fpL_X10_on_124_x) (by decide) a b h
set_option maxHeartbeats 4000000 in
set_option maxRecDepth 10000 in
theorem sf_X10_on_124_x (M : pvM) (hok : pvOk M) (n1 : Int32) (hz : pvWF M) (d : Nat) : PW 60 d (0, [some (pvR 124), some (pvI n1)], [], M) (fun r X => (∃ x : Int32, r = some (pvI x) ∧ (-2) ≤ Int32.toInt x ∧ Int32.toInt x ≤ 9000000) ∧ pvOk X ∧ pvFr fp_X10_on_124_x M X) := by
  have hT : pvdom 60 = pvD_60 := rfl
  refine pw_blk hT 4 (S' := (5, [some (pvR 124), some (pvI n1)], [pvI 99, pvI 0, pvI n1, pvR 124], M)) rfl ⟨trivial, trivial, trivial, trivial, trivial⟩ ?_
  refine pw_callT hT (as := [pvR 124, pvI n1, pvI 0, pvI 99]) (lo1 := [some (pvR 124), some (pvI n1), some (pvI 0), some (pvI 99)]) (d1 := d) (rest := []) rfl rfl rfl rfl rfl (fun _ => rfl) (Nat.zero_le _) rfl rfl rfl (sf_X10_in_124_x_x_x M hok n1 0 99 d) ?_
  by_cases c6_ : n1 < 0
  · refine pw_eqI (if_pos c6_) ?_
    have b7_ : (-2147483648) ≤ Int32.toInt n1 ∧ Int32.toInt n1 ≤ (-1) := zr_lt_l (-1) c6_ (zbnd n1) (show 0 ≤ Int32.toInt 0 ∧ Int32.toInt 0 ≤ 0 from (by decide)) (by decide)
    show PW 60 d (8, [some (pvR 124), some (pvI n1)], [pvI 0], M) _
    refine pw_ifn hT (c := 0 = 0) rfl rfl (fun c8_ => absurd (by decide) c8_) (fun c8_ => ?_)
    refine pw_blk hT 1 (S' := (13, [some (pvR 124), some (pvI n1)], [pvI (-2)], M)) rfl ⟨trivial, trivial⟩ ?_
    exact pw_ret hT rfl (r := some (pvI (-2))) (M' := M) ⟨rfl, rfl⟩ ⟨⟨_, rfl, (zr_wide (show (-2) ≤ Int32.toInt (-2) ∧ Int32.toInt (-2) ≤ (-2) from (by decide)) (by decide) (by decide))⟩, hok, pvfr_0⟩
  · refine pw_eqI (if_neg c6_) ?_
    have b9_ : 0 ≤ Int32.toInt n1 ∧ Int32.toInt n1 ≤ 2147483647 := zr_nlt_l 0 c6_ (zbnd n1) (show 0 ≤ Int32.toInt 0 ∧ Int32.toInt 0 ≤ 0 from (by decide)) (by decide)
    by_cases c10_ : 99 < n1
    · refine pw_eqI (if_pos c10_) ?_
      have b11_ : 100 ≤ Int32.toInt n1 ∧ Int32.toInt n1 ≤ 2147483647 := zr_lt_r 100 c10_ b9_ (show 99 ≤ Int32.toInt 99 ∧ Int32.toInt 99 ≤ 99 from (by decide)) (by decide)
      show PW 60 d (8, [some (pvR 124), some (pvI n1)], [pvI 0], M) _
      refine pw_ifn hT (c := 0 = 0) rfl rfl (fun c12_ => absurd (by decide) c12_) (fun c12_ => ?_)
      refine pw_blk hT 1 (S' := (13, [some (pvR 124), some (pvI n1)], [pvI (-2)], M)) rfl ⟨trivial, trivial⟩ ?_
      exact pw_ret hT rfl (r := some (pvI (-2))) (M' := M) ⟨rfl, rfl⟩ ⟨⟨_, rfl, (zr_wide (show (-2) ≤ Int32.toInt (-2) ∧ Int32.toInt (-2) ≤ (-2) from (by decide)) (by decide) (by decide))⟩, hok, pvfr_0⟩
    · refine pw_eqI (if_neg c10_) ?_
      have b13_ : 0 ≤ Int32.toInt n1 ∧ Int32.toInt n1 ≤ 99 := zr_nlt_r 99 c10_ b9_ (show 99 ≤ Int32.toInt 99 ∧ Int32.toInt 99 ≤ 99 from (by decide)) (by decide)
      show PW 60 d (8, [some (pvR 124), some (pvI n1)], [pvI 1], M) _
      refine pw_ifn hT (c := 1 = 0) rfl rfl (fun c14_ => ?_) (fun c14_ => absurd c14_ (by decide))
      refine pw_blk hT 1 (S' := (15, [some (pvR 124), some (pvI n1)], [pvR 124], M)) rfl ⟨trivial, trivial⟩ ?_
      refine pw_callV hT (as := [pvR 124]) (lo1 := [some (pvR 124), none, none]) (d1 := d) (rest := []) rfl rfl rfl rfl rfl (fun _ => rfl) (Nat.zero_le _) rfl rfl rfl (sf_X10_layRain_124 M hok hz d) (fun M16_ o18_ g19_ => ?_)
      have f20_ : pvFr fp_X10_on_124_x M M16_ := pvfr_t g19_ pvfr_0 fp_X10_on_124_x_fp_X10_layRain_124
      refine pw_blk hT 1 (S' := (19, [some (pvR 124), some (pvI n1)], [pvR 124], M16_)) rfl ⟨trivial, trivial⟩ ?_
      refine pw_callV hT (as := [pvR 124]) (lo1 := [some (pvR 124), none]) (d1 := d) (rest := []) rfl rfl rfl rfl rfl (fun _ => rfl) (Nat.zero_le _) rfl rfl rfl (sf_X10_layOpen_124 M16_ o18_ d) (fun M22_ o24_ g25_ => ?_)
      have f26_ : pvFr fp_X10_on_124_x M M22_ := pvfr_t g25_ f20_ fp_X10_on_124_x_fp_X10_layOpen_124
      have b27_ : 0 ≤ Int32.toInt (M22_.1 124 1) ∧ Int32.toInt (M22_.1 124 1) ≤ 9999 := pvok_r o24_ 124 1 rfl
      obtain ⟨q29_, b28_⟩ : (Int32.toInt ((M22_.1 124 1) + n1) = Int32.toInt (M22_.1 124 1) + Int32.toInt n1) ∧ (0 ≤ Int32.toInt ((M22_.1 124 1) + n1) ∧ Int32.toInt ((M22_.1 124 1) + n1) ≤ 10098) := zadd_r (M22_.1 124 1) n1 0 10098 b27_ b13_ (by decide) (by decide) (by decide) (by decide)
      refine pw_blk hT 7 (S' := (33, [some (pvR 124), some (pvI n1)], [pvI ((M22_.1 124 1) + n1), pvI (M22_.1 124 1), pvR 124], M22_)) rfl ⟨trivial, trivial, rfl, trivial, rfl, trivial, trivial, trivial⟩ ?_
      refine pw_callGp hT (as := [pvR 124, pvI (M22_.1 124 1), pvI ((M22_.1 124 1) + n1)]) (lo1 := [some (pvR 124), some (pvI (M22_.1 124 1)), some (pvI ((M22_.1 124 1) + n1)), none, none]) (d1 := d) (rest := []) rfl rfl rfl rfl rfl (fun _ => rfl) (Nat.zero_le _) rfl rfl rfl (sf_X10_harmFrom_124_x_x M22_ o24_ (M22_.1 124 1) ((M22_.1 124 1) + n1) (zr_wide b27_ (by decide) (by decide)) (zr_wide b28_ (by decide) (by decide)) d) (fun x30_ b32_ => ?_)
      exact pw_ret hT rfl (r := some (pvI x30_)) (M' := M22_) ⟨rfl, rfl⟩ ⟨⟨_, rfl, (zr_wide b32_ (by decide) (by decide))⟩, o24_, f26_⟩
