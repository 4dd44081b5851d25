def fpL_eX10_late_124_x : List (Nat × Nat × Nat) := [(0, 124, 33), (0, 124, 36), (0, 141, 0), (0, 142, 0), (0, 143, 0), (0, 144, 0)]
def fp_eX10_late_124_x (q k : Nat) : Bool := pvfp fpL_eX10_late_124_x q k
theorem fp_eX10_late_124_x_fp_eX10_costOfPath_124_x (a b : Nat) (h : fp_eX10_costOfPath_124_x a b = true) : fp_eX10_late_124_x a b = true := pvfp_sub (l1 := fpL_eX10_costOfPath_124_x) (l2 := fpL_eX10_late_124_x) (by decide) a b h
theorem fp_eX10_late_124_x_fp_eX10_layRain_124 (a b : Nat) (h : fp_eX10_layRain_124 a b = true) : fp_eX10_late_124_x a b = true := pvfp_sub (l1 := fpL_eX10_layRain_124) (l2 := fpL_eX10_late_124_x) (by decide) a b h
theorem fp_eX10_late_124_x_fp_eX10_layRound_124 (a b : Nat) (h : fp_eX10_layRound_124 a b = true) : fp_eX10_late_124_x a b = true := pvfp_sub (l1 := fpL_eX10_layRound_124) (l2 := fpL_eX10_late_124_x) (by decide) a b h
set_option maxHeartbeats 4000000 in
set_option maxRecDepth 10000 in
theorem se_X10_late_124_x (M : pvM) (hok : pvOk M) (n1 : Int32) (hz : pvWF M) (d : Nat) : PW 47 d (0, [some (pvR 124), some (pvI n1), none], [], M) (fun r X => (∃ x : Int32, r = some (pvI x) ∧ (-5) ≤ Int32.toInt x ∧ Int32.toInt x ≤ 60) ∧ pvOk X ∧ pvFr fp_eX10_late_124_x M X ∧ yA0 (yGlt n1) r M) := by
  have hT : pvdom 47 = pvD_47 := rfl
  refine pw_blk hT 2 (S' := (2, [some (pvR 124), some (pvI n1), none], [pvI n1, pvR 124], M)) rfl ⟨trivial, trivial, trivial⟩ ?_
  refine pw_callT hT (as := [pvR 124, pvI n1]) (lo1 := [some (pvR 124), some (pvI n1)]) (d1 := d) (rest := []) rfl rfl rfl rfl rfl (fun _ => rfl) (Nat.zero_le _) rfl rfl rfl (sf_X10_isLimit_124_x M hok n1 d) ?_
  by_cases c6_ : n1 < 0
  · refine pw_eqI (if_pos c6_) ?_
    have b7_ : (-2147483648) ≤ Int32.toInt n1 ∧ Int32.toInt n1 ≤ (-1) := zr_lt_l (-1) c6_ (zbnd n1) (show 0 ≤ Int32.toInt 0 ∧ Int32.toInt 0 ≤ 0 from (by decide)) (by decide)
    show PW 47 d (5, [some (pvR 124), some (pvI n1), none], [pvI 0], M) _
    refine pw_ifn hT (c := 0 = 0) rfl rfl (fun c8_ => absurd (by decide) c8_) (fun c8_ => ?_)
    refine pw_blk hT 1 (S' := (10, [some (pvR 124), some (pvI n1), none], [pvI (-2)], M)) rfl ⟨trivial, trivial⟩ ?_
    exact pw_ret hT rfl (r := some (pvI (-2))) (M' := M) ⟨rfl, rfl⟩ ⟨⟨_, rfl, (zr_wide (show (-2) ≤ Int32.toInt (-2) ∧ Int32.toInt (-2) ≤ (-2) from (by decide)) (by decide) (by decide))⟩, hok, pvfr_0, (yGlt0_n (by have u := b7_; omega) (by decide))⟩
  · refine pw_eqI (if_neg c6_) ?_
    have b9_ : 0 ≤ Int32.toInt n1 ∧ Int32.toInt n1 ≤ 2147483647 := zr_nlt_l 0 c6_ (zbnd n1) (show 0 ≤ Int32.toInt 0 ∧ Int32.toInt 0 ≤ 0 from (by decide)) (by decide)
    by_cases c10_ : 99999 < n1
    · refine pw_eqI (if_pos c10_) ?_
      have b11_ : 100000 ≤ Int32.toInt n1 ∧ Int32.toInt n1 ≤ 2147483647 := zr_lt_r 100000 c10_ b9_ (show 99999 ≤ Int32.toInt 99999 ∧ Int32.toInt 99999 ≤ 99999 from (by decide)) (by decide)
      show PW 47 d (5, [some (pvR 124), some (pvI n1), none], [pvI 0], M) _
      refine pw_ifn hT (c := 0 = 0) rfl rfl (fun c12_ => absurd (by decide) c12_) (fun c12_ => ?_)
      refine pw_blk hT 1 (S' := (10, [some (pvR 124), some (pvI n1), none], [pvI (-2)], M)) rfl ⟨trivial, trivial⟩ ?_
      exact pw_ret hT rfl (r := some (pvI (-2))) (M' := M) ⟨rfl, rfl⟩ ⟨⟨_, rfl, (zr_wide (show (-2) ≤ Int32.toInt (-2) ∧ Int32.toInt (-2) ≤ (-2) from (by decide)) (by decide) (by decide))⟩, hok, pvfr_0, (yGlt0_n (by have u := b11_; omega) (by decide))⟩
    · refine pw_eqI (if_neg c10_) ?_
      have b13_ : 0 ≤ Int32.toInt n1 ∧ Int32.toInt n1 ≤ 99999 := zr_nlt_r 99999 c10_ b9_ (show 99999 ≤ Int32.toInt 99999 ∧ Int32.toInt 99999 ≤ 99999 from (by decide)) (by decide)
      show PW 47 d (5, [some (pvR 124), some (pvI n1), none], [pvI 1], M) _
      refine pw_ifn hT (c := 1 = 0) rfl rfl (fun c14_ => ?_) (fun c14_ => absurd c14_ (by decide))
      refine pw_blk hT 1 (S' := (12, [some (pvR 124), some (pvI n1), none], [pvR 124], M)) rfl ⟨trivial, trivial⟩ ?_
      refine pw_callVd hT (as := [pvR 124]) (lo1 := [some (pvR 124), none, none]) (d1 := d) (rest := []) rfl rfl rfl rfl rfl (fun _ => rfl) (Nat.zero_le _) rfl rfl rfl (se_X10_layRain_124 M hok hz d) (fun M17_ o19_ g20_ d15_ => ?_)
      have f21_ : pvFr fp_eX10_late_124_x M M17_ := pvfr_t g20_ pvfr_0 fp_eX10_late_124_x_fp_eX10_layRain_124
      refine pw_blk hT 1 (S' := (16, [some (pvR 124), some (pvI n1), none], [pvR 124], M17_)) rfl ⟨trivial, trivial⟩ ?_
      refine pw_callVd hT (as := [pvR 124]) (lo1 := [some (pvR 124), none]) (d1 := d) (rest := []) rfl rfl rfl rfl rfl (fun _ => rfl) (Nat.zero_le _) rfl rfl rfl (se_X10_layRound_124 M17_ o19_ d) (fun M24_ o26_ g27_ d22_ => ?_)
      have f28_ : pvFr fp_eX10_late_124_x M M24_ := pvfr_t g27_ f21_ fp_eX10_late_124_x_fp_eX10_layRound_124
      refine pw_blk hT 2 (S' := (22, [some (pvR 124), some (pvI n1), some (pvI 60)], [], M24_)) rfl ⟨trivial, trivial, trivial⟩ ?_
      have hlz99_ : ∀ (nz99_ : Nat) (i2z99_ : Int32) (Mz99_ : pvM), (pvOk Mz99_) → (pvFr fp_eX10_late_124_x M Mz99_) → ((-1) ≤ Int32.toInt i2z99_ ∧ Int32.toInt i2z99_ ≤ 60) → (yLt0 M Mz99_ n1 i2z99_) → (zhide ((Int32.toInt i2z99_ + 2).toNat < nz99_)) → PW 47 d (22, [some (pvR 124), some (pvI n1), some (pvI i2z99_)], [], Mz99_) (fun r X => (∃ x : Int32, r = some (pvI x) ∧ (-5) ≤ Int32.toInt x ∧ Int32.toInt x ≤ 60) ∧ pvOk X ∧ pvFr fp_eX10_late_124_x M X ∧ yA0 (yGlt n1) r M) := by
        intro nz99_
        induction nz99_ with
        | zero => intro i2z99_ Mz99_ oz99_ fz99_ h2z99_ j0z99_ hmz99_; exact absurd (zshow hmz99_) (Nat.not_lt_zero _)
        | succ nz99_ ihz99_ =>
          intro i2z99_ Mz99_ oz99_ fz99_ h2z99_ j0z99_ hmz99_
          refine pw_blk hT 1 (S' := (23, [some (pvR 124), some (pvI n1), some (pvI i2z99_)], [pvI i2z99_], Mz99_)) rfl ⟨trivial, trivial⟩ ?_
          refine pw_if hT (c := i2z99_ < 0) rfl rfl (fun c100_ => ?_) (fun c100_ => ?_)
          · have b101_ : (-1) ≤ Int32.toInt i2z99_ ∧ Int32.toInt i2z99_ ≤ (-1) := zr_lt_l (-1) c100_ h2z99_ (show 0 ≤ Int32.toInt 0 ∧ Int32.toInt 0 ≤ 0 from (by decide)) (by decide)
            refine pw_blk hT 1 (S' := (45, [some (pvR 124), some (pvI n1), some (pvI i2z99_)], [pvI (-5)], Mz99_)) rfl ⟨trivial, trivial⟩ ?_
            exact pw_ret hT rfl (r := some (pvI (-5))) (M' := Mz99_) ⟨rfl, rfl⟩ ⟨⟨_, rfl, (zr_wide (show (-5) ≤ Int32.toInt (-5) ∧ Int32.toInt (-5) ≤ (-5) from (by decide)) (by decide) (by decide))⟩, oz99_, fz99_, (yGlt0_e j0z99_ (by have u := b13_; omega) (by have u := b101_; omega) (by decide))⟩
          · have b102_ : 0 ≤ Int32.toInt i2z99_ ∧ Int32.toInt i2z99_ ≤ 60 := zr_nlt_l 0 c100_ h2z99_ (show 0 ≤ Int32.toInt 0 ∧ Int32.toInt 0 ≤ 0 from (by decide)) (by decide)
            refine pw_blk hT 2 (S' := (28, [some (pvR 124), some (pvI n1), some (pvI i2z99_)], [pvI i2z99_, pvR 124], Mz99_)) rfl ⟨trivial, trivial, trivial⟩ ?_
            refine pw_callGd hT (as := [pvR 124, pvI i2z99_]) (lo1 := [some (pvR 124), some (pvI i2z99_), none]) (d1 := d) (rest := []) rfl rfl rfl rfl rfl (fun _ => rfl) (Nat.zero_le _) rfl rfl rfl (se_X10_costOfPath_124_x Mz99_ oz99_ i2z99_ b102_ d) (fun x104_ M105_ b106_ o107_ g108_ d103_ => ?_)
            have f109_ : pvFr fp_eX10_late_124_x M M105_ := pvfr_t g108_ fz99_ fp_eX10_late_124_x_fp_eX10_costOfPath_124_x
            refine pw_blk hT 1 (S' := (32, [some (pvR 124), some (pvI n1), some (pvI i2z99_)], [pvI n1, pvI x104_], M105_)) rfl ⟨trivial, trivial⟩ ?_
            refine pw_ic hT (c := n1 < x104_) rfl rfl (fun c110_ => ?_) (fun c110_ => ?_)
            · have b111_ : 1 ≤ Int32.toInt x104_ ∧ Int32.toInt x104_ ≤ 9000000 := zr_lt_r 1 c110_ b106_ b13_ (by decide)
              have d112_ : Int32.toInt n1 < Int32.toInt x104_ := (zi_lt _ _).mp c110_
              obtain ⟨q114_, b113_⟩ : (Int32.toInt (i2z99_ + (-1)) = Int32.toInt i2z99_ + (-1)) ∧ ((-1) ≤ Int32.toInt (i2z99_ + (-1)) ∧ Int32.toInt (i2z99_ + (-1)) ≤ 59) := zadd_k i2z99_ (-1) (-1) (-1) 59 b102_ (by decide) (by decide) (by decide) (by decide) (by decide)
              refine pw_blk hT 2 (S' := (22, [some (pvR 124), some (pvI n1), some (pvI (i2z99_ + (-1)))], [], M105_)) rfl ⟨trivial, trivial, trivial⟩ ?_
              have j115_ : yLt0 M M105_ n1 (i2z99_ + (-1)) := (yLt0_s j0z99_ (by have u := b102_; omega) d103_ (Int32.not_le.mpr c110_) (by omega))
              exact ihz99_ (i2z99_ + (-1)) M105_ o107_ f109_ (zr_wide b113_ (by decide) (by decide)) j115_ (zhid (pvms_dn (zshow hmz99_) h2z99_ q114_ (by decide) (by decide)))
            · have b116_ : 0 ≤ Int32.toInt x104_ ∧ Int32.toInt x104_ ≤ 99999 := zr_nlt_r 99999 c110_ b106_ b13_ (by decide)
              have d117_ : Int32.toInt n1 ≥ Int32.toInt x104_ := Int.not_lt.mp ((not_congr (zi_lt _ _)).mp c110_)
              refine pw_blk hT 1 (S' := (36, [some (pvR 124), some (pvI n1), some (pvI i2z99_)], [pvI i2z99_], M105_)) rfl ⟨trivial, trivial⟩ ?_
              exact pw_ret hT rfl (r := some (pvI i2z99_)) (M' := M105_) ⟨rfl, rfl⟩ ⟨⟨_, rfl, (zr_wide b102_ (by decide) (by decide))⟩, o107_, f109_, (yGlt0_y j0z99_ (by have u := b13_; omega) (by have u := b102_; omega) d103_ (Int32.not_lt.mp c110_))⟩
      have u118_ : Int32.toInt 60 = 60 := by decide
      have j119_ : yLt0 M M24_ n1 60 := (yLt0_0 d15_ d22_ (by decide))
      exact hlz99_ _ 60 M24_ o26_ f28_ (zr_wide (show 60 ≤ Int32.toInt 60 ∧ Int32.toInt 60 ≤ 60 from (by decide)) (by decide) (by decide)) j119_ (zhid (Nat.lt_succ_self _))
def fpL_eX10_leave_124 : List (Nat × Nat × Nat) := [(0, 124, 33), (0, 124, 36), (0, 141, 0), (0, 142, 0), (0, 143, 0), (0, 144, 0)]
def fp_eX10_leave_124 (q k : Nat) : Bool := pvfp fpL_eX10_leave_124 q k
theorem fp_eX10_leave_124_fp_eX10_costOfPath_124_x (a b : Nat) (h : fp_eX10_costOfPath_124_x a b = true) : fp_eX10_leave_124 a b = true := pvfp_sub (l1 := fpL_eX10_costOfPath_124_x) (l2 := fpL_eX10_leave_124) (by decide) a b h
theorem fp_eX10_leave_124_fp_eX10_costOfRound_124_x (a b : Nat) (h : fp_eX10_costOfRound_124_x a b = true) : fp_eX10_leave_124 a b = true := pvfp_sub (l1 := fpL_eX10_costOfRound_124_x) (l2 := fpL_eX10_leave_124) (by decide) a b h
set_option maxHeartbeats 4000000 in
set_option maxRecDepth 10000 in
theorem se_X10_leave_124 (M : pvM) (hok : pvOk M) (hz : pvWF M) (d : Nat) : PW 52 d (0, [some (pvR 124), none, none, none, none], [], M) (fun r X => (∃ x : Int32, r = some (pvI x) ∧ True) ∧ pvOk X ∧ pvFr fp_eX10_leave_124 M X ∧ yA0 yGlv r M) := by
  have hT : pvdom 52 = pvD_52 := rfl
  refine pw_blk hT 2 (S' := (2, [some (pvR 124), none, none, none, none], [pvI 0, pvR 124], M)) rfl ⟨trivial, trivial, trivial⟩ ?_
  have u1_ : Int32.toInt 0 = 0 := by decide
  refine pw_callGd hT (as := [pvR 124, pvI 0]) (lo1 := [some (pvR 124), some (pvI 0)]) (d1 := d) (rest := []) rfl rfl rfl rfl rfl (fun _ => rfl) (Nat.zero_le _) rfl rfl rfl (se_X10_costOfRound_124_x M hok 0 (zr_wide (show 0 ≤ Int32.toInt 0 ∧ Int32.toInt 0 ≤ 0 from (by decide)) (by decide) (by decide)) hz d) (fun x3_ M4_ b5_ o6_ g7_ d2_ => ?_)
  have f8_ : pvFr fp_eX10_leave_124 M M4_ := pvfr_t g7_ pvfr_0 fp_eX10_leave_124_fp_eX10_costOfRound_124_x
  refine pw_blk hT 5 (S' := (10, [some (pvR 124), some (pvI x3_), some (pvI 0), some (pvI 0), none], [], M4_)) rfl ⟨trivial, trivial, trivial, trivial, trivial, trivial⟩ ?_
  have hlz819_ : ∀ (nz819_ : Nat) (i2z819_ : Int32) (i3z819_ : Int32) (v4z819_ : Option pvV) (Mz819_ : pvM), (pvOk Mz819_) → (pvFr fp_eX10_leave_124 M Mz819_) → (0 ≤ Int32.toInt i3z819_ ∧ Int32.toInt i3z819_ ≤ 7) → (yLv0 M Mz819_ x3_ i2z819_ i3z819_) → (zhide ((8 - Int32.toInt i3z819_).toNat < nz819_)) → PW 52 d (10, [some (pvR 124), some (pvI x3_), some (pvI i2z819_), some (pvI i3z819_), v4z819_], [], Mz819_) (fun r X => (∃ x : Int32, r = some (pvI x) ∧ True) ∧ pvOk X ∧ pvFr fp_eX10_leave_124 M X ∧ yA0 yGlv r M) := by
    intro nz819_
    induction nz819_ with
    | zero => intro i2z819_ i3z819_ v4z819_ Mz819_ oz819_ fz819_ h3z819_ j0z819_ hmz819_; exact absurd (zshow hmz819_) (Nat.not_lt_zero _)
    | succ nz819_ ihz819_ =>
      intro i2z819_ i3z819_ v4z819_ Mz819_ oz819_ fz819_ h3z819_ j0z819_ hmz819_
      have b820_ : 0 ≤ Int32.toInt (Mz819_.1 124 37) ∧ Int32.toInt (Mz819_.1 124 37) ≤ 7 := pvok_r oz819_ 124 37 rfl
      refine pw_blk hT 3 (S' := (15, [some (pvR 124), some (pvI x3_), some (pvI i2z819_), some (pvI i3z819_), v4z819_], [pvI (Mz819_.1 124 37), pvI i3z819_], Mz819_)) rfl ⟨trivial, trivial, rfl, trivial⟩ ?_
      refine pw_ic hT (c := (Mz819_.1 124 37) ≤ i3z819_) rfl rfl (fun c821_ => ?_) (fun c821_ => ?_)
      · have d822_ : Int32.toInt (Mz819_.1 124 37) ≤ Int32.toInt i3z819_ := (zi_le _ _).mp c821_
        refine pw_blk hT 1 (S' := (107, [some (pvR 124), some (pvI x3_), some (pvI i2z819_), some (pvI i3z819_), v4z819_], [pvI i2z819_], Mz819_)) rfl ⟨trivial, trivial⟩ ?_
        exact pw_ret hT rfl (r := some (pvI i2z819_)) (M' := Mz819_) ⟨rfl, rfl⟩ ⟨⟨_, rfl, trivial⟩, oz819_, fz819_, (yGlv0_e j0z819_ c821_)⟩
      · have b823_ : 1 ≤ Int32.toInt (Mz819_.1 124 37) ∧ Int32.toInt (Mz819_.1 124 37) ≤ 7 := zr_nle_l 1 c821_ b820_ h3z819_ (by decide)
        have b824_ : 0 ≤ Int32.toInt i3z819_ ∧ Int32.toInt i3z819_ ≤ 6 := zr_nle_r 6 c821_ h3z819_ b823_ (by decide)
        have d825_ : Int32.toInt (Mz819_.1 124 37) > Int32.toInt i3z819_ := Int.not_le.mp ((not_congr (zi_le _ _)).mp c821_)
        refine pw_blkw hT 3 (pc := 23) (lo := [some (pvR 124), some (pvI x3_), some (pvI i2z819_), some (pvI i3z819_), v4z819_]) (st := []) (M := pvu Mz819_ 124 35 0) rfl ⟨trivial, trivial, rfl, trivial⟩ (fun M826_ e827_ => ?_)
        have o828_ : pvOk M826_ := pvok_u2 e827_ oz819_ rfl (zr_wide (show 0 ≤ Int32.toInt 0 ∧ Int32.toInt 0 ≤ 0 from (by decide)) (by decide) (by decide))
        have f829_ : pvFr fp_eX10_leave_124 M M826_ := pvfr_u e827_ fz819_ rfl
        refine pw_blk hT 2 (S' := (26, [some (pvR 124), some (pvI x3_), some (pvI i2z819_), some (pvI i3z819_), some (pvI 0)], [], M826_)) rfl ⟨trivial, trivial, trivial⟩ ?_
        have e830_ : (M826_.1 124 37) = (Mz819_.1 124 37) := (pvu_n e827_ 124 37 (Or.inr (by decide)))
        have b831_ : 1 ≤ Int32.toInt (M826_.1 124 37) ∧ Int32.toInt (M826_.1 124 37) ≤ 7 := (by rw [e830_]; exact b823_)
        have hlz970_ : ∀ (nz970_ : Nat) (i4z970_ : Int32) (Mz970_ : pvM), (pvOk Mz970_) → (pvFr fp_eX10_leave_124 M Mz970_) → (Mz970_.1 124 37 = M826_.1 124 37) → (0 ≤ Int32.toInt i4z970_ ∧ Int32.toInt i4z970_ ≤ 7) → (Int32.toInt (Mz970_.1 124 35) ≤ Int32.toInt i4z970_) → (yLv1 M Mz970_ x3_ i2z819_ i3z819_ i4z970_) → (zhide ((8 - Int32.toInt i4z970_).toNat < nz970_)) → PW 52 d (26, [some (pvR 124), some (pvI x3_), some (pvI i2z819_), some (pvI i3z819_), some (pvI i4z970_)], [], Mz970_) (fun r X => (∃ x : Int32, r = some (pvI x) ∧ True) ∧ pvOk X ∧ pvFr fp_eX10_leave_124 M X ∧ yA0 yGlv r M) := by
          intro nz970_
          induction nz970_ with
          | zero => intro i4z970_ Mz970_ oz970_ fz970_ k124_37z970_ h4z970_ j0z970_ j1z970_ hmz970_; exact absurd (zshow hmz970_) (Nat.not_lt_zero _)
          | succ nz970_ ihz970_ =>
            intro i4z970_ Mz970_ oz970_ fz970_ k124_37z970_ h4z970_ j0z970_ j1z970_ hmz970_
            have b971_ : 0 ≤ Int32.toInt (Mz970_.1 124 35) ∧ Int32.toInt (Mz970_.1 124 35) ≤ 7 := pvok_r oz970_ 124 35 rfl
            have e972_ : (Mz970_.1 124 37) = (M826_.1 124 37) := (k124_37z970_)
            have b973_ : 1 ≤ Int32.toInt (Mz970_.1 124 37) ∧ Int32.toInt (Mz970_.1 124 37) ≤ 7 := (by rw [e972_]; exact b831_)
            refine pw_blk hT 3 (S' := (32, [some (pvR 124), some (pvI x3_), some (pvI i2z819_), some (pvI i3z819_), some (pvI i4z970_)], [pvI (Mz970_.1 124 37), pvI i4z970_], Mz970_)) rfl ⟨trivial, trivial, rfl, trivial⟩ ?_
            refine pw_ic hT (c := (Mz970_.1 124 37) ≤ i4z970_) rfl rfl (fun c974_ => ?_) (fun c974_ => ?_)
            · have b975_ : 1 ≤ Int32.toInt i4z970_ ∧ Int32.toInt i4z970_ ≤ 7 := zr_le_r 1 c974_ h4z970_ b973_ (by decide)
              have d976_ : Int32.toInt (Mz970_.1 124 37) ≤ Int32.toInt i4z970_ := (zi_le _ _).mp c974_
              refine pw_blk hT 3 (S' := (79, [some (pvR 124), some (pvI x3_), some (pvI i2z819_), some (pvI i3z819_), some (pvI i4z970_)], [pvI 0, pvR 124, pvI i2z819_], Mz970_)) rfl ⟨trivial, trivial, trivial, trivial⟩ ?_
              refine pw_callGd hT (as := [pvR 124, pvI 0]) (lo1 := [some (pvR 124), some (pvI 0), none]) (d1 := d) (rest := [pvI i2z819_]) rfl rfl rfl rfl rfl (fun _ => rfl) (Nat.zero_le _) rfl rfl rfl (se_X10_costOfPath_124_x Mz970_ oz970_ 0 (zr_wide (show 0 ≤ Int32.toInt 0 ∧ Int32.toInt 0 ≤ 0 from (by decide)) (by decide) (by decide)) d) (fun x978_ M979_ b980_ o981_ g982_ d977_ => ?_)
              have f983_ : pvFr fp_eX10_leave_124 M M979_ := pvfr_t g982_ fz970_ fp_eX10_leave_124_fp_eX10_costOfPath_124_x
              refine pw_blk hT 1 (S' := (83, [some (pvR 124), some (pvI x3_), some (pvI i2z819_), some (pvI i3z819_), some (pvI i4z970_)], [pvI x3_, pvI x978_, pvI i2z819_], M979_)) rfl ⟨trivial, trivial⟩ ?_
              refine pw_ic hT (c := x3_ < x978_) rfl rfl (fun c984_ => ?_) (fun c984_ => ?_)
              · have b985_ : 0 ≤ Int32.toInt x3_ ∧ Int32.toInt x3_ ≤ 8999999 := zr_lt_l 8999999 c984_ b5_ b980_ (by decide)
                have b986_ : 1 ≤ Int32.toInt x978_ ∧ Int32.toInt x978_ ≤ 9000000 := zr_lt_r 1 c984_ b980_ b985_ (by decide)
                have d987_ : Int32.toInt x3_ < Int32.toInt x978_ := (zi_lt _ _).mp c984_
                obtain ⟨q989_, b988_⟩ : (Int32.toInt (i3z819_ + 1) = Int32.toInt i3z819_ + 1) ∧ (1 ≤ Int32.toInt (i3z819_ + 1) ∧ Int32.toInt (i3z819_ + 1) ≤ 7) := zadd_k i3z819_ 1 1 1 7 b824_ (by decide) (by decide) (by decide) (by decide) (by decide)
                refine pw_blk hT 5 (S' := (10, [some (pvR 124), some (pvI x3_), some (pvI (i2z819_ ||| 0)), some (pvI (i3z819_ + 1)), some (pvI i4z970_)], [], M979_)) rfl ⟨trivial, trivial, trivial, trivial, trivial, trivial⟩ ?_
                have j990_ : yLv0 M M979_ x3_ (i2z819_ ||| 0) (i3z819_ + 1) := (yLv0_s hok j1z970_ (by have u := b975_; omega) (by have u := b824_; omega) c974_ d977_ (by decide) (by omega) (Or.inr ⟨(Int32.not_le.mpr c984_), rfl⟩))
                exact ihz819_ (i2z819_ ||| 0) (i3z819_ + 1) (some (pvI i4z970_)) M979_ o981_ f983_ (zr_wide b988_ (by decide) (by decide)) j990_ (zhid (pvms_up (zshow hmz819_) h3z819_ q989_ (by decide) (by decide)))
              · have d991_ : Int32.toInt x3_ ≥ Int32.toInt x978_ := Int.not_lt.mp ((not_congr (zi_lt _ _)).mp c984_)
                have b992_ : 0 ≤ Int32.toInt (M979_.1 145 (Int32.toNatClampNeg i3z819_)) ∧ Int32.toInt (M979_.1 145 (Int32.toNatClampNeg i3z819_)) ≤ 6 := pvok_r o981_ 145 (Int32.toNatClampNeg i3z819_) rfl
                obtain ⟨q994_, b993_⟩ : (Int32.toInt (i3z819_ + 1) = Int32.toInt i3z819_ + 1) ∧ (1 ≤ Int32.toInt (i3z819_ + 1) ∧ Int32.toInt (i3z819_ + 1) ≤ 7) := zadd_k i3z819_ 1 1 1 7 b824_ (by decide) (by decide) (by decide) (by decide) (by decide)
                refine pw_blk hT 11 (S' := (10, [some (pvR 124), some (pvI x3_), some (pvI (i2z819_ ||| (1 <<< ((M979_.1 145 (Int32.toNatClampNeg i3z819_)) &&& 31)))), some (pvI (i3z819_ + 1)), some (pvI i4z970_)], [], M979_)) rfl ⟨trivial, trivial, rfl, trivial, ⟨rfl, (zr_in (n := 7) b824_ (by decide) (by decide))⟩, trivial, trivial, trivial, trivial, trivial, trivial, trivial⟩ ?_
                have j995_ : yLv0 M M979_ x3_ (i2z819_ ||| (1 <<< ((M979_.1 145 (Int32.toNatClampNeg i3z819_)) &&& 31))) (i3z819_ + 1) := (yLv0_s hok j1z970_ (by have u := b975_; omega) (by have u := b824_; omega) c974_ d977_ (by decide) (by omega) (Or.inl ⟨(Int32.not_lt.mp c984_), rfl⟩))
                exact ihz819_ (i2z819_ ||| (1 <<< ((M979_.1 145 (Int32.toNatClampNeg i3z819_)) &&& 31))) (i3z819_ + 1) (some (pvI i4z970_)) M979_ o981_ f983_ (zr_wide b993_ (by decide) (by decide)) j995_ (zhid (pvms_up (zshow hmz819_) h3z819_ q994_ (by decide) (by decide)))
            · have b996_ : 0 ≤ Int32.toInt i4z970_ ∧ Int32.toInt i4z970_ ≤ 6 := zr_nle_r 6 c974_ h4z970_ b973_ (by decide)
              have d997_ : Int32.toInt (Mz970_.1 124 37) > Int32.toInt i4z970_ := Int.not_le.mp ((not_congr (zi_le _ _)).mp c974_)
              refine pw_blk hT 2 (S' := (38, [some (pvR 124), some (pvI x3_), some (pvI i2z819_), some (pvI i3z819_), some (pvI i4z970_)], [pvI i3z819_, pvI i4z970_], Mz970_)) rfl ⟨trivial, trivial, trivial⟩ ?_
              refine pw_icn hT (c := i4z970_ = i3z819_) rfl rfl (fun c998_ => ?_) (fun c998_ => ?_)
              · have b999_ : 0 ≤ Int32.toInt (Mz970_.1 145 (Int32.toNatClampNeg i4z970_)) ∧ Int32.toInt (Mz970_.1 145 (Int32.toNatClampNeg i4z970_)) ≤ 6 := pvok_r oz970_ 145 (Int32.toNatClampNeg i4z970_) rfl
                refine pw_blkw hT 9 (pc := 60) (lo := [some (pvR 124), some (pvI x3_), some (pvI i2z819_), some (pvI i3z819_), some (pvI i4z970_)]) (st := []) (M := pvu Mz970_ 144 (Int32.toNatClampNeg (Mz970_.1 124 35)) (Mz970_.1 145 (Int32.toNatClampNeg i4z970_))) rfl ⟨trivial, rfl, trivial, rfl, trivial, rfl, trivial, ⟨rfl, (zr_in (n := 7) b996_ (by decide) (by decide))⟩, ⟨rfl, (vp_in_iff.mpr (show 0 ≤ Int32.toInt (Mz970_.1 124 35) ∧ Int32.toInt (Mz970_.1 124 35) < ((7 : Nat) : Int) from (by have u0 := b971_; omega)))⟩, trivial⟩ (fun M1000_ e1001_ => ?_)
                have o1002_ : pvOk M1000_ := pvok_u2 e1001_ oz970_ rfl b999_
                have f1003_ : pvFr fp_eX10_leave_124 M M1000_ := pvfr_u e1001_ fz970_ rfl
                have e1004_ : (M1000_.1 124 35) = (Mz970_.1 124 35) := (pvu_n e1001_ 124 35 (Or.inl (by decide)))
                have b1005_ : 0 ≤ Int32.toInt (M1000_.1 124 35) ∧ Int32.toInt (M1000_.1 124 35) ≤ 7 := pvok_r o1002_ 124 35 rfl
                have d1006_ : Int32.toInt (M1000_.1 124 35) = Int32.toInt (Mz970_.1 124 35) := congrArg Int32.toInt e1004_
                obtain ⟨q1008_, b1007_⟩ : (Int32.toInt ((M1000_.1 124 35) + 1) = Int32.toInt (M1000_.1 124 35) + 1) ∧ (1 ≤ Int32.toInt ((M1000_.1 124 35) + 1) ∧ Int32.toInt ((M1000_.1 124 35) + 1) ≤ 8) := zadd_k (M1000_.1 124 35) 1 1 1 8 b1005_ (by decide) (by decide) (by decide) (by decide) (by decide)
                refine pw_blkw hT 6 (pc := 70) (lo := [some (pvR 124), some (pvI x3_), some (pvI i2z819_), some (pvI i3z819_), some (pvI i4z970_)]) (st := []) (M := pvu M1000_ 124 35 ((M1000_.1 124 35) + 1)) rfl ⟨trivial, trivial, rfl, trivial, trivial, rfl, trivial⟩ (fun M1009_ e1010_ => ?_)
                have o1011_ : pvOk M1009_ := pvok_u2 e1010_ o1002_ rfl (by have u0 := b1007_; omega)
                have f1012_ : pvFr fp_eX10_leave_124 M M1009_ := pvfr_u e1010_ f1003_ rfl
                obtain ⟨q1014_, b1013_⟩ : (Int32.toInt (i4z970_ + 1) = Int32.toInt i4z970_ + 1) ∧ (1 ≤ Int32.toInt (i4z970_ + 1) ∧ Int32.toInt (i4z970_ + 1) ≤ 7) := zadd_k i4z970_ 1 1 1 7 b996_ (by decide) (by decide) (by decide) (by decide) (by decide)
                refine pw_blk hT 2 (S' := (26, [some (pvR 124), some (pvI x3_), some (pvI i2z819_), some (pvI i3z819_), some (pvI (i4z970_ + 1))], [], M1009_)) rfl ⟨trivial, trivial, trivial⟩ ?_
                have j1015_ : Int32.toInt (M1009_.1 124 35) ≤ Int32.toInt (i4z970_ + 1) := by have y01 : Int32.toInt (M1009_.1 124 35) = Int32.toInt ((M1000_.1 124 35) + 1) := congrArg Int32.toInt (pvu_s e1010_); have y02 : Int32.toInt (M1000_.1 124 35) = Int32.toInt (Mz970_.1 124 35) := congrArg Int32.toInt (pvu_n e1001_ 124 35 (Or.inl (by decide))); omega
                have j1016_ : yLv1 M M1009_ x3_ i2z819_ i3z819_ (i4z970_ + 1) := (yLv1_y oz970_ hok j1z970_ (by have u := b996_; omega) (by have u := b824_; omega) c974_ c998_ e1001_ rfl e1010_ rfl (by omega))
                exact ihz970_ (i4z970_ + 1) M1009_ o1011_ f1012_ (((pvu_n e1010_ 124 37 (Or.inr (by decide))).trans (pvu_n e1001_ 124 37 (Or.inl (by decide)))).trans (k124_37z970_)) (zr_wide b1013_ (by decide) (by decide)) j1015_ j1016_ (zhid (by have hm0 := zshow hmz970_; have y01 : Int32.toInt (M1009_.1 124 35) = Int32.toInt ((M1000_.1 124 35) + 1) := congrArg Int32.toInt (pvu_s e1010_); have y02 : Int32.toInt (M1000_.1 124 35) = Int32.toInt (Mz970_.1 124 35) := congrArg Int32.toInt (pvu_n e1001_ 124 35 (Or.inl (by decide))); omega))
              · have d1017_ : Int32.toInt i4z970_ = Int32.toInt i3z819_ := (zi_eq _ _).mp c998_
                obtain ⟨q1019_, b1018_⟩ : (Int32.toInt (i4z970_ + 1) = Int32.toInt i4z970_ + 1) ∧ (1 ≤ Int32.toInt (i4z970_ + 1) ∧ Int32.toInt (i4z970_ + 1) ≤ 7) := zadd_k i4z970_ 1 1 1 7 b996_ (by decide) (by decide) (by decide) (by decide) (by decide)
                refine pw_blk hT 3 (S' := (26, [some (pvR 124), some (pvI x3_), some (pvI i2z819_), some (pvI i3z819_), some (pvI (i4z970_ + 1))], [], Mz970_)) rfl ⟨trivial, trivial, trivial, trivial⟩ ?_
                have j1020_ : Int32.toInt (Mz970_.1 124 35) ≤ Int32.toInt (i4z970_ + 1) := by omega
                have j1021_ : yLv1 M Mz970_ x3_ i2z819_ i3z819_ (i4z970_ + 1) := (yLv1_n j1z970_ (by have u := b996_; omega) c974_ c998_ (by omega))
                exact ihz970_ (i4z970_ + 1) Mz970_ oz970_ fz970_ (k124_37z970_) (zr_wide b1018_ (by decide) (by decide)) j1020_ j1021_ (zhid (pvms_up (zshow hmz970_) h4z970_ q1019_ (by decide) (by decide)))
        have j1022_ : Int32.toInt (M826_.1 124 35) ≤ Int32.toInt 0 := by have y01 : Int32.toInt (M826_.1 124 35) = Int32.toInt 0 := congrArg Int32.toInt (pvu_s e827_); have y03 : Int32.toInt 0 = 0 := (by decide); omega
        have j1023_ : yLv1 M M826_ x3_ i2z819_ i3z819_ 0 := (yLv1_0 hok j0z819_ c821_ e827_ (by decide) (by decide))
        exact hlz970_ _ 0 M826_ o828_ f829_ rfl (zr_wide (show 0 ≤ Int32.toInt 0 ∧ Int32.toInt 0 ≤ 0 from (by decide)) (by decide) (by decide)) j1022_ j1023_ (zhid (Nat.lt_succ_self _))
  have j1024_ : yLv0 M M4_ x3_ 0 0 := (yLv0_0 hok d2_ (by decide) rfl (by decide))
  exact hlz819_ _ 0 0 none M4_ o6_ f8_ (zr_wide (show 0 ≤ Int32.toInt 0 ∧ Int32.toInt 0 ≤ 0 from (by decide)) (by decide) (by decide)) j1024_ (zhid (Nat.lt_succ_self _))
def fpL_eX10_looked_124 : List (Nat × Nat × Nat) := [(0, 124, 36), (0, 143, 0), (0, 144, 0)]
def fp_eX10_looked_124 (q k : Nat) : Bool := pvfp fpL_eX10_looked_124 q k
theorem fp_eX10_looked_124_fp_eX10_goes_124_x_x_x (a b : Nat) (h : fp_eX10_goes_124_x_x_x a b = true) : fp_eX10_looked_124 a b = true := pvfp_sub (l1 := fpL_eX10_goes_124_x_x_x) (l2 := fpL_eX10_looked_124) (by decide) a b h
theorem fp_eX10_looked_124_fp_eX10_layOpen_124 (a b : Nat) (h : fp_eX10_layOpen_124 a b = true) : fp_eX10_looked_124 a b = true := pvfp_sub (l1 := fpL_eX10_layOpen_124) (l2 := fpL_eX10_looked_124) (by decide) a b h
theorem fp_eX10_looked_124_fp_eX10_layRound_124 (a b : Nat) (h : fp_eX10_layRound_124 a b = true) : fp_eX10_looked_124 a b = true := pvfp_sub (l1 := fpL_eX10_layRound_124) (l2 := fpL_eX10_looked_124) (by decide) a b h
set_option maxHeartbeats 4000000 in
set_option maxRecDepth 10000 in
theorem se_X10_looked_124 (M : pvM) (hok : pvOk M) (d : Nat) : PW 53 d (0, [some (pvR 124), none, none], [], M) (fun r X => (∃ x : Int32, r = some (pvI x) ∧ (-5) ≤ Int32.toInt x ∧ Int32.toInt x ≤ 7) ∧ pvOk X ∧ pvFr fp_eX10_looked_124 M X ∧ yk0 r M X) := by
  have hT : pvdom 53 = pvD_53 := rfl
  refine pw_blk hT 1 (S' := (1, [some (pvR 124), none, none], [pvR 124], M)) rfl ⟨trivial, trivial⟩ ?_
  refine pw_callVd hT (as := [pvR 124]) (lo1 := [some (pvR 124), none]) (d1 := d) (rest := []) rfl rfl rfl rfl rfl (fun _ => rfl) (Nat.zero_le _) rfl rfl rfl (se_X10_layRound_124 M hok d) (fun M3_ o5_ g6_ d1_ => ?_)
  have f7_ : pvFr fp_eX10_looked_124 M M3_ := pvfr_t g6_ pvfr_0 fp_eX10_looked_124_fp_eX10_layRound_124
  refine pw_blk hT 1 (S' := (5, [some (pvR 124), none, none], [pvR 124], M3_)) rfl ⟨trivial, trivial⟩ ?_
  refine pw_callVd hT (as := [pvR 124]) (lo1 := [some (pvR 124), none]) (d1 := d) (rest := []) rfl rfl rfl rfl rfl (fun _ => rfl) (Nat.zero_le _) rfl rfl rfl (se_X10_layOpen_124 M3_ o5_ d) (fun M10_ o12_ g13_ d8_ => ?_)
  have f14_ : pvFr fp_eX10_looked_124 M M10_ := pvfr_t g13_ f7_ fp_eX10_looked_124_fp_eX10_layOpen_124
  have b15_ : 0 ≤ Int32.toInt (M10_.1 124 35) ∧ Int32.toInt (M10_.1 124 35) ≤ 7 := pvok_r o12_ 124 35 rfl
  have b16_ : 0 ≤ Int32.toInt (M10_.1 124 1) ∧ Int32.toInt (M10_.1 124 1) ≤ 9999 := pvok_r o12_ 124 1 rfl
  refine pw_blk hT 6 (S' := (18, [some (pvR 124), none, none], [pvI (M10_.1 124 1), pvI (M10_.1 124 35), pvI 0, pvR 124], M10_)) rfl ⟨trivial, trivial, trivial, rfl, trivial, rfl, trivial⟩ ?_
  refine pw_callGd hT (as := [pvR 124, pvI 0, pvI (M10_.1 124 35), pvI (M10_.1 124 1)]) (lo1 := [some (pvR 124), some (pvI 0), some (pvI (M10_.1 124 35)), some (pvI (M10_.1 124 1)), none, none, none, none, none]) (d1 := d) (rest := []) rfl rfl rfl rfl rfl (fun _ => rfl) (Nat.zero_le _) rfl rfl rfl (se_X10_goes_124_x_x_x M10_ o12_ 0 (M10_.1 124 35) (M10_.1 124 1) (zr_wide (show 0 ≤ Int32.toInt 0 ∧ Int32.toInt 0 ≤ 0 from (by decide)) (by decide) (by decide)) b15_ (zr_wide b16_ (by decide) (by decide)) d) (fun x18_ M19_ b20_ o21_ g22_ d17_ => ?_)
  have f23_ : pvFr fp_eX10_looked_124 M M19_ := pvfr_t g22_ f14_ fp_eX10_looked_124_fp_eX10_goes_124_x_x_x
  refine pw_blk hT 3 (S' := (24, [some (pvR 124), some (pvI x18_), some (pvI 0)], [], M19_)) rfl ⟨trivial, trivial, trivial, trivial⟩ ?_
  have hlz75_ : ∀ (nz75_ : Nat) (i2z75_ : Int32), (0 ≤ Int32.toInt i2z75_ ∧ Int32.toInt i2z75_ ≤ 8) → (yki M19_ 143 149 150 (M19_.1 124 43) i2z75_) → (zhide ((9 - Int32.toInt i2z75_).toNat < nz75_)) → PW 53 d (24, [some (pvR 124), some (pvI x18_), some (pvI i2z75_)], [], M19_) (fun r X => (∃ x : Int32, r = some (pvI x) ∧ (-5) ≤ Int32.toInt x ∧ Int32.toInt x ≤ 7) ∧ pvOk X ∧ pvFr fp_eX10_looked_124 M X ∧ yk0 r M X) := by
    intro nz75_
    induction nz75_ with
    | zero => intro i2z75_ h2z75_ j0z75_ hmz75_; exact absurd (zshow hmz75_) (Nat.not_lt_zero _)
    | succ nz75_ ihz75_ =>
      intro i2z75_ h2z75_ j0z75_ hmz75_
      have b76_ : 0 ≤ Int32.toInt (M19_.1 124 43) ∧ Int32.toInt (M19_.1 124 43) ≤ 8 := pvok_r o21_ 124 43 rfl
      refine pw_blk hT 3 (S' := (29, [some (pvR 124), some (pvI x18_), some (pvI i2z75_)], [pvI (M19_.1 124 43), pvI i2z75_], M19_)) rfl ⟨trivial, trivial, rfl, trivial⟩ ?_
      refine pw_ic hT (c := (M19_.1 124 43) ≤ i2z75_) rfl rfl (fun c77_ => ?_) (fun c77_ => ?_)
      · have d78_ : Int32.toInt (M19_.1 124 43) ≤ Int32.toInt i2z75_ := (zi_le _ _).mp c77_
        refine pw_blk hT 1 (S' := (62, [some (pvR 124), some (pvI x18_), some (pvI i2z75_)], [pvI (-5)], M19_)) rfl ⟨trivial, trivial⟩ ?_
        exact pw_ret hT rfl (r := some (pvI (-5))) (M' := M19_) ⟨rfl, rfl⟩ ⟨⟨_, rfl, (zr_wide (show (-5) ≤ Int32.toInt (-5) ∧ Int32.toInt (-5) ≤ (-5) from (by decide)) (by decide) (by decide))⟩, o21_, f23_, ⟨(congrArg (fun z => some (pvI z)) (yki_e j0z75_ (by omega))), _, _, _, d1_, d8_, d17_⟩⟩
      · have b79_ : 1 ≤ Int32.toInt (M19_.1 124 43) ∧ Int32.toInt (M19_.1 124 43) ≤ 8 := zr_nle_l 1 c77_ b76_ h2z75_ (by decide)
        have b80_ : 0 ≤ Int32.toInt i2z75_ ∧ Int32.toInt i2z75_ ≤ 7 := zr_nle_r 7 c77_ h2z75_ b79_ (by decide)
        have d81_ : Int32.toInt (M19_.1 124 43) > Int32.toInt i2z75_ := Int.not_le.mp ((not_congr (zi_le _ _)).mp c77_)
        have b82_ : 0 ≤ Int32.toInt (M19_.1 149 (Int32.toNatClampNeg i2z75_)) ∧ Int32.toInt (M19_.1 149 (Int32.toNatClampNeg i2z75_)) ≤ 6 := pvok_r o21_ 149 (Int32.toNatClampNeg i2z75_) rfl
        have b83_ : (-1) ≤ Int32.toInt (M19_.1 143 (Int32.toNatClampNeg (M19_.1 149 (Int32.toNatClampNeg i2z75_)))) ∧ Int32.toInt (M19_.1 143 (Int32.toNatClampNeg (M19_.1 149 (Int32.toNatClampNeg i2z75_)))) ≤ 99999 := pvok_r o21_ 143 (Int32.toNatClampNeg (M19_.1 149 (Int32.toNatClampNeg i2z75_))) rfl
        have b84_ : 0 ≤ Int32.toInt (M19_.1 150 (Int32.toNatClampNeg i2z75_)) ∧ Int32.toInt (M19_.1 150 (Int32.toNatClampNeg i2z75_)) ≤ 9999 := pvok_r o21_ 150 (Int32.toNatClampNeg i2z75_) rfl
        refine pw_blk hT 11 (S' := (49, [some (pvR 124), some (pvI x18_), some (pvI i2z75_)], [pvI (M19_.1 150 (Int32.toNatClampNeg i2z75_)), pvI (M19_.1 143 (Int32.toNatClampNeg (M19_.1 149 (Int32.toNatClampNeg i2z75_))))], M19_)) rfl ⟨trivial, rfl, trivial, rfl, trivial, ⟨rfl, (zr_in (n := 8) b80_ (by decide) (by decide))⟩, ⟨rfl, (zr_in (n := 7) b82_ (by decide) (by decide))⟩, trivial, rfl, trivial, ⟨rfl, (zr_in (n := 8) b80_ (by decide) (by decide))⟩, trivial⟩ ?_
        refine pw_ic hT (c := (M19_.1 143 (Int32.toNatClampNeg (M19_.1 149 (Int32.toNatClampNeg i2z75_)))) ≤ (M19_.1 150 (Int32.toNatClampNeg i2z75_))) rfl rfl (fun c85_ => ?_) (fun c85_ => ?_)
        · have b86_ : (-1) ≤ Int32.toInt (M19_.1 143 (Int32.toNatClampNeg (M19_.1 149 (Int32.toNatClampNeg i2z75_)))) ∧ Int32.toInt (M19_.1 143 (Int32.toNatClampNeg (M19_.1 149 (Int32.toNatClampNeg i2z75_)))) ≤ 9999 := zr_le_l 9999 c85_ b83_ b84_ (by decide)
          have d87_ : Int32.toInt (M19_.1 143 (Int32.toNatClampNeg (M19_.1 149 (Int32.toNatClampNeg i2z75_)))) ≤ Int32.toInt (M19_.1 150 (Int32.toNatClampNeg i2z75_)) := (zi_le _ _).mp c85_
          obtain ⟨q89_, b88_⟩ : (Int32.toInt (i2z75_ + 1) = Int32.toInt i2z75_ + 1) ∧ (1 ≤ Int32.toInt (i2z75_ + 1) ∧ Int32.toInt (i2z75_ + 1) ≤ 8) := zadd_k i2z75_ 1 1 1 8 b80_ (by decide) (by decide) (by decide) (by decide) (by decide)
          refine pw_blk hT 2 (S' := (24, [some (pvR 124), some (pvI x18_), some (pvI (i2z75_ + 1))], [], M19_)) rfl ⟨trivial, trivial, trivial⟩ ?_
          have j90_ : yki M19_ 143 149 150 (M19_.1 124 43) (i2z75_ + 1) := (yki_s j0z75_ (by have u := b80_; omega) (by omega) (by omega) c85_)
          exact ihz75_ (i2z75_ + 1) (zr_wide b88_ (by decide) (by decide)) j90_ (zhid (pvms_up (zshow hmz75_) h2z75_ q89_ (by decide) (by decide)))
        · have b91_ : 1 ≤ Int32.toInt (M19_.1 143 (Int32.toNatClampNeg (M19_.1 149 (Int32.toNatClampNeg i2z75_)))) ∧ Int32.toInt (M19_.1 143 (Int32.toNatClampNeg (M19_.1 149 (Int32.toNatClampNeg i2z75_)))) ≤ 99999 := zr_nle_l 1 c85_ b83_ b84_ (by decide)
          have d92_ : Int32.toInt (M19_.1 143 (Int32.toNatClampNeg (M19_.1 149 (Int32.toNatClampNeg i2z75_)))) > Int32.toInt (M19_.1 150 (Int32.toNatClampNeg i2z75_)) := Int.not_le.mp ((not_congr (zi_le _ _)).mp c85_)
          refine pw_blk hT 1 (S' := (53, [some (pvR 124), some (pvI x18_), some (pvI i2z75_)], [pvI i2z75_], M19_)) rfl ⟨trivial, trivial⟩ ?_
          exact pw_ret hT rfl (r := some (pvI i2z75_)) (M' := M19_) ⟨rfl, rfl⟩ ⟨⟨_, rfl, (zr_wide b80_ (by decide) (by decide))⟩, o21_, f23_, ⟨(congrArg (fun z => some (pvI z)) (yki_y j0z75_ (by have u := b80_; omega) (by omega) c85_)), _, _, _, d1_, d8_, d17_⟩⟩
  have u93_ : Int32.toInt 0 = 0 := by decide
  have j94_ : yki M19_ 143 149 150 (M19_.1 124 43) 0 := (yki_0 M19_ 143 149 150 _)
  exact hlz75_ _ 0 (zr_wide (show 0 ≤ Int32.toInt 0 ∧ Int32.toInt 0 ≤ 0 from (by decide)) (by decide) (by decide)) j94_ (zhid (Nat.lt_succ_self _))
set_option maxHeartbeats 4000000 in
set_option maxRecDepth 10000 in
theorem se_X10_lowest_124_x_x_x (M : pvM) (hok : pvOk M) (n1 : Int32) (n2 : Int32) (n3 : Int32) (hn1 : 0 ≤ Int32.toInt n1 ∧ Int32.toInt n1 ≤ 90000000) (hn2 : 1 ≤ Int32.toInt n2 ∧ Int32.toInt n2 ≤ 10) (d : Nat) : PW 54 d (0, [some (pvR 124), some (pvI n1), some (pvI n2), some (pvI n3), none], [], M) (fun r X => (∃ x : Int64, r = some (pvJ x) ∧ yPo n1 n2 n3 x) ∧ X = M) := by
  have hT : pvdom 54 = pvD_54 := rfl
  refine pw_blk hT 3 (S' := (3, [some (pvR 124), some (pvI n1), some (pvI n2), some (pvI n3), none], [pvI n2, pvI n1, pvR 124], M)) rfl ⟨trivial, trivial, trivial, trivial⟩ ?_
  refine pw_callGp hT (as := [pvR 124, pvI n1, pvI n2]) (lo1 := [some (pvR 124), some (pvI n1), some (pvI n2), none, none, none]) (d1 := d) (rest := []) rfl rfl rfl rfl rfl (fun _ => rfl) (Nat.zero_le _) rfl rfl rfl (se_X10_divisor_124_x_x M hok n1 n2 hn1 hn2 d) (fun x1_ b3_ => ?_)
  obtain ⟨b6_, d7_⟩ := b3_
  refine pw_blk hT 2 (S' := (9, [some (pvR 124), some (pvI n1), some (pvI n2), some (pvI n3), some (pvI x1_)], [pvI n3], M)) rfl ⟨trivial, trivial, trivial⟩ ?_
  refine pw_ifn hT (c := n3 = 0) rfl rfl (fun c8_ => ?_) (fun c8_ => ?_)
  · refine pw_blk hT 4 (S' := (25, [some (pvR 124), some (pvI n1), some (pvI n2), some (pvI n3), some (pvI x1_)], [pvJ (Int32.toInt64 (n2 / x1_))], M)) rfl ⟨trivial, trivial, (fun z0 => by have u0 := b6_; have u1 := (zi_eq x1_ 0).mp z0; have u2 : (0 : Int32).toInt = 0 := (by decide); omega), trivial, trivial⟩ ?_
    exact pw_ret hT rfl (r := some (pvJ (Int32.toInt64 (n2 / x1_)))) (M' := M) ⟨rfl, rfl⟩ ⟨⟨_, rfl, (yPo_i (by have u := b6_; omega) d7_ hn2.1 (Or.inr ⟨c8_, rfl⟩) rfl)⟩, rfl⟩
  · have b9_ : 0 ≤ Int32.toInt n3 ∧ Int32.toInt n3 ≤ 0 := (by have u0 := (zbnd n3); have u1 := (zi_eq _ _).mp c8_; have u2 := (show 0 ≤ Int32.toInt 0 ∧ Int32.toInt 0 ≤ 0 from (by decide)); omega)
    refine pw_blk hT 5 (S' := (25, [some (pvR 124), some (pvI n1), some (pvI n2), some (pvI n3), some (pvI x1_)], [pvJ (Int32.toInt64 (n1 / x1_))], M)) rfl ⟨trivial, trivial, (fun z0 => by have u0 := b6_; have u1 := (zi_eq x1_ 0).mp z0; have u2 : (0 : Int32).toInt = 0 := (by decide); omega), trivial, trivial, trivial⟩ ?_
    exact pw_ret hT rfl (r := some (pvJ (Int32.toInt64 (n1 / x1_)))) (M' := M) ⟨rfl, rfl⟩ ⟨⟨_, rfl, (yPo_i (by have u := b6_; omega) d7_ hn2.1 (Or.inl ⟨c8_, rfl⟩) rfl)⟩, rfl⟩
def fpL_eX10_mean_124_x : List (Nat × Nat × Nat) := [(0, 124, 4), (0, 124, 33), (0, 124, 36), (0, 141, 0), (0, 142, 0), (0, 143, 0), (0, 144, 0)]
def fp_eX10_mean_124_x (q k : Nat) : Bool := pvfp fpL_eX10_mean_124_x q k
theorem fp_eX10_mean_124_x_fp_eX10_costOfRound_124_x (a b : Nat) (h : fp_eX10_costOfRound_124_x a b = true) : fp_eX10_mean_124_x a b = true := pvfp_sub (l1 := fpL_eX10_costOfRound_124_x) (l2 := fpL_eX10_mean_124_x) (by decide) a b h
set_option maxHeartbeats 4000000 in
set_option maxRecDepth 10000 in
theorem se_X10_mean_124_x (M : pvM) (hok : pvOk M) (n1 : Int32) (hz : pvWF M) (hx0 : Int32.toInt (M.1 124 3) ≤ 99) (d : Nat) : PW 55 d (0, [some (pvR 124), some (pvI n1), none, none, none], [], M) (fun r X => (∃ x : Int64, r = some (pvJ x)) ∧ pvOk X ∧ pvFr fp_eX10_mean_124_x M X ∧ X.1 124 3 = M.1 124 3 ∧ yB0j (yGme n1) r M) := by
  have hT : pvdom 55 = pvD_55 := rfl
  refine pw_blk hT 4 (S' := (4, [some (pvR 124), some (pvI n1), none, none, none], [pvI 1, pvI 0, pvI n1, pvR 124], M)) rfl ⟨trivial, trivial, trivial, trivial, trivial⟩ ?_
  refine pw_callT hT (as := [pvR 124, pvI n1, pvI 0, pvI 1]) (lo1 := [some (pvR 124), some (pvI n1), some (pvI 0), some (pvI 1)]) (d1 := d) (rest := []) rfl rfl rfl rfl rfl (fun _ => rfl) (Nat.zero_le _) rfl rfl rfl (sf_X10_in_124_x_x_x M hok n1 0 1 d) ?_
  by_cases c6_ : n1 < 0
  · refine pw_eqI (if_pos c6_) ?_
    have b7_ : (-2147483648) ≤ Int32.toInt n1 ∧ Int32.toInt n1 ≤ (-1) := zr_lt_l (-1) c6_ (zbnd n1) (show 0 ≤ Int32.toInt 0 ∧ Int32.toInt 0 ≤ 0 from (by decide)) (by decide)
    show PW 55 d (7, [some (pvR 124), some (pvI n1), none, none, none], [pvI 0], M) _
    refine pw_ifn hT (c := 0 = 0) rfl rfl (fun c8_ => absurd (by decide) c8_) (fun c8_ => ?_)
    refine pw_blk hT 1 (S' := (13, [some (pvR 124), some (pvI n1), none, none, none], [pvJ (-9223372036854775808)], M)) rfl ⟨trivial, trivial⟩ ?_
    exact pw_ret hT rfl (r := some (pvJ (-9223372036854775808))) (M' := M) ⟨rfl, rfl⟩ ⟨⟨_, rfl⟩, hok, pvfr_0, rfl, (yGme0_n (by have u := b7_; omega) (by decide))⟩
  · refine pw_eqI (if_neg c6_) ?_
    have b9_ : 0 ≤ Int32.toInt n1 ∧ Int32.toInt n1 ≤ 2147483647 := zr_nlt_l 0 c6_ (zbnd n1) (show 0 ≤ Int32.toInt 0 ∧ Int32.toInt 0 ≤ 0 from (by decide)) (by decide)
    by_cases c10_ : 1 < n1
    · refine pw_eqI (if_pos c10_) ?_
      have b11_ : 2 ≤ Int32.toInt n1 ∧ Int32.toInt n1 ≤ 2147483647 := zr_lt_r 2 c10_ b9_ (show 1 ≤ Int32.toInt 1 ∧ Int32.toInt 1 ≤ 1 from (by decide)) (by decide)
      show PW 55 d (7, [some (pvR 124), some (pvI n1), none, none, none], [pvI 0], M) _
      refine pw_ifn hT (c := 0 = 0) rfl rfl (fun c12_ => absurd (by decide) c12_) (fun c12_ => ?_)
      refine pw_blk hT 1 (S' := (13, [some (pvR 124), some (pvI n1), none, none, none], [pvJ (-9223372036854775808)], M)) rfl ⟨trivial, trivial⟩ ?_
      exact pw_ret hT rfl (r := some (pvJ (-9223372036854775808))) (M' := M) ⟨rfl, rfl⟩ ⟨⟨_, rfl⟩, hok, pvfr_0, rfl, (yGme0_n (by have u := b11_; omega) (by decide))⟩
    · refine pw_eqI (if_neg c10_) ?_
      have b13_ : 0 ≤ Int32.toInt n1 ∧ Int32.toInt n1 ≤ 1 := zr_nlt_r 1 c10_ b9_ (show 1 ≤ Int32.toInt 1 ∧ Int32.toInt 1 ≤ 1 from (by decide)) (by decide)
      show PW 55 d (7, [some (pvR 124), some (pvI n1), none, none, none], [pvI 1], M) _
      refine pw_ifn hT (c := 1 = 0) rfl rfl (fun c14_ => ?_) (fun c14_ => absurd c14_ (by decide))
      have b15_ : 0 ≤ Int32.toInt (M.1 124 3) ∧ Int32.toInt (M.1 124 3) ≤ 108 := pvok_r hok 124 3 rfl
      refine pw_blk hT 7 (S' := (24, [some (pvR 124), some (pvI n1), some (pvI (M.1 124 3)), some (pvI 0), some (pvI 0)], [], M)) rfl ⟨trivial, rfl, trivial, trivial, trivial, trivial, trivial, trivial⟩ ?_
      have hlz125_ : ∀ (nz125_ : Nat) (i3z125_ : Int32) (i4z125_ : Int32) (Mz125_ : pvM), (pvOk Mz125_) → (pvFr fp_eX10_mean_124_x M Mz125_) → (0 ≤ Int32.toInt i3z125_ ∧ Int32.toInt i3z125_ ≤ 90000000) → (0 ≤ Int32.toInt i4z125_ ∧ Int32.toInt i4z125_ ≤ 10) → (Int32.toInt i3z125_ ≤ 9000000 * Int32.toInt i4z125_) → (yMe0 M Mz125_ i3z125_ i4z125_) → (zhide ((11 - Int32.toInt i4z125_).toNat < nz125_)) → PW 55 d (24, [some (pvR 124), some (pvI n1), some (pvI (M.1 124 3)), some (pvI i3z125_), some (pvI i4z125_)], [], Mz125_) (fun r X => (∃ x : Int64, r = some (pvJ x)) ∧ pvOk X ∧ pvFr fp_eX10_mean_124_x M X ∧ X.1 124 3 = M.1 124 3 ∧ yB0j (yGme n1) r M) := by
        intro nz125_
        induction nz125_ with
        | zero => intro i3z125_ i4z125_ Mz125_ oz125_ fz125_ h3z125_ h4z125_ j0z125_ j1z125_ hmz125_; exact absurd (zshow hmz125_) (Nat.not_lt_zero _)
        | succ nz125_ ihz125_ =>
          intro i3z125_ i4z125_ Mz125_ oz125_ fz125_ h3z125_ h4z125_ j0z125_ j1z125_ hmz125_
          refine pw_blk hT 2 (S' := (28, [some (pvR 124), some (pvI n1), some (pvI (M.1 124 3)), some (pvI i3z125_), some (pvI i4z125_)], [pvI 10, pvI i4z125_], Mz125_)) rfl ⟨trivial, trivial, trivial⟩ ?_
          refine pw_ic hT (c := 10 ≤ i4z125_) rfl rfl (fun c126_ => ?_) (fun c126_ => ?_)
          · have b127_ : 10 ≤ Int32.toInt i4z125_ ∧ Int32.toInt i4z125_ ≤ 10 := zr_le_r 10 c126_ h4z125_ (show 10 ≤ Int32.toInt 10 ∧ Int32.toInt 10 ≤ 10 from (by decide)) (by decide)
            refine pw_blkw hT 3 (pc := 58) (lo := [some (pvR 124), some (pvI n1), some (pvI (M.1 124 3)), some (pvI i3z125_), some (pvI i4z125_)]) (st := []) (M := pvu Mz125_ 124 3 (M.1 124 3)) rfl ⟨trivial, trivial, rfl, trivial⟩ (fun M128_ e129_ => ?_)
            have o130_ : pvOk M128_ := pvok_u2 e129_ oz125_ rfl b15_
            have f131_ : pvFr fp_eX10_mean_124_x M M128_ := pvfr_u e129_ fz125_ rfl
            refine pw_blk hT 4 (S' := (63, [some (pvR 124), some (pvI n1), some (pvI (M.1 124 3)), some (pvI i3z125_), some (pvI i4z125_)], [pvI n1, pvI 10, pvI i3z125_, pvR 124], M128_)) rfl ⟨trivial, trivial, trivial, trivial, trivial⟩ ?_
            refine pw_callJx hT (as := [pvR 124, pvI i3z125_, pvI 10, pvI n1]) (lo1 := [some (pvR 124), some (pvI i3z125_), some (pvI 10), some (pvI n1), none]) (d1 := d) (rest := []) rfl rfl rfl rfl rfl (fun _ => rfl) (Nat.zero_le _) rfl rfl rfl (se_X10_lowest_124_x_x_x M128_ o130_ i3z125_ 10 n1 h3z125_ (zr_wide (show 10 ≤ Int32.toInt 10 ∧ Int32.toInt 10 ≤ 10 from (by decide)) (by decide) (by decide)) d) (fun x132_ b134_ => ?_)
            exact pw_ret hT rfl (r := some (pvJ x132_)) (M' := M128_) ⟨rfl, rfl⟩ ⟨⟨_, rfl⟩, o130_, f131_, (pvu_s e129_), (yGme0_e j1z125_ (by have u := b127_; omega) (by decide) (by have u := b13_; omega) b134_)⟩
          · have b137_ : 0 ≤ Int32.toInt i4z125_ ∧ Int32.toInt i4z125_ ≤ 9 := zr_nle_r 9 c126_ h4z125_ (show 10 ≤ Int32.toInt 10 ∧ Int32.toInt 10 ≤ 10 from (by decide)) (by decide)
            obtain ⟨q139_, b138_⟩ : (Int32.toInt ((M.1 124 3) + i4z125_) = Int32.toInt (M.1 124 3) + Int32.toInt i4z125_) ∧ (0 ≤ Int32.toInt ((M.1 124 3) + i4z125_) ∧ Int32.toInt ((M.1 124 3) + i4z125_) ≤ 117) := zadd_r (M.1 124 3) i4z125_ 0 117 b15_ b137_ (by decide) (by decide) (by decide) (by decide)
            refine pw_blkw hT 5 (pc := 39) (lo := [some (pvR 124), some (pvI n1), some (pvI (M.1 124 3)), some (pvI i3z125_), some (pvI i4z125_)]) (st := []) (M := pvu Mz125_ 124 3 ((M.1 124 3) + i4z125_)) rfl ⟨trivial, trivial, trivial, trivial, rfl, trivial⟩ (fun M140_ e141_ => ?_)
            have o142_ : pvOk M140_ := pvok_u2 e141_ oz125_ rfl (by have u0 := b138_; omega)
            have f143_ : pvFr fp_eX10_mean_124_x M M140_ := pvfr_u e141_ fz125_ rfl
            refine pw_blk hT 3 (S' := (42, [some (pvR 124), some (pvI n1), some (pvI (M.1 124 3)), some (pvI i3z125_), some (pvI i4z125_)], [pvI 0, pvR 124, pvI i3z125_], M140_)) rfl ⟨trivial, trivial, trivial, trivial⟩ ?_
            have u144_ : Int32.toInt 0 = 0 := by decide
            refine pw_callGd hT (as := [pvR 124, pvI 0]) (lo1 := [some (pvR 124), some (pvI 0)]) (d1 := d) (rest := [pvI i3z125_]) rfl rfl rfl rfl rfl (fun _ => rfl) (Nat.zero_le _) rfl rfl rfl (se_X10_costOfRound_124_x M140_ o142_ 0 (zr_wide (show 0 ≤ Int32.toInt 0 ∧ Int32.toInt 0 ≤ 0 from (by decide)) (by decide) (by decide)) (pvWF_fr (L := fpL_eX10_mean_124_x) rfl f143_ hz) d) (fun x146_ M147_ b148_ o149_ g150_ d145_ => ?_)
            have f151_ : pvFr fp_eX10_mean_124_x M M147_ := pvfr_t g150_ f143_ fp_eX10_mean_124_x_fp_eX10_costOfRound_124_x
            obtain ⟨q153_, b152_⟩ : (Int32.toInt (i3z125_ + x146_) = Int32.toInt i3z125_ + Int32.toInt x146_) ∧ (0 ≤ Int32.toInt (i3z125_ + x146_) ∧ Int32.toInt (i3z125_ + x146_) ≤ 99000000) := zadd_r i3z125_ x146_ 0 99000000 h3z125_ b148_ (by decide) (by decide) (by decide) (by decide)
            obtain ⟨q155_, b154_⟩ : (Int32.toInt (i4z125_ + 1) = Int32.toInt i4z125_ + 1) ∧ (1 ≤ Int32.toInt (i4z125_ + 1) ∧ Int32.toInt (i4z125_ + 1) ≤ 10) := zadd_k i4z125_ 1 1 1 10 b137_ (by decide) (by decide) (by decide) (by decide) (by decide)
            refine pw_blk hT 4 (S' := (24, [some (pvR 124), some (pvI n1), some (pvI (M.1 124 3)), some (pvI (i3z125_ + x146_)), some (pvI (i4z125_ + 1))], [], M147_)) rfl ⟨trivial, trivial, trivial, trivial, trivial⟩ ?_
            have j156_ : Int32.toInt (i3z125_ + x146_) ≤ 9000000 * Int32.toInt (i4z125_ + 1) := by omega
            have j157_ : yMe0 M M147_ (i3z125_ + x146_) (i4z125_ + 1) := (yMe0_s hok hx0 j1z125_ (by have u := b137_; omega) e141_ rfl rfl d145_ (by decide) (by omega) (by omega))
            exact ihz125_ (i3z125_ + x146_) (i4z125_ + 1) M147_ o149_ f151_ (by have u0 := b152_; omega) (zr_wide b154_ (by decide) (by decide)) j156_ j157_ (zhid (pvms_up (zshow hmz125_) h4z125_ q155_ (by decide) (by decide)))
      have u158_ : Int32.toInt 0 = 0 := by decide
      have j159_ : Int32.toInt 0 ≤ 9000000 * Int32.toInt 0 := by omega
      have j160_ : yMe0 M M 0 0 := (yMe0_0 (by decide) (by decide))
      exact hlz125_ _ 0 0 M hok pvfr_0 (zr_wide (show 0 ≤ Int32.toInt 0 ∧ Int32.toInt 0 ≤ 0 from (by decide)) (by decide) (by decide)) (zr_wide (show 0 ≤ Int32.toInt 0 ∧ Int32.toInt 0 ≤ 0 from (by decide)) (by decide) (by decide)) j159_ j160_ (zhid (Nat.lt_succ_self _))
def fpL_eX10_next_124 : List (Nat × Nat × Nat) := [(0, 124, 33), (0, 124, 36), (0, 141, 0), (0, 142, 0), (0, 143, 0), (0, 144, 0)]
def fp_eX10_next_124 (q k : Nat) : Bool := pvfp fpL_eX10_next_124 q k
theorem fp_eX10_next_124_fp_eX10_costOfPath_124_x (a b : Nat) (h : fp_eX10_costOfPath_124_x a b = true) : fp_eX10_next_124 a b = true := pvfp_sub (l1 := fpL_eX10_costOfPath_124_x) (l2 := fpL_eX10_next_124) (by decide) a b h
theorem fp_eX10_next_124_fp_eX10_layRain_124 (a b : Nat) (h : fp_eX10_layRain_124 a b = true) : fp_eX10_next_124 a b = true := pvfp_sub (l1 := fpL_eX10_layRain_124) (l2 := fpL_eX10_next_124) (by decide) a b h
set_option maxHeartbeats 4000000 in
set_option maxRecDepth 10000 in
theorem se_X10_next_124 (M : pvM) (hok : pvOk M) (hz : pvWF M) (d : Nat) : PW 57 d (0, [some (pvR 124), none, none, none, none], [], M) (fun r X => (∃ x : Int32, r = some (pvI x) ∧ (-5) ≤ Int32.toInt x ∧ Int32.toInt x ≤ 2147483647) ∧ pvOk X ∧ pvFr fp_eX10_next_124 M X ∧ yA0 yGnx r M) := by
  have hT : pvdom 57 = pvD_57 := rfl
  refine pw_blk hT 1 (S' := (1, [some (pvR 124), none, none, none, none], [pvR 124], M)) rfl ⟨trivial, trivial⟩ ?_
  refine pw_callVd hT (as := [pvR 124]) (lo1 := [some (pvR 124), none, none]) (d1 := d) (rest := []) rfl rfl rfl rfl rfl (fun _ => rfl) (Nat.zero_le _) rfl rfl rfl (se_X10_layRain_124 M hok hz d) (fun M3_ o5_ g6_ d1_ => ?_)
  have f7_ : pvFr fp_eX10_next_124 M M3_ := pvfr_t g6_ pvfr_0 fp_eX10_next_124_fp_eX10_layRain_124
  refine pw_blk hT 6 (S' := (11, [some (pvR 124), some (pvI (-5)), some (pvI 0), some (pvI 0), none], [], M3_)) rfl ⟨trivial, trivial, trivial, trivial, trivial, trivial, trivial⟩ ?_
  have hlz154_ : ∀ (nz154_ : Nat) (i1z154_ : Int32) (i2z154_ : Int32) (i3z154_ : Int32) (v4z154_ : Option pvV) (Mz154_ : pvM), (pvOk Mz154_) → (pvFr fp_eX10_next_124 M Mz154_) → ((-5) ≤ Int32.toInt i1z154_ ∧ Int32.toInt i1z154_ ≤ 2147483647) → (0 ≤ Int32.toInt i2z154_ ∧ Int32.toInt i2z154_ ≤ 2147483647) → (0 ≤ Int32.toInt i3z154_ ∧ Int32.toInt i3z154_ ≤ 7) → (yNx0 M Mz154_ i1z154_ i2z154_ i3z154_) → (zhide ((8 - Int32.toInt i3z154_).toNat < nz154_)) → PW 57 d (11, [some (pvR 124), some (pvI i1z154_), some (pvI i2z154_), some (pvI i3z154_), v4z154_], [], Mz154_) (fun r X => (∃ x : Int32, r = some (pvI x) ∧ (-5) ≤ Int32.toInt x ∧ Int32.toInt x ≤ 2147483647) ∧ pvOk X ∧ pvFr fp_eX10_next_124 M X ∧ yA0 yGnx r M) := by
    intro nz154_
    induction nz154_ with
    | zero => intro i1z154_ i2z154_ i3z154_ v4z154_ Mz154_ oz154_ fz154_ h1z154_ h2z154_ h3z154_ j0z154_ hmz154_; exact absurd (zshow hmz154_) (Nat.not_lt_zero _)
    | succ nz154_ ihz154_ =>
      intro i1z154_ i2z154_ i3z154_ v4z154_ Mz154_ oz154_ fz154_ h1z154_ h2z154_ h3z154_ j0z154_ hmz154_
      have b155_ : 0 ≤ Int32.toInt (Mz154_.1 124 0) ∧ Int32.toInt (Mz154_.1 124 0) ≤ 7 := pvok_r oz154_ 124 0 rfl
      refine pw_blk hT 3 (S' := (16, [some (pvR 124), some (pvI i1z154_), some (pvI i2z154_), some (pvI i3z154_), v4z154_], [pvI (Mz154_.1 124 0), pvI i3z154_], Mz154_)) rfl ⟨trivial, trivial, rfl, trivial⟩ ?_
      refine pw_ic hT (c := (Mz154_.1 124 0) ≤ i3z154_) rfl rfl (fun c156_ => ?_) (fun c156_ => ?_)
      · have d157_ : Int32.toInt (Mz154_.1 124 0) ≤ Int32.toInt i3z154_ := (zi_le _ _).mp c156_
        refine pw_blk hT 1 (S' := (75, [some (pvR 124), some (pvI i1z154_), some (pvI i2z154_), some (pvI i3z154_), v4z154_], [pvI i1z154_], Mz154_)) rfl ⟨trivial, trivial⟩ ?_
        exact pw_ret hT rfl (r := some (pvI i1z154_)) (M' := Mz154_) ⟨rfl, rfl⟩ ⟨⟨_, rfl, h1z154_⟩, oz154_, fz154_, (yGnx0_e j0z154_ c156_)⟩
      · have b158_ : 1 ≤ Int32.toInt (Mz154_.1 124 0) ∧ Int32.toInt (Mz154_.1 124 0) ≤ 7 := zr_nle_l 1 c156_ b155_ h3z154_ (by decide)
        have b159_ : 0 ≤ Int32.toInt i3z154_ ∧ Int32.toInt i3z154_ ≤ 6 := zr_nle_r 6 c156_ h3z154_ b158_ (by decide)
        have d160_ : Int32.toInt (Mz154_.1 124 0) > Int32.toInt i3z154_ := Int.not_le.mp ((not_congr (zi_le _ _)).mp c156_)
        have b161_ : 0 ≤ Int32.toInt (Mz154_.1 131 (Int32.toNatClampNeg i3z154_)) ∧ Int32.toInt (Mz154_.1 131 (Int32.toNatClampNeg i3z154_)) ≤ 1 := pvok_r oz154_ 131 (Int32.toNatClampNeg i3z154_) rfl
        refine pw_blk hT 4 (S' := (25, [some (pvR 124), some (pvI i1z154_), some (pvI i2z154_), some (pvI i3z154_), v4z154_], [pvI (Mz154_.1 131 (Int32.toNatClampNeg i3z154_))], Mz154_)) rfl ⟨trivial, rfl, trivial, ⟨rfl, (zr_in (n := 7) b159_ (by decide) (by decide))⟩, trivial⟩ ?_
        refine pw_if hT (c := (Mz154_.1 131 (Int32.toNatClampNeg i3z154_)) = 0) rfl rfl (fun c162_ => ?_) (fun c162_ => ?_)
        · have b163_ : 0 ≤ Int32.toInt (Mz154_.1 131 (Int32.toNatClampNeg i3z154_)) ∧ Int32.toInt (Mz154_.1 131 (Int32.toNatClampNeg i3z154_)) ≤ 0 := (by have u0 := b161_; have u1 := (zi_eq _ _).mp c162_; have u2 := (show 0 ≤ Int32.toInt 0 ∧ Int32.toInt 0 ≤ 0 from (by decide)); omega)
          refine pw_blkw hT 3 (pc := 36) (lo := [some (pvR 124), some (pvI i1z154_), some (pvI i2z154_), some (pvI i3z154_), v4z154_]) (st := []) (M := pvu Mz154_ 124 35 1) rfl ⟨trivial, trivial, rfl, trivial⟩ (fun M164_ e165_ => ?_)
          have o166_ : pvOk M164_ := pvok_u2 e165_ oz154_ rfl (zr_wide (show 1 ≤ Int32.toInt 1 ∧ Int32.toInt 1 ≤ 1 from (by decide)) (by decide) (by decide))
          have f167_ : pvFr fp_eX10_next_124 M M164_ := pvfr_u e165_ fz154_ rfl
          refine pw_blkw hT 5 (pc := 43) (lo := [some (pvR 124), some (pvI i1z154_), some (pvI i2z154_), some (pvI i3z154_), v4z154_]) (st := []) (M := pvu M164_ 144 (Int32.toNatClampNeg 0) i3z154_) rfl ⟨trivial, rfl, trivial, trivial, ⟨rfl, (zr_in (n := 7) (show 0 ≤ Int32.toInt 0 ∧ Int32.toInt 0 ≤ 0 from (by decide)) (by decide) (by decide))⟩, trivial⟩ (fun M168_ e169_ => ?_)
          have o170_ : pvOk M168_ := pvok_u2 e169_ o166_ rfl b159_
          have f171_ : pvFr fp_eX10_next_124 M M168_ := pvfr_u e169_ f167_ rfl
          refine pw_blk hT 2 (S' := (45, [some (pvR 124), some (pvI i1z154_), some (pvI i2z154_), some (pvI i3z154_), v4z154_], [pvI 0, pvR 124], M168_)) rfl ⟨trivial, trivial, trivial⟩ ?_
          refine pw_callGd hT (as := [pvR 124, pvI 0]) (lo1 := [some (pvR 124), some (pvI 0), none]) (d1 := d) (rest := []) rfl rfl rfl rfl rfl (fun _ => rfl) (Nat.zero_le _) rfl rfl rfl (se_X10_costOfPath_124_x M168_ o170_ 0 (zr_wide (show 0 ≤ Int32.toInt 0 ∧ Int32.toInt 0 ≤ 0 from (by decide)) (by decide) (by decide)) d) (fun x173_ M174_ b175_ o176_ g177_ d172_ => ?_)
          have f178_ : pvFr fp_eX10_next_124 M M174_ := pvfr_t g177_ f171_ fp_eX10_next_124_fp_eX10_costOfPath_124_x
          refine pw_blk hT 2 (S' := (51, [some (pvR 124), some (pvI i1z154_), some (pvI i2z154_), some (pvI i3z154_), some (pvI x173_)], [pvI i1z154_], M174_)) rfl ⟨trivial, trivial, trivial⟩ ?_
          refine pw_if hT (c := i1z154_ < 0) rfl rfl (fun c179_ => ?_) (fun c179_ => ?_)
          · have b180_ : (-5) ≤ Int32.toInt i1z154_ ∧ Int32.toInt i1z154_ ≤ (-1) := zr_lt_l (-1) c179_ h1z154_ (show 0 ≤ Int32.toInt 0 ∧ Int32.toInt 0 ≤ 0 from (by decide)) (by decide)
            obtain ⟨q182_, b181_⟩ : (Int32.toInt (i3z154_ + 1) = Int32.toInt i3z154_ + 1) ∧ (1 ≤ Int32.toInt (i3z154_ + 1) ∧ Int32.toInt (i3z154_ + 1) ≤ 7) := zadd_k i3z154_ 1 1 1 7 b159_ (by decide) (by decide) (by decide) (by decide) (by decide)
            refine pw_blk hT 6 (S' := (11, [some (pvR 124), some (pvI i3z154_), some (pvI x173_), some (pvI (i3z154_ + 1)), some (pvI x173_)], [], M174_)) rfl ⟨trivial, trivial, trivial, trivial, trivial, trivial, trivial⟩ ?_
            have j183_ : yNx0 M M174_ i3z154_ x173_ (i3z154_ + 1) := (yNx0_y j0z154_ (by have u := b159_; omega) c156_ c162_ e165_ (by decide) e169_ d172_ (by decide) (by omega) (Or.inl (by have v := (zi_lt _ _).mp c179_; have u0 : (0 : Int32).toInt = 0 := (by decide); omega)))
            exact ihz154_ i3z154_ x173_ (i3z154_ + 1) (some (pvI x173_)) M174_ o176_ f178_ (zr_wide b159_ (by decide) (by decide)) (zr_wide b175_ (by decide) (by decide)) (zr_wide b181_ (by decide) (by decide)) j183_ (zhid (pvms_up (zshow hmz154_) h3z154_ q182_ (by decide) (by decide)))
          · have b184_ : 0 ≤ Int32.toInt i1z154_ ∧ Int32.toInt i1z154_ ≤ 2147483647 := zr_nlt_l 0 c179_ h1z154_ (show 0 ≤ Int32.toInt 0 ∧ Int32.toInt 0 ≤ 0 from (by decide)) (by decide)
            refine pw_blk hT 2 (S' := (57, [some (pvR 124), some (pvI i1z154_), some (pvI i2z154_), some (pvI i3z154_), some (pvI x173_)], [pvI i2z154_, pvI x173_], M174_)) rfl ⟨trivial, trivial, trivial⟩ ?_
            refine pw_ic hT (c := x173_ < i2z154_) rfl rfl (fun c185_ => ?_) (fun c185_ => ?_)
            · have b186_ : 1 ≤ Int32.toInt i2z154_ ∧ Int32.toInt i2z154_ ≤ 2147483647 := zr_lt_r 1 c185_ h2z154_ b175_ (by decide)
              have d187_ : Int32.toInt x173_ < Int32.toInt i2z154_ := (zi_lt _ _).mp c185_
              obtain ⟨q189_, b188_⟩ : (Int32.toInt (i3z154_ + 1) = Int32.toInt i3z154_ + 1) ∧ (1 ≤ Int32.toInt (i3z154_ + 1) ∧ Int32.toInt (i3z154_ + 1) ≤ 7) := zadd_k i3z154_ 1 1 1 7 b159_ (by decide) (by decide) (by decide) (by decide) (by decide)
              refine pw_blk hT 6 (S' := (11, [some (pvR 124), some (pvI i3z154_), some (pvI x173_), some (pvI (i3z154_ + 1)), some (pvI x173_)], [], M174_)) rfl ⟨trivial, trivial, trivial, trivial, trivial, trivial, trivial⟩ ?_
              have j190_ : yNx0 M M174_ i3z154_ x173_ (i3z154_ + 1) := (yNx0_y j0z154_ (by have u := b159_; omega) c156_ c162_ e165_ (by decide) e169_ d172_ (by decide) (by omega) (Or.inr ((zi_lt _ _).mp c185_)))
              exact ihz154_ i3z154_ x173_ (i3z154_ + 1) (some (pvI x173_)) M174_ o176_ f178_ (zr_wide b159_ (by decide) (by decide)) (zr_wide b175_ (by decide) (by decide)) (zr_wide b188_ (by decide) (by decide)) j190_ (zhid (pvms_up (zshow hmz154_) h3z154_ q189_ (by decide) (by decide)))
            · have b191_ : 0 ≤ Int32.toInt i2z154_ ∧ Int32.toInt i2z154_ ≤ 9000000 := zr_nlt_r 9000000 c185_ h2z154_ b175_ (by decide)
              have d192_ : Int32.toInt x173_ ≥ Int32.toInt i2z154_ := Int.not_lt.mp ((not_congr (zi_lt _ _)).mp c185_)
              obtain ⟨q194_, b193_⟩ : (Int32.toInt (i3z154_ + 1) = Int32.toInt i3z154_ + 1) ∧ (1 ≤ Int32.toInt (i3z154_ + 1) ∧ Int32.toInt (i3z154_ + 1) ≤ 7) := zadd_k i3z154_ 1 1 1 7 b159_ (by decide) (by decide) (by decide) (by decide) (by decide)
              refine pw_blk hT 3 (S' := (11, [some (pvR 124), some (pvI i1z154_), some (pvI i2z154_), some (pvI (i3z154_ + 1)), some (pvI x173_)], [], M174_)) rfl ⟨trivial, trivial, trivial, trivial⟩ ?_
              have j195_ : yNx0 M M174_ i1z154_ i2z154_ (i3z154_ + 1) := (yNx0_n j0z154_ (by have u := b159_; omega) c156_ c162_ e165_ (by decide) e169_ d172_ (by decide) (by omega) ⟨(by have v := (not_congr (zi_lt _ _)).mp c179_; have u0 : (0 : Int32).toInt = 0 := (by decide); omega), (not_congr (zi_lt _ _)).mp c185_⟩)
              exact ihz154_ i1z154_ i2z154_ (i3z154_ + 1) (some (pvI x173_)) M174_ o176_ f178_ (zr_wide b184_ (by decide) (by decide)) (zr_wide b191_ (by decide) (by decide)) (zr_wide b193_ (by decide) (by decide)) j195_ (zhid (pvms_up (zshow hmz154_) h3z154_ q194_ (by decide) (by decide)))
        · have b196_ : 1 ≤ Int32.toInt (Mz154_.1 131 (Int32.toNatClampNeg i3z154_)) ∧ Int32.toInt (Mz154_.1 131 (Int32.toNatClampNeg i3z154_)) ≤ 1 := (by have u0 := b161_; have u1 := (not_congr (zi_eq _ _)).mp c162_; have u2 := (show 0 ≤ Int32.toInt 0 ∧ Int32.toInt 0 ≤ 0 from (by decide)); omega)
          obtain ⟨q198_, b197_⟩ : (Int32.toInt (i3z154_ + 1) = Int32.toInt i3z154_ + 1) ∧ (1 ≤ Int32.toInt (i3z154_ + 1) ∧ Int32.toInt (i3z154_ + 1) ≤ 7) := zadd_k i3z154_ 1 1 1 7 b159_ (by decide) (by decide) (by decide) (by decide) (by decide)
          refine pw_blk hT 3 (S' := (11, [some (pvR 124), some (pvI i1z154_), some (pvI i2z154_), some (pvI (i3z154_ + 1)), v4z154_], [], Mz154_)) rfl ⟨trivial, trivial, trivial, trivial⟩ ?_
          have j199_ : yNx0 M Mz154_ i1z154_ i2z154_ (i3z154_ + 1) := (yNx0_z j0z154_ (by have u := b159_; omega) c156_ c162_ (by omega))
          exact ihz154_ i1z154_ i2z154_ (i3z154_ + 1) v4z154_ Mz154_ oz154_ fz154_ h1z154_ h2z154_ (zr_wide b197_ (by decide) (by decide)) j199_ (zhid (pvms_up (zshow hmz154_) h3z154_ q198_ (by decide) (by decide)))
  have u200_ : Int32.toInt (-5) = (-5) := by decide
  have u201_ : Int32.toInt 0 = 0 := by decide
  have j202_ : yNx0 M M3_ (-5) 0 0 := (yNx0_0 hok d1_ (by decide) (by decide) (by decide))
  exact hlz154_ _ (-5) 0 0 none M3_ o5_ f7_ (zr_wide (show (-5) ≤ Int32.toInt (-5) ∧ Int32.toInt (-5) ≤ (-5) from (by decide)) (by decide) (by decide)) (zr_wide (show 0 ≤ Int32.toInt 0 ∧ Int32.toInt 0 ≤ 0 from (by decide)) (by decide) (by decide)) (zr_wide (show 0 ≤ Int32.toInt 0 ∧ Int32.toInt 0 ≤ 0 from (by decide)) (by decide) (by decide)) j202_ (zhid (Nat.lt_succ_self _))
def fpL_eX10_odds_124_x_x : List (Nat × Nat × Nat) := [(0, 124, 33), (0, 124, 36), (0, 124, 5), (0, 141, 0), (0, 142, 0), (0, 143, 0), (0, 144, 0)]
def fp_eX10_odds_124_x_x (q k : Nat) : Bool := pvfp fpL_eX10_odds_124_x_x q k
theorem fp_eX10_odds_124_x_x_fp_eX10_costOfRound_124_x (a b : Nat) (h : fp_eX10_costOfRound_124_x a b = true) : fp_eX10_odds_124_x_x a b = true := pvfp_sub (l1 := fpL_eX10_costOfRound_124_x) (l2 := fpL_eX10_odds_124_x_x) (by decide) a b h
set_option maxHeartbeats 4000000 in
set_option maxRecDepth 10000 in
theorem se_X10_odds_124_x_x (M : pvM) (hok : pvOk M) (n1 : Int32) (n2 : Int32) (hz : pvWF M) (d : Nat) : PW 58 d (0, [some (pvR 124), some (pvI n1), some (pvI n2), none, none], [], M) (fun r X => (∃ x : Int64, r = some (pvJ x)) ∧ pvOk X ∧ pvFr fp_eX10_odds_124_x_x M X ∧ X.1 124 4 = M.1 124 4 ∧ yB0j (yGod n1 n2) r M) := by
  have hT : pvdom 58 = pvD_58 := rfl
  refine pw_blk hT 2 (S' := (2, [some (pvR 124), some (pvI n1), some (pvI n2), none, none], [pvI n1, pvR 124], M)) rfl ⟨trivial, trivial, trivial⟩ ?_
  refine pw_callT hT (as := [pvR 124, pvI n1]) (lo1 := [some (pvR 124), some (pvI n1)]) (d1 := d) (rest := []) rfl rfl rfl rfl rfl (fun _ => rfl) (Nat.zero_le _) rfl rfl rfl (sf_X10_isLimit_124_x M hok n1 d) ?_
  by_cases c6_ : n1 < 0
  · refine pw_eqI (if_pos c6_) ?_
    have b7_ : (-2147483648) ≤ Int32.toInt n1 ∧ Int32.toInt n1 ≤ (-1) := zr_lt_l (-1) c6_ (zbnd n1) (show 0 ≤ Int32.toInt 0 ∧ Int32.toInt 0 ≤ 0 from (by decide)) (by decide)
    show PW 58 d (5, [some (pvR 124), some (pvI n1), some (pvI n2), none, none], [pvI 0], M) _
    refine pw_if hT (c := 0 = 0) rfl rfl (fun c8_ => ?_) (fun c8_ => absurd (by decide) c8_)
    refine pw_blk hT 1 (S' := (21, [some (pvR 124), some (pvI n1), some (pvI n2), none, none], [pvJ (-9223372036854775808)], M)) rfl ⟨trivial, trivial⟩ ?_
    exact pw_ret hT rfl (r := some (pvJ (-9223372036854775808))) (M' := M) ⟨rfl, rfl⟩ ⟨⟨_, rfl⟩, hok, pvfr_0, rfl, (yGod0_n (by have u := b7_; have w := (zbnd n2); omega) (by decide))⟩
  · refine pw_eqI (if_neg c6_) ?_
    have b9_ : 0 ≤ Int32.toInt n1 ∧ Int32.toInt n1 ≤ 2147483647 := zr_nlt_l 0 c6_ (zbnd n1) (show 0 ≤ Int32.toInt 0 ∧ Int32.toInt 0 ≤ 0 from (by decide)) (by decide)
    by_cases c10_ : 99999 < n1
    · refine pw_eqI (if_pos c10_) ?_
      have b11_ : 100000 ≤ Int32.toInt n1 ∧ Int32.toInt n1 ≤ 2147483647 := zr_lt_r 100000 c10_ b9_ (show 99999 ≤ Int32.toInt 99999 ∧ Int32.toInt 99999 ≤ 99999 from (by decide)) (by decide)
      show PW 58 d (5, [some (pvR 124), some (pvI n1), some (pvI n2), none, none], [pvI 0], M) _
      refine pw_if hT (c := 0 = 0) rfl rfl (fun c12_ => ?_) (fun c12_ => absurd (by decide) c12_)
      refine pw_blk hT 1 (S' := (21, [some (pvR 124), some (pvI n1), some (pvI n2), none, none], [pvJ (-9223372036854775808)], M)) rfl ⟨trivial, trivial⟩ ?_
      exact pw_ret hT rfl (r := some (pvJ (-9223372036854775808))) (M' := M) ⟨rfl, rfl⟩ ⟨⟨_, rfl⟩, hok, pvfr_0, rfl, (yGod0_n (by have u := b11_; have w := (zbnd n2); omega) (by decide))⟩
    · refine pw_eqI (if_neg c10_) ?_
      have b13_ : 0 ≤ Int32.toInt n1 ∧ Int32.toInt n1 ≤ 99999 := zr_nlt_r 99999 c10_ b9_ (show 99999 ≤ Int32.toInt 99999 ∧ Int32.toInt 99999 ≤ 99999 from (by decide)) (by decide)
      show PW 58 d (5, [some (pvR 124), some (pvI n1), some (pvI n2), none, none], [pvI 1], M) _
      refine pw_if hT (c := 1 = 0) rfl rfl (fun c14_ => absurd c14_ (by decide)) (fun c14_ => ?_)
      refine pw_blk hT 4 (S' := (12, [some (pvR 124), some (pvI n1), some (pvI n2), none, none], [pvI 1, pvI 0, pvI n2, pvR 124], M)) rfl ⟨trivial, trivial, trivial, trivial, trivial⟩ ?_
      refine pw_callT hT (as := [pvR 124, pvI n2, pvI 0, pvI 1]) (lo1 := [some (pvR 124), some (pvI n2), some (pvI 0), some (pvI 1)]) (d1 := d) (rest := []) rfl rfl rfl rfl rfl (fun _ => rfl) (Nat.zero_le _) rfl rfl rfl (sf_X10_in_124_x_x_x M hok n2 0 1 d) ?_
      by_cases c20_ : n2 < 0
      · refine pw_eqI (if_pos c20_) ?_
        have b21_ : (-2147483648) ≤ Int32.toInt n2 ∧ Int32.toInt n2 ≤ (-1) := zr_lt_l (-1) c20_ (zbnd n2) (show 0 ≤ Int32.toInt 0 ∧ Int32.toInt 0 ≤ 0 from (by decide)) (by decide)
        show PW 58 d (15, [some (pvR 124), some (pvI n1), some (pvI n2), none, none], [pvI 0], M) _
        refine pw_ifn hT (c := 0 = 0) rfl rfl (fun c22_ => absurd (by decide) c22_) (fun c22_ => ?_)
        refine pw_blk hT 1 (S' := (21, [some (pvR 124), some (pvI n1), some (pvI n2), none, none], [pvJ (-9223372036854775808)], M)) rfl ⟨trivial, trivial⟩ ?_
        exact pw_ret hT rfl (r := some (pvJ (-9223372036854775808))) (M' := M) ⟨rfl, rfl⟩ ⟨⟨_, rfl⟩, hok, pvfr_0, rfl, (yGod0_n (by have u := b13_; have w := b21_; omega) (by decide))⟩
      · refine pw_eqI (if_neg c20_) ?_
        have b23_ : 0 ≤ Int32.toInt n2 ∧ Int32.toInt n2 ≤ 2147483647 := zr_nlt_l 0 c20_ (zbnd n2) (show 0 ≤ Int32.toInt 0 ∧ Int32.toInt 0 ≤ 0 from (by decide)) (by decide)
        by_cases c24_ : 1 < n2
        · refine pw_eqI (if_pos c24_) ?_
          have b25_ : 2 ≤ Int32.toInt n2 ∧ Int32.toInt n2 ≤ 2147483647 := zr_lt_r 2 c24_ b23_ (show 1 ≤ Int32.toInt 1 ∧ Int32.toInt 1 ≤ 1 from (by decide)) (by decide)
          show PW 58 d (15, [some (pvR 124), some (pvI n1), some (pvI n2), none, none], [pvI 0], M) _
          refine pw_ifn hT (c := 0 = 0) rfl rfl (fun c26_ => absurd (by decide) c26_) (fun c26_ => ?_)
          refine pw_blk hT 1 (S' := (21, [some (pvR 124), some (pvI n1), some (pvI n2), none, none], [pvJ (-9223372036854775808)], M)) rfl ⟨trivial, trivial⟩ ?_
          exact pw_ret hT rfl (r := some (pvJ (-9223372036854775808))) (M' := M) ⟨rfl, rfl⟩ ⟨⟨_, rfl⟩, hok, pvfr_0, rfl, (yGod0_n (by have u := b13_; have w := b25_; omega) (by decide))⟩
        · refine pw_eqI (if_neg c24_) ?_
          have b27_ : 0 ≤ Int32.toInt n2 ∧ Int32.toInt n2 ≤ 1 := zr_nlt_r 1 c24_ b23_ (show 1 ≤ Int32.toInt 1 ∧ Int32.toInt 1 ≤ 1 from (by decide)) (by decide)
          show PW 58 d (15, [some (pvR 124), some (pvI n1), some (pvI n2), none, none], [pvI 1], M) _
          refine pw_ifn hT (c := 1 = 0) rfl rfl (fun c28_ => ?_) (fun c28_ => absurd c28_ (by decide))
          have b29_ : 0 ≤ Int32.toInt (M.1 124 4) ∧ Int32.toInt (M.1 124 4) ≤ 4 := pvok_r hok 124 4 rfl
          refine pw_blkw hT 8 (pc := 35) (lo := [some (pvR 124), some (pvI n1), some (pvI n2), some (pvI (M.1 124 4)), some (pvI 0)]) (st := []) (M := pvu M 124 4 0) rfl ⟨trivial, rfl, trivial, trivial, trivial, trivial, trivial, rfl, trivial⟩ (fun M30_ e31_ => ?_)
          have o32_ : pvOk M30_ := pvok_u2 e31_ hok rfl (zr_wide (show 0 ≤ Int32.toInt 0 ∧ Int32.toInt 0 ≤ 0 from (by decide)) (by decide) (by decide))
          have f33_ : pvFr fp_eX10_odds_124_x_x M M30_ := pvfr_u e31_ pvfr_0 rfl
          have hlz210_ : ∀ (nz210_ : Nat) (i4z210_ : Int32) (Mz210_ : pvM), (pvOk Mz210_) → (pvFr fp_eX10_odds_124_x_x M Mz210_) → (0 ≤ Int32.toInt i4z210_ ∧ Int32.toInt i4z210_ ≤ 4) → (Int32.toInt i4z210_ ≤ Int32.toInt (Mz210_.1 124 4)) → (yOd0 M Mz210_ n1 i4z210_ (Mz210_.1 124 4)) → (zhide ((5 - Int32.toInt (Mz210_.1 124 4)).toNat < nz210_)) → PW 58 d (35, [some (pvR 124), some (pvI n1), some (pvI n2), some (pvI (M.1 124 4)), some (pvI i4z210_)], [], Mz210_) (fun r X => (∃ x : Int64, r = some (pvJ x)) ∧ pvOk X ∧ pvFr fp_eX10_odds_124_x_x M X ∧ X.1 124 4 = M.1 124 4 ∧ yB0j (yGod n1 n2) r M) := by
            intro nz210_
            induction nz210_ with
            | zero => intro i4z210_ Mz210_ oz210_ fz210_ h4z210_ j0z210_ j1z210_ hmz210_; exact absurd (zshow hmz210_) (Nat.not_lt_zero _)
            | succ nz210_ ihz210_ =>
              intro i4z210_ Mz210_ oz210_ fz210_ h4z210_ j0z210_ j1z210_ hmz210_
              have b211_ : 0 ≤ Int32.toInt (Mz210_.1 124 4) ∧ Int32.toInt (Mz210_.1 124 4) ≤ 4 := pvok_r oz210_ 124 4 rfl
              refine pw_blk hT 3 (S' := (40, [some (pvR 124), some (pvI n1), some (pvI n2), some (pvI (M.1 124 4)), some (pvI i4z210_)], [pvI 4, pvI (Mz210_.1 124 4)], Mz210_)) rfl ⟨trivial, rfl, trivial, trivial⟩ ?_
              refine pw_ic hT (c := 4 ≤ (Mz210_.1 124 4)) rfl rfl (fun c212_ => ?_) (fun c212_ => ?_)
              · have b213_ : 4 ≤ Int32.toInt (Mz210_.1 124 4) ∧ Int32.toInt (Mz210_.1 124 4) ≤ 4 := zr_le_r 4 c212_ b211_ (show 4 ≤ Int32.toInt 4 ∧ Int32.toInt 4 ≤ 4 from (by decide)) (by decide)
                refine pw_blkw hT 3 (pc := 80) (lo := [some (pvR 124), some (pvI n1), some (pvI n2), some (pvI (M.1 124 4)), some (pvI i4z210_)]) (st := []) (M := pvu Mz210_ 124 4 (M.1 124 4)) rfl ⟨trivial, trivial, rfl, trivial⟩ (fun M214_ e215_ => ?_)
                have o216_ : pvOk M214_ := pvok_u2 e215_ oz210_ rfl b29_
                have f217_ : pvFr fp_eX10_odds_124_x_x M M214_ := pvfr_u e215_ fz210_ rfl
                refine pw_blk hT 4 (S' := (85, [some (pvR 124), some (pvI n1), some (pvI n2), some (pvI (M.1 124 4)), some (pvI i4z210_)], [pvI n2, pvI 4, pvI i4z210_, pvR 124], M214_)) rfl ⟨trivial, trivial, trivial, trivial, trivial⟩ ?_
                refine pw_callJx hT (as := [pvR 124, pvI i4z210_, pvI 4, pvI n2]) (lo1 := [some (pvR 124), some (pvI i4z210_), some (pvI 4), some (pvI n2), none]) (d1 := d) (rest := []) rfl rfl rfl rfl rfl (fun _ => rfl) (Nat.zero_le _) rfl rfl rfl (se_X10_lowest_124_x_x_x M214_ o216_ i4z210_ 4 n2 (zr_wide h4z210_ (by decide) (by decide)) (zr_wide (show 4 ≤ Int32.toInt 4 ∧ Int32.toInt 4 ≤ 4 from (by decide)) (by decide) (by decide)) d) (fun x218_ b220_ => ?_)
                exact pw_ret hT rfl (r := some (pvJ x218_)) (M' := M214_) ⟨rfl, rfl⟩ ⟨⟨_, rfl⟩, o216_, f217_, (pvu_s e215_), (yGod0_e j1z210_ (by have u := b213_; omega) (by decide) (by have u := b13_; have w := b27_; omega) b220_)⟩
              · have b223_ : 0 ≤ Int32.toInt (Mz210_.1 124 4) ∧ Int32.toInt (Mz210_.1 124 4) ≤ 3 := zr_nle_r 3 c212_ b211_ (show 4 ≤ Int32.toInt 4 ∧ Int32.toInt 4 ≤ 4 from (by decide)) (by decide)
                refine pw_blk hT 3 (S' := (47, [some (pvR 124), some (pvI n1), some (pvI n2), some (pvI (M.1 124 4)), some (pvI i4z210_)], [pvI 0, pvR 124, pvI i4z210_], Mz210_)) rfl ⟨trivial, trivial, trivial, trivial⟩ ?_
                have u224_ : Int32.toInt 0 = 0 := by decide
                refine pw_callGd hT (as := [pvR 124, pvI 0]) (lo1 := [some (pvR 124), some (pvI 0)]) (d1 := d) (rest := [pvI i4z210_]) rfl rfl rfl rfl rfl (fun _ => rfl) (Nat.zero_le _) rfl rfl rfl (se_X10_costOfRound_124_x Mz210_ oz210_ 0 (zr_wide (show 0 ≤ Int32.toInt 0 ∧ Int32.toInt 0 ≤ 0 from (by decide)) (by decide) (by decide)) (pvWF_fr (L := fpL_eX10_odds_124_x_x) rfl fz210_ hz) d) (fun x226_ M227_ b228_ o229_ g230_ d225_ => ?_)
                have f231_ : pvFr fp_eX10_odds_124_x_x M M227_ := pvfr_t g230_ fz210_ fp_eX10_odds_124_x_x_fp_eX10_costOfRound_124_x
                refine pw_blk hT 1 (S' := (51, [some (pvR 124), some (pvI n1), some (pvI n2), some (pvI (M.1 124 4)), some (pvI i4z210_)], [pvI n1, pvI x226_, pvI i4z210_], M227_)) rfl ⟨trivial, trivial⟩ ?_
                refine pw_ic hT (c := n1 < x226_) rfl rfl (fun c232_ => ?_) (fun c232_ => ?_)
                · have b233_ : 1 ≤ Int32.toInt x226_ ∧ Int32.toInt x226_ ≤ 9000000 := zr_lt_r 1 c232_ b228_ b13_ (by decide)
                  have d234_ : Int32.toInt n1 < Int32.toInt x226_ := (zi_lt _ _).mp c232_
                  obtain ⟨q236_, b235_⟩ : (Int32.toInt (i4z210_ + 0) = Int32.toInt i4z210_ + 0) ∧ (0 ≤ Int32.toInt (i4z210_ + 0) ∧ Int32.toInt (i4z210_ + 0) ≤ 4) := zadd_k i4z210_ 0 0 0 4 h4z210_ (by decide) (by decide) (by decide) (by decide) (by decide)
                  have e237_ : (M227_.1 124 4) = (Mz210_.1 124 4) := (g230_ 124 4 rfl)
                  have b238_ : 0 ≤ Int32.toInt (M227_.1 124 4) ∧ Int32.toInt (M227_.1 124 4) ≤ 3 := (by rw [e237_]; exact b223_)
                  have d239_ : Int32.toInt (M227_.1 124 4) = Int32.toInt (Mz210_.1 124 4) := congrArg Int32.toInt e237_
                  obtain ⟨q241_, b240_⟩ : (Int32.toInt ((M227_.1 124 4) + 1) = Int32.toInt (M227_.1 124 4) + 1) ∧ (1 ≤ Int32.toInt ((M227_.1 124 4) + 1) ∧ Int32.toInt ((M227_.1 124 4) + 1) ≤ 4) := zadd_k (M227_.1 124 4) 1 1 1 4 b238_ (by decide) (by decide) (by decide) (by decide) (by decide)
                  refine pw_blkw hT 9 (pc := 72) (lo := [some (pvR 124), some (pvI n1), some (pvI n2), some (pvI (M.1 124 4)), some (pvI (i4z210_ + 0))]) (st := []) (M := pvu M227_ 124 4 ((M227_.1 124 4) + 1)) rfl ⟨trivial, trivial, trivial, trivial, trivial, rfl, trivial, trivial, rfl, trivial⟩ (fun M242_ e243_ => ?_)
                  have o244_ : pvOk M242_ := pvok_u2 e243_ o229_ rfl (zr_wide b240_ (by decide) (by decide))
                  have f245_ : pvFr fp_eX10_odds_124_x_x M M242_ := pvfr_u e243_ f231_ rfl
                  refine pw_blk hT 1 (S' := (35, [some (pvR 124), some (pvI n1), some (pvI n2), some (pvI (M.1 124 4)), some (pvI (i4z210_ + 0))], [], M242_)) rfl ⟨trivial, trivial⟩ ?_
                  have j246_ : Int32.toInt (i4z210_ + 0) ≤ Int32.toInt (M242_.1 124 4) := by have z1 : Int32.toInt (M242_.1 124 4) = Int32.toInt ((M227_.1 124 4) + 1) := congrArg Int32.toInt (pvu_s e243_); have z2 : Int32.toInt (M227_.1 124 4) = Int32.toInt (Mz210_.1 124 4) := congrArg Int32.toInt (g230_ 124 4 rfl); have y01 : Int32.toInt (M242_.1 124 4) = Int32.toInt ((M227_.1 124 4) + 1) := congrArg Int32.toInt (pvu_s e243_); have y02 : Int32.toInt (M227_.1 124 4) = Int32.toInt (Mz210_.1 124 4) := congrArg Int32.toInt (g230_ 124 4 rfl); omega
                  have j247_ : yOd0 M M242_ n1 (i4z210_ + 0) (M242_.1 124 4) := (yOd0_s j1z210_ (by have u := b223_; omega) d225_ (by decide) e243_ rfl (Or.inr ⟨(Int32.not_le.mpr c232_), by decide⟩) rfl)
                  exact ihz210_ (i4z210_ + 0) M242_ o244_ f245_ b235_ j246_ j247_ (zhid (by have hm0 := zshow hmz210_; have z1 : Int32.toInt (M242_.1 124 4) = Int32.toInt ((M227_.1 124 4) + 1) := congrArg Int32.toInt (pvu_s e243_); have z2 : Int32.toInt (M227_.1 124 4) = Int32.toInt (Mz210_.1 124 4) := congrArg Int32.toInt (g230_ 124 4 rfl); have y01 : Int32.toInt (M242_.1 124 4) = Int32.toInt ((M227_.1 124 4) + 1) := congrArg Int32.toInt (pvu_s e243_); have y02 : Int32.toInt (M227_.1 124 4) = Int32.toInt (Mz210_.1 124 4) := congrArg Int32.toInt (g230_ 124 4 rfl); omega))
                · have b248_ : 0 ≤ Int32.toInt x226_ ∧ Int32.toInt x226_ ≤ 99999 := zr_nlt_r 99999 c232_ b228_ b13_ (by decide)
                  have d249_ : Int32.toInt n1 ≥ Int32.toInt x226_ := Int.not_lt.mp ((not_congr (zi_lt _ _)).mp c232_)
                  obtain ⟨q251_, b250_⟩ : (Int32.toInt (i4z210_ + 1) = Int32.toInt i4z210_ + 1) ∧ (1 ≤ Int32.toInt (i4z210_ + 1) ∧ Int32.toInt (i4z210_ + 1) ≤ 5) := zadd_k i4z210_ 1 1 1 5 h4z210_ (by decide) (by decide) (by decide) (by decide) (by decide)
                  have e252_ : (M227_.1 124 4) = (Mz210_.1 124 4) := (g230_ 124 4 rfl)
                  have b253_ : 0 ≤ Int32.toInt (M227_.1 124 4) ∧ Int32.toInt (M227_.1 124 4) ≤ 3 := (by rw [e252_]; exact b223_)
                  have d254_ : Int32.toInt (M227_.1 124 4) = Int32.toInt (Mz210_.1 124 4) := congrArg Int32.toInt e252_
                  obtain ⟨q256_, b255_⟩ : (Int32.toInt ((M227_.1 124 4) + 1) = Int32.toInt (M227_.1 124 4) + 1) ∧ (1 ≤ Int32.toInt ((M227_.1 124 4) + 1) ∧ Int32.toInt ((M227_.1 124 4) + 1) ≤ 4) := zadd_k (M227_.1 124 4) 1 1 1 4 b253_ (by decide) (by decide) (by decide) (by decide) (by decide)
                  refine pw_blkw hT 10 (pc := 72) (lo := [some (pvR 124), some (pvI n1), some (pvI n2), some (pvI (M.1 124 4)), some (pvI (i4z210_ + 1))]) (st := []) (M := pvu M227_ 124 4 ((M227_.1 124 4) + 1)) rfl ⟨trivial, trivial, trivial, trivial, trivial, trivial, rfl, trivial, trivial, rfl, trivial⟩ (fun M257_ e258_ => ?_)
                  have o259_ : pvOk M257_ := pvok_u2 e258_ o229_ rfl (zr_wide b255_ (by decide) (by decide))
                  have f260_ : pvFr fp_eX10_odds_124_x_x M M257_ := pvfr_u e258_ f231_ rfl
                  refine pw_blk hT 1 (S' := (35, [some (pvR 124), some (pvI n1), some (pvI n2), some (pvI (M.1 124 4)), some (pvI (i4z210_ + 1))], [], M257_)) rfl ⟨trivial, trivial⟩ ?_
                  have j261_ : Int32.toInt (i4z210_ + 1) ≤ Int32.toInt (M257_.1 124 4) := by have z1 : Int32.toInt (M257_.1 124 4) = Int32.toInt ((M227_.1 124 4) + 1) := congrArg Int32.toInt (pvu_s e258_); have z2 : Int32.toInt (M227_.1 124 4) = Int32.toInt (Mz210_.1 124 4) := congrArg Int32.toInt (g230_ 124 4 rfl); have y01 : Int32.toInt (M257_.1 124 4) = Int32.toInt ((M227_.1 124 4) + 1) := congrArg Int32.toInt (pvu_s e258_); have y02 : Int32.toInt (M227_.1 124 4) = Int32.toInt (Mz210_.1 124 4) := congrArg Int32.toInt (g230_ 124 4 rfl); omega
                  have j262_ : yOd0 M M257_ n1 (i4z210_ + 1) (M257_.1 124 4) := (yOd0_s j1z210_ (by have u := b223_; omega) d225_ (by decide) e258_ rfl (Or.inl ⟨(Int32.not_lt.mp c232_), by decide⟩) rfl)
                  exact ihz210_ (i4z210_ + 1) M257_ o259_ f260_ (by have u0 := b250_; omega) j261_ j262_ (zhid (by have hm0 := zshow hmz210_; have z1 : Int32.toInt (M257_.1 124 4) = Int32.toInt ((M227_.1 124 4) + 1) := congrArg Int32.toInt (pvu_s e258_); have z2 : Int32.toInt (M227_.1 124 4) = Int32.toInt (Mz210_.1 124 4) := congrArg Int32.toInt (g230_ 124 4 rfl); have y01 : Int32.toInt (M257_.1 124 4) = Int32.toInt ((M227_.1 124 4) + 1) := congrArg Int32.toInt (pvu_s e258_); have y02 : Int32.toInt (M227_.1 124 4) = Int32.toInt (Mz210_.1 124 4) := congrArg Int32.toInt (g230_ 124 4 rfl); omega))
          have u263_ : Int32.toInt 0 = 0 := by decide
          have j264_ : Int32.toInt 0 ≤ Int32.toInt (M30_.1 124 4) := by have y01 : Int32.toInt (M30_.1 124 4) = Int32.toInt 0 := congrArg Int32.toInt (pvu_s e31_); have y03 : Int32.toInt 0 = 0 := (by decide); omega
          have j265_ : yOd0 M M30_ n1 0 (M30_.1 124 4) := (yOd0_0 e31_ (by decide) (by decide))
          exact hlz210_ _ 0 M30_ o32_ f33_ (zr_wide (show 0 ≤ Int32.toInt 0 ∧ Int32.toInt 0 ≤ 0 from (by decide)) (by decide) (by decide)) j264_ j265_ (zhid (Nat.lt_succ_self _))
def fpL_eX10_of_124_x_x : List (Nat × Nat × Nat) := [(0, 124, 33), (0, 141, 0), (0, 142, 0), (0, 143, 0)]
def fp_eX10_of_124_x_x (q k : Nat) : Bool := pvfp fpL_eX10_of_124_x_x q k
theorem fp_eX10_of_124_x_x_fp_eX10_layOpen_124 (a b : Nat) (h : fp_eX10_layOpen_124 a b = true) : fp_eX10_of_124_x_x a b = true := pvfp_sub (l1 := fpL_eX10_layOpen_124) (l2 := fpL_eX10_of_124_x_x) (by decide) a b h
theorem fp_eX10_of_124_x_x_fp_eX10_layRain_124 (a b : Nat) (h : fp_eX10_layRain_124 a b = true) : fp_eX10_of_124_x_x a b = true := pvfp_sub (l1 := fpL_eX10_layRain_124) (l2 := fpL_eX10_of_124_x_x) (by decide) a b h
set_option maxHeartbeats 4000000 in
set_option maxRecDepth 10000 in
theorem se_X10_of_124_x_x (M : pvM) (hok : pvOk M) (n1 : Int32) (n2 : Int32) (hz : pvWF M) (d : Nat) : PW 59 d (0, [some (pvR 124), some (pvI n1), some (pvI n2)], [], M) (fun r X => (∃ x : Int32, r = some (pvI x) ∧ (-1) ≤ Int32.toInt x ∧ Int32.toInt x ≤ 12009) ∧ pvOk X ∧ pvFr fp_eX10_of_124_x_x M X ∧ yA0 (yGof n1 n2) r M) := by
  have hT : pvdom 59 = pvD_59 := rfl
  refine pw_blk hT 2 (S' := (2, [some (pvR 124), some (pvI n1), some (pvI n2)], [pvI n1, pvR 124], M)) rfl ⟨trivial, trivial, trivial⟩ ?_
  refine pw_callT hT (as := [pvR 124, pvI n1]) (lo1 := [some (pvR 124), some (pvI n1)]) (d1 := d) (rest := []) rfl rfl rfl rfl rfl (fun _ => rfl) (Nat.zero_le _) rfl rfl rfl (sf_X10_isWindow_124_x M hok n1 d) ?_
  by_cases c6_ : n1 < 0
  · refine pw_eqI (if_pos c6_) ?_
    have b7_ : (-2147483648) ≤ Int32.toInt n1 ∧ Int32.toInt n1 ≤ (-1) := zr_lt_l (-1) c6_ (zbnd n1) (show 0 ≤ Int32.toInt 0 ∧ Int32.toInt 0 ≤ 0 from (by decide)) (by decide)
    show PW 59 d (5, [some (pvR 124), some (pvI n1), some (pvI n2)], [pvI 0], M) _
    refine pw_ifn hT (c := 0 = 0) rfl rfl (fun c8_ => absurd (by decide) c8_) (fun c8_ => ?_)
    refine pw_blk hT 1 (S' := (9, [some (pvR 124), some (pvI n1), some (pvI n2)], [pvI (-1)], M)) rfl ⟨trivial, trivial⟩ ?_
    exact pw_ret hT rfl (r := some (pvI (-1))) (M' := M) ⟨rfl, rfl⟩ ⟨⟨_, rfl, (zr_wide (show (-1) ≤ Int32.toInt (-1) ∧ Int32.toInt (-1) ≤ (-1) from (by decide)) (by decide) (by decide))⟩, hok, pvfr_0, (yGof0_n (zvl_l c6_) (by decide))⟩
  · refine pw_eqI (if_neg c6_) ?_
    have b9_ : 0 ≤ Int32.toInt n1 ∧ Int32.toInt n1 ≤ 2147483647 := zr_nlt_l 0 c6_ (zbnd n1) (show 0 ≤ Int32.toInt 0 ∧ Int32.toInt 0 ≤ 0 from (by decide)) (by decide)
    have b10_ : 0 ≤ Int32.toInt (M.1 124 0) ∧ Int32.toInt (M.1 124 0) ≤ 7 := pvok_r hok 124 0 rfl
    obtain ⟨q12_, b11_⟩ : (Int32.toInt ((M.1 124 0) - 1) = Int32.toInt (M.1 124 0) - 1) ∧ ((-1) ≤ Int32.toInt ((M.1 124 0) - 1) ∧ Int32.toInt ((M.1 124 0) - 1) ≤ 6) := zsub_k (M.1 124 0) 1 1 (-1) 6 b10_ (by decide) (by decide) (by decide) (by decide) (by decide)
    by_cases c13_ : ((M.1 124 0) - 1) < n1
    · refine pw_eqI (if_pos c13_) ?_
      have d14_ : Int32.toInt ((M.1 124 0) - 1) < Int32.toInt n1 := (zi_lt _ _).mp c13_
      show PW 59 d (5, [some (pvR 124), some (pvI n1), some (pvI n2)], [pvI 0], M) _
      refine pw_ifn hT (c := 0 = 0) rfl rfl (fun c15_ => absurd (by decide) c15_) (fun c15_ => ?_)
      refine pw_blk hT 1 (S' := (9, [some (pvR 124), some (pvI n1), some (pvI n2)], [pvI (-1)], M)) rfl ⟨trivial, trivial⟩ ?_
      exact pw_ret hT rfl (r := some (pvI (-1))) (M' := M) ⟨rfl, rfl⟩ ⟨⟨_, rfl, (zr_wide (show (-1) ≤ Int32.toInt (-1) ∧ Int32.toInt (-1) ≤ (-1) from (by decide)) (by decide) (by decide))⟩, hok, pvfr_0, (yGof0_n (zvl_u0 (pvok_r hok 124 0 (lo := 0) (hi := 7) rfl).1 c13_) (by decide))⟩
    · refine pw_eqI (if_neg c13_) ?_
      have b16_ : 0 ≤ Int32.toInt ((M.1 124 0) - 1) ∧ Int32.toInt ((M.1 124 0) - 1) ≤ 6 := zr_nlt_l 0 c13_ b11_ b9_ (by decide)
      have b17_ : 0 ≤ Int32.toInt n1 ∧ Int32.toInt n1 ≤ 6 := zr_nlt_r 6 c13_ b9_ b16_ (by decide)
      have d18_ : Int32.toInt ((M.1 124 0) - 1) ≥ Int32.toInt n1 := Int.not_lt.mp ((not_congr (zi_lt _ _)).mp c13_)
      show PW 59 d (5, [some (pvR 124), some (pvI n1), some (pvI n2)], [pvI 1], M) _
      refine pw_ifn hT (c := 1 = 0) rfl rfl (fun c19_ => ?_) (fun c19_ => absurd c19_ (by decide))
      refine pw_blk hT 1 (S' := (11, [some (pvR 124), some (pvI n1), some (pvI n2)], [pvI n2], M)) rfl ⟨trivial, trivial⟩ ?_
      refine pw_sw hT rfl rfl ?_
      refine And.intro (fun c20_ => ?_) (fun c20_ => ?_)
      · show PW 59 d (56, [some (pvR 124), some (pvI n1), some (pvI n2)], [], M) _
        have b21_ : 0 ≤ Int32.toInt n2 ∧ Int32.toInt n2 ≤ 0 := (by have u0 := (zbnd n2); have u1 := (zi_eq _ _).mp c20_; have u2 := (show 0 ≤ Int32.toInt 0 ∧ Int32.toInt 0 ≤ 0 from (by decide)); omega)
        have b22_ : 0 ≤ Int32.toInt (M.1 125 (Int32.toNatClampNeg n1)) ∧ Int32.toInt (M.1 125 (Int32.toNatClampNeg n1)) ≤ 6 := pvok_r hok 125 (Int32.toNatClampNeg n1) rfl
        refine pw_blk hT 4 (S' := (62, [some (pvR 124), some (pvI n1), some (pvI n2)], [pvI (M.1 125 (Int32.toNatClampNeg n1))], M)) rfl ⟨trivial, rfl, trivial, ⟨rfl, (zr_in (n := 7) b17_ (by decide) (by decide))⟩, trivial⟩ ?_
        exact pw_ret hT rfl (r := some (pvI (M.1 125 (Int32.toNatClampNeg n1)))) (M' := M) ⟨rfl, rfl⟩ ⟨⟨_, rfl, (zr_wide b22_ (by decide) (by decide))⟩, hok, pvfr_0, (yGof0_c (zvl_y0 (pvok_r hok 124 0 (lo := 0) (hi := 7) rfl).1 c6_ c13_) (Or.inl ⟨(by have u := b21_; omega), rfl⟩))⟩
      · refine And.intro (fun c23_ => ?_) (fun c23_ => ?_)
        · show PW 59 d (63, [some (pvR 124), some (pvI n1), some (pvI n2)], [], M) _
          have b24_ : 1 ≤ Int32.toInt n2 ∧ Int32.toInt n2 ≤ 1 := (by have u0 := (zbnd n2); have u1 := (zi_eq _ _).mp c23_; have u2 := (show 1 ≤ Int32.toInt 1 ∧ Int32.toInt 1 ≤ 1 from (by decide)); omega)
          have b25_ : 0 ≤ Int32.toInt (M.1 126 (Int32.toNatClampNeg n1)) ∧ Int32.toInt (M.1 126 (Int32.toNatClampNeg n1)) ≤ 9 := pvok_r hok 126 (Int32.toNatClampNeg n1) rfl
          refine pw_blk hT 4 (S' := (69, [some (pvR 124), some (pvI n1), some (pvI n2)], [pvI (M.1 126 (Int32.toNatClampNeg n1))], M)) rfl ⟨trivial, rfl, trivial, ⟨rfl, (zr_in (n := 7) b17_ (by decide) (by decide))⟩, trivial⟩ ?_
          exact pw_ret hT rfl (r := some (pvI (M.1 126 (Int32.toNatClampNeg n1)))) (M' := M) ⟨rfl, rfl⟩ ⟨⟨_, rfl, (zr_wide b25_ (by decide) (by decide))⟩, hok, pvfr_0, (yGof0_c (zvl_y0 (pvok_r hok 124 0 (lo := 0) (hi := 7) rfl).1 c6_ c13_) (Or.inr (Or.inl ⟨(by have u := b24_; omega), rfl⟩)))⟩
        · refine And.intro (fun c26_ => ?_) (fun c26_ => ?_)
          · show PW 59 d (70, [some (pvR 124), some (pvI n1), some (pvI n2)], [], M) _
            have b27_ : 2 ≤ Int32.toInt n2 ∧ Int32.toInt n2 ≤ 2 := (by have u0 := (zbnd n2); have u1 := (zi_eq _ _).mp c26_; have u2 := (show 2 ≤ Int32.toInt 2 ∧ Int32.toInt 2 ≤ 2 from (by decide)); omega)
            have b28_ : 0 ≤ Int32.toInt (M.1 127 (Int32.toNatClampNeg n1)) ∧ Int32.toInt (M.1 127 (Int32.toNatClampNeg n1)) ≤ 3 := pvok_r hok 127 (Int32.toNatClampNeg n1) rfl
            refine pw_blk hT 4 (S' := (76, [some (pvR 124), some (pvI n1), some (pvI n2)], [pvI (M.1 127 (Int32.toNatClampNeg n1))], M)) rfl ⟨trivial, rfl, trivial, ⟨rfl, (zr_in (n := 7) b17_ (by decide) (by decide))⟩, trivial⟩ ?_
            exact pw_ret hT rfl (r := some (pvI (M.1 127 (Int32.toNatClampNeg n1)))) (M' := M) ⟨rfl, rfl⟩ ⟨⟨_, rfl, (zr_wide b28_ (by decide) (by decide))⟩, hok, pvfr_0, (yGof0_c (zvl_y0 (pvok_r hok 124 0 (lo := 0) (hi := 7) rfl).1 c6_ c13_) (Or.inr (Or.inr (Or.inl ⟨(by have u := b27_; omega), rfl⟩))))⟩
          · refine And.intro (fun c29_ => ?_) (fun c29_ => ?_)
            · show PW 59 d (77, [some (pvR 124), some (pvI n1), some (pvI n2)], [], M) _
              have b30_ : 3 ≤ Int32.toInt n2 ∧ Int32.toInt n2 ≤ 3 := (by have u0 := (zbnd n2); have u1 := (zi_eq _ _).mp c29_; have u2 := (show 3 ≤ Int32.toInt 3 ∧ Int32.toInt 3 ≤ 3 from (by decide)); omega)
              have b31_ : 0 ≤ Int32.toInt (M.1 128 (Int32.toNatClampNeg n1)) ∧ Int32.toInt (M.1 128 (Int32.toNatClampNeg n1)) ≤ 4 := pvok_r hok 128 (Int32.toNatClampNeg n1) rfl
              refine pw_blk hT 4 (S' := (83, [some (pvR 124), some (pvI n1), some (pvI n2)], [pvI (M.1 128 (Int32.toNatClampNeg n1))], M)) rfl ⟨trivial, rfl, trivial, ⟨rfl, (zr_in (n := 7) b17_ (by decide) (by decide))⟩, trivial⟩ ?_
              exact pw_ret hT rfl (r := some (pvI (M.1 128 (Int32.toNatClampNeg n1)))) (M' := M) ⟨rfl, rfl⟩ ⟨⟨_, rfl, (zr_wide b31_ (by decide) (by decide))⟩, hok, pvfr_0, (yGof0_c (zvl_y0 (pvok_r hok 124 0 (lo := 0) (hi := 7) rfl).1 c6_ c13_) (Or.inr (Or.inr (Or.inr (Or.inl ⟨(by have u := b30_; omega), rfl⟩)))))⟩
            · refine And.intro (fun c32_ => ?_) (fun c32_ => ?_)
              · show PW 59 d (84, [some (pvR 124), some (pvI n1), some (pvI n2)], [], M) _
                have b33_ : 4 ≤ Int32.toInt n2 ∧ Int32.toInt n2 ≤ 4 := (by have u0 := (zbnd n2); have u1 := (zi_eq _ _).mp c32_; have u2 := (show 4 ≤ Int32.toInt 4 ∧ Int32.toInt 4 ≤ 4 from (by decide)); omega)
                have b34_ : 0 ≤ Int32.toInt (M.1 129 (Int32.toNatClampNeg n1)) ∧ Int32.toInt (M.1 129 (Int32.toNatClampNeg n1)) ≤ 9 := pvok_r hok 129 (Int32.toNatClampNeg n1) rfl
                refine pw_blk hT 4 (S' := (90, [some (pvR 124), some (pvI n1), some (pvI n2)], [pvI (M.1 129 (Int32.toNatClampNeg n1))], M)) rfl ⟨trivial, rfl, trivial, ⟨rfl, (zr_in (n := 7) b17_ (by decide) (by decide))⟩, trivial⟩ ?_
                exact pw_ret hT rfl (r := some (pvI (M.1 129 (Int32.toNatClampNeg n1)))) (M' := M) ⟨rfl, rfl⟩ ⟨⟨_, rfl, (zr_wide b34_ (by decide) (by decide))⟩, hok, pvfr_0, (yGof0_c (zvl_y0 (pvok_r hok 124 0 (lo := 0) (hi := 7) rfl).1 c6_ c13_) (Or.inr (Or.inr (Or.inr (Or.inr (Or.inl ⟨(by have u := b33_; omega), rfl⟩))))))⟩
              · refine And.intro (fun c35_ => ?_) (fun c35_ => ?_)
                · show PW 59 d (91, [some (pvR 124), some (pvI n1), some (pvI n2)], [], M) _
                  have b36_ : 5 ≤ Int32.toInt n2 ∧ Int32.toInt n2 ≤ 5 := (by have u0 := (zbnd n2); have u1 := (zi_eq _ _).mp c35_; have u2 := (show 5 ≤ Int32.toInt 5 ∧ Int32.toInt 5 ≤ 5 from (by decide)); omega)
                  have b37_ : 0 ≤ Int32.toInt (M.1 131 (Int32.toNatClampNeg n1)) ∧ Int32.toInt (M.1 131 (Int32.toNatClampNeg n1)) ≤ 1 := pvok_r hok 131 (Int32.toNatClampNeg n1) rfl
                  refine pw_blk hT 4 (S' := (97, [some (pvR 124), some (pvI n1), some (pvI n2)], [pvI (M.1 131 (Int32.toNatClampNeg n1))], M)) rfl ⟨trivial, rfl, trivial, ⟨rfl, (zr_in (n := 7) b17_ (by decide) (by decide))⟩, trivial⟩ ?_
                  refine pw_if hT (c := (M.1 131 (Int32.toNatClampNeg n1)) = 0) rfl rfl (fun c38_ => ?_) (fun c38_ => ?_)
                  · have b39_ : 0 ≤ Int32.toInt (M.1 131 (Int32.toNatClampNeg n1)) ∧ Int32.toInt (M.1 131 (Int32.toNatClampNeg n1)) ≤ 0 := (by have u0 := b37_; have u1 := (zi_eq _ _).mp c38_; have u2 := (show 0 ≤ Int32.toInt 0 ∧ Int32.toInt 0 ≤ 0 from (by decide)); omega)
                    refine pw_blk hT 1 (S' := (105, [some (pvR 124), some (pvI n1), some (pvI n2)], [pvI 0], M)) rfl ⟨trivial, trivial⟩ ?_
                    exact pw_ret hT rfl (r := some (pvI 0)) (M' := M) ⟨rfl, rfl⟩ ⟨⟨_, rfl, (zr_wide (show 0 ≤ Int32.toInt 0 ∧ Int32.toInt 0 ≤ 0 from (by decide)) (by decide) (by decide))⟩, hok, pvfr_0, (yGof0_c (zvl_y0 (pvok_r hok 124 0 (lo := 0) (hi := 7) rfl).1 c6_ c13_) (Or.inr (Or.inr (Or.inr (Or.inr (Or.inr (Or.inl ⟨(by have u := b36_; omega), (by rw [if_pos c38_]; decide)⟩)))))))⟩
                  · have b40_ : 1 ≤ Int32.toInt (M.1 131 (Int32.toNatClampNeg n1)) ∧ Int32.toInt (M.1 131 (Int32.toNatClampNeg n1)) ≤ 1 := (by have u0 := b37_; have u1 := (not_congr (zi_eq _ _)).mp c38_; have u2 := (show 0 ≤ Int32.toInt 0 ∧ Int32.toInt 0 ≤ 0 from (by decide)); omega)
                    refine pw_blk hT 2 (S' := (105, [some (pvR 124), some (pvI n1), some (pvI n2)], [pvI 1], M)) rfl ⟨trivial, trivial, trivial⟩ ?_
                    exact pw_ret hT rfl (r := some (pvI 1)) (M' := M) ⟨rfl, rfl⟩ ⟨⟨_, rfl, (zr_wide (show 1 ≤ Int32.toInt 1 ∧ Int32.toInt 1 ≤ 1 from (by decide)) (by decide) (by decide))⟩, hok, pvfr_0, (yGof0_c (zvl_y0 (pvok_r hok 124 0 (lo := 0) (hi := 7) rfl).1 c6_ c13_) (Or.inr (Or.inr (Or.inr (Or.inr (Or.inr (Or.inl ⟨(by have u := b36_; omega), (by rw [if_neg c38_]; decide)⟩)))))))⟩
                · refine And.intro (fun c41_ => ?_) (fun c41_ => ?_)
                  · show PW 59 d (106, [some (pvR 124), some (pvI n1), some (pvI n2)], [], M) _
                    have b42_ : 6 ≤ Int32.toInt n2 ∧ Int32.toInt n2 ≤ 6 := (by have u0 := (zbnd n2); have u1 := (zi_eq _ _).mp c41_; have u2 := (show 6 ≤ Int32.toInt 6 ∧ Int32.toInt 6 ≤ 6 from (by decide)); omega)
                    have b43_ : 0 ≤ Int32.toInt (M.1 124 5) ∧ Int32.toInt (M.1 124 5) ≤ 3 := pvok_r hok 124 5 rfl
                    have b44_ : 0 ≤ Int32.toInt (M.1 124 6) ∧ Int32.toInt (M.1 124 6) ≤ 4 := pvok_r hok 124 6 rfl
                    refine pw_blk hT 6 (S' := (116, [some (pvR 124), some (pvI n1), some (pvI n2)], [pvI n1, pvI (M.1 124 6), pvI (M.1 124 5), pvR 124], M)) rfl ⟨trivial, trivial, rfl, trivial, rfl, trivial, trivial⟩ ?_
                    refine pw_callGp hT (as := [pvR 124, pvI (M.1 124 5), pvI (M.1 124 6), pvI n1]) (lo1 := [some (pvR 124), some (pvI (M.1 124 5)), some (pvI (M.1 124 6)), some (pvI n1)]) (d1 := d) (rest := []) rfl rfl rfl rfl rfl (fun _ => rfl) (Nat.zero_le _) rfl rfl rfl (se_X10_way_124_x_x_x M hok (M.1 124 5) (M.1 124 6) n1 b43_ b44_ b17_ d) (fun x45_ b47_ => ?_)
                    obtain ⟨b50_, d51_⟩ := b47_
                    exact pw_ret hT rfl (r := some (pvI x45_)) (M' := M) ⟨rfl, rfl⟩ ⟨⟨_, rfl, (zr_wide b50_ (by decide) (by decide))⟩, hok, pvfr_0, (yGof0_c (zvl_y0 (pvok_r hok 124 0 (lo := 0) (hi := 7) rfl).1 c6_ c13_) (Or.inr (Or.inr (Or.inr (Or.inr (Or.inr (Or.inr (Or.inl ⟨(by have u := b42_; omega), d51_⟩))))))))⟩
                  · refine And.intro (fun c52_ => ?_) (fun c52_ => ?_)
                    · show PW 59 d (120, [some (pvR 124), some (pvI n1), some (pvI n2)], [], M) _
                      have b53_ : 7 ≤ Int32.toInt n2 ∧ Int32.toInt n2 ≤ 7 := (by have u0 := (zbnd n2); have u1 := (zi_eq _ _).mp c52_; have u2 := (show 7 ≤ Int32.toInt 7 ∧ Int32.toInt 7 ≤ 7 from (by decide)); omega)
                      refine pw_blk hT 1 (S' := (121, [some (pvR 124), some (pvI n1), some (pvI n2)], [pvR 124], M)) rfl ⟨trivial, trivial⟩ ?_
                      refine pw_callVd hT (as := [pvR 124]) (lo1 := [some (pvR 124), none, none]) (d1 := d) (rest := []) rfl rfl rfl rfl rfl (fun _ => rfl) (Nat.zero_le _) rfl rfl rfl (se_X10_layRain_124 M hok hz d) (fun M56_ o58_ g59_ d54_ => ?_)
                      have f60_ : pvFr fp_eX10_of_124_x_x M M56_ := pvfr_t g59_ pvfr_0 fp_eX10_of_124_x_x_fp_eX10_layRain_124
                      refine pw_blk hT 1 (S' := (125, [some (pvR 124), some (pvI n1), some (pvI n2)], [pvR 124], M56_)) rfl ⟨trivial, trivial⟩ ?_
                      refine pw_callVd hT (as := [pvR 124]) (lo1 := [some (pvR 124), none]) (d1 := d) (rest := []) rfl rfl rfl rfl rfl (fun _ => rfl) (Nat.zero_le _) rfl rfl rfl (se_X10_layOpen_124 M56_ o58_ d) (fun M63_ o65_ g66_ d61_ => ?_)
                      have f67_ : pvFr fp_eX10_of_124_x_x M M63_ := pvfr_t g66_ f60_ fp_eX10_of_124_x_x_fp_eX10_layOpen_124
                      have b68_ : 0 ≤ Int32.toInt (M63_.1 124 1) ∧ Int32.toInt (M63_.1 124 1) ≤ 9999 := pvok_r o65_ 124 1 rfl
                      refine pw_blk hT 4 (S' := (134, [some (pvR 124), some (pvI n1), some (pvI n2)], [pvI (M63_.1 124 1), pvI n1, pvR 124], M63_)) rfl ⟨trivial, trivial, trivial, rfl, trivial⟩ ?_
                      refine pw_callGp hT (as := [pvR 124, pvI n1, pvI (M63_.1 124 1)]) (lo1 := [some (pvR 124), some (pvI n1), some (pvI (M63_.1 124 1)), none, none]) (d1 := d) (rest := []) rfl rfl rfl rfl rfl (fun _ => rfl) (Nat.zero_le _) rfl rfl rfl (se_X10_harm_124_x_x M63_ o65_ n1 (M63_.1 124 1) b17_ (zr_wide b68_ (by decide) (by decide)) d) (fun x69_ b71_ => ?_)
                      obtain ⟨b74_, d75_⟩ := b71_
                      exact pw_ret hT rfl (r := some (pvI x69_)) (M' := M63_) ⟨rfl, rfl⟩ ⟨⟨_, rfl, (zr_wide b74_ (by decide) (by decide))⟩, o65_, f67_, (yGof0_7 (zvl_y0 (pvok_r hok 124 0 (lo := 0) (hi := 7) rfl).1 c6_ c13_) d54_ d61_ (by have u := b53_; omega) d75_ rfl)⟩
                    · show PW 59 d (138, [some (pvR 124), some (pvI n1), some (pvI n2)], [], M) _
                      refine pw_blk hT 1 (S' := (139, [some (pvR 124), some (pvI n1), some (pvI n2)], [pvI (-1)], M)) rfl ⟨trivial, trivial⟩ ?_
                      exact pw_ret hT rfl (r := some (pvI (-1))) (M' := M) ⟨rfl, rfl⟩ ⟨⟨_, rfl, (zr_wide (show (-1) ≤ Int32.toInt (-1) ∧ Int32.toInt (-1) ≤ (-1) from (by decide)) (by decide) (by decide))⟩, hok, pvfr_0, (yGof0_c (zvl_y0 (pvok_r hok 124 0 (lo := 0) (hi := 7) rfl).1 c6_ c13_) (Or.inr (Or.inr (Or.inr (Or.inr (Or.inr (Or.inr (Or.inr (⟨(by have u := (zbnd n2); have w0 := (not_congr (zi_eq _ _)).mp c20_; have z0 : Int32.toInt 0 = 0 := (by decide); have w1 := (not_congr (zi_eq _ _)).mp c23_; have z1 : Int32.toInt 1 = 1 := (by decide); have w2 := (not_congr (zi_eq _ _)).mp c26_; have z2 : Int32.toInt 2 = 2 := (by decide); have w3 := (not_congr (zi_eq _ _)).mp c29_; have z3 : Int32.toInt 3 = 3 := (by decide); have w4 := (not_congr (zi_eq _ _)).mp c32_; have z4 : Int32.toInt 4 = 4 := (by decide); have w5 := (not_congr (zi_eq _ _)).mp c35_; have z5 : Int32.toInt 5 = 5 := (by decide); have w6 := (not_congr (zi_eq _ _)).mp c41_; have z6 : Int32.toInt 6 = 6 := (by decide); have w7 := (not_congr (zi_eq _ _)).mp c52_; have z7 : Int32.toInt 7 = 7 := (by decide); omega), (by decide)⟩)))))))))⟩
