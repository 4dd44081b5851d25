def fp_X10_leave_124 (q k : Nat) : Bool := (Nat.beq q 124 && Nat.beq k 32) || (Nat.beq q 124 && Nat.beq k 35) || Nat.beq q 141 || Nat.beq q 142 || Nat.beq q 143 || Nat.beq q 144
theorem fp_X10_leave_124_fp_X10_costOfPath_124_x (a b : Nat) (h : fp_X10_costOfPath_124_x a b = true) : fp_X10_leave_124 a b = true := by unfold fp_X10_costOfPath_124_x at h; unfold fp_X10_leave_124; revert h; simp <;> omega
theorem fp_X10_leave_124_fp_X10_costOfRound_124_x (a b : Nat) (h : fp_X10_costOfRound_124_x a b = true) : fp_X10_leave_124 a b = true := by unfold fp_X10_costOfRound_124_x at h; unfold fp_X10_leave_124; revert h; simp <;> omega
set_option maxHeartbeats 4000000 in
set_option maxRecDepth 10000 in
theorem sf_X10_leave_124 (M : pvM) (hok : pvOk M) (d : Nat) : PW 52 d (0, [some (pvR 124), none, none, none, none], [], M) (fun r X => (∃ x : Int32, r = some (pvI x) ∧ True) ∧ pvOk X ∧ pvFr fp_X10_leave_124 M X) := by
  have hT : pvdom 52 = pvD_52 := rfl
  refine pw_blk hT 2 (S' := (2, [some (pvR 124), none, none, none, none], [pvI 0, pvR 124], M)) rfl ⟨trivial, trivial, trivial⟩ ?_
  refine pw_callG hT (as := [pvR 124, pvI 0]) (lo1 := [some (pvR 124), some (pvI 0)]) (d1 := d) (rest := []) rfl rfl rfl rfl rfl (fun _ => rfl) (Nat.zero_le _) rfl rfl rfl (sf_X10_costOfRound_124_x M hok 0 (zr_wide (show 0 ≤ Int32.toInt 0 ∧ Int32.toInt 0 ≤ 0 from (by decide)) (by decide) (by decide)) d) (fun x1_ M2_ b3_ o4_ g5_ => ?_)
  have f6_ : pvFr fp_X10_leave_124 M M2_ := pvfr_t g5_ pvfr_0 fp_X10_leave_124_fp_X10_costOfRound_124_x
  refine pw_blk hT 5 (S' := (10, [some (pvR 124), some (pvI x1_), some (pvI 0), some (pvI 0), none], [], M2_)) rfl ⟨trivial, trivial, trivial, trivial, trivial, trivial⟩ ?_
  have hlz869_ : ∀ (nz869_ : Nat) (i2z869_ : Int32) (i3z869_ : Int32) (v4z869_ : Option pvV) (Mz869_ : pvM), (pvOk Mz869_) → (pvFr fp_X10_leave_124 M Mz869_) → (0 ≤ Int32.toInt i3z869_ ∧ Int32.toInt i3z869_ ≤ 7) → ((8 - Int32.toInt i3z869_).toNat < nz869_) → PW 52 d (10, [some (pvR 124), some (pvI x1_), some (pvI i2z869_), some (pvI i3z869_), v4z869_], [], Mz869_) (fun r X => (∃ x : Int32, r = some (pvI x) ∧ True) ∧ pvOk X ∧ pvFr fp_X10_leave_124 M X) := by
    intro nz869_
    induction nz869_ with
    | zero => intro i2z869_ i3z869_ v4z869_ Mz869_ oz869_ fz869_ h3z869_ hmz869_; exact absurd hmz869_ (Nat.not_lt_zero _)
    | succ nz869_ ihz869_ =>
      intro i2z869_ i3z869_ v4z869_ Mz869_ oz869_ fz869_ h3z869_ hmz869_
      have b870_ : 0 ≤ Int32.toInt (Mz869_.1 124 37) ∧ Int32.toInt (Mz869_.1 124 37) ≤ 7 := pvok_r oz869_ 124 37 rfl
      refine pw_blk hT 3 (S' := (15, [some (pvR 124), some (pvI x1_), some (pvI i2z869_), some (pvI i3z869_), v4z869_], [pvI (Mz869_.1 124 37), pvI i3z869_], Mz869_)) rfl ⟨trivial, trivial, rfl, trivial⟩ ?_
      refine pw_ic hT (c := (Mz869_.1 124 37) ≤ i3z869_) rfl rfl (fun c871_ => ?_) (fun c871_ => ?_)
      · have d872_ : Int32.toInt (Mz869_.1 124 37) ≤ Int32.toInt i3z869_ := (zi_le _ _).mp c871_
        refine pw_blk hT 1 (S' := (107, [some (pvR 124), some (pvI x1_), some (pvI i2z869_), some (pvI i3z869_), v4z869_], [pvI i2z869_], Mz869_)) rfl ⟨trivial, trivial⟩ ?_
        exact pw_ret hT rfl (r := some (pvI i2z869_)) (M' := Mz869_) ⟨rfl, rfl⟩ ⟨⟨_, rfl, trivial⟩, oz869_, fz869_⟩
      · have b873_ : 1 ≤ Int32.toInt (Mz869_.1 124 37) ∧ Int32.toInt (Mz869_.1 124 37) ≤ 7 := zr_nle_l 1 c871_ b870_ h3z869_ (by decide)
        have b874_ : 0 ≤ Int32.toInt i3z869_ ∧ Int32.toInt i3z869_ ≤ 6 := zr_nle_r 6 c871_ h3z869_ b873_ (by decide)
        have d875_ : Int32.toInt (Mz869_.1 124 37) > Int32.toInt i3z869_ := Int.not_le.mp ((not_congr (zi_le _ _)).mp c871_)
        refine pw_blkw hT 3 (pc := 23) (lo := [some (pvR 124), some (pvI x1_), some (pvI i2z869_), some (pvI i3z869_), v4z869_]) (st := []) (M := pvu Mz869_ 124 35 0) rfl ⟨trivial, trivial, rfl, trivial⟩ (fun M876_ e877_ => ?_)
        have o878_ : pvOk M876_ := pvok_u2 e877_ oz869_ rfl (zr_wide (show 0 ≤ Int32.toInt 0 ∧ Int32.toInt 0 ≤ 0 from (by decide)) (by decide) (by decide))
        have f879_ : pvFr fp_X10_leave_124 M M876_ := pvfr_u e877_ fz869_ rfl
        refine pw_blk hT 2 (S' := (26, [some (pvR 124), some (pvI x1_), some (pvI i2z869_), some (pvI i3z869_), some (pvI 0)], [], M876_)) rfl ⟨trivial, trivial, trivial⟩ ?_
        have e880_ : (M876_.1 124 37) = (Mz869_.1 124 37) := (pvu_n e877_ 124 37 (Or.inr (by decide)))
        have b881_ : 1 ≤ Int32.toInt (M876_.1 124 37) ∧ Int32.toInt (M876_.1 124 37) ≤ 7 := (by rw [e880_]; exact b873_)
        have hlz1030_ : ∀ (nz1030_ : Nat) (i4z1030_ : Int32) (Mz1030_ : pvM), (pvOk Mz1030_) → (pvFr fp_X10_leave_124 M Mz1030_) → (Mz1030_.1 124 37 = M876_.1 124 37) → (0 ≤ Int32.toInt i4z1030_ ∧ Int32.toInt i4z1030_ ≤ 7) → (Int32.toInt (Mz1030_.1 124 35) ≤ Int32.toInt i4z1030_) → ((8 - Int32.toInt i4z1030_).toNat < nz1030_) → PW 52 d (26, [some (pvR 124), some (pvI x1_), some (pvI i2z869_), some (pvI i3z869_), some (pvI i4z1030_)], [], Mz1030_) (fun r X => (∃ x : Int32, r = some (pvI x) ∧ True) ∧ pvOk X ∧ pvFr fp_X10_leave_124 M X) := by
          intro nz1030_
          induction nz1030_ with
          | zero => intro i4z1030_ Mz1030_ oz1030_ fz1030_ k124_37z1030_ h4z1030_ j0z1030_ hmz1030_; exact absurd hmz1030_ (Nat.not_lt_zero _)
          | succ nz1030_ ihz1030_ =>
            intro i4z1030_ Mz1030_ oz1030_ fz1030_ k124_37z1030_ h4z1030_ j0z1030_ hmz1030_
            have b1031_ : 0 ≤ Int32.toInt (Mz1030_.1 124 35) ∧ Int32.toInt (Mz1030_.1 124 35) ≤ 7 := pvok_r oz1030_ 124 35 rfl
            have e1032_ : (Mz1030_.1 124 37) = (M876_.1 124 37) := (k124_37z1030_)
            have b1033_ : 1 ≤ Int32.toInt (Mz1030_.1 124 37) ∧ Int32.toInt (Mz1030_.1 124 37) ≤ 7 := (by rw [e1032_]; exact b881_)
            refine pw_blk hT 3 (S' := (32, [some (pvR 124), some (pvI x1_), some (pvI i2z869_), some (pvI i3z869_), some (pvI i4z1030_)], [pvI (Mz1030_.1 124 37), pvI i4z1030_], Mz1030_)) rfl ⟨trivial, trivial, rfl, trivial⟩ ?_
            refine pw_ic hT (c := (Mz1030_.1 124 37) ≤ i4z1030_) rfl rfl (fun c1034_ => ?_) (fun c1034_ => ?_)
            · have b1035_ : 1 ≤ Int32.toInt i4z1030_ ∧ Int32.toInt i4z1030_ ≤ 7 := zr_le_r 1 c1034_ h4z1030_ b1033_ (by decide)
              have d1036_ : Int32.toInt (Mz1030_.1 124 37) ≤ Int32.toInt i4z1030_ := (zi_le _ _).mp c1034_
              refine pw_blk hT 3 (S' := (79, [some (pvR 124), some (pvI x1_), some (pvI i2z869_), some (pvI i3z869_), some (pvI i4z1030_)], [pvI 0, pvR 124, pvI i2z869_], Mz1030_)) rfl ⟨trivial, trivial, trivial, trivial⟩ ?_
              refine pw_callG hT (as := [pvR 124, pvI 0]) (lo1 := [some (pvR 124), some (pvI 0), none]) (d1 := d) (rest := [pvI i2z869_]) rfl rfl rfl rfl rfl (fun _ => rfl) (Nat.zero_le _) rfl rfl rfl (sf_X10_costOfPath_124_x Mz1030_ oz1030_ 0 (zr_wide (show 0 ≤ Int32.toInt 0 ∧ Int32.toInt 0 ≤ 0 from (by decide)) (by decide) (by decide)) d) (fun x1037_ M1038_ b1039_ o1040_ g1041_ => ?_)
              have f1042_ : pvFr fp_X10_leave_124 M M1038_ := pvfr_t g1041_ fz1030_ fp_X10_leave_124_fp_X10_costOfPath_124_x
              refine pw_blk hT 1 (S' := (83, [some (pvR 124), some (pvI x1_), some (pvI i2z869_), some (pvI i3z869_), some (pvI i4z1030_)], [pvI x1_, pvI x1037_, pvI i2z869_], M1038_)) rfl ⟨trivial, trivial⟩ ?_
              refine pw_ic hT (c := x1_ < x1037_) rfl rfl (fun c1043_ => ?_) (fun c1043_ => ?_)
              · have b1044_ : 0 ≤ Int32.toInt x1_ ∧ Int32.toInt x1_ ≤ 8999999 := zr_lt_l 8999999 c1043_ b3_ b1039_ (by decide)
                have b1045_ : 1 ≤ Int32.toInt x1037_ ∧ Int32.toInt x1037_ ≤ 9000000 := zr_lt_r 1 c1043_ b1039_ b1044_ (by decide)
                have d1046_ : Int32.toInt x1_ < Int32.toInt x1037_ := (zi_lt _ _).mp c1043_
                obtain ⟨q1048_, b1047_⟩ : (Int32.toInt (i3z869_ + 1) = Int32.toInt i3z869_ + Int32.toInt 1) ∧ (1 ≤ Int32.toInt (i3z869_ + 1) ∧ Int32.toInt (i3z869_ + 1) ≤ 7) := zadd_r i3z869_ 1 1 7 b874_ (show 1 ≤ Int32.toInt 1 ∧ Int32.toInt 1 ≤ 1 from (by decide)) (by decide) (by decide) (by decide) (by decide)
                have u1049_ : Int32.toInt 1 = 1 := by decide
                refine pw_blk hT 5 (S' := (10, [some (pvR 124), some (pvI x1_), some (pvI (i2z869_ ||| 0)), some (pvI (i3z869_ + 1)), some (pvI i4z1030_)], [], M1038_)) rfl ⟨trivial, trivial, trivial, trivial, trivial, trivial⟩ ?_
                exact ihz869_ (i2z869_ ||| 0) (i3z869_ + 1) (some (pvI i4z1030_)) M1038_ o1040_ f1042_ (zr_wide b1047_ (by decide) (by decide)) (by omega)
              · have d1050_ : Int32.toInt x1_ ≥ Int32.toInt x1037_ := Int.not_lt.mp ((not_congr (zi_lt _ _)).mp c1043_)
                have b1051_ : 0 ≤ Int32.toInt (M1038_.1 145 (Int32.toNatClampNeg i3z869_)) ∧ Int32.toInt (M1038_.1 145 (Int32.toNatClampNeg i3z869_)) ≤ 6 := pvok_r o1040_ 145 (Int32.toNatClampNeg i3z869_) rfl
                obtain ⟨q1053_, b1052_⟩ : (Int32.toInt (i3z869_ + 1) = Int32.toInt i3z869_ + Int32.toInt 1) ∧ (1 ≤ Int32.toInt (i3z869_ + 1) ∧ Int32.toInt (i3z869_ + 1) ≤ 7) := zadd_r i3z869_ 1 1 7 b874_ (show 1 ≤ Int32.toInt 1 ∧ Int32.toInt 1 ≤ 1 from (by decide)) (by decide) (by decide) (by decide) (by decide)
                have u1054_ : Int32.toInt 1 = 1 := by decide
                refine pw_blk hT 11 (S' := (10, [some (pvR 124), some (pvI x1_), some (pvI (i2z869_ ||| (1 <<< ((M1038_.1 145 (Int32.toNatClampNeg i3z869_)) &&& 31)))), some (pvI (i3z869_ + 1)), some (pvI i4z1030_)], [], M1038_)) rfl ⟨trivial, trivial, rfl, trivial, ⟨rfl, (zr_in (n := 7) b874_ (by decide) (by decide))⟩, trivial, trivial, trivial, trivial, trivial, trivial, trivial⟩ ?_
                exact ihz869_ (i2z869_ ||| (1 <<< ((M1038_.1 145 (Int32.toNatClampNeg i3z869_)) &&& 31))) (i3z869_ + 1) (some (pvI i4z1030_)) M1038_ o1040_ f1042_ (zr_wide b1052_ (by decide) (by decide)) (by omega)
            · have b1055_ : 0 ≤ Int32.toInt i4z1030_ ∧ Int32.toInt i4z1030_ ≤ 6 := zr_nle_r 6 c1034_ h4z1030_ b1033_ (by decide)
              have d1056_ : Int32.toInt (Mz1030_.1 124 37) > Int32.toInt i4z1030_ := Int.not_le.mp ((not_congr (zi_le _ _)).mp c1034_)
              refine pw_blk hT 2 (S' := (38, [some (pvR 124), some (pvI x1_), some (pvI i2z869_), some (pvI i3z869_), some (pvI i4z1030_)], [pvI i3z869_, pvI i4z1030_], Mz1030_)) rfl ⟨trivial, trivial, trivial⟩ ?_
              refine pw_icn hT (c := i4z1030_ = i3z869_) rfl rfl (fun c1057_ => ?_) (fun c1057_ => ?_)
              · have b1058_ : 0 ≤ Int32.toInt (Mz1030_.1 145 (Int32.toNatClampNeg i4z1030_)) ∧ Int32.toInt (Mz1030_.1 145 (Int32.toNatClampNeg i4z1030_)) ≤ 6 := pvok_r oz1030_ 145 (Int32.toNatClampNeg i4z1030_) rfl
                refine pw_blkw hT 9 (pc := 60) (lo := [some (pvR 124), some (pvI x1_), some (pvI i2z869_), some (pvI i3z869_), some (pvI i4z1030_)]) (st := []) (M := pvu Mz1030_ 144 (Int32.toNatClampNeg (Mz1030_.1 124 35)) (Mz1030_.1 145 (Int32.toNatClampNeg i4z1030_))) rfl ⟨trivial, rfl, trivial, rfl, trivial, rfl, trivial, ⟨rfl, (zr_in (n := 7) b1055_ (by decide) (by decide))⟩, ⟨rfl, (vp_in_iff.mpr (show 0 ≤ Int32.toInt (Mz1030_.1 124 35) ∧ Int32.toInt (Mz1030_.1 124 35) < ((7 : Nat) : Int) from (by have u0 := b1031_; omega)))⟩, trivial⟩ (fun M1059_ e1060_ => ?_)
                have o1061_ : pvOk M1059_ := pvok_u2 e1060_ oz1030_ rfl b1058_
                have f1062_ : pvFr fp_X10_leave_124 M M1059_ := pvfr_u e1060_ fz1030_ rfl
                have e1063_ : (M1059_.1 124 35) = (Mz1030_.1 124 35) := (pvu_n e1060_ 124 35 (Or.inl (by decide)))
                have b1064_ : 0 ≤ Int32.toInt (M1059_.1 124 35) ∧ Int32.toInt (M1059_.1 124 35) ≤ 7 := (by rw [e1063_]; exact b1031_)
                have d1065_ : Int32.toInt (M1059_.1 124 35) = Int32.toInt (Mz1030_.1 124 35) := congrArg Int32.toInt e1063_
                obtain ⟨q1067_, b1066_⟩ : (Int32.toInt ((M1059_.1 124 35) + 1) = Int32.toInt (M1059_.1 124 35) + Int32.toInt 1) ∧ (1 ≤ Int32.toInt ((M1059_.1 124 35) + 1) ∧ Int32.toInt ((M1059_.1 124 35) + 1) ≤ 8) := zadd_r (M1059_.1 124 35) 1 1 8 b1064_ (show 1 ≤ Int32.toInt 1 ∧ Int32.toInt 1 ≤ 1 from (by decide)) (by decide) (by decide) (by decide) (by decide)
                have u1068_ : Int32.toInt 1 = 1 := by decide
                refine pw_blkw hT 6 (pc := 70) (lo := [some (pvR 124), some (pvI x1_), some (pvI i2z869_), some (pvI i3z869_), some (pvI i4z1030_)]) (st := []) (M := pvu M1059_ 124 35 ((M1059_.1 124 35) + 1)) rfl ⟨trivial, trivial, rfl, trivial, trivial, rfl, trivial⟩ (fun M1069_ e1070_ => ?_)
                have o1071_ : pvOk M1069_ := pvok_u2 e1070_ o1061_ rfl (by have u0 := b1066_; omega)
                have f1072_ : pvFr fp_X10_leave_124 M M1069_ := pvfr_u e1070_ f1062_ rfl
                obtain ⟨q1074_, b1073_⟩ : (Int32.toInt (i4z1030_ + 1) = Int32.toInt i4z1030_ + Int32.toInt 1) ∧ (1 ≤ Int32.toInt (i4z1030_ + 1) ∧ Int32.toInt (i4z1030_ + 1) ≤ 7) := zadd_r i4z1030_ 1 1 7 b1055_ (show 1 ≤ Int32.toInt 1 ∧ Int32.toInt 1 ≤ 1 from (by decide)) (by decide) (by decide) (by decide) (by decide)
                refine pw_blk hT 2 (S' := (26, [some (pvR 124), some (pvI x1_), some (pvI i2z869_), some (pvI i3z869_), some (pvI (i4z1030_ + 1))], [], M1069_)) rfl ⟨trivial, trivial, trivial⟩ ?_
                have j1075_ : Int32.toInt (M1069_.1 124 35) ≤ Int32.toInt (i4z1030_ + 1) := by have y01 : Int32.toInt (M1069_.1 124 35) = Int32.toInt ((M1059_.1 124 35) + 1) := congrArg Int32.toInt (pvu_s e1070_); have y02 : Int32.toInt (M1059_.1 124 35) = Int32.toInt (Mz1030_.1 124 35) := congrArg Int32.toInt (pvu_n e1060_ 124 35 (Or.inl (by decide))); omega
                exact ihz1030_ (i4z1030_ + 1) M1069_ o1071_ f1072_ (((pvu_n e1070_ 124 37 (Or.inr (by decide))).trans (pvu_n e1060_ 124 37 (Or.inl (by decide)))).trans (k124_37z1030_)) (zr_wide b1073_ (by decide) (by decide)) j1075_ (by have y01 : Int32.toInt (M1069_.1 124 35) = Int32.toInt ((M1059_.1 124 35) + 1) := congrArg Int32.toInt (pvu_s e1070_); have y02 : Int32.toInt (M1059_.1 124 35) = Int32.toInt (Mz1030_.1 124 35) := congrArg Int32.toInt (pvu_n e1060_ 124 35 (Or.inl (by decide))); omega)
              · have d1076_ : Int32.toInt i4z1030_ = Int32.toInt i3z869_ := (zi_eq _ _).mp c1057_
                obtain ⟨q1078_, b1077_⟩ : (Int32.toInt (i4z1030_ + 1) = Int32.toInt i4z1030_ + Int32.toInt 1) ∧ (1 ≤ Int32.toInt (i4z1030_ + 1) ∧ Int32.toInt (i4z1030_ + 1) ≤ 7) := zadd_r i4z1030_ 1 1 7 b1055_ (show 1 ≤ Int32.toInt 1 ∧ Int32.toInt 1 ≤ 1 from (by decide)) (by decide) (by decide) (by decide) (by decide)
                have u1079_ : Int32.toInt 1 = 1 := by decide
                refine pw_blk hT 3 (S' := (26, [some (pvR 124), some (pvI x1_), some (pvI i2z869_), some (pvI i3z869_), some (pvI (i4z1030_ + 1))], [], Mz1030_)) rfl ⟨trivial, trivial, trivial, trivial⟩ ?_
                have j1080_ : Int32.toInt (Mz1030_.1 124 35) ≤ Int32.toInt (i4z1030_ + 1) := by omega
                exact ihz1030_ (i4z1030_ + 1) Mz1030_ oz1030_ fz1030_ (k124_37z1030_) (zr_wide b1077_ (by decide) (by decide)) j1080_ (by omega)
        have u1081_ : Int32.toInt 0 = 0 := by decide
        have j1082_ : Int32.toInt (M876_.1 124 35) ≤ Int32.toInt 0 := by have y01 : Int32.toInt (M876_.1 124 35) = Int32.toInt 0 := congrArg Int32.toInt (pvu_s e877_); have y03 : Int32.toInt 0 = 0 := (by decide); omega
        exact hlz1030_ _ 0 M876_ o878_ f879_ rfl (zr_wide (show 0 ≤ Int32.toInt 0 ∧ Int32.toInt 0 ≤ 0 from (by decide)) (by decide) (by decide)) j1082_ (Nat.lt_succ_self _)
  exact hlz869_ _ 0 0 none M2_ o4_ f6_ (zr_wide (show 0 ≤ Int32.toInt 0 ∧ Int32.toInt 0 ≤ 0 from (by decide)) (by decide) (by decide)) (Nat.lt_succ_self _)
