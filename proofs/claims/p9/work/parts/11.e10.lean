def fpL_eX6_becomeAs_102_103 : List (Nat × Nat × Nat) := [(0, 102, 1), (0, 110, 0), (0, 118, 0)]
def fp_eX6_becomeAs_102_103 (q k : Nat) : Bool := pvfp fpL_eX6_becomeAs_102_103 q k
theorem fp_eX6_becomeAs_102_103_fp_eX6_append_102_x_x (a b : Nat) (h : fp_eX6_append_102_x_x a b = true) : fp_eX6_becomeAs_102_103 a b = true := pvfp_sub (l1 := fpL_eX6_append_102_x_x) (l2 := fpL_eX6_becomeAs_102_103) (by decide) a b h
theorem fp_eX6_becomeAs_102_103_fp_eX6_clear_102 (a b : Nat) (h : fp_eX6_clear_102 a b = true) : fp_eX6_becomeAs_102_103 a b = true := pvfp_sub (l1 := fpL_eX6_clear_102) (l2 := fpL_eX6_becomeAs_102_103) (by decide) a b h
set_option maxHeartbeats 4000000 in
set_option maxRecDepth 10000 in
theorem se_X6_becomeAs_102_103 (M : pvM) (hok : pvOk M) (d : Nat) : PW 152 d (0, [some (pvR 102), some (pvR 103), none], [], M) (fun r X => r = none ∧ pvOk X ∧ pvFr fp_eX6_becomeAs_102_103 M X ∧ X.1 102 0 = (M.1 103 0)) := by
  have hT : pvdom 152 = pvD_152 := rfl
  refine pw_blk hT 1 (S' := (1, [some (pvR 102), some (pvR 103), none], [pvR 102], M)) rfl ⟨trivial, trivial⟩ ?_
  refine pw_callGd hT (as := [pvR 102]) (lo1 := [some (pvR 102)]) (d1 := d) (rest := []) rfl rfl rfl rfl rfl (fun _ => rfl) (Nat.zero_le _) rfl rfl rfl (se_X6_clear_102 M hok d) (fun x2_ M3_ b4_ o5_ g6_ d1_ => ?_)
  have f7_ : pvFr fp_eX6_becomeAs_102_103 M M3_ := pvfr_t g6_ pvfr_0 fp_eX6_becomeAs_102_103_fp_eX6_clear_102
  obtain ⟨b8_, d9_⟩ := b4_
  subst d9_
  refine pw_blk hT 3 (S' := (7, [some (pvR 102), some (pvR 103), some (pvI 0)], [], M3_)) rfl ⟨trivial, trivial, trivial, trivial⟩ ?_
  have hlz90_ : ∀ (nz90_ : Nat) (i2z90_ : Int32) (Mz90_ : pvM), (pvOk Mz90_) → (pvFr fp_eX6_becomeAs_102_103 M Mz90_) → (0 ≤ Int32.toInt i2z90_ ∧ Int32.toInt i2z90_ ≤ 6) → (Mz90_.1 102 0 = i2z90_) → (Int32.toInt i2z90_ ≤ Int32.toInt (M.1 103 0)) → (zhide ((7 - Int32.toInt i2z90_).toNat < nz90_)) → PW 152 d (7, [some (pvR 102), some (pvR 103), some (pvI i2z90_)], [], Mz90_) (fun r X => r = none ∧ pvOk X ∧ pvFr fp_eX6_becomeAs_102_103 M X ∧ X.1 102 0 = (M.1 103 0)) := by
    intro nz90_
    induction nz90_ with
    | zero => intro i2z90_ Mz90_ oz90_ fz90_ h2z90_ j0z90_ j1z90_ hmz90_; exact absurd (zshow hmz90_) (Nat.not_lt_zero _)
    | succ nz90_ ihz90_ =>
      intro i2z90_ Mz90_ oz90_ fz90_ h2z90_ j0z90_ j1z90_ hmz90_
      have b91_ : 0 ≤ Int32.toInt (Mz90_.1 103 0) ∧ Int32.toInt (Mz90_.1 103 0) ≤ 6 := pvok_r oz90_ 103 0 rfl
      refine pw_blk hT 3 (S' := (12, [some (pvR 102), some (pvR 103), some (pvI i2z90_)], [pvI (Mz90_.1 103 0), pvI i2z90_], Mz90_)) rfl ⟨trivial, trivial, rfl, trivial⟩ ?_
      refine pw_ic hT (c := (Mz90_.1 103 0) ≤ i2z90_) rfl rfl (fun c92_ => ?_) (fun c92_ => ?_)
      · have d93_ : Int32.toInt (Mz90_.1 103 0) ≤ Int32.toInt i2z90_ := (zi_le _ _).mp c92_
        exact pw_ret hT rfl (r := none) (M' := Mz90_) ⟨rfl, rfl⟩ ⟨rfl, oz90_, fz90_, (Int32.toInt_inj.mp (by have z3 : Mz90_.1 103 0 = M.1 103 0 := fz90_ 103 0 rfl; have z4 := congrArg Int32.toInt z3; have z5 := congrArg Int32.toInt j0z90_; omega))⟩
      · have b94_ : 1 ≤ Int32.toInt (Mz90_.1 103 0) ∧ Int32.toInt (Mz90_.1 103 0) ≤ 6 := zr_nle_l 1 c92_ b91_ h2z90_ (by decide)
        have b95_ : 0 ≤ Int32.toInt i2z90_ ∧ Int32.toInt i2z90_ ≤ 5 := zr_nle_r 5 c92_ h2z90_ b94_ (by decide)
        have d96_ : Int32.toInt (Mz90_.1 103 0) > Int32.toInt i2z90_ := Int.not_le.mp ((not_congr (zi_le _ _)).mp c92_)
        have b97_ : 0 ≤ Int32.toInt (Mz90_.1 111 (Int32.toNatClampNeg i2z90_)) ∧ Int32.toInt (Mz90_.1 111 (Int32.toNatClampNeg i2z90_)) ≤ 6 := pvok_r oz90_ 111 (Int32.toNatClampNeg i2z90_) rfl
        have b98_ : 0 ≤ Int32.toInt (Mz90_.1 119 (Int32.toNatClampNeg i2z90_)) ∧ Int32.toInt (Mz90_.1 119 (Int32.toNatClampNeg i2z90_)) ≤ 9999 := pvok_r oz90_ 119 (Int32.toNatClampNeg i2z90_) rfl
        refine pw_blk hT 9 (S' := (28, [some (pvR 102), some (pvR 103), some (pvI i2z90_)], [pvI (Mz90_.1 119 (Int32.toNatClampNeg i2z90_)), pvI (Mz90_.1 111 (Int32.toNatClampNeg i2z90_)), pvR 102], Mz90_)) rfl ⟨trivial, trivial, rfl, trivial, ⟨rfl, (zr_in (n := 6) b95_ (by decide) (by decide))⟩, trivial, rfl, trivial, ⟨rfl, (zr_in (n := 6) b95_ (by decide) (by decide))⟩, trivial⟩ ?_
        refine pw_callGd hT (as := [pvR 102, pvI (Mz90_.1 111 (Int32.toNatClampNeg i2z90_)), pvI (Mz90_.1 119 (Int32.toNatClampNeg i2z90_))]) (lo1 := [some (pvR 102), some (pvI (Mz90_.1 111 (Int32.toNatClampNeg i2z90_))), some (pvI (Mz90_.1 119 (Int32.toNatClampNeg i2z90_)))]) (d1 := d) (rest := []) rfl rfl rfl rfl rfl (fun _ => rfl) (Nat.zero_le _) rfl rfl rfl (se_X6_append_102_x_x Mz90_ oz90_ (Mz90_.1 111 (Int32.toNatClampNeg i2z90_)) (Mz90_.1 119 (Int32.toNatClampNeg i2z90_)) b97_ b98_ d) (fun x100_ M101_ b102_ o103_ g104_ d99_ => ?_)
        have f105_ : pvFr fp_eX6_becomeAs_102_103 M M101_ := pvfr_t g104_ fz90_ fp_eX6_becomeAs_102_103_fp_eX6_append_102_x_x
        obtain ⟨b106_, d107_⟩ := b102_
        subst d107_
        obtain ⟨q109_, b108_⟩ : (Int32.toInt (i2z90_ + 1) = Int32.toInt i2z90_ + 1) ∧ (1 ≤ Int32.toInt (i2z90_ + 1) ∧ Int32.toInt (i2z90_ + 1) ≤ 6) := zadd_k i2z90_ 1 1 1 6 b95_ (by decide) (by decide) (by decide) (by decide) (by decide)
        refine pw_blk hT 3 (S' := (7, [some (pvR 102), some (pvR 103), some (pvI (i2z90_ + 1))], [], M101_)) rfl ⟨trivial, trivial, trivial, trivial⟩ ?_
        have j110_ : M101_.1 102 0 = (i2z90_ + 1) := (by have z1 : Int32.toInt (Int32.ofNat 6) = 6 := (by decide); have z2 := pvok_r oz90_ 103 0 rfl; have z3 : Mz90_.1 103 0 = M.1 103 0 := fz90_ 103 0 rfl; have z4 := congrArg Int32.toInt z3; rw [d99_, j0z90_, if_pos ((zi_lt _ _).mpr (by omega))])
        have j111_ : Int32.toInt (i2z90_ + 1) ≤ Int32.toInt (M.1 103 0) := (by have z3 : Mz90_.1 103 0 = M.1 103 0 := fz90_ 103 0 rfl; have z4 := congrArg Int32.toInt z3; omega)
        exact ihz90_ (i2z90_ + 1) M101_ o103_ f105_ (zr_wide b108_ (by decide) (by decide)) j110_ j111_ (zhid (pvms_up (zshow hmz90_) h2z90_ q109_ (by decide) (by decide)))
  have u112_ : Int32.toInt 0 = 0 := by decide
  have j113_ : M3_.1 102 0 = 0 := d1_
  have j114_ : Int32.toInt 0 ≤ Int32.toInt (M.1 103 0) := (by have z := pvok_r hok 103 0 rfl; have u : Int32.toInt 0 = 0 := (by decide); omega)
  exact hlz90_ _ 0 M3_ o5_ f7_ (zr_wide (show 0 ≤ Int32.toInt 0 ∧ Int32.toInt 0 ≤ 0 from (by decide)) (by decide) (by decide)) j113_ j114_ (zhid (Nat.lt_succ_self _))
def fpL_eX6_becomeAs_104_105 : List (Nat × Nat × Nat) := [(0, 104, 1), (0, 112, 0), (0, 120, 0)]
def fp_eX6_becomeAs_104_105 (q k : Nat) : Bool := pvfp fpL_eX6_becomeAs_104_105 q k
theorem fp_eX6_becomeAs_104_105_fp_eX6_append_104_x_x (a b : Nat) (h : fp_eX6_append_104_x_x a b = true) : fp_eX6_becomeAs_104_105 a b = true := pvfp_sub (l1 := fpL_eX6_append_104_x_x) (l2 := fpL_eX6_becomeAs_104_105) (by decide) a b h
theorem fp_eX6_becomeAs_104_105_fp_eX6_clear_104 (a b : Nat) (h : fp_eX6_clear_104 a b = true) : fp_eX6_becomeAs_104_105 a b = true := pvfp_sub (l1 := fpL_eX6_clear_104) (l2 := fpL_eX6_becomeAs_104_105) (by decide) a b h
set_option maxHeartbeats 4000000 in
set_option maxRecDepth 10000 in
theorem se_X6_becomeAs_104_105 (M : pvM) (hok : pvOk M) (d : Nat) : PW 152 d (0, [some (pvR 104), some (pvR 105), none], [], M) (fun r X => r = none ∧ pvOk X ∧ pvFr fp_eX6_becomeAs_104_105 M X ∧ X.1 104 0 = (M.1 105 0)) := by
  have hT : pvdom 152 = pvD_152 := rfl
  refine pw_blk hT 1 (S' := (1, [some (pvR 104), some (pvR 105), none], [pvR 104], M)) rfl ⟨trivial, trivial⟩ ?_
  refine pw_callGd hT (as := [pvR 104]) (lo1 := [some (pvR 104)]) (d1 := d) (rest := []) rfl rfl rfl rfl rfl (fun _ => rfl) (Nat.zero_le _) rfl rfl rfl (se_X6_clear_104 M hok d) (fun x2_ M3_ b4_ o5_ g6_ d1_ => ?_)
  have f7_ : pvFr fp_eX6_becomeAs_104_105 M M3_ := pvfr_t g6_ pvfr_0 fp_eX6_becomeAs_104_105_fp_eX6_clear_104
  obtain ⟨b8_, d9_⟩ := b4_
  subst d9_
  refine pw_blk hT 3 (S' := (7, [some (pvR 104), some (pvR 105), some (pvI 0)], [], M3_)) rfl ⟨trivial, trivial, trivial, trivial⟩ ?_
  have hlz90_ : ∀ (nz90_ : Nat) (i2z90_ : Int32) (Mz90_ : pvM), (pvOk Mz90_) → (pvFr fp_eX6_becomeAs_104_105 M Mz90_) → (0 ≤ Int32.toInt i2z90_ ∧ Int32.toInt i2z90_ ≤ 8) → (Mz90_.1 104 0 = i2z90_) → (Int32.toInt i2z90_ ≤ Int32.toInt (M.1 105 0)) → (zhide ((9 - Int32.toInt i2z90_).toNat < nz90_)) → PW 152 d (7, [some (pvR 104), some (pvR 105), some (pvI i2z90_)], [], Mz90_) (fun r X => r = none ∧ pvOk X ∧ pvFr fp_eX6_becomeAs_104_105 M X ∧ X.1 104 0 = (M.1 105 0)) := by
    intro nz90_
    induction nz90_ with
    | zero => intro i2z90_ Mz90_ oz90_ fz90_ h2z90_ j0z90_ j1z90_ hmz90_; exact absurd (zshow hmz90_) (Nat.not_lt_zero _)
    | succ nz90_ ihz90_ =>
      intro i2z90_ Mz90_ oz90_ fz90_ h2z90_ j0z90_ j1z90_ hmz90_
      have b91_ : 0 ≤ Int32.toInt (Mz90_.1 105 0) ∧ Int32.toInt (Mz90_.1 105 0) ≤ 8 := pvok_r oz90_ 105 0 rfl
      refine pw_blk hT 3 (S' := (12, [some (pvR 104), some (pvR 105), some (pvI i2z90_)], [pvI (Mz90_.1 105 0), pvI i2z90_], Mz90_)) rfl ⟨trivial, trivial, rfl, trivial⟩ ?_
      refine pw_ic hT (c := (Mz90_.1 105 0) ≤ i2z90_) rfl rfl (fun c92_ => ?_) (fun c92_ => ?_)
      · have d93_ : Int32.toInt (Mz90_.1 105 0) ≤ Int32.toInt i2z90_ := (zi_le _ _).mp c92_
        exact pw_ret hT rfl (r := none) (M' := Mz90_) ⟨rfl, rfl⟩ ⟨rfl, oz90_, fz90_, (Int32.toInt_inj.mp (by have z3 : Mz90_.1 105 0 = M.1 105 0 := fz90_ 105 0 rfl; have z4 := congrArg Int32.toInt z3; have z5 := congrArg Int32.toInt j0z90_; omega))⟩
      · have b94_ : 1 ≤ Int32.toInt (Mz90_.1 105 0) ∧ Int32.toInt (Mz90_.1 105 0) ≤ 8 := zr_nle_l 1 c92_ b91_ h2z90_ (by decide)
        have b95_ : 0 ≤ Int32.toInt i2z90_ ∧ Int32.toInt i2z90_ ≤ 7 := zr_nle_r 7 c92_ h2z90_ b94_ (by decide)
        have d96_ : Int32.toInt (Mz90_.1 105 0) > Int32.toInt i2z90_ := Int.not_le.mp ((not_congr (zi_le _ _)).mp c92_)
        have b97_ : 0 ≤ Int32.toInt (Mz90_.1 113 (Int32.toNatClampNeg i2z90_)) ∧ Int32.toInt (Mz90_.1 113 (Int32.toNatClampNeg i2z90_)) ≤ 6 := pvok_r oz90_ 113 (Int32.toNatClampNeg i2z90_) rfl
        have b98_ : 0 ≤ Int32.toInt (Mz90_.1 121 (Int32.toNatClampNeg i2z90_)) ∧ Int32.toInt (Mz90_.1 121 (Int32.toNatClampNeg i2z90_)) ≤ 9999 := pvok_r oz90_ 121 (Int32.toNatClampNeg i2z90_) rfl
        refine pw_blk hT 9 (S' := (28, [some (pvR 104), some (pvR 105), some (pvI i2z90_)], [pvI (Mz90_.1 121 (Int32.toNatClampNeg i2z90_)), pvI (Mz90_.1 113 (Int32.toNatClampNeg i2z90_)), pvR 104], Mz90_)) rfl ⟨trivial, trivial, rfl, trivial, ⟨rfl, (zr_in (n := 8) b95_ (by decide) (by decide))⟩, trivial, rfl, trivial, ⟨rfl, (zr_in (n := 8) b95_ (by decide) (by decide))⟩, trivial⟩ ?_
        refine pw_callGd hT (as := [pvR 104, pvI (Mz90_.1 113 (Int32.toNatClampNeg i2z90_)), pvI (Mz90_.1 121 (Int32.toNatClampNeg i2z90_))]) (lo1 := [some (pvR 104), some (pvI (Mz90_.1 113 (Int32.toNatClampNeg i2z90_))), some (pvI (Mz90_.1 121 (Int32.toNatClampNeg i2z90_)))]) (d1 := d) (rest := []) rfl rfl rfl rfl rfl (fun _ => rfl) (Nat.zero_le _) rfl rfl rfl (se_X6_append_104_x_x Mz90_ oz90_ (Mz90_.1 113 (Int32.toNatClampNeg i2z90_)) (Mz90_.1 121 (Int32.toNatClampNeg i2z90_)) b97_ b98_ d) (fun x100_ M101_ b102_ o103_ g104_ d99_ => ?_)
        have f105_ : pvFr fp_eX6_becomeAs_104_105 M M101_ := pvfr_t g104_ fz90_ fp_eX6_becomeAs_104_105_fp_eX6_append_104_x_x
        obtain ⟨b106_, d107_⟩ := b102_
        subst d107_
        obtain ⟨q109_, b108_⟩ : (Int32.toInt (i2z90_ + 1) = Int32.toInt i2z90_ + 1) ∧ (1 ≤ Int32.toInt (i2z90_ + 1) ∧ Int32.toInt (i2z90_ + 1) ≤ 8) := zadd_k i2z90_ 1 1 1 8 b95_ (by decide) (by decide) (by decide) (by decide) (by decide)
        refine pw_blk hT 3 (S' := (7, [some (pvR 104), some (pvR 105), some (pvI (i2z90_ + 1))], [], M101_)) rfl ⟨trivial, trivial, trivial, trivial⟩ ?_
        have j110_ : M101_.1 104 0 = (i2z90_ + 1) := (by have z1 : Int32.toInt (Int32.ofNat 8) = 8 := (by decide); have z2 := pvok_r oz90_ 105 0 rfl; have z3 : Mz90_.1 105 0 = M.1 105 0 := fz90_ 105 0 rfl; have z4 := congrArg Int32.toInt z3; rw [d99_, j0z90_, if_pos ((zi_lt _ _).mpr (by omega))])
        have j111_ : Int32.toInt (i2z90_ + 1) ≤ Int32.toInt (M.1 105 0) := (by have z3 : Mz90_.1 105 0 = M.1 105 0 := fz90_ 105 0 rfl; have z4 := congrArg Int32.toInt z3; omega)
        exact ihz90_ (i2z90_ + 1) M101_ o103_ f105_ (zr_wide b108_ (by decide) (by decide)) j110_ j111_ (zhid (pvms_up (zshow hmz90_) h2z90_ q109_ (by decide) (by decide)))
  have u112_ : Int32.toInt 0 = 0 := by decide
  have j113_ : M3_.1 104 0 = 0 := d1_
  have j114_ : Int32.toInt 0 ≤ Int32.toInt (M.1 105 0) := (by have z := pvok_r hok 105 0 rfl; have u : Int32.toInt 0 = 0 := (by decide); omega)
  exact hlz90_ _ 0 M3_ o5_ f7_ (zr_wide (show 0 ≤ Int32.toInt 0 ∧ Int32.toInt 0 ≤ 0 from (by decide)) (by decide) (by decide)) j113_ j114_ (zhid (Nat.lt_succ_self _))
def fpL_eX7_becomeAs_8_9 : List (Nat × Nat × Nat) := [(0, 100, 1), (0, 102, 1), (0, 104, 1), (0, 108, 0), (0, 110, 0), (0, 112, 0), (0, 116, 0), (0, 118, 0), (0, 120, 0), (0, 8, 2), (0, 8, 3), (0, 8, 4), (0, 8, 5), (0, 8, 6), (0, 8, 7), (0, 8, 8), (0, 8, 9), (1, 113, 0), (1, 3, 1), (1, 3, 2), (1, 3, 3), (1, 3, 4), (1, 3, 5), (1, 3, 6)]
def fp_eX7_becomeAs_8_9 (q k : Nat) : Bool := pvfp fpL_eX7_becomeAs_8_9 q k
theorem fp_eX7_becomeAs_8_9_fp_X4_becomeAs_x_x (a b : Nat) (h : fp_X4_becomeAs_x_x a b = true) : fp_eX7_becomeAs_8_9 a b = true := pvfp_sub (l1 := fpL_X4_becomeAs_x_x) (l2 := fpL_eX7_becomeAs_8_9) (by decide) a b h
theorem fp_eX7_becomeAs_8_9_fp_eX6_becomeAs_100_101 (a b : Nat) (h : fp_eX6_becomeAs_100_101 a b = true) : fp_eX7_becomeAs_8_9 a b = true := pvfp_sub (l1 := fpL_eX6_becomeAs_100_101) (l2 := fpL_eX7_becomeAs_8_9) (by decide) a b h
theorem fp_eX7_becomeAs_8_9_fp_eX6_becomeAs_102_103 (a b : Nat) (h : fp_eX6_becomeAs_102_103 a b = true) : fp_eX7_becomeAs_8_9 a b = true := pvfp_sub (l1 := fpL_eX6_becomeAs_102_103) (l2 := fpL_eX7_becomeAs_8_9) (by decide) a b h
theorem fp_eX7_becomeAs_8_9_fp_eX6_becomeAs_104_105 (a b : Nat) (h : fp_eX6_becomeAs_104_105 a b = true) : fp_eX7_becomeAs_8_9 a b = true := pvfp_sub (l1 := fpL_eX6_becomeAs_104_105) (l2 := fpL_eX7_becomeAs_8_9) (by decide) a b h
set_option maxHeartbeats 4000000 in
set_option maxRecDepth 10000 in
theorem se_X7_becomeAs_8_9 (M : pvM) (hok : pvOk M) (d : Nat) : PW 158 d (0, [some (pvR 8), some (pvR 9), none], [], M) (fun r X => r = none ∧ pvOk X ∧ pvFr fp_eX7_becomeAs_8_9 M X ∧ X.1 8 1 = (M.1 9 1) ∧ X.1 8 2 = (M.1 9 2) ∧ X.1 8 3 = (M.1 9 3) ∧ X.1 102 0 = (M.1 103 0) ∧ X.1 104 0 = (M.1 105 0)) := by
  have hT : pvdom 158 = pvD_158 := rfl
  have b1_ : 0 ≤ Int32.toInt (M.1 9 1) ∧ Int32.toInt (M.1 9 1) ≤ 7 := pvok_r hok 9 1 rfl
  refine pw_blkw hT 4 (pc := 8) (lo := [some (pvR 8), some (pvR 9), none]) (st := []) (M := pvu M 8 1 (M.1 9 1)) rfl ⟨trivial, trivial, rfl, rfl, trivial⟩ (fun M2_ e3_ => ?_)
  have o4_ : pvOk M2_ := pvok_u2 e3_ hok rfl b1_
  have f5_ : pvFr fp_eX7_becomeAs_8_9 M M2_ := pvfr_u e3_ pvfr_0 rfl
  refine pw_blk hT 2 (S' := (10, [some (pvR 8), some (pvR 9), some (pvI 0)], [], M2_)) rfl ⟨trivial, trivial, trivial⟩ ?_
  have hlz322_ : ∀ (nz322_ : Nat) (i2z322_ : Int32) (Mz322_ : pvM), (pvOk Mz322_) → (pvFr fp_eX7_becomeAs_8_9 M Mz322_) → (0 ≤ Int32.toInt i2z322_ ∧ Int32.toInt i2z322_ ≤ 7) → (Mz322_.1 8 1 = (M.1 9 1)) → (zhide ((8 - Int32.toInt i2z322_).toNat < nz322_)) → PW 158 d (10, [some (pvR 8), some (pvR 9), some (pvI i2z322_)], [], Mz322_) (fun r X => r = none ∧ pvOk X ∧ pvFr fp_eX7_becomeAs_8_9 M X ∧ X.1 8 1 = (M.1 9 1) ∧ X.1 8 2 = (M.1 9 2) ∧ X.1 8 3 = (M.1 9 3) ∧ X.1 102 0 = (M.1 103 0) ∧ X.1 104 0 = (M.1 105 0)) := by
    intro nz322_
    induction nz322_ with
    | zero => intro i2z322_ Mz322_ oz322_ fz322_ h2z322_ j0z322_ hmz322_; exact absurd (zshow hmz322_) (Nat.not_lt_zero _)
    | succ nz322_ ihz322_ =>
      intro i2z322_ Mz322_ oz322_ fz322_ h2z322_ j0z322_ hmz322_
      have b323_ : 0 ≤ Int32.toInt (Mz322_.1 8 1) ∧ Int32.toInt (Mz322_.1 8 1) ≤ 7 := pvok_r oz322_ 8 1 rfl
      refine pw_blk hT 3 (S' := (15, [some (pvR 8), some (pvR 9), some (pvI i2z322_)], [pvI (Mz322_.1 8 1), pvI i2z322_], Mz322_)) rfl ⟨trivial, trivial, rfl, trivial⟩ ?_
      refine pw_ic hT (c := (Mz322_.1 8 1) ≤ i2z322_) rfl rfl (fun c324_ => ?_) (fun c324_ => ?_)
      · have d325_ : Int32.toInt (Mz322_.1 8 1) ≤ Int32.toInt i2z322_ := (zi_le _ _).mp c324_
        have b326_ : 0 ≤ Int32.toInt (Mz322_.1 9 2) ∧ Int32.toInt (Mz322_.1 9 2) ≤ 99 := pvok_r oz322_ 9 2 rfl
        refine pw_blkw hT 4 (pc := 47) (lo := [some (pvR 8), some (pvR 9), some (pvI i2z322_)]) (st := []) (M := pvu Mz322_ 8 2 (Mz322_.1 9 2)) rfl ⟨trivial, trivial, rfl, rfl, trivial⟩ (fun M327_ e328_ => ?_)
        have o329_ : pvOk M327_ := pvok_u2 e328_ oz322_ rfl b326_
        have f330_ : pvFr fp_eX7_becomeAs_8_9 M M327_ := pvfr_u e328_ fz322_ rfl
        have b331_ : 0 ≤ Int32.toInt (M327_.1 9 3) ∧ Int32.toInt (M327_.1 9 3) ≤ 3 := pvok_r o329_ 9 3 rfl
        refine pw_blkw hT 4 (pc := 55) (lo := [some (pvR 8), some (pvR 9), some (pvI i2z322_)]) (st := []) (M := pvu M327_ 8 3 (M327_.1 9 3)) rfl ⟨trivial, trivial, rfl, rfl, trivial⟩ (fun M332_ e333_ => ?_)
        have o334_ : pvOk M332_ := pvok_u2 e333_ o329_ rfl b331_
        have f335_ : pvFr fp_eX7_becomeAs_8_9 M M332_ := pvfr_u e333_ f330_ rfl
        have b336_ : 0 ≤ Int32.toInt (M332_.1 9 4) ∧ Int32.toInt (M332_.1 9 4) ≤ 9999 := pvok_r o334_ 9 4 rfl
        refine pw_blkw hT 4 (pc := 63) (lo := [some (pvR 8), some (pvR 9), some (pvI i2z322_)]) (st := []) (M := pvu M332_ 8 4 (M332_.1 9 4)) rfl ⟨trivial, trivial, rfl, rfl, trivial⟩ (fun M337_ e338_ => ?_)
        have o339_ : pvOk M337_ := pvok_u2 e338_ o334_ rfl b336_
        have f340_ : pvFr fp_eX7_becomeAs_8_9 M M337_ := pvfr_u e338_ f335_ rfl
        refine pw_blkw hT 4 (pc := 71) (lo := [some (pvR 8), some (pvR 9), some (pvI i2z322_)]) (st := []) (M := pvu M337_ 8 5 (M337_.1 9 5)) rfl ⟨trivial, trivial, rfl, rfl, trivial⟩ (fun M341_ e342_ => ?_)
        have o343_ : pvOk M341_ := pvok_u2 e342_ o339_ rfl (zbnd (M337_.1 9 5))
        have f344_ : pvFr fp_eX7_becomeAs_8_9 M M341_ := pvfr_u e342_ f340_ rfl
        have b345_ : 0 ≤ Int32.toInt (M341_.1 9 6) ∧ Int32.toInt (M341_.1 9 6) ≤ 3 := pvok_r o343_ 9 6 rfl
        refine pw_blkw hT 4 (pc := 79) (lo := [some (pvR 8), some (pvR 9), some (pvI i2z322_)]) (st := []) (M := pvu M341_ 8 6 (M341_.1 9 6)) rfl ⟨trivial, trivial, rfl, rfl, trivial⟩ (fun M346_ e347_ => ?_)
        have o348_ : pvOk M346_ := pvok_u2 e347_ o343_ rfl b345_
        have f349_ : pvFr fp_eX7_becomeAs_8_9 M M346_ := pvfr_u e347_ f344_ rfl
        have b350_ : 0 ≤ Int32.toInt (M346_.1 9 7) ∧ Int32.toInt (M346_.1 9 7) ≤ 4 := pvok_r o348_ 9 7 rfl
        refine pw_blkw hT 4 (pc := 87) (lo := [some (pvR 8), some (pvR 9), some (pvI i2z322_)]) (st := []) (M := pvu M346_ 8 7 (M346_.1 9 7)) rfl ⟨trivial, trivial, rfl, rfl, trivial⟩ (fun M351_ e352_ => ?_)
        have o353_ : pvOk M351_ := pvok_u2 e352_ o348_ rfl b350_
        have f354_ : pvFr fp_eX7_becomeAs_8_9 M M351_ := pvfr_u e352_ f349_ rfl
        have b355_ : 15 ≤ Int32.toInt (M351_.1 9 8) ∧ Int32.toInt (M351_.1 9 8) ≤ 23 := pvok_r o353_ 9 8 rfl
        refine pw_blkr hT 3 (pc := 92) (lo := [some (pvR 8), some (pvR 9), some (pvI i2z322_)]) (st := [pvR 8]) (M := M351_) (z := (pvhp (M351_.1 9 8))) rfl ⟨trivial, trivial, rfl, trivial⟩ (fun q356_ e358_ => ?_)
        have k357_ : pvkl q356_ = 2 := pvhp_k b355_ e358_
        refine pw_blkw hT 1 (pc := 95) (lo := [some (pvR 8), some (pvR 9), some (pvI i2z322_)]) (st := []) (M := pvu M351_ 8 8 (nI q356_)) rfl ⟨⟨rfl, k357_⟩, trivial⟩ (fun M359_ e360_ => ?_)
        have o361_ : pvOk M359_ := pvok_u2 e360_ o353_ rfl (pvhp_r k357_)
        have f362_ : pvFr fp_eX7_becomeAs_8_9 M M359_ := pvfr_u e360_ f354_ rfl
        refine pw_blk hT 4 (S' := (103, [some (pvR 8), some (pvR 9), some (pvI i2z322_)], [pvR 101, pvR 100], M359_)) rfl ⟨trivial, rfl, trivial, rfl, trivial⟩ ?_
        refine pw_callVd hT (as := [pvR 100, pvR 101]) (lo1 := [some (pvR 100), some (pvR 101), none]) (d1 := d) (rest := []) rfl rfl rfl rfl rfl (fun _ => rfl) (Nat.zero_le _) rfl rfl rfl (se_X6_becomeAs_100_101 M359_ o361_ d) (fun M365_ o367_ g368_ d363_ => ?_)
        have f369_ : pvFr fp_eX7_becomeAs_8_9 M M365_ := pvfr_t g368_ f362_ fp_eX7_becomeAs_8_9_fp_eX6_becomeAs_100_101
        refine pw_blk hT 4 (S' := (114, [some (pvR 8), some (pvR 9), some (pvI i2z322_)], [pvR 103, pvR 102], M365_)) rfl ⟨trivial, rfl, trivial, rfl, trivial⟩ ?_
        refine pw_callVd hT (as := [pvR 102, pvR 103]) (lo1 := [some (pvR 102), some (pvR 103), none]) (d1 := d) (rest := []) rfl rfl rfl rfl rfl (fun _ => rfl) (Nat.zero_le _) rfl rfl rfl (se_X6_becomeAs_102_103 M365_ o367_ d) (fun M372_ o374_ g375_ d370_ => ?_)
        have f376_ : pvFr fp_eX7_becomeAs_8_9 M M372_ := pvfr_t g375_ f369_ fp_eX7_becomeAs_8_9_fp_eX6_becomeAs_102_103
        refine pw_blk hT 4 (S' := (125, [some (pvR 8), some (pvR 9), some (pvI i2z322_)], [pvR 105, pvR 104], M372_)) rfl ⟨trivial, rfl, trivial, rfl, trivial⟩ ?_
        refine pw_callVd hT (as := [pvR 104, pvR 105]) (lo1 := [some (pvR 104), some (pvR 105), none]) (d1 := d) (rest := []) rfl rfl rfl rfl rfl (fun _ => rfl) (Nat.zero_le _) rfl rfl rfl (se_X6_becomeAs_104_105 M372_ o374_ d) (fun M379_ o381_ g382_ d377_ => ?_)
        have f383_ : pvFr fp_eX7_becomeAs_8_9 M M379_ := pvfr_t g382_ f376_ fp_eX7_becomeAs_8_9_fp_eX6_becomeAs_104_105
        exact pw_ret hT rfl (r := none) (M' := M379_) ⟨rfl, rfl⟩ ⟨rfl, o381_, f383_, (((((((((((g382_ 8 1 rfl).trans (g375_ 8 1 rfl)).trans (g368_ 8 1 rfl)).trans (pvu_n e360_ 8 1 (Or.inr (by decide)))).trans (pvu_n e352_ 8 1 (Or.inr (by decide)))).trans (pvu_n e347_ 8 1 (Or.inr (by decide)))).trans (pvu_n e342_ 8 1 (Or.inr (by decide)))).trans (pvu_n e338_ 8 1 (Or.inr (by decide)))).trans (pvu_n e333_ 8 1 (Or.inr (by decide)))).trans (pvu_n e328_ 8 1 (Or.inr (by decide)))).trans (j0z322_)), (((((((((((g382_ 8 2 rfl).trans (g375_ 8 2 rfl)).trans (g368_ 8 2 rfl)).trans (pvu_n e360_ 8 2 (Or.inr (by decide)))).trans (pvu_n e352_ 8 2 (Or.inr (by decide)))).trans (pvu_n e347_ 8 2 (Or.inr (by decide)))).trans (pvu_n e342_ 8 2 (Or.inr (by decide)))).trans (pvu_n e338_ 8 2 (Or.inr (by decide)))).trans (pvu_n e333_ 8 2 (Or.inr (by decide)))).trans (pvu_s e328_)).trans (fz322_ 9 2 rfl)), ((((((((((g382_ 8 3 rfl).trans (g375_ 8 3 rfl)).trans (g368_ 8 3 rfl)).trans (pvu_n e360_ 8 3 (Or.inr (by decide)))).trans (pvu_n e352_ 8 3 (Or.inr (by decide)))).trans (pvu_n e347_ 8 3 (Or.inr (by decide)))).trans (pvu_n e342_ 8 3 (Or.inr (by decide)))).trans (pvu_n e338_ 8 3 (Or.inr (by decide)))).trans (pvu_s e333_)).trans ((pvu_n e328_ 9 3 (Or.inl (by decide))).trans (fz322_ 9 3 rfl))), (((g382_ 102 0 rfl).trans (d370_)).trans (((((((((g368_ 103 0 rfl).trans (pvu_n e360_ 103 0 (Or.inl (by decide)))).trans (pvu_n e352_ 103 0 (Or.inl (by decide)))).trans (pvu_n e347_ 103 0 (Or.inl (by decide)))).trans (pvu_n e342_ 103 0 (Or.inl (by decide)))).trans (pvu_n e338_ 103 0 (Or.inl (by decide)))).trans (pvu_n e333_ 103 0 (Or.inl (by decide)))).trans (pvu_n e328_ 103 0 (Or.inl (by decide)))).trans (fz322_ 103 0 rfl))), (d377_.trans ((((((((((g375_ 105 0 rfl).trans (g368_ 105 0 rfl)).trans (pvu_n e360_ 105 0 (Or.inl (by decide)))).trans (pvu_n e352_ 105 0 (Or.inl (by decide)))).trans (pvu_n e347_ 105 0 (Or.inl (by decide)))).trans (pvu_n e342_ 105 0 (Or.inl (by decide)))).trans (pvu_n e338_ 105 0 (Or.inl (by decide)))).trans (pvu_n e333_ 105 0 (Or.inl (by decide)))).trans (pvu_n e328_ 105 0 (Or.inl (by decide)))).trans (fz322_ 105 0 rfl)))⟩
      · have b384_ : 1 ≤ Int32.toInt (Mz322_.1 8 1) ∧ Int32.toInt (Mz322_.1 8 1) ≤ 7 := zr_nle_l 1 c324_ b323_ h2z322_ (by decide)
        have b385_ : 0 ≤ Int32.toInt i2z322_ ∧ Int32.toInt i2z322_ ≤ 6 := zr_nle_r 6 c324_ h2z322_ b384_ (by decide)
        have d386_ : Int32.toInt (Mz322_.1 8 1) > Int32.toInt i2z322_ := Int.not_le.mp ((not_congr (zi_le _ _)).mp c324_)
        refine pw_blkr hT 4 (pc := 24) (lo := [some (pvR 8), some (pvR 9), some (pvI i2z322_)]) (st := []) (M := Mz322_) (z := (pvbs 10 + Int32.toNatClampNeg i2z322_)) rfl ⟨trivial, rfl, trivial, ⟨rfl, (zr_in (n := 7) b385_ (by decide) (by decide))⟩, trivial⟩ (fun q387_ e389_ => ?_)
        have k388_ : pvkl q387_ = 3 := pvel_10 (zr_in (n := 7) b385_ (by decide) (by decide)) e389_
        refine pw_blkr hT 4 (pc := 30) (lo := [some (pvR 8), some (pvR 9), some (pvI i2z322_)]) (st := [pvR q387_]) (M := Mz322_) (z := (pvbs 11 + Int32.toNatClampNeg i2z322_)) rfl ⟨trivial, rfl, trivial, ⟨rfl, (zr_in (n := 7) b385_ (by decide) (by decide))⟩, trivial⟩ (fun q390_ e392_ => ?_)
        have k391_ : pvkl q390_ = 3 := pvel_11 (zr_in (n := 7) b385_ (by decide) (by decide)) e392_
        refine pw_callV hT (as := [pvR q387_, pvR q390_]) (lo1 := [some (pvR q387_), some (pvR q390_)]) (d1 := d) (rest := []) rfl rfl rfl rfl rfl (fun _ => k388_) (Nat.zero_le _) rfl rfl rfl (sf_X4_becomeAs_x_x Mz322_ oz322_ q387_ q390_ k388_ k391_ d) (fun M394_ o396_ g397_ => ?_)
        have f398_ : pvFr fp_eX7_becomeAs_8_9 M M394_ := pvfr_t g397_ fz322_ fp_eX7_becomeAs_8_9_fp_X4_becomeAs_x_x
        obtain ⟨q400_, b399_⟩ : (Int32.toInt (i2z322_ + 1) = Int32.toInt i2z322_ + 1) ∧ (1 ≤ Int32.toInt (i2z322_ + 1) ∧ Int32.toInt (i2z322_ + 1) ≤ 7) := zadd_k i2z322_ 1 1 1 7 b385_ (by decide) (by decide) (by decide) (by decide) (by decide)
        refine pw_blk hT 2 (S' := (10, [some (pvR 8), some (pvR 9), some (pvI (i2z322_ + 1))], [], M394_)) rfl ⟨trivial, trivial, trivial⟩ ?_
        have j401_ : M394_.1 8 1 = (M.1 9 1) := ((g397_ 8 1 rfl).trans (j0z322_))
        exact ihz322_ (i2z322_ + 1) M394_ o396_ f398_ (zr_wide b399_ (by decide) (by decide)) j401_ (zhid (pvms_up (zshow hmz322_) h2z322_ q400_ (by decide) (by decide)))
  have u402_ : Int32.toInt 0 = 0 := by decide
  have j403_ : M2_.1 8 1 = (M.1 9 1) := (pvu_s e3_)
  exact hlz322_ _ 0 M2_ o4_ f5_ (zr_wide (show 0 ≤ Int32.toInt 0 ∧ Int32.toInt 0 ≤ 0 from (by decide)) (by decide) (by decide)) j403_ (zhid (Nat.lt_succ_self _))
def fpL_eX9_undo_0 : List (Nat × Nat × Nat) := [(0, 100, 1), (0, 102, 1), (0, 104, 1), (0, 108, 0), (0, 110, 0), (0, 112, 0), (0, 116, 0), (0, 118, 0), (0, 120, 0), (0, 14, 0), (0, 8, 2), (0, 8, 3), (0, 8, 4), (0, 8, 5), (0, 8, 6), (0, 8, 7), (0, 8, 8), (0, 8, 9), (1, 113, 0), (1, 3, 1), (1, 3, 2), (1, 3, 3), (1, 3, 4), (1, 3, 5), (1, 3, 6)]
def fp_eX9_undo_0 (q k : Nat) : Bool := pvfp fpL_eX9_undo_0 q k
theorem fp_eX9_undo_0_fp_X1_forget_5 (a b : Nat) (h : fp_X1_forget_5 a b = true) : fp_eX9_undo_0 a b = true := pvfp_sub (l1 := fpL_X1_forget_5) (l2 := fpL_eX9_undo_0) (by decide) a b h
theorem fp_eX9_undo_0_fp_eX7_becomeAs_8_9 (a b : Nat) (h : fp_eX7_becomeAs_8_9 a b = true) : fp_eX9_undo_0 a b = true := pvfp_sub (l1 := fpL_eX7_becomeAs_8_9) (l2 := fpL_eX9_undo_0) (by decide) a b h
set_option maxHeartbeats 4000000 in
set_option maxRecDepth 10000 in
theorem se_X9_undo_0 (M : pvM) (hok : pvOk M) (d : Nat) : PW 208 d (0, [some (pvR 0)], [], M) (fun r X => (∃ x : Int32, r = some (pvI x) ∧ ((-3) ≤ Int32.toInt x ∧ Int32.toInt x ≤ 7) ∧ x = (if (M.1 0 5) = 0 then (-3) else (M.1 9 1))) ∧ pvOk X ∧ pvFr fp_eX9_undo_0 M X ∧ X.1 8 1 = (if (M.1 0 5) = 0 then (M.1 8 1) else (M.1 9 1)) ∧ X.1 8 2 = (if (M.1 0 5) = 0 then (M.1 8 2) else (M.1 9 2)) ∧ X.1 8 3 = (if (M.1 0 5) = 0 then (M.1 8 3) else (M.1 9 3)) ∧ X.1 102 0 = (if (M.1 0 5) = 0 then (M.1 102 0) else (M.1 103 0)) ∧ X.1 104 0 = (if (M.1 0 5) = 0 then (M.1 104 0) else (M.1 105 0))) := by
  have hT : pvdom 208 = pvD_208 := rfl
  have b1_ : 0 ≤ Int32.toInt (M.1 0 5) ∧ Int32.toInt (M.1 0 5) ≤ 1 := pvok_r hok 0 5 rfl
  refine pw_blk hT 2 (S' := (4, [some (pvR 0)], [pvI (M.1 0 5)], M)) rfl ⟨trivial, rfl, trivial⟩ ?_
  refine pw_ifn hT (c := (M.1 0 5) = 0) rfl rfl (fun c2_ => ?_) (fun c2_ => ?_)
  · have b3_ : 1 ≤ Int32.toInt (M.1 0 5) ∧ Int32.toInt (M.1 0 5) ≤ 1 := (by have u0 := b1_; have u1 := (not_congr (zi_eq _ _)).mp c2_; have u2 := (show 0 ≤ Int32.toInt 0 ∧ Int32.toInt 0 ≤ 0 from (by decide)); omega)
    refine pw_blk hT 4 (S' := (18, [some (pvR 0)], [pvR 9, pvR 8], M)) rfl ⟨trivial, rfl, trivial, rfl, trivial⟩ ?_
    refine pw_callVd hT (as := [pvR 8, pvR 9]) (lo1 := [some (pvR 8), some (pvR 9), none]) (d1 := d) (rest := []) rfl rfl rfl rfl rfl (fun _ => rfl) (Nat.zero_le _) rfl rfl rfl (se_X7_becomeAs_8_9 M hok d) (fun M6_ o8_ g9_ d4_ => ?_)
    have f10_ : pvFr fp_eX9_undo_0 M M6_ := pvfr_t g9_ pvfr_0 fp_eX9_undo_0_fp_eX7_becomeAs_8_9
    refine pw_blk hT 2 (S' := (25, [some (pvR 0)], [pvR 5], M6_)) rfl ⟨trivial, rfl, trivial⟩ ?_
    refine pw_callV hT (as := [pvR 5]) (lo1 := [some (pvR 5), none]) (d1 := d) (rest := []) rfl rfl rfl rfl rfl (fun _ => rfl) (Nat.zero_le _) rfl rfl rfl (sf_X1_forget_5 M6_ o8_ d) (fun M12_ o14_ g15_ => ?_)
    have f16_ : pvFr fp_eX9_undo_0 M M12_ := pvfr_t g15_ f10_ fp_eX9_undo_0_fp_X1_forget_5
    have b17_ : 0 ≤ Int32.toInt (M12_.1 8 1) ∧ Int32.toInt (M12_.1 8 1) ≤ 7 := pvok_r o14_ 8 1 rfl
    refine pw_blk hT 3 (S' := (35, [some (pvR 0)], [pvI (M12_.1 8 1)], M12_)) rfl ⟨trivial, rfl, rfl, trivial⟩ ?_
    exact pw_ret hT rfl (r := some (pvI (M12_.1 8 1))) (M' := M12_) ⟨rfl, rfl⟩ ⟨⟨_, rfl, (zr_wide b17_ (by decide) (by decide)), (by rw [if_neg c2_]; first | done | exact (show (M12_.1 8 1) = (M.1 9 1) from by rw [((g15_ 8 1 rfl).trans (d4_.1))]) | (rw [if_neg c2_]; exact (show (M12_.1 8 1) = (M.1 9 1) from by rw [((g15_ 8 1 rfl).trans (d4_.1))])))⟩, o14_, f16_, (by rw [if_neg c2_]; first | done | exact ((g15_ 8 1 rfl).trans (d4_.1)) | (rw [if_neg c2_]; done) | (rw [if_neg c2_]; exact ((g15_ 8 1 rfl).trans (d4_.1)))), (by rw [if_neg c2_]; first | done | exact ((g15_ 8 2 rfl).trans (d4_.2.1)) | (rw [if_neg c2_]; done) | (rw [if_neg c2_]; exact ((g15_ 8 2 rfl).trans (d4_.2.1)))), (by rw [if_neg c2_]; first | done | exact ((g15_ 8 3 rfl).trans (d4_.2.2.1)) | (rw [if_neg c2_]; done) | (rw [if_neg c2_]; exact ((g15_ 8 3 rfl).trans (d4_.2.2.1)))), (by rw [if_neg c2_]; first | done | exact ((g15_ 102 0 rfl).trans (d4_.2.2.2.1)) | (rw [if_neg c2_]; done) | (rw [if_neg c2_]; exact ((g15_ 102 0 rfl).trans (d4_.2.2.2.1)))), (by rw [if_neg c2_]; first | done | exact ((g15_ 104 0 rfl).trans (d4_.2.2.2.2)) | (rw [if_neg c2_]; done) | (rw [if_neg c2_]; exact ((g15_ 104 0 rfl).trans (d4_.2.2.2.2))))⟩
  · have b18_ : 0 ≤ Int32.toInt (M.1 0 5) ∧ Int32.toInt (M.1 0 5) ≤ 0 := (by have u0 := b1_; have u1 := (zi_eq _ _).mp c2_; have u2 := (show 0 ≤ Int32.toInt 0 ∧ Int32.toInt 0 ≤ 0 from (by decide)); omega)
    refine pw_blk hT 1 (S' := (9, [some (pvR 0)], [pvI (-3)], M)) rfl ⟨trivial, trivial⟩ ?_
    exact pw_ret hT rfl (r := some (pvI (-3))) (M' := M) ⟨rfl, rfl⟩ ⟨⟨_, rfl, (zr_wide (show (-3) ≤ Int32.toInt (-3) ∧ Int32.toInt (-3) ≤ (-3) from (by decide)) (by decide) (by decide)), (by rw [if_pos c2_]; first | done | (rw [if_pos c2_]; done))⟩, hok, pvfr_0, (by rw [if_pos c2_]; first | done | exact rfl | (rw [if_pos c2_]; done) | (rw [if_pos c2_]; exact rfl)), (by rw [if_pos c2_]; first | done | exact rfl | (rw [if_pos c2_]; done) | (rw [if_pos c2_]; exact rfl)), (by rw [if_pos c2_]; first | done | exact rfl | (rw [if_pos c2_]; done) | (rw [if_pos c2_]; exact rfl)), (by rw [if_pos c2_]; first | done | exact rfl | (rw [if_pos c2_]; done) | (rw [if_pos c2_]; exact rfl)), (by rw [if_pos c2_]; first | done | exact rfl | (rw [if_pos c2_]; done) | (rw [if_pos c2_]; exact rfl))⟩
def fpL_eX9_window_0_x_x_x_x_x : List (Nat × Nat × Nat) := [(0, 14, 0), (0, 8, 2), (1, 113, 0), (1, 3, 1), (1, 3, 2), (1, 3, 3), (1, 3, 4), (1, 3, 5), (1, 3, 6)]
def fp_eX9_window_0_x_x_x_x_x (q k : Nat) : Bool := pvfp fpL_eX9_window_0_x_x_x_x_x q k
theorem fp_eX9_window_0_x_x_x_x_x_fp_X1_forget_5 (a b : Nat) (h : fp_X1_forget_5 a b = true) : fp_eX9_window_0_x_x_x_x_x a b = true := pvfp_sub (l1 := fpL_X1_forget_5) (l2 := fpL_eX9_window_0_x_x_x_x_x) (by decide) a b h
theorem fp_eX9_window_0_x_x_x_x_x_fp_X4_becomeNew_x_x_x_x_x_x (a b : Nat) (h : fp_X4_becomeNew_x_x_x_x_x_x a b = true) : fp_eX9_window_0_x_x_x_x_x a b = true := pvfp_sub (l1 := fpL_X4_becomeNew_x_x_x_x_x_x) (l2 := fpL_eX9_window_0_x_x_x_x_x) (by decide) a b h
set_option maxHeartbeats 4000000 in
set_option maxRecDepth 10000 in
theorem se_X9_window_0_x_x_x_x_x (M : pvM) (hok : pvOk M) (n1 : Int32) (n2 : Int32) (n3 : Int32) (n4 : Int32) (n5 : Int32) (d : Nat) : PW 210 d (0, [some (pvR 0), some (pvI n1), some (pvI n2), some (pvI n3), some (pvI n4), some (pvI n5), none], [], M) (fun r X => (∃ x : Int32, r = some (pvI x) ∧ ((-4) ≤ Int32.toInt x ∧ Int32.toInt x ≤ 6) ∧ x = (if n1 < 0 then (-1) else (if 6 < n1 then (-1) else (if n2 < 0 then (-2) else (if 9 < n2 then (-2) else (if n3 < 0 then (-2) else (if 3 < n3 then (-2) else (if n4 < 0 then (-2) else (if 4 < n4 then (-2) else (if n5 < 1 then (-2) else (if 9 < n5 then (-2) else (if (M.1 8 1) < 7 then (M.1 8 1) else (-4))))))))))))) ∧ pvOk X ∧ pvFr fp_eX9_window_0_x_x_x_x_x M X ∧ X.1 8 1 = (if n1 < 0 then (M.1 8 1) else (if 6 < n1 then (M.1 8 1) else (if n2 < 0 then (M.1 8 1) else (if 9 < n2 then (M.1 8 1) else (if n3 < 0 then (M.1 8 1) else (if 3 < n3 then (M.1 8 1) else (if n4 < 0 then (M.1 8 1) else (if 4 < n4 then (M.1 8 1) else (if n5 < 1 then (M.1 8 1) else (if 9 < n5 then (M.1 8 1) else (if (M.1 8 1) < 7 then ((M.1 8 1) + 1) else (M.1 8 1))))))))))))) := by
  have hT : pvdom 210 = pvD_210 := rfl
  refine pw_blk hT 3 (S' := (4, [some (pvR 0), some (pvI n1), some (pvI n2), some (pvI n3), some (pvI n4), some (pvI n5), none], [pvI 6, pvI 0, pvI n1], M)) rfl ⟨trivial, trivial, trivial, trivial⟩ ?_
  refine pw_callT hT (as := [pvI n1, pvI 0, pvI 6]) (lo1 := [some (pvI n1), some (pvI 0), some (pvI 6)]) (d1 := d) (rest := []) rfl rfl rfl rfl rfl (fun h => absurd h (by decide)) (Nat.zero_le _) rfl rfl rfl (sf_X9_within_x_x_x M hok n1 0 6 d) ?_
  by_cases c6_ : n1 < 0
  · refine pw_eqI (if_pos c6_) ?_
    have b7_ : (-2147483648) ≤ Int32.toInt n1 ∧ Int32.toInt n1 ≤ (-1) := zr_lt_l (-1) c6_ (zbnd n1) (show 0 ≤ Int32.toInt 0 ∧ Int32.toInt 0 ≤ 0 from (by decide)) (by decide)
    show PW 210 d (7, [some (pvR 0), some (pvI n1), some (pvI n2), some (pvI n3), some (pvI n4), some (pvI n5), none], [pvI 0], M) _
    refine pw_ifn hT (c := 0 = 0) rfl rfl (fun c8_ => absurd (by decide) c8_) (fun c8_ => ?_)
    refine pw_blk hT 1 (S' := (11, [some (pvR 0), some (pvI n1), some (pvI n2), some (pvI n3), some (pvI n4), some (pvI n5), none], [pvI (-1)], M)) rfl ⟨trivial, trivial⟩ ?_
    exact pw_ret hT rfl (r := some (pvI (-1))) (M' := M) ⟨rfl, rfl⟩ ⟨⟨_, rfl, (zr_wide (show (-1) ≤ Int32.toInt (-1) ∧ Int32.toInt (-1) ≤ (-1) from (by decide)) (by decide) (by decide)), (by rw [if_pos c6_]; first | done | (rw [if_pos c6_]; done))⟩, hok, pvfr_0, (by rw [if_pos c6_]; first | done | exact rfl | (rw [if_pos c6_]; done) | (rw [if_pos c6_]; exact rfl))⟩
  · refine pw_eqI (if_neg c6_) ?_
    have b9_ : 0 ≤ Int32.toInt n1 ∧ Int32.toInt n1 ≤ 2147483647 := zr_nlt_l 0 c6_ (zbnd n1) (show 0 ≤ Int32.toInt 0 ∧ Int32.toInt 0 ≤ 0 from (by decide)) (by decide)
    by_cases c10_ : 6 < n1
    · refine pw_eqI (if_pos c10_) ?_
      have b11_ : 7 ≤ Int32.toInt n1 ∧ Int32.toInt n1 ≤ 2147483647 := zr_lt_r 7 c10_ b9_ (show 6 ≤ Int32.toInt 6 ∧ Int32.toInt 6 ≤ 6 from (by decide)) (by decide)
      show PW 210 d (7, [some (pvR 0), some (pvI n1), some (pvI n2), some (pvI n3), some (pvI n4), some (pvI n5), none], [pvI 0], M) _
      refine pw_ifn hT (c := 0 = 0) rfl rfl (fun c12_ => absurd (by decide) c12_) (fun c12_ => ?_)
      refine pw_blk hT 1 (S' := (11, [some (pvR 0), some (pvI n1), some (pvI n2), some (pvI n3), some (pvI n4), some (pvI n5), none], [pvI (-1)], M)) rfl ⟨trivial, trivial⟩ ?_
      exact pw_ret hT rfl (r := some (pvI (-1))) (M' := M) ⟨rfl, rfl⟩ ⟨⟨_, rfl, (zr_wide (show (-1) ≤ Int32.toInt (-1) ∧ Int32.toInt (-1) ≤ (-1) from (by decide)) (by decide) (by decide)), (by rw [if_neg c6_, if_pos c10_]; first | done | (rw [if_pos c10_]; done))⟩, hok, pvfr_0, (by rw [if_neg c6_, if_pos c10_]; first | done | exact rfl | (rw [if_pos c10_]; done) | (rw [if_pos c10_]; exact rfl))⟩
    · refine pw_eqI (if_neg c10_) ?_
      have b13_ : 0 ≤ Int32.toInt n1 ∧ Int32.toInt n1 ≤ 6 := zr_nlt_r 6 c10_ b9_ (show 6 ≤ Int32.toInt 6 ∧ Int32.toInt 6 ≤ 6 from (by decide)) (by decide)
      show PW 210 d (7, [some (pvR 0), some (pvI n1), some (pvI n2), some (pvI n3), some (pvI n4), some (pvI n5), none], [pvI 1], M) _
      refine pw_ifn hT (c := 1 = 0) rfl rfl (fun c14_ => ?_) (fun c14_ => absurd c14_ (by decide))
      refine pw_blk hT 3 (S' := (16, [some (pvR 0), some (pvI n1), some (pvI n2), some (pvI n3), some (pvI n4), some (pvI n5), none], [pvI 9, pvI 0, pvI n2], M)) rfl ⟨trivial, trivial, trivial, trivial⟩ ?_
      refine pw_callT hT (as := [pvI n2, pvI 0, pvI 9]) (lo1 := [some (pvI n2), some (pvI 0), some (pvI 9)]) (d1 := d) (rest := []) rfl rfl rfl rfl rfl (fun h => absurd h (by decide)) (Nat.zero_le _) rfl rfl rfl (sf_X9_within_x_x_x M hok n2 0 9 d) ?_
      by_cases c20_ : n2 < 0
      · refine pw_eqI (if_pos c20_) ?_
        have b21_ : (-2147483648) ≤ Int32.toInt n2 ∧ Int32.toInt n2 ≤ (-1) := zr_lt_l (-1) c20_ (zbnd n2) (show 0 ≤ Int32.toInt 0 ∧ Int32.toInt 0 ≤ 0 from (by decide)) (by decide)
        show PW 210 d (19, [some (pvR 0), some (pvI n1), some (pvI n2), some (pvI n3), some (pvI n4), some (pvI n5), none], [pvI 0], M) _
        refine pw_if hT (c := 0 = 0) rfl rfl (fun c22_ => ?_) (fun c22_ => absurd (by decide) c22_)
        refine pw_blk hT 1 (S' := (44, [some (pvR 0), some (pvI n1), some (pvI n2), some (pvI n3), some (pvI n4), some (pvI n5), none], [pvI (-2)], M)) rfl ⟨trivial, trivial⟩ ?_
        exact pw_ret hT rfl (r := some (pvI (-2))) (M' := M) ⟨rfl, rfl⟩ ⟨⟨_, rfl, (zr_wide (show (-2) ≤ Int32.toInt (-2) ∧ Int32.toInt (-2) ≤ (-2) from (by decide)) (by decide) (by decide)), (by rw [if_neg c6_, if_neg c10_, if_pos c20_]; first | done | (rw [if_pos c20_]; done))⟩, hok, pvfr_0, (by rw [if_neg c6_, if_neg c10_, if_pos c20_]; first | done | exact rfl | (rw [if_pos c20_]; done) | (rw [if_pos c20_]; exact rfl))⟩
      · refine pw_eqI (if_neg c20_) ?_
        have b23_ : 0 ≤ Int32.toInt n2 ∧ Int32.toInt n2 ≤ 2147483647 := zr_nlt_l 0 c20_ (zbnd n2) (show 0 ≤ Int32.toInt 0 ∧ Int32.toInt 0 ≤ 0 from (by decide)) (by decide)
        by_cases c24_ : 9 < n2
        · refine pw_eqI (if_pos c24_) ?_
          have b25_ : 10 ≤ Int32.toInt n2 ∧ Int32.toInt n2 ≤ 2147483647 := zr_lt_r 10 c24_ b23_ (show 9 ≤ Int32.toInt 9 ∧ Int32.toInt 9 ≤ 9 from (by decide)) (by decide)
          show PW 210 d (19, [some (pvR 0), some (pvI n1), some (pvI n2), some (pvI n3), some (pvI n4), some (pvI n5), none], [pvI 0], M) _
          refine pw_if hT (c := 0 = 0) rfl rfl (fun c26_ => ?_) (fun c26_ => absurd (by decide) c26_)
          refine pw_blk hT 1 (S' := (44, [some (pvR 0), some (pvI n1), some (pvI n2), some (pvI n3), some (pvI n4), some (pvI n5), none], [pvI (-2)], M)) rfl ⟨trivial, trivial⟩ ?_
          exact pw_ret hT rfl (r := some (pvI (-2))) (M' := M) ⟨rfl, rfl⟩ ⟨⟨_, rfl, (zr_wide (show (-2) ≤ Int32.toInt (-2) ∧ Int32.toInt (-2) ≤ (-2) from (by decide)) (by decide) (by decide)), (by rw [if_neg c6_, if_neg c10_, if_neg c20_, if_pos c24_]; first | done | (rw [if_pos c24_]; done))⟩, hok, pvfr_0, (by rw [if_neg c6_, if_neg c10_, if_neg c20_, if_pos c24_]; first | done | exact rfl | (rw [if_pos c24_]; done) | (rw [if_pos c24_]; exact rfl))⟩
        · refine pw_eqI (if_neg c24_) ?_
          have b27_ : 0 ≤ Int32.toInt n2 ∧ Int32.toInt n2 ≤ 9 := zr_nlt_r 9 c24_ b23_ (show 9 ≤ Int32.toInt 9 ∧ Int32.toInt 9 ≤ 9 from (by decide)) (by decide)
          show PW 210 d (19, [some (pvR 0), some (pvI n1), some (pvI n2), some (pvI n3), some (pvI n4), some (pvI n5), none], [pvI 1], M) _
          refine pw_if hT (c := 1 = 0) rfl rfl (fun c28_ => absurd c28_ (by decide)) (fun c28_ => ?_)
          refine pw_blk hT 2 (S' := (25, [some (pvR 0), some (pvI n1), some (pvI n2), some (pvI n3), some (pvI n4), some (pvI n5), none], [pvI n4, pvI n3], M)) rfl ⟨trivial, trivial, trivial⟩ ?_
          refine pw_callT hT (as := [pvI n3, pvI n4]) (lo1 := [some (pvI n3), some (pvI n4)]) (d1 := d) (rest := []) rfl rfl rfl rfl rfl (fun h => absurd h (by decide)) (Nat.zero_le _) rfl rfl rfl (sf_X9_isPlace_x_x M hok n3 n4 d) ?_
          by_cases c34_ : n3 < 0
          · refine pw_eqI (if_pos c34_) ?_
            have b35_ : (-2147483648) ≤ Int32.toInt n3 ∧ Int32.toInt n3 ≤ (-1) := zr_lt_l (-1) c34_ (zbnd n3) (show 0 ≤ Int32.toInt 0 ∧ Int32.toInt 0 ≤ 0 from (by decide)) (by decide)
            show PW 210 d (28, [some (pvR 0), some (pvI n1), some (pvI n2), some (pvI n3), some (pvI n4), some (pvI n5), none], [pvI 0], M) _
            refine pw_if hT (c := 0 = 0) rfl rfl (fun c36_ => ?_) (fun c36_ => absurd (by decide) c36_)
            refine pw_blk hT 1 (S' := (44, [some (pvR 0), some (pvI n1), some (pvI n2), some (pvI n3), some (pvI n4), some (pvI n5), none], [pvI (-2)], M)) rfl ⟨trivial, trivial⟩ ?_
            exact pw_ret hT rfl (r := some (pvI (-2))) (M' := M) ⟨rfl, rfl⟩ ⟨⟨_, rfl, (zr_wide (show (-2) ≤ Int32.toInt (-2) ∧ Int32.toInt (-2) ≤ (-2) from (by decide)) (by decide) (by decide)), (by rw [if_neg c6_, if_neg c10_, if_neg c20_, if_neg c24_, if_pos c34_]; first | done | (rw [if_pos c34_]; done))⟩, hok, pvfr_0, (by rw [if_neg c6_, if_neg c10_, if_neg c20_, if_neg c24_, if_pos c34_]; first | done | exact rfl | (rw [if_pos c34_]; done) | (rw [if_pos c34_]; exact rfl))⟩
          · refine pw_eqI (if_neg c34_) ?_
            have b37_ : 0 ≤ Int32.toInt n3 ∧ Int32.toInt n3 ≤ 2147483647 := zr_nlt_l 0 c34_ (zbnd n3) (show 0 ≤ Int32.toInt 0 ∧ Int32.toInt 0 ≤ 0 from (by decide)) (by decide)
            by_cases c38_ : 3 < n3
            · refine pw_eqI (if_pos c38_) ?_
              have b39_ : 4 ≤ Int32.toInt n3 ∧ Int32.toInt n3 ≤ 2147483647 := zr_lt_r 4 c38_ b37_ (show 3 ≤ Int32.toInt 3 ∧ Int32.toInt 3 ≤ 3 from (by decide)) (by decide)
              show PW 210 d (28, [some (pvR 0), some (pvI n1), some (pvI n2), some (pvI n3), some (pvI n4), some (pvI n5), none], [pvI 0], M) _
              refine pw_if hT (c := 0 = 0) rfl rfl (fun c40_ => ?_) (fun c40_ => absurd (by decide) c40_)
              refine pw_blk hT 1 (S' := (44, [some (pvR 0), some (pvI n1), some (pvI n2), some (pvI n3), some (pvI n4), some (pvI n5), none], [pvI (-2)], M)) rfl ⟨trivial, trivial⟩ ?_
              exact pw_ret hT rfl (r := some (pvI (-2))) (M' := M) ⟨rfl, rfl⟩ ⟨⟨_, rfl, (zr_wide (show (-2) ≤ Int32.toInt (-2) ∧ Int32.toInt (-2) ≤ (-2) from (by decide)) (by decide) (by decide)), (by rw [if_neg c6_, if_neg c10_, if_neg c20_, if_neg c24_, if_neg c34_, if_pos c38_]; first | done | (rw [if_pos c38_]; done))⟩, hok, pvfr_0, (by rw [if_neg c6_, if_neg c10_, if_neg c20_, if_neg c24_, if_neg c34_, if_pos c38_]; first | done | exact rfl | (rw [if_pos c38_]; done) | (rw [if_pos c38_]; exact rfl))⟩
            · refine pw_eqI (if_neg c38_) ?_
              have b41_ : 0 ≤ Int32.toInt n3 ∧ Int32.toInt n3 ≤ 3 := zr_nlt_r 3 c38_ b37_ (show 3 ≤ Int32.toInt 3 ∧ Int32.toInt 3 ≤ 3 from (by decide)) (by decide)
              by_cases c42_ : n4 < 0
              · refine pw_eqI (if_pos c42_) ?_
                have b43_ : (-2147483648) ≤ Int32.toInt n4 ∧ Int32.toInt n4 ≤ (-1) := zr_lt_l (-1) c42_ (zbnd n4) (show 0 ≤ Int32.toInt 0 ∧ Int32.toInt 0 ≤ 0 from (by decide)) (by decide)
                show PW 210 d (28, [some (pvR 0), some (pvI n1), some (pvI n2), some (pvI n3), some (pvI n4), some (pvI n5), none], [pvI 0], M) _
                refine pw_if hT (c := 0 = 0) rfl rfl (fun c44_ => ?_) (fun c44_ => absurd (by decide) c44_)
                refine pw_blk hT 1 (S' := (44, [some (pvR 0), some (pvI n1), some (pvI n2), some (pvI n3), some (pvI n4), some (pvI n5), none], [pvI (-2)], M)) rfl ⟨trivial, trivial⟩ ?_
                exact pw_ret hT rfl (r := some (pvI (-2))) (M' := M) ⟨rfl, rfl⟩ ⟨⟨_, rfl, (zr_wide (show (-2) ≤ Int32.toInt (-2) ∧ Int32.toInt (-2) ≤ (-2) from (by decide)) (by decide) (by decide)), (by rw [if_neg c6_, if_neg c10_, if_neg c20_, if_neg c24_, if_neg c34_, if_neg c38_, if_pos c42_]; first | done | (rw [if_pos c42_]; done))⟩, hok, pvfr_0, (by rw [if_neg c6_, if_neg c10_, if_neg c20_, if_neg c24_, if_neg c34_, if_neg c38_, if_pos c42_]; first | done | exact rfl | (rw [if_pos c42_]; done) | (rw [if_pos c42_]; exact rfl))⟩
              · refine pw_eqI (if_neg c42_) ?_
                have b45_ : 0 ≤ Int32.toInt n4 ∧ Int32.toInt n4 ≤ 2147483647 := zr_nlt_l 0 c42_ (zbnd n4) (show 0 ≤ Int32.toInt 0 ∧ Int32.toInt 0 ≤ 0 from (by decide)) (by decide)
                by_cases c46_ : 4 < n4
                · refine pw_eqI (if_pos c46_) ?_
                  have b47_ : 5 ≤ Int32.toInt n4 ∧ Int32.toInt n4 ≤ 2147483647 := zr_lt_r 5 c46_ b45_ (show 4 ≤ Int32.toInt 4 ∧ Int32.toInt 4 ≤ 4 from (by decide)) (by decide)
                  show PW 210 d (28, [some (pvR 0), some (pvI n1), some (pvI n2), some (pvI n3), some (pvI n4), some (pvI n5), none], [pvI 0], M) _
                  refine pw_if hT (c := 0 = 0) rfl rfl (fun c48_ => ?_) (fun c48_ => absurd (by decide) c48_)
                  refine pw_blk hT 1 (S' := (44, [some (pvR 0), some (pvI n1), some (pvI n2), some (pvI n3), some (pvI n4), some (pvI n5), none], [pvI (-2)], M)) rfl ⟨trivial, trivial⟩ ?_
                  exact pw_ret hT rfl (r := some (pvI (-2))) (M' := M) ⟨rfl, rfl⟩ ⟨⟨_, rfl, (zr_wide (show (-2) ≤ Int32.toInt (-2) ∧ Int32.toInt (-2) ≤ (-2) from (by decide)) (by decide) (by decide)), (by rw [if_neg c6_, if_neg c10_, if_neg c20_, if_neg c24_, if_neg c34_, if_neg c38_, if_neg c42_, if_pos c46_]; first | done | (rw [if_pos c46_]; done))⟩, hok, pvfr_0, (by rw [if_neg c6_, if_neg c10_, if_neg c20_, if_neg c24_, if_neg c34_, if_neg c38_, if_neg c42_, if_pos c46_]; first | done | exact rfl | (rw [if_pos c46_]; done) | (rw [if_pos c46_]; exact rfl))⟩
                · refine pw_eqI (if_neg c46_) ?_
                  have b49_ : 0 ≤ Int32.toInt n4 ∧ Int32.toInt n4 ≤ 4 := zr_nlt_r 4 c46_ b45_ (show 4 ≤ Int32.toInt 4 ∧ Int32.toInt 4 ≤ 4 from (by decide)) (by decide)
                  show PW 210 d (28, [some (pvR 0), some (pvI n1), some (pvI n2), some (pvI n3), some (pvI n4), some (pvI n5), none], [pvI 1], M) _
                  refine pw_if hT (c := 1 = 0) rfl rfl (fun c50_ => absurd c50_ (by decide)) (fun c50_ => ?_)
                  refine pw_blk hT 3 (S' := (36, [some (pvR 0), some (pvI n1), some (pvI n2), some (pvI n3), some (pvI n4), some (pvI n5), none], [pvI 9, pvI 1, pvI n5], M)) rfl ⟨trivial, trivial, trivial, trivial⟩ ?_
                  refine pw_callT hT (as := [pvI n5, pvI 1, pvI 9]) (lo1 := [some (pvI n5), some (pvI 1), some (pvI 9)]) (d1 := d) (rest := []) rfl rfl rfl rfl rfl (fun h => absurd h (by decide)) (Nat.zero_le _) rfl rfl rfl (sf_X9_within_x_x_x M hok n5 1 9 d) ?_
                  by_cases c56_ : n5 < 1
                  · refine pw_eqI (if_pos c56_) ?_
                    have b57_ : (-2147483648) ≤ Int32.toInt n5 ∧ Int32.toInt n5 ≤ 0 := zr_lt_l 0 c56_ (zbnd n5) (show 1 ≤ Int32.toInt 1 ∧ Int32.toInt 1 ≤ 1 from (by decide)) (by decide)
                    show PW 210 d (39, [some (pvR 0), some (pvI n1), some (pvI n2), some (pvI n3), some (pvI n4), some (pvI n5), none], [pvI 0], M) _
                    refine pw_ifn hT (c := 0 = 0) rfl rfl (fun c58_ => absurd (by decide) c58_) (fun c58_ => ?_)
                    refine pw_blk hT 1 (S' := (44, [some (pvR 0), some (pvI n1), some (pvI n2), some (pvI n3), some (pvI n4), some (pvI n5), none], [pvI (-2)], M)) rfl ⟨trivial, trivial⟩ ?_
                    exact pw_ret hT rfl (r := some (pvI (-2))) (M' := M) ⟨rfl, rfl⟩ ⟨⟨_, rfl, (zr_wide (show (-2) ≤ Int32.toInt (-2) ∧ Int32.toInt (-2) ≤ (-2) from (by decide)) (by decide) (by decide)), (by rw [if_neg c6_, if_neg c10_, if_neg c20_, if_neg c24_, if_neg c34_, if_neg c38_, if_neg c42_, if_neg c46_, if_pos c56_]; first | done | (rw [if_pos c56_]; done))⟩, hok, pvfr_0, (by rw [if_neg c6_, if_neg c10_, if_neg c20_, if_neg c24_, if_neg c34_, if_neg c38_, if_neg c42_, if_neg c46_, if_pos c56_]; first | done | exact rfl | (rw [if_pos c56_]; done) | (rw [if_pos c56_]; exact rfl))⟩
                  · refine pw_eqI (if_neg c56_) ?_
                    have b59_ : 1 ≤ Int32.toInt n5 ∧ Int32.toInt n5 ≤ 2147483647 := zr_nlt_l 1 c56_ (zbnd n5) (show 1 ≤ Int32.toInt 1 ∧ Int32.toInt 1 ≤ 1 from (by decide)) (by decide)
                    by_cases c60_ : 9 < n5
                    · refine pw_eqI (if_pos c60_) ?_
                      have b61_ : 10 ≤ Int32.toInt n5 ∧ Int32.toInt n5 ≤ 2147483647 := zr_lt_r 10 c60_ b59_ (show 9 ≤ Int32.toInt 9 ∧ Int32.toInt 9 ≤ 9 from (by decide)) (by decide)
                      show PW 210 d (39, [some (pvR 0), some (pvI n1), some (pvI n2), some (pvI n3), some (pvI n4), some (pvI n5), none], [pvI 0], M) _
                      refine pw_ifn hT (c := 0 = 0) rfl rfl (fun c62_ => absurd (by decide) c62_) (fun c62_ => ?_)
                      refine pw_blk hT 1 (S' := (44, [some (pvR 0), some (pvI n1), some (pvI n2), some (pvI n3), some (pvI n4), some (pvI n5), none], [pvI (-2)], M)) rfl ⟨trivial, trivial⟩ ?_
                      exact pw_ret hT rfl (r := some (pvI (-2))) (M' := M) ⟨rfl, rfl⟩ ⟨⟨_, rfl, (zr_wide (show (-2) ≤ Int32.toInt (-2) ∧ Int32.toInt (-2) ≤ (-2) from (by decide)) (by decide) (by decide)), (by rw [if_neg c6_, if_neg c10_, if_neg c20_, if_neg c24_, if_neg c34_, if_neg c38_, if_neg c42_, if_neg c46_, if_neg c56_, if_pos c60_]; first | done | (rw [if_pos c60_]; done))⟩, hok, pvfr_0, (by rw [if_neg c6_, if_neg c10_, if_neg c20_, if_neg c24_, if_neg c34_, if_neg c38_, if_neg c42_, if_neg c46_, if_neg c56_, if_pos c60_]; first | done | exact rfl | (rw [if_pos c60_]; done) | (rw [if_pos c60_]; exact rfl))⟩
                    · refine pw_eqI (if_neg c60_) ?_
                      have b63_ : 1 ≤ Int32.toInt n5 ∧ Int32.toInt n5 ≤ 9 := zr_nlt_r 9 c60_ b59_ (show 9 ≤ Int32.toInt 9 ∧ Int32.toInt 9 ≤ 9 from (by decide)) (by decide)
                      show PW 210 d (39, [some (pvR 0), some (pvI n1), some (pvI n2), some (pvI n3), some (pvI n4), some (pvI n5), none], [pvI 1], M) _
                      refine pw_ifn hT (c := 1 = 0) rfl rfl (fun c64_ => ?_) (fun c64_ => absurd c64_ (by decide))
                      have b65_ : 0 ≤ Int32.toInt (M.1 8 1) ∧ Int32.toInt (M.1 8 1) ≤ 7 := pvok_r hok 8 1 rfl
                      refine pw_blk hT 4 (S' := (54, [some (pvR 0), some (pvI n1), some (pvI n2), some (pvI n3), some (pvI n4), some (pvI n5), none], [pvI 7, pvI (M.1 8 1)], M)) rfl ⟨trivial, rfl, rfl, trivial, trivial⟩ ?_
                      refine pw_ic hT (c := (M.1 8 1) < 7) rfl rfl (fun c66_ => ?_) (fun c66_ => ?_)
                      · have b67_ : 0 ≤ Int32.toInt (M.1 8 1) ∧ Int32.toInt (M.1 8 1) ≤ 6 := zr_lt_l 6 c66_ b65_ (show 7 ≤ Int32.toInt 7 ∧ Int32.toInt 7 ≤ 7 from (by decide)) (by decide)
                        obtain ⟨q69_, b68_⟩ : (Int32.toInt ((M.1 8 1) + 1) = Int32.toInt (M.1 8 1) + 1) ∧ (1 ≤ Int32.toInt ((M.1 8 1) + 1) ∧ Int32.toInt ((M.1 8 1) + 1) ≤ 7) := zadd_k (M.1 8 1) 1 1 1 7 b67_ (by decide) (by decide) (by decide) (by decide) (by decide)
                        refine pw_blkw hT 8 (pc := 74) (lo := [some (pvR 0), some (pvI n1), some (pvI n2), some (pvI n3), some (pvI n4), some (pvI n5), none]) (st := [pvI (M.1 8 1)]) (M := pvu M 8 1 ((M.1 8 1) + 1)) rfl ⟨trivial, rfl, trivial, rfl, trivial, trivial, trivial, rfl, trivial⟩ (fun M70_ e71_ => ?_)
                        have o72_ : pvOk M70_ := pvok_u2 e71_ hok rfl (zr_wide b68_ (by decide) (by decide))
                        have f73_ : pvFr fp_eX9_window_0_x_x_x_x_x M M70_ := pvfr_u e71_ pvfr_0 rfl
                        refine pw_blkr hT 6 (pc := 86) (lo := [some (pvR 0), some (pvI n1), some (pvI n2), some (pvI n3), some (pvI n4), some (pvI n5), some (pvI (M.1 8 1))]) (st := []) (M := M70_) (z := (pvbs 10 + Int32.toNatClampNeg (M.1 8 1))) rfl ⟨trivial, trivial, rfl, rfl, trivial, ⟨rfl, (zr_in (n := 7) b67_ (by decide) (by decide))⟩, trivial⟩ (fun q74_ e76_ => ?_)
                        have k75_ : pvkl q74_ = 3 := pvel_10 (zr_in (n := 7) b67_ (by decide) (by decide)) e76_
                        refine pw_blk hT 5 (S' := (93, [some (pvR 0), some (pvI n1), some (pvI n2), some (pvI n3), some (pvI n4), some (pvI n5), some (pvI (M.1 8 1))], [pvI n5, pvI n4, pvI n3, pvI n2, pvI n1, pvR q74_], M70_)) rfl ⟨trivial, trivial, trivial, trivial, trivial, trivial⟩ ?_
                        refine pw_callV hT (as := [pvR q74_, pvI n1, pvI n2, pvI n3, pvI n4, pvI n5]) (lo1 := [some (pvR q74_), some (pvI n1), some (pvI n2), some (pvI n3), some (pvI n4), some (pvI n5), none]) (d1 := d) (rest := []) rfl rfl rfl rfl rfl (fun _ => k75_) (Nat.zero_le _) rfl rfl rfl (sf_X4_becomeNew_x_x_x_x_x_x M70_ o72_ q74_ n1 n2 n3 n4 n5 k75_ b13_ b27_ b41_ b49_ (zr_wide b63_ (by decide) (by decide)) d) (fun M78_ o80_ g81_ => ?_)
                        have f82_ : pvFr fp_eX9_window_0_x_x_x_x_x M M78_ := pvfr_t g81_ f73_ fp_eX9_window_0_x_x_x_x_x_fp_X4_becomeNew_x_x_x_x_x_x
                        refine pw_blk hT 2 (S' := (100, [some (pvR 0), some (pvI n1), some (pvI n2), some (pvI n3), some (pvI n4), some (pvI n5), some (pvI (M.1 8 1))], [pvR 5], M78_)) rfl ⟨trivial, rfl, trivial⟩ ?_
                        refine pw_callV hT (as := [pvR 5]) (lo1 := [some (pvR 5), none]) (d1 := d) (rest := []) rfl rfl rfl rfl rfl (fun _ => rfl) (Nat.zero_le _) rfl rfl rfl (sf_X1_forget_5 M78_ o80_ d) (fun M84_ o86_ g87_ => ?_)
                        have f88_ : pvFr fp_eX9_window_0_x_x_x_x_x M M84_ := pvfr_t g87_ f82_ fp_eX9_window_0_x_x_x_x_x_fp_X1_forget_5
                        refine pw_blk hT 1 (S' := (105, [some (pvR 0), some (pvI n1), some (pvI n2), some (pvI n3), some (pvI n4), some (pvI n5), some (pvI (M.1 8 1))], [pvI (M.1 8 1)], M84_)) rfl ⟨trivial, trivial⟩ ?_
                        exact pw_ret hT rfl (r := some (pvI (M.1 8 1))) (M' := M84_) ⟨rfl, rfl⟩ ⟨⟨_, rfl, (zr_wide b67_ (by decide) (by decide)), (by rw [if_neg c6_, if_neg c10_, if_neg c20_, if_neg c24_, if_neg c34_, if_neg c38_, if_neg c42_, if_neg c46_, if_neg c56_, if_neg c60_, if_pos c66_]; first | done | (rw [if_pos c66_]; done))⟩, o86_, f88_, (by rw [if_neg c6_, if_neg c10_, if_neg c20_, if_neg c24_, if_neg c34_, if_neg c38_, if_neg c42_, if_neg c46_, if_neg c56_, if_neg c60_, if_pos c66_]; first | done | exact (((g87_ 8 1 rfl).trans (g81_ 8 1 rfl)).trans (pvu_s e71_)) | (rw [if_pos c66_]; done) | (rw [if_pos c66_]; exact (((g87_ 8 1 rfl).trans (g81_ 8 1 rfl)).trans (pvu_s e71_))))⟩
                      · have b89_ : 7 ≤ Int32.toInt (M.1 8 1) ∧ Int32.toInt (M.1 8 1) ≤ 7 := zr_nlt_l 7 c66_ b65_ (show 7 ≤ Int32.toInt 7 ∧ Int32.toInt 7 ≤ 7 from (by decide)) (by decide)
                        refine pw_blk hT 1 (S' := (59, [some (pvR 0), some (pvI n1), some (pvI n2), some (pvI n3), some (pvI n4), some (pvI n5), none], [pvI (-4)], M)) rfl ⟨trivial, trivial⟩ ?_
                        exact pw_ret hT rfl (r := some (pvI (-4))) (M' := M) ⟨rfl, rfl⟩ ⟨⟨_, rfl, (zr_wide (show (-4) ≤ Int32.toInt (-4) ∧ Int32.toInt (-4) ≤ (-4) from (by decide)) (by decide) (by decide)), (by rw [if_neg c6_, if_neg c10_, if_neg c20_, if_neg c24_, if_neg c34_, if_neg c38_, if_neg c42_, if_neg c46_, if_neg c56_, if_neg c60_, if_neg c66_]; first | done | (rw [if_neg c66_]; done))⟩, hok, pvfr_0, (by rw [if_neg c6_, if_neg c10_, if_neg c20_, if_neg c24_, if_neg c34_, if_neg c38_, if_neg c42_, if_neg c46_, if_neg c56_, if_neg c60_, if_neg c66_]; first | done | exact rfl | (rw [if_neg c66_]; done) | (rw [if_neg c66_]; exact rfl))⟩
