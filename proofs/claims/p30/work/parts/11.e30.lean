set_option maxHeartbeats 4000000 in
set_option maxRecDepth 10000 in
theorem se_X9_trace_0_x (M : pvM) (hok : pvOk M) (n1 : Int32) (d : Nat) : PW 206 d (0, [some (pvR 0), some (pvI n1)], [], M) (fun r X => r = some (pvI ((if n1 < 0 then (-1) else (if (M.1 3 1) ≤ n1 then (-1) else (if n1 < 20 then (M.1 4 (Int32.toNatClampNeg n1)) else (-1)))))) ∧ X = M) := by
  have hT : pvdom 206 = pvD_206 := rfl
  refine pw_blk hT 1 (S' := (1, [some (pvR 0), some (pvI n1)], [pvI n1], M)) rfl ⟨trivial, trivial⟩ ?_
  refine pw_if hT (c := n1 < 0) rfl rfl (fun c1_ => ?_) (fun c1_ => ?_)
  · have b2_ : (-2147483648) ≤ Int32.toInt n1 ∧ Int32.toInt n1 ≤ (-1) := zr_lt_l (-1) c1_ (zbnd n1) (show 0 ≤ Int32.toInt 0 ∧ Int32.toInt 0 ≤ 0 from (by decide)) (by decide)
    refine pw_blk hT 1 (S' := (22, [some (pvR 0), some (pvI n1)], [pvI (-1)], M)) rfl ⟨trivial, trivial⟩ ?_
    exact pw_ret hT rfl (r := some (pvI (-1))) (M' := M) ⟨rfl, rfl⟩ ⟨(by rw [if_pos c1_]; first | done | (rw [if_pos c1_]; done)), rfl⟩
  · have b3_ : 0 ≤ Int32.toInt n1 ∧ Int32.toInt n1 ≤ 2147483647 := zr_nlt_l 0 c1_ (zbnd n1) (show 0 ≤ Int32.toInt 0 ∧ Int32.toInt 0 ≤ 0 from (by decide)) (by decide)
    have b4_ : 0 ≤ Int32.toInt (M.1 3 1) ∧ Int32.toInt (M.1 3 1) ≤ 1000000 := pvok_r hok 3 1 rfl
    refine pw_blk hT 4 (S' := (12, [some (pvR 0), some (pvI n1)], [pvI (M.1 3 1), pvI n1], M)) rfl ⟨trivial, trivial, rfl, rfl, trivial⟩ ?_
    refine pw_ic hT (c := (M.1 3 1) ≤ n1) rfl rfl (fun c5_ => ?_) (fun c5_ => ?_)
    · have d6_ : Int32.toInt (M.1 3 1) ≤ Int32.toInt n1 := (zi_le _ _).mp c5_
      refine pw_blk hT 1 (S' := (22, [some (pvR 0), some (pvI n1)], [pvI (-1)], M)) rfl ⟨trivial, trivial⟩ ?_
      exact pw_ret hT rfl (r := some (pvI (-1))) (M' := M) ⟨rfl, rfl⟩ ⟨(by rw [if_neg c1_, if_pos c5_]; first | done | (rw [if_pos c5_]; done)), rfl⟩
    · have b7_ : 1 ≤ Int32.toInt (M.1 3 1) ∧ Int32.toInt (M.1 3 1) ≤ 1000000 := zr_nle_l 1 c5_ b4_ b3_ (by decide)
      have b8_ : 0 ≤ Int32.toInt n1 ∧ Int32.toInt n1 ≤ 999999 := zr_nle_r 999999 c5_ b3_ b7_ (by decide)
      have d9_ : Int32.toInt (M.1 3 1) > Int32.toInt n1 := Int.not_le.mp ((not_congr (zi_le _ _)).mp c5_)
      refine pw_blk hT 2 (S' := (18, [some (pvR 0), some (pvI n1)], [pvI 20, pvI n1], M)) rfl ⟨trivial, trivial, trivial⟩ ?_
      refine pw_ic hT (c := n1 < 20) rfl rfl (fun c10_ => ?_) (fun c10_ => ?_)
      · have b11_ : 0 ≤ Int32.toInt n1 ∧ Int32.toInt n1 ≤ 19 := zr_lt_l 19 c10_ b8_ (show 20 ≤ Int32.toInt 20 ∧ Int32.toInt 20 ≤ 20 from (by decide)) (by decide)
        have b12_ : 0 ≤ Int32.toInt (M.1 4 (Int32.toNatClampNeg n1)) ∧ Int32.toInt (M.1 4 (Int32.toNatClampNeg n1)) ≤ 1000 := pvok_r hok 4 (Int32.toNatClampNeg n1) rfl
        refine pw_blk hT 5 (S' := (32, [some (pvR 0), some (pvI n1)], [pvI (M.1 4 (Int32.toNatClampNeg n1))], M)) rfl ⟨trivial, rfl, rfl, trivial, ⟨rfl, (zr_in (n := 20) b11_ (by decide) (by decide))⟩, trivial⟩ ?_
        exact pw_ret hT rfl (r := some (pvI (M.1 4 (Int32.toNatClampNeg n1)))) (M' := M) ⟨rfl, rfl⟩ ⟨(by rw [if_neg c1_, if_neg c5_, if_pos c10_]; first | done | (rw [if_pos c10_]; done)), rfl⟩
      · have b13_ : 20 ≤ Int32.toInt n1 ∧ Int32.toInt n1 ≤ 999999 := zr_nlt_l 20 c10_ b8_ (show 20 ≤ Int32.toInt 20 ∧ Int32.toInt 20 ≤ 20 from (by decide)) (by decide)
        refine pw_blk hT 1 (S' := (22, [some (pvR 0), some (pvI n1)], [pvI (-1)], M)) rfl ⟨trivial, trivial⟩ ?_
        exact pw_ret hT rfl (r := some (pvI (-1))) (M' := M) ⟨rfl, rfl⟩ ⟨(by rw [if_neg c1_, if_neg c5_, if_neg c10_]; first | done | (rw [if_neg c10_]; done)), rfl⟩
def fpL_eX6_becomeAs_100_101 : List (Nat × Nat × Nat) := [(0, 100, 1), (0, 108, 0), (0, 116, 0)]
def fp_eX6_becomeAs_100_101 (q k : Nat) : Bool := pvfp fpL_eX6_becomeAs_100_101 q k
theorem fp_eX6_becomeAs_100_101_fp_eX6_append_100_x_x (a b : Nat) (h : fp_eX6_append_100_x_x a b = true) : fp_eX6_becomeAs_100_101 a b = true := pvfp_sub (l1 := fpL_eX6_append_100_x_x) (l2 := fpL_eX6_becomeAs_100_101) (by decide) a b h
theorem fp_eX6_becomeAs_100_101_fp_eX6_clear_100 (a b : Nat) (h : fp_eX6_clear_100 a b = true) : fp_eX6_becomeAs_100_101 a b = true := pvfp_sub (l1 := fpL_eX6_clear_100) (l2 := fpL_eX6_becomeAs_100_101) (by decide) a b h
set_option maxHeartbeats 4000000 in
set_option maxRecDepth 10000 in
theorem se_X6_becomeAs_100_101 (M : pvM) (hok : pvOk M) (d : Nat) : PW 152 d (0, [some (pvR 100), some (pvR 101), none], [], M) (fun r X => r = none ∧ pvOk X ∧ pvFr fp_eX6_becomeAs_100_101 M X ∧ X.1 100 0 = (M.1 101 0) ∧ zC1 108 109 (Int32.toNatClampNeg (M.1 101 0)) M X ∧ zC1 116 117 (Int32.toNatClampNeg (M.1 101 0)) M X) := by
  have hT : pvdom 152 = pvD_152 := rfl
  refine pw_blk hT 1 (S' := (1, [some (pvR 100), some (pvR 101), none], [pvR 100], M)) rfl ⟨trivial, trivial⟩ ?_
  refine pw_callGd hT (as := [pvR 100]) (lo1 := [some (pvR 100)]) (d1 := d) (rest := []) rfl rfl rfl rfl rfl (fun _ => rfl) (Nat.zero_le _) rfl rfl rfl (se_X6_clear_100 M hok d) (fun x2_ M3_ b4_ o5_ g6_ d1_ => ?_)
  have f7_ : pvFr fp_eX6_becomeAs_100_101 M M3_ := pvfr_t g6_ pvfr_0 fp_eX6_becomeAs_100_101_fp_eX6_clear_100
  obtain ⟨b8_, d9_⟩ := b4_
  subst d9_
  refine pw_blk hT 3 (S' := (7, [some (pvR 100), some (pvR 101), some (pvI 0)], [], M3_)) rfl ⟨trivial, trivial, trivial, trivial⟩ ?_
  have hlz90_ : ∀ (nz90_ : Nat) (i2z90_ : Int32) (Mz90_ : pvM), (pvOk Mz90_) → (pvFr fp_eX6_becomeAs_100_101 M Mz90_) → (0 ≤ Int32.toInt i2z90_ ∧ Int32.toInt i2z90_ ≤ 7) → (Mz90_.1 100 0 = i2z90_) → (Int32.toInt i2z90_ ≤ Int32.toInt (M.1 101 0)) → (zC1 108 109 (Int32.toNatClampNeg i2z90_) M Mz90_) → (zC1 116 117 (Int32.toNatClampNeg i2z90_) M Mz90_) → (zhide ((8 - Int32.toInt i2z90_).toNat < nz90_)) → PW 152 d (7, [some (pvR 100), some (pvR 101), some (pvI i2z90_)], [], Mz90_) (fun r X => r = none ∧ pvOk X ∧ pvFr fp_eX6_becomeAs_100_101 M X ∧ X.1 100 0 = (M.1 101 0) ∧ zC1 108 109 (Int32.toNatClampNeg (M.1 101 0)) M X ∧ zC1 116 117 (Int32.toNatClampNeg (M.1 101 0)) M X) := by
    intro nz90_
    induction nz90_ with
    | zero => intro i2z90_ Mz90_ oz90_ fz90_ h2z90_ j0z90_ j1z90_ j2z90_ j3z90_ hmz90_; exact absurd (zshow hmz90_) (Nat.not_lt_zero _)
    | succ nz90_ ihz90_ =>
      intro i2z90_ Mz90_ oz90_ fz90_ h2z90_ j0z90_ j1z90_ j2z90_ j3z90_ hmz90_
      have b91_ : 0 ≤ Int32.toInt (Mz90_.1 101 0) ∧ Int32.toInt (Mz90_.1 101 0) ≤ 7 := pvok_r oz90_ 101 0 rfl
      refine pw_blk hT 3 (S' := (12, [some (pvR 100), some (pvR 101), some (pvI i2z90_)], [pvI (Mz90_.1 101 0), pvI i2z90_], Mz90_)) rfl ⟨trivial, trivial, rfl, trivial⟩ ?_
      refine pw_ic hT (c := (Mz90_.1 101 0) ≤ i2z90_) rfl rfl (fun c92_ => ?_) (fun c92_ => ?_)
      · have d93_ : Int32.toInt (Mz90_.1 101 0) ≤ Int32.toInt i2z90_ := (zi_le _ _).mp c92_
        exact pw_ret hT rfl (r := none) (M' := Mz90_) ⟨rfl, rfl⟩ ⟨rfl, oz90_, fz90_, (Int32.toInt_inj.mp (by have z3 : Mz90_.1 101 0 = M.1 101 0 := fz90_ 101 0 rfl; have z4 := congrArg Int32.toInt z3; have z5 := congrArg Int32.toInt j0z90_; omega)), (zC1_n (show Int32.toNatClampNeg (M.1 101 0) = Int32.toNatClampNeg i2z90_ from by have z3 : Mz90_.1 101 0 = M.1 101 0 := fz90_ 101 0 rfl; have z4 := congrArg Int32.toInt z3; show (M.1 101 0).toInt.toNat = i2z90_.toInt.toNat; omega) j2z90_), (zC1_n (show Int32.toNatClampNeg (M.1 101 0) = Int32.toNatClampNeg i2z90_ from by have z3 : Mz90_.1 101 0 = M.1 101 0 := fz90_ 101 0 rfl; have z4 := congrArg Int32.toInt z3; show (M.1 101 0).toInt.toNat = i2z90_.toInt.toNat; omega) j3z90_)⟩
      · have b94_ : 1 ≤ Int32.toInt (Mz90_.1 101 0) ∧ Int32.toInt (Mz90_.1 101 0) ≤ 7 := zr_nle_l 1 c92_ b91_ h2z90_ (by decide)
        have b95_ : 0 ≤ Int32.toInt i2z90_ ∧ Int32.toInt i2z90_ ≤ 6 := zr_nle_r 6 c92_ h2z90_ b94_ (by decide)
        have d96_ : Int32.toInt (Mz90_.1 101 0) > Int32.toInt i2z90_ := Int.not_le.mp ((not_congr (zi_le _ _)).mp c92_)
        have b97_ : 0 ≤ Int32.toInt (Mz90_.1 109 (Int32.toNatClampNeg i2z90_)) ∧ Int32.toInt (Mz90_.1 109 (Int32.toNatClampNeg i2z90_)) ≤ 6 := pvok_r oz90_ 109 (Int32.toNatClampNeg i2z90_) rfl
        have b98_ : 0 ≤ Int32.toInt (Mz90_.1 117 (Int32.toNatClampNeg i2z90_)) ∧ Int32.toInt (Mz90_.1 117 (Int32.toNatClampNeg i2z90_)) ≤ 9999 := pvok_r oz90_ 117 (Int32.toNatClampNeg i2z90_) rfl
        refine pw_blk hT 9 (S' := (28, [some (pvR 100), some (pvR 101), some (pvI i2z90_)], [pvI (Mz90_.1 117 (Int32.toNatClampNeg i2z90_)), pvI (Mz90_.1 109 (Int32.toNatClampNeg i2z90_)), pvR 100], Mz90_)) rfl ⟨trivial, trivial, rfl, trivial, ⟨rfl, (zr_in (n := 7) b95_ (by decide) (by decide))⟩, trivial, rfl, trivial, ⟨rfl, (zr_in (n := 7) b95_ (by decide) (by decide))⟩, trivial⟩ ?_
        refine pw_callGd hT (as := [pvR 100, pvI (Mz90_.1 109 (Int32.toNatClampNeg i2z90_)), pvI (Mz90_.1 117 (Int32.toNatClampNeg i2z90_))]) (lo1 := [some (pvR 100), some (pvI (Mz90_.1 109 (Int32.toNatClampNeg i2z90_))), some (pvI (Mz90_.1 117 (Int32.toNatClampNeg i2z90_)))]) (d1 := d) (rest := []) rfl rfl rfl rfl rfl (fun _ => rfl) (Nat.zero_le _) rfl rfl rfl (se_X6_append_100_x_x Mz90_ oz90_ (Mz90_.1 109 (Int32.toNatClampNeg i2z90_)) (Mz90_.1 117 (Int32.toNatClampNeg i2z90_)) b97_ b98_ d) (fun x100_ M101_ b102_ o103_ g104_ d99_ => ?_)
        have f105_ : pvFr fp_eX6_becomeAs_100_101 M M101_ := pvfr_t g104_ fz90_ fp_eX6_becomeAs_100_101_fp_eX6_append_100_x_x
        obtain ⟨b106_, d107_⟩ := b102_
        subst d107_
        obtain ⟨q109_, b108_⟩ : (Int32.toInt (i2z90_ + 1) = Int32.toInt i2z90_ + 1) ∧ (1 ≤ Int32.toInt (i2z90_ + 1) ∧ Int32.toInt (i2z90_ + 1) ≤ 7) := zadd_k i2z90_ 1 1 1 7 b95_ (by decide) (by decide) (by decide) (by decide) (by decide)
        refine pw_blk hT 3 (S' := (7, [some (pvR 100), some (pvR 101), some (pvI (i2z90_ + 1))], [], M101_)) rfl ⟨trivial, trivial, trivial, trivial⟩ ?_
        have j110_ : M101_.1 100 0 = (i2z90_ + 1) := (by have z1 : Int32.toInt (Int32.ofNat 7) = 7 := (by decide); have z2 := pvok_r oz90_ 101 0 rfl; have z3 : Mz90_.1 101 0 = M.1 101 0 := fz90_ 101 0 rfl; have z4 := congrArg Int32.toInt z3; rw [d99_.2, j0z90_, if_pos ((zi_lt _ _).mpr (by omega))])
        have j111_ : Int32.toInt (i2z90_ + 1) ≤ Int32.toInt (M.1 101 0) := (by have z3 : Mz90_.1 101 0 = M.1 101 0 := fz90_ 101 0 rfl; have z4 := congrArg Int32.toInt z3; omega)
        have j112_ : zC1 108 109 (Int32.toNatClampNeg (i2z90_ + 1)) M M101_ := (zC1_n (znp1 b95_ (by decide) (by decide)) (zC1_ap j2z90_ d99_.1 j0z90_ (by have u := b95_; omega) (fz90_ 109 (Int32.toNatClampNeg i2z90_) rfl)))
        have j113_ : zC1 116 117 (Int32.toNatClampNeg (i2z90_ + 1)) M M101_ := (zC1_n (znp1 b95_ (by decide) (by decide)) (zC1_bp j3z90_ d99_.1 j0z90_ (by have u := b95_; omega) (fz90_ 117 (Int32.toNatClampNeg i2z90_) rfl)))
        exact ihz90_ (i2z90_ + 1) M101_ o103_ f105_ (zr_wide b108_ (by decide) (by decide)) j110_ j111_ j112_ j113_ (zhid (pvms_up (zshow hmz90_) h2z90_ q109_ (by decide) (by decide)))
  have u114_ : Int32.toInt 0 = 0 := by decide
  have j115_ : M3_.1 100 0 = 0 := d1_
  have j116_ : Int32.toInt 0 ≤ Int32.toInt (M.1 101 0) := (by have z := pvok_r hok 101 0 rfl; have u : Int32.toInt 0 = 0 := (by decide); omega)
  have j117_ : zC1 108 109 (Int32.toNatClampNeg 0) M M3_ := (zC1_0 108 109 M M3_)
  have j118_ : zC1 116 117 (Int32.toNatClampNeg 0) M M3_ := (zC1_0 116 117 M M3_)
  exact hlz90_ _ 0 M3_ o5_ f7_ (zr_wide (show 0 ≤ Int32.toInt 0 ∧ Int32.toInt 0 ≤ 0 from (by decide)) (by decide) (by decide)) j115_ j116_ j117_ j118_ (zhid (Nat.lt_succ_self _))
def fpL_eX6_becomeAs_102_103 : List (Nat × Nat × Nat) := [(0, 102, 1), (0, 110, 0), (0, 118, 0)]
def fp_eX6_becomeAs_102_103 (q k : Nat) : Bool := pvfp fpL_eX6_becomeAs_102_103 q k
theorem fp_eX6_becomeAs_102_103_fp_eX6_append_102_x_x (a b : Nat) (h : fp_eX6_append_102_x_x a b = true) : fp_eX6_becomeAs_102_103 a b = true := pvfp_sub (l1 := fpL_eX6_append_102_x_x) (l2 := fpL_eX6_becomeAs_102_103) (by decide) a b h
theorem fp_eX6_becomeAs_102_103_fp_eX6_clear_102 (a b : Nat) (h : fp_eX6_clear_102 a b = true) : fp_eX6_becomeAs_102_103 a b = true := pvfp_sub (l1 := fpL_eX6_clear_102) (l2 := fpL_eX6_becomeAs_102_103) (by decide) a b h
set_option maxHeartbeats 4000000 in
set_option maxRecDepth 10000 in
theorem se_X6_becomeAs_102_103 (M : pvM) (hok : pvOk M) (d : Nat) : PW 152 d (0, [some (pvR 102), some (pvR 103), none], [], M) (fun r X => r = none ∧ pvOk X ∧ pvFr fp_eX6_becomeAs_102_103 M X ∧ X.1 102 0 = (M.1 103 0) ∧ zC1 110 111 (Int32.toNatClampNeg (M.1 103 0)) M X ∧ zC1 118 119 (Int32.toNatClampNeg (M.1 103 0)) M X) := by
  have hT : pvdom 152 = pvD_152 := rfl
  refine pw_blk hT 1 (S' := (1, [some (pvR 102), some (pvR 103), none], [pvR 102], M)) rfl ⟨trivial, trivial⟩ ?_
  refine pw_callGd hT (as := [pvR 102]) (lo1 := [some (pvR 102)]) (d1 := d) (rest := []) rfl rfl rfl rfl rfl (fun _ => rfl) (Nat.zero_le _) rfl rfl rfl (se_X6_clear_102 M hok d) (fun x2_ M3_ b4_ o5_ g6_ d1_ => ?_)
  have f7_ : pvFr fp_eX6_becomeAs_102_103 M M3_ := pvfr_t g6_ pvfr_0 fp_eX6_becomeAs_102_103_fp_eX6_clear_102
  obtain ⟨b8_, d9_⟩ := b4_
  subst d9_
  refine pw_blk hT 3 (S' := (7, [some (pvR 102), some (pvR 103), some (pvI 0)], [], M3_)) rfl ⟨trivial, trivial, trivial, trivial⟩ ?_
  have hlz90_ : ∀ (nz90_ : Nat) (i2z90_ : Int32) (Mz90_ : pvM), (pvOk Mz90_) → (pvFr fp_eX6_becomeAs_102_103 M Mz90_) → (0 ≤ Int32.toInt i2z90_ ∧ Int32.toInt i2z90_ ≤ 6) → (Mz90_.1 102 0 = i2z90_) → (Int32.toInt i2z90_ ≤ Int32.toInt (M.1 103 0)) → (zC1 110 111 (Int32.toNatClampNeg i2z90_) M Mz90_) → (zC1 118 119 (Int32.toNatClampNeg i2z90_) M Mz90_) → (zhide ((7 - Int32.toInt i2z90_).toNat < nz90_)) → PW 152 d (7, [some (pvR 102), some (pvR 103), some (pvI i2z90_)], [], Mz90_) (fun r X => r = none ∧ pvOk X ∧ pvFr fp_eX6_becomeAs_102_103 M X ∧ X.1 102 0 = (M.1 103 0) ∧ zC1 110 111 (Int32.toNatClampNeg (M.1 103 0)) M X ∧ zC1 118 119 (Int32.toNatClampNeg (M.1 103 0)) M X) := by
    intro nz90_
    induction nz90_ with
    | zero => intro i2z90_ Mz90_ oz90_ fz90_ h2z90_ j0z90_ j1z90_ j2z90_ j3z90_ hmz90_; exact absurd (zshow hmz90_) (Nat.not_lt_zero _)
    | succ nz90_ ihz90_ =>
      intro i2z90_ Mz90_ oz90_ fz90_ h2z90_ j0z90_ j1z90_ j2z90_ j3z90_ hmz90_
      have b91_ : 0 ≤ Int32.toInt (Mz90_.1 103 0) ∧ Int32.toInt (Mz90_.1 103 0) ≤ 6 := pvok_r oz90_ 103 0 rfl
      refine pw_blk hT 3 (S' := (12, [some (pvR 102), some (pvR 103), some (pvI i2z90_)], [pvI (Mz90_.1 103 0), pvI i2z90_], Mz90_)) rfl ⟨trivial, trivial, rfl, trivial⟩ ?_
      refine pw_ic hT (c := (Mz90_.1 103 0) ≤ i2z90_) rfl rfl (fun c92_ => ?_) (fun c92_ => ?_)
      · have d93_ : Int32.toInt (Mz90_.1 103 0) ≤ Int32.toInt i2z90_ := (zi_le _ _).mp c92_
        exact pw_ret hT rfl (r := none) (M' := Mz90_) ⟨rfl, rfl⟩ ⟨rfl, oz90_, fz90_, (Int32.toInt_inj.mp (by have z3 : Mz90_.1 103 0 = M.1 103 0 := fz90_ 103 0 rfl; have z4 := congrArg Int32.toInt z3; have z5 := congrArg Int32.toInt j0z90_; omega)), (zC1_n (show Int32.toNatClampNeg (M.1 103 0) = Int32.toNatClampNeg i2z90_ from by have z3 : Mz90_.1 103 0 = M.1 103 0 := fz90_ 103 0 rfl; have z4 := congrArg Int32.toInt z3; show (M.1 103 0).toInt.toNat = i2z90_.toInt.toNat; omega) j2z90_), (zC1_n (show Int32.toNatClampNeg (M.1 103 0) = Int32.toNatClampNeg i2z90_ from by have z3 : Mz90_.1 103 0 = M.1 103 0 := fz90_ 103 0 rfl; have z4 := congrArg Int32.toInt z3; show (M.1 103 0).toInt.toNat = i2z90_.toInt.toNat; omega) j3z90_)⟩
      · have b94_ : 1 ≤ Int32.toInt (Mz90_.1 103 0) ∧ Int32.toInt (Mz90_.1 103 0) ≤ 6 := zr_nle_l 1 c92_ b91_ h2z90_ (by decide)
        have b95_ : 0 ≤ Int32.toInt i2z90_ ∧ Int32.toInt i2z90_ ≤ 5 := zr_nle_r 5 c92_ h2z90_ b94_ (by decide)
        have d96_ : Int32.toInt (Mz90_.1 103 0) > Int32.toInt i2z90_ := Int.not_le.mp ((not_congr (zi_le _ _)).mp c92_)
        have b97_ : 0 ≤ Int32.toInt (Mz90_.1 111 (Int32.toNatClampNeg i2z90_)) ∧ Int32.toInt (Mz90_.1 111 (Int32.toNatClampNeg i2z90_)) ≤ 6 := pvok_r oz90_ 111 (Int32.toNatClampNeg i2z90_) rfl
        have b98_ : 0 ≤ Int32.toInt (Mz90_.1 119 (Int32.toNatClampNeg i2z90_)) ∧ Int32.toInt (Mz90_.1 119 (Int32.toNatClampNeg i2z90_)) ≤ 9999 := pvok_r oz90_ 119 (Int32.toNatClampNeg i2z90_) rfl
        refine pw_blk hT 9 (S' := (28, [some (pvR 102), some (pvR 103), some (pvI i2z90_)], [pvI (Mz90_.1 119 (Int32.toNatClampNeg i2z90_)), pvI (Mz90_.1 111 (Int32.toNatClampNeg i2z90_)), pvR 102], Mz90_)) rfl ⟨trivial, trivial, rfl, trivial, ⟨rfl, (zr_in (n := 6) b95_ (by decide) (by decide))⟩, trivial, rfl, trivial, ⟨rfl, (zr_in (n := 6) b95_ (by decide) (by decide))⟩, trivial⟩ ?_
        refine pw_callGd hT (as := [pvR 102, pvI (Mz90_.1 111 (Int32.toNatClampNeg i2z90_)), pvI (Mz90_.1 119 (Int32.toNatClampNeg i2z90_))]) (lo1 := [some (pvR 102), some (pvI (Mz90_.1 111 (Int32.toNatClampNeg i2z90_))), some (pvI (Mz90_.1 119 (Int32.toNatClampNeg i2z90_)))]) (d1 := d) (rest := []) rfl rfl rfl rfl rfl (fun _ => rfl) (Nat.zero_le _) rfl rfl rfl (se_X6_append_102_x_x Mz90_ oz90_ (Mz90_.1 111 (Int32.toNatClampNeg i2z90_)) (Mz90_.1 119 (Int32.toNatClampNeg i2z90_)) b97_ b98_ d) (fun x100_ M101_ b102_ o103_ g104_ d99_ => ?_)
        have f105_ : pvFr fp_eX6_becomeAs_102_103 M M101_ := pvfr_t g104_ fz90_ fp_eX6_becomeAs_102_103_fp_eX6_append_102_x_x
        obtain ⟨b106_, d107_⟩ := b102_
        subst d107_
        obtain ⟨q109_, b108_⟩ : (Int32.toInt (i2z90_ + 1) = Int32.toInt i2z90_ + 1) ∧ (1 ≤ Int32.toInt (i2z90_ + 1) ∧ Int32.toInt (i2z90_ + 1) ≤ 6) := zadd_k i2z90_ 1 1 1 6 b95_ (by decide) (by decide) (by decide) (by decide) (by decide)
        refine pw_blk hT 3 (S' := (7, [some (pvR 102), some (pvR 103), some (pvI (i2z90_ + 1))], [], M101_)) rfl ⟨trivial, trivial, trivial, trivial⟩ ?_
        have j110_ : M101_.1 102 0 = (i2z90_ + 1) := (by have z1 : Int32.toInt (Int32.ofNat 6) = 6 := (by decide); have z2 := pvok_r oz90_ 103 0 rfl; have z3 : Mz90_.1 103 0 = M.1 103 0 := fz90_ 103 0 rfl; have z4 := congrArg Int32.toInt z3; rw [d99_.2, j0z90_, if_pos ((zi_lt _ _).mpr (by omega))])
        have j111_ : Int32.toInt (i2z90_ + 1) ≤ Int32.toInt (M.1 103 0) := (by have z3 : Mz90_.1 103 0 = M.1 103 0 := fz90_ 103 0 rfl; have z4 := congrArg Int32.toInt z3; omega)
        have j112_ : zC1 110 111 (Int32.toNatClampNeg (i2z90_ + 1)) M M101_ := (zC1_n (znp1 b95_ (by decide) (by decide)) (zC1_ap j2z90_ d99_.1 j0z90_ (by have u := b95_; omega) (fz90_ 111 (Int32.toNatClampNeg i2z90_) rfl)))
        have j113_ : zC1 118 119 (Int32.toNatClampNeg (i2z90_ + 1)) M M101_ := (zC1_n (znp1 b95_ (by decide) (by decide)) (zC1_bp j3z90_ d99_.1 j0z90_ (by have u := b95_; omega) (fz90_ 119 (Int32.toNatClampNeg i2z90_) rfl)))
        exact ihz90_ (i2z90_ + 1) M101_ o103_ f105_ (zr_wide b108_ (by decide) (by decide)) j110_ j111_ j112_ j113_ (zhid (pvms_up (zshow hmz90_) h2z90_ q109_ (by decide) (by decide)))
  have u114_ : Int32.toInt 0 = 0 := by decide
  have j115_ : M3_.1 102 0 = 0 := d1_
  have j116_ : Int32.toInt 0 ≤ Int32.toInt (M.1 103 0) := (by have z := pvok_r hok 103 0 rfl; have u : Int32.toInt 0 = 0 := (by decide); omega)
  have j117_ : zC1 110 111 (Int32.toNatClampNeg 0) M M3_ := (zC1_0 110 111 M M3_)
  have j118_ : zC1 118 119 (Int32.toNatClampNeg 0) M M3_ := (zC1_0 118 119 M M3_)
  exact hlz90_ _ 0 M3_ o5_ f7_ (zr_wide (show 0 ≤ Int32.toInt 0 ∧ Int32.toInt 0 ≤ 0 from (by decide)) (by decide) (by decide)) j115_ j116_ j117_ j118_ (zhid (Nat.lt_succ_self _))
def fpL_eX6_becomeAs_104_105 : List (Nat × Nat × Nat) := [(0, 104, 1), (0, 112, 0), (0, 120, 0)]
def fp_eX6_becomeAs_104_105 (q k : Nat) : Bool := pvfp fpL_eX6_becomeAs_104_105 q k
theorem fp_eX6_becomeAs_104_105_fp_eX6_append_104_x_x (a b : Nat) (h : fp_eX6_append_104_x_x a b = true) : fp_eX6_becomeAs_104_105 a b = true := pvfp_sub (l1 := fpL_eX6_append_104_x_x) (l2 := fpL_eX6_becomeAs_104_105) (by decide) a b h
theorem fp_eX6_becomeAs_104_105_fp_eX6_clear_104 (a b : Nat) (h : fp_eX6_clear_104 a b = true) : fp_eX6_becomeAs_104_105 a b = true := pvfp_sub (l1 := fpL_eX6_clear_104) (l2 := fpL_eX6_becomeAs_104_105) (by decide) a b h
set_option maxHeartbeats 4000000 in
set_option maxRecDepth 10000 in
theorem se_X6_becomeAs_104_105 (M : pvM) (hok : pvOk M) (d : Nat) : PW 152 d (0, [some (pvR 104), some (pvR 105), none], [], M) (fun r X => r = none ∧ pvOk X ∧ pvFr fp_eX6_becomeAs_104_105 M X ∧ X.1 104 0 = (M.1 105 0) ∧ zC1 112 113 (Int32.toNatClampNeg (M.1 105 0)) M X ∧ zC1 120 121 (Int32.toNatClampNeg (M.1 105 0)) M X) := by
  have hT : pvdom 152 = pvD_152 := rfl
  refine pw_blk hT 1 (S' := (1, [some (pvR 104), some (pvR 105), none], [pvR 104], M)) rfl ⟨trivial, trivial⟩ ?_
  refine pw_callGd hT (as := [pvR 104]) (lo1 := [some (pvR 104)]) (d1 := d) (rest := []) rfl rfl rfl rfl rfl (fun _ => rfl) (Nat.zero_le _) rfl rfl rfl (se_X6_clear_104 M hok d) (fun x2_ M3_ b4_ o5_ g6_ d1_ => ?_)
  have f7_ : pvFr fp_eX6_becomeAs_104_105 M M3_ := pvfr_t g6_ pvfr_0 fp_eX6_becomeAs_104_105_fp_eX6_clear_104
  obtain ⟨b8_, d9_⟩ := b4_
  subst d9_
  refine pw_blk hT 3 (S' := (7, [some (pvR 104), some (pvR 105), some (pvI 0)], [], M3_)) rfl ⟨trivial, trivial, trivial, trivial⟩ ?_
  have hlz90_ : ∀ (nz90_ : Nat) (i2z90_ : Int32) (Mz90_ : pvM), (pvOk Mz90_) → (pvFr fp_eX6_becomeAs_104_105 M Mz90_) → (0 ≤ Int32.toInt i2z90_ ∧ Int32.toInt i2z90_ ≤ 8) → (Mz90_.1 104 0 = i2z90_) → (Int32.toInt i2z90_ ≤ Int32.toInt (M.1 105 0)) → (zC1 112 113 (Int32.toNatClampNeg i2z90_) M Mz90_) → (zC1 120 121 (Int32.toNatClampNeg i2z90_) M Mz90_) → (zhide ((9 - Int32.toInt i2z90_).toNat < nz90_)) → PW 152 d (7, [some (pvR 104), some (pvR 105), some (pvI i2z90_)], [], Mz90_) (fun r X => r = none ∧ pvOk X ∧ pvFr fp_eX6_becomeAs_104_105 M X ∧ X.1 104 0 = (M.1 105 0) ∧ zC1 112 113 (Int32.toNatClampNeg (M.1 105 0)) M X ∧ zC1 120 121 (Int32.toNatClampNeg (M.1 105 0)) M X) := by
    intro nz90_
    induction nz90_ with
    | zero => intro i2z90_ Mz90_ oz90_ fz90_ h2z90_ j0z90_ j1z90_ j2z90_ j3z90_ hmz90_; exact absurd (zshow hmz90_) (Nat.not_lt_zero _)
    | succ nz90_ ihz90_ =>
      intro i2z90_ Mz90_ oz90_ fz90_ h2z90_ j0z90_ j1z90_ j2z90_ j3z90_ hmz90_
      have b91_ : 0 ≤ Int32.toInt (Mz90_.1 105 0) ∧ Int32.toInt (Mz90_.1 105 0) ≤ 8 := pvok_r oz90_ 105 0 rfl
      refine pw_blk hT 3 (S' := (12, [some (pvR 104), some (pvR 105), some (pvI i2z90_)], [pvI (Mz90_.1 105 0), pvI i2z90_], Mz90_)) rfl ⟨trivial, trivial, rfl, trivial⟩ ?_
      refine pw_ic hT (c := (Mz90_.1 105 0) ≤ i2z90_) rfl rfl (fun c92_ => ?_) (fun c92_ => ?_)
      · have d93_ : Int32.toInt (Mz90_.1 105 0) ≤ Int32.toInt i2z90_ := (zi_le _ _).mp c92_
        exact pw_ret hT rfl (r := none) (M' := Mz90_) ⟨rfl, rfl⟩ ⟨rfl, oz90_, fz90_, (Int32.toInt_inj.mp (by have z3 : Mz90_.1 105 0 = M.1 105 0 := fz90_ 105 0 rfl; have z4 := congrArg Int32.toInt z3; have z5 := congrArg Int32.toInt j0z90_; omega)), (zC1_n (show Int32.toNatClampNeg (M.1 105 0) = Int32.toNatClampNeg i2z90_ from by have z3 : Mz90_.1 105 0 = M.1 105 0 := fz90_ 105 0 rfl; have z4 := congrArg Int32.toInt z3; show (M.1 105 0).toInt.toNat = i2z90_.toInt.toNat; omega) j2z90_), (zC1_n (show Int32.toNatClampNeg (M.1 105 0) = Int32.toNatClampNeg i2z90_ from by have z3 : Mz90_.1 105 0 = M.1 105 0 := fz90_ 105 0 rfl; have z4 := congrArg Int32.toInt z3; show (M.1 105 0).toInt.toNat = i2z90_.toInt.toNat; omega) j3z90_)⟩
      · have b94_ : 1 ≤ Int32.toInt (Mz90_.1 105 0) ∧ Int32.toInt (Mz90_.1 105 0) ≤ 8 := zr_nle_l 1 c92_ b91_ h2z90_ (by decide)
        have b95_ : 0 ≤ Int32.toInt i2z90_ ∧ Int32.toInt i2z90_ ≤ 7 := zr_nle_r 7 c92_ h2z90_ b94_ (by decide)
        have d96_ : Int32.toInt (Mz90_.1 105 0) > Int32.toInt i2z90_ := Int.not_le.mp ((not_congr (zi_le _ _)).mp c92_)
        have b97_ : 0 ≤ Int32.toInt (Mz90_.1 113 (Int32.toNatClampNeg i2z90_)) ∧ Int32.toInt (Mz90_.1 113 (Int32.toNatClampNeg i2z90_)) ≤ 6 := pvok_r oz90_ 113 (Int32.toNatClampNeg i2z90_) rfl
        have b98_ : 0 ≤ Int32.toInt (Mz90_.1 121 (Int32.toNatClampNeg i2z90_)) ∧ Int32.toInt (Mz90_.1 121 (Int32.toNatClampNeg i2z90_)) ≤ 9999 := pvok_r oz90_ 121 (Int32.toNatClampNeg i2z90_) rfl
        refine pw_blk hT 9 (S' := (28, [some (pvR 104), some (pvR 105), some (pvI i2z90_)], [pvI (Mz90_.1 121 (Int32.toNatClampNeg i2z90_)), pvI (Mz90_.1 113 (Int32.toNatClampNeg i2z90_)), pvR 104], Mz90_)) rfl ⟨trivial, trivial, rfl, trivial, ⟨rfl, (zr_in (n := 8) b95_ (by decide) (by decide))⟩, trivial, rfl, trivial, ⟨rfl, (zr_in (n := 8) b95_ (by decide) (by decide))⟩, trivial⟩ ?_
        refine pw_callGd hT (as := [pvR 104, pvI (Mz90_.1 113 (Int32.toNatClampNeg i2z90_)), pvI (Mz90_.1 121 (Int32.toNatClampNeg i2z90_))]) (lo1 := [some (pvR 104), some (pvI (Mz90_.1 113 (Int32.toNatClampNeg i2z90_))), some (pvI (Mz90_.1 121 (Int32.toNatClampNeg i2z90_)))]) (d1 := d) (rest := []) rfl rfl rfl rfl rfl (fun _ => rfl) (Nat.zero_le _) rfl rfl rfl (se_X6_append_104_x_x Mz90_ oz90_ (Mz90_.1 113 (Int32.toNatClampNeg i2z90_)) (Mz90_.1 121 (Int32.toNatClampNeg i2z90_)) b97_ b98_ d) (fun x100_ M101_ b102_ o103_ g104_ d99_ => ?_)
        have f105_ : pvFr fp_eX6_becomeAs_104_105 M M101_ := pvfr_t g104_ fz90_ fp_eX6_becomeAs_104_105_fp_eX6_append_104_x_x
        obtain ⟨b106_, d107_⟩ := b102_
        subst d107_
        obtain ⟨q109_, b108_⟩ : (Int32.toInt (i2z90_ + 1) = Int32.toInt i2z90_ + 1) ∧ (1 ≤ Int32.toInt (i2z90_ + 1) ∧ Int32.toInt (i2z90_ + 1) ≤ 8) := zadd_k i2z90_ 1 1 1 8 b95_ (by decide) (by decide) (by decide) (by decide) (by decide)
        refine pw_blk hT 3 (S' := (7, [some (pvR 104), some (pvR 105), some (pvI (i2z90_ + 1))], [], M101_)) rfl ⟨trivial, trivial, trivial, trivial⟩ ?_
        have j110_ : M101_.1 104 0 = (i2z90_ + 1) := (by have z1 : Int32.toInt (Int32.ofNat 8) = 8 := (by decide); have z2 := pvok_r oz90_ 105 0 rfl; have z3 : Mz90_.1 105 0 = M.1 105 0 := fz90_ 105 0 rfl; have z4 := congrArg Int32.toInt z3; rw [d99_.2, j0z90_, if_pos ((zi_lt _ _).mpr (by omega))])
        have j111_ : Int32.toInt (i2z90_ + 1) ≤ Int32.toInt (M.1 105 0) := (by have z3 : Mz90_.1 105 0 = M.1 105 0 := fz90_ 105 0 rfl; have z4 := congrArg Int32.toInt z3; omega)
        have j112_ : zC1 112 113 (Int32.toNatClampNeg (i2z90_ + 1)) M M101_ := (zC1_n (znp1 b95_ (by decide) (by decide)) (zC1_ap j2z90_ d99_.1 j0z90_ (by have u := b95_; omega) (fz90_ 113 (Int32.toNatClampNeg i2z90_) rfl)))
        have j113_ : zC1 120 121 (Int32.toNatClampNeg (i2z90_ + 1)) M M101_ := (zC1_n (znp1 b95_ (by decide) (by decide)) (zC1_bp j3z90_ d99_.1 j0z90_ (by have u := b95_; omega) (fz90_ 121 (Int32.toNatClampNeg i2z90_) rfl)))
        exact ihz90_ (i2z90_ + 1) M101_ o103_ f105_ (zr_wide b108_ (by decide) (by decide)) j110_ j111_ j112_ j113_ (zhid (pvms_up (zshow hmz90_) h2z90_ q109_ (by decide) (by decide)))
  have u114_ : Int32.toInt 0 = 0 := by decide
  have j115_ : M3_.1 104 0 = 0 := d1_
  have j116_ : Int32.toInt 0 ≤ Int32.toInt (M.1 105 0) := (by have z := pvok_r hok 105 0 rfl; have u : Int32.toInt 0 = 0 := (by decide); omega)
  have j117_ : zC1 112 113 (Int32.toNatClampNeg 0) M M3_ := (zC1_0 112 113 M M3_)
  have j118_ : zC1 120 121 (Int32.toNatClampNeg 0) M M3_ := (zC1_0 120 121 M M3_)
  exact hlz90_ _ 0 M3_ o5_ f7_ (zr_wide (show 0 ≤ Int32.toInt 0 ∧ Int32.toInt 0 ≤ 0 from (by decide)) (by decide) (by decide)) j115_ j116_ j117_ j118_ (zhid (Nat.lt_succ_self _))
def fpL_eX4_becomeNew_60_x_x_x_x_x : List (Nat × Nat × Nat) := [(0, 60, 1), (0, 60, 2), (0, 60, 3), (0, 60, 4), (0, 60, 5), (0, 60, 6), (0, 67, 0)]
def fp_eX4_becomeNew_60_x_x_x_x_x (q k : Nat) : Bool := pvfp fpL_eX4_becomeNew_60_x_x_x_x_x q k
set_option maxHeartbeats 4000000 in
set_option maxRecDepth 10000 in
theorem se_X4_becomeNew_60_x_x_x_x_x (M : pvM) (hok : pvOk M) (n1 : Int32) (n2 : Int32) (n3 : Int32) (n4 : Int32) (n5 : Int32) (hn1 : 0 ≤ Int32.toInt n1 ∧ Int32.toInt n1 ≤ 6) (hn2 : 0 ≤ Int32.toInt n2 ∧ Int32.toInt n2 ≤ 9) (hn3 : 0 ≤ Int32.toInt n3 ∧ Int32.toInt n3 ≤ 3) (hn4 : 0 ≤ Int32.toInt n4 ∧ Int32.toInt n4 ≤ 4) (hn5 : 0 ≤ Int32.toInt n5 ∧ Int32.toInt n5 ≤ 9) (d : Nat) : PW 134 d (0, [some (pvR 60), some (pvI n1), some (pvI n2), some (pvI n3), some (pvI n4), some (pvI n5), none], [], M) (fun r X => r = none ∧ pvOk X ∧ pvFr fp_eX4_becomeNew_60_x_x_x_x_x M X ∧ X.1 60 0 = n1 ∧ X.1 60 1 = n2 ∧ X.1 60 2 = n3 ∧ X.1 60 3 = n4 ∧ X.1 60 4 = n5 ∧ X.1 67 0 = 0 ∧ X.1 67 1 = 0 ∧ X.1 67 2 = 0 ∧ X.1 67 3 = 0 ∧ X.1 60 5 = 0) := by
  have hT : pvdom 134 = pvD_134 := rfl
  refine pw_blkw hT 3 (pc := 5) (lo := [some (pvR 60), some (pvI n1), some (pvI n2), some (pvI n3), some (pvI n4), some (pvI n5), none]) (st := []) (M := pvu M 60 0 n1) rfl ⟨trivial, trivial, rfl, trivial⟩ (fun M1_ e2_ => ?_)
  have o3_ : pvOk M1_ := pvok_u2 e2_ hok rfl hn1
  have f4_ : pvFr fp_eX4_becomeNew_60_x_x_x_x_x M M1_ := pvfr_u e2_ pvfr_0 rfl
  refine pw_blkw hT 3 (pc := 10) (lo := [some (pvR 60), some (pvI n1), some (pvI n2), some (pvI n3), some (pvI n4), some (pvI n5), none]) (st := []) (M := pvu M1_ 60 1 n2) rfl ⟨trivial, trivial, rfl, trivial⟩ (fun M5_ e6_ => ?_)
  have o7_ : pvOk M5_ := pvok_u2 e6_ o3_ rfl hn2
  have f8_ : pvFr fp_eX4_becomeNew_60_x_x_x_x_x M M5_ := pvfr_u e6_ f4_ rfl
  refine pw_blkw hT 3 (pc := 15) (lo := [some (pvR 60), some (pvI n1), some (pvI n2), some (pvI n3), some (pvI n4), some (pvI n5), none]) (st := []) (M := pvu M5_ 60 2 n3) rfl ⟨trivial, trivial, rfl, trivial⟩ (fun M9_ e10_ => ?_)
  have o11_ : pvOk M9_ := pvok_u2 e10_ o7_ rfl hn3
  have f12_ : pvFr fp_eX4_becomeNew_60_x_x_x_x_x M M9_ := pvfr_u e10_ f8_ rfl
  refine pw_blkw hT 3 (pc := 21) (lo := [some (pvR 60), some (pvI n1), some (pvI n2), some (pvI n3), some (pvI n4), some (pvI n5), none]) (st := []) (M := pvu M9_ 60 3 n4) rfl ⟨trivial, trivial, rfl, trivial⟩ (fun M13_ e14_ => ?_)
  have o15_ : pvOk M13_ := pvok_u2 e14_ o11_ rfl hn4
  have f16_ : pvFr fp_eX4_becomeNew_60_x_x_x_x_x M M13_ := pvfr_u e14_ f12_ rfl
  refine pw_blkw hT 3 (pc := 27) (lo := [some (pvR 60), some (pvI n1), some (pvI n2), some (pvI n3), some (pvI n4), some (pvI n5), none]) (st := []) (M := pvu M13_ 60 4 n5) rfl ⟨trivial, trivial, rfl, trivial⟩ (fun M17_ e18_ => ?_)
  have o19_ : pvOk M17_ := pvok_u2 e18_ o15_ rfl hn5
  have f20_ : pvFr fp_eX4_becomeNew_60_x_x_x_x_x M M17_ := pvfr_u e18_ f16_ rfl
  refine pw_blkw hT 3 (pc := 32) (lo := [some (pvR 60), some (pvI n1), some (pvI n2), some (pvI n3), some (pvI n4), some (pvI n5), none]) (st := []) (M := pvu M17_ 60 5 0) rfl ⟨trivial, trivial, ⟨rfl, Or.inl rfl⟩, trivial⟩ (fun M21_ e22_ => ?_)
  have o23_ : pvOk M21_ := pvok_u2 e22_ o19_ rfl (zr_wide (show 0 ≤ Int32.toInt 0 ∧ Int32.toInt 0 ≤ 0 from (by decide)) (by decide) (by decide))
  have f24_ : pvFr fp_eX4_becomeNew_60_x_x_x_x_x M M21_ := pvfr_u e22_ f20_ rfl
  refine pw_blk hT 2 (S' := (35, [some (pvR 60), some (pvI n1), some (pvI n2), some (pvI n3), some (pvI n4), some (pvI n5), some (pvI 0)], [], M21_)) rfl ⟨trivial, trivial, trivial⟩ ?_
  refine pw_blk hT 2 (S' := (38, [some (pvR 60), some (pvI n1), some (pvI n2), some (pvI n3), some (pvI n4), some (pvI n5), some (pvI 0)], [pvI 4, pvI 0], M21_)) rfl ⟨trivial, trivial, trivial⟩ ?_
  refine pw_ic hT (c := 4 ≤ 0) rfl rfl (fun c25_ => absurd c25_ (by decide)) (fun c25_ => ?_)
  refine pw_blkw hT 5 (pc := 49) (lo := [some (pvR 60), some (pvI n1), some (pvI n2), some (pvI n3), some (pvI n4), some (pvI n5), some (pvI 0)]) (st := []) (M := pvu M21_ 67 0 0) rfl ⟨trivial, rfl, trivial, trivial, ⟨rfl, (zr_in (n := 4) (show 0 ≤ Int32.toInt 0 ∧ Int32.toInt 0 ≤ 0 from (by decide)) (by decide) (by decide))⟩, trivial⟩ (fun M26_ e27_ => ?_)
  have o28_ : pvOk M26_ := pvok_u2 e27_ o23_ rfl (zr_wide (show 0 ≤ Int32.toInt 0 ∧ Int32.toInt 0 ≤ 0 from (by decide)) (by decide) (by decide))
  have f29_ : pvFr fp_eX4_becomeNew_60_x_x_x_x_x M M26_ := pvfr_u e27_ f24_ rfl
  refine pw_blk hT 2 (S' := (35, [some (pvR 60), some (pvI n1), some (pvI n2), some (pvI n3), some (pvI n4), some (pvI n5), some (pvI (0 + 1))], [], M26_)) rfl ⟨trivial, trivial, trivial⟩ ?_
  refine pw_blk hT 2 (S' := (38, [some (pvR 60), some (pvI n1), some (pvI n2), some (pvI n3), some (pvI n4), some (pvI n5), some (pvI (0 + 1))], [pvI 4, pvI (0 + 1)], M26_)) rfl ⟨trivial, trivial, trivial⟩ ?_
  refine pw_ic hT (c := 4 ≤ (0 + 1)) rfl rfl (fun c30_ => absurd c30_ (by decide)) (fun c30_ => ?_)
  refine pw_blkw hT 5 (pc := 49) (lo := [some (pvR 60), some (pvI n1), some (pvI n2), some (pvI n3), some (pvI n4), some (pvI n5), some (pvI (0 + 1))]) (st := []) (M := pvu M26_ 67 1 0) rfl ⟨trivial, rfl, trivial, trivial, ⟨rfl, (zr_in (n := 4) (show 1 ≤ Int32.toInt (0 + 1) ∧ Int32.toInt (0 + 1) ≤ 1 from (by decide)) (by decide) (by decide))⟩, trivial⟩ (fun M31_ e32_ => ?_)
  have o33_ : pvOk M31_ := pvok_u2 e32_ o28_ rfl (zr_wide (show 0 ≤ Int32.toInt 0 ∧ Int32.toInt 0 ≤ 0 from (by decide)) (by decide) (by decide))
  have f34_ : pvFr fp_eX4_becomeNew_60_x_x_x_x_x M M31_ := pvfr_u e32_ f29_ rfl
  refine pw_blk hT 2 (S' := (35, [some (pvR 60), some (pvI n1), some (pvI n2), some (pvI n3), some (pvI n4), some (pvI n5), some (pvI ((0 + 1) + 1))], [], M31_)) rfl ⟨trivial, trivial, trivial⟩ ?_
  refine pw_blk hT 2 (S' := (38, [some (pvR 60), some (pvI n1), some (pvI n2), some (pvI n3), some (pvI n4), some (pvI n5), some (pvI ((0 + 1) + 1))], [pvI 4, pvI ((0 + 1) + 1)], M31_)) rfl ⟨trivial, trivial, trivial⟩ ?_
  refine pw_ic hT (c := 4 ≤ ((0 + 1) + 1)) rfl rfl (fun c35_ => absurd c35_ (by decide)) (fun c35_ => ?_)
  refine pw_blkw hT 5 (pc := 49) (lo := [some (pvR 60), some (pvI n1), some (pvI n2), some (pvI n3), some (pvI n4), some (pvI n5), some (pvI ((0 + 1) + 1))]) (st := []) (M := pvu M31_ 67 2 0) rfl ⟨trivial, rfl, trivial, trivial, ⟨rfl, (zr_in (n := 4) (show 2 ≤ Int32.toInt ((0 + 1) + 1) ∧ Int32.toInt ((0 + 1) + 1) ≤ 2 from (by decide)) (by decide) (by decide))⟩, trivial⟩ (fun M36_ e37_ => ?_)
  have o38_ : pvOk M36_ := pvok_u2 e37_ o33_ rfl (zr_wide (show 0 ≤ Int32.toInt 0 ∧ Int32.toInt 0 ≤ 0 from (by decide)) (by decide) (by decide))
  have f39_ : pvFr fp_eX4_becomeNew_60_x_x_x_x_x M M36_ := pvfr_u e37_ f34_ rfl
  refine pw_blk hT 2 (S' := (35, [some (pvR 60), some (pvI n1), some (pvI n2), some (pvI n3), some (pvI n4), some (pvI n5), some (pvI (((0 + 1) + 1) + 1))], [], M36_)) rfl ⟨trivial, trivial, trivial⟩ ?_
  refine pw_blk hT 2 (S' := (38, [some (pvR 60), some (pvI n1), some (pvI n2), some (pvI n3), some (pvI n4), some (pvI n5), some (pvI (((0 + 1) + 1) + 1))], [pvI 4, pvI (((0 + 1) + 1) + 1)], M36_)) rfl ⟨trivial, trivial, trivial⟩ ?_
  refine pw_ic hT (c := 4 ≤ (((0 + 1) + 1) + 1)) rfl rfl (fun c40_ => absurd c40_ (by decide)) (fun c40_ => ?_)
  refine pw_blkw hT 5 (pc := 49) (lo := [some (pvR 60), some (pvI n1), some (pvI n2), some (pvI n3), some (pvI n4), some (pvI n5), some (pvI (((0 + 1) + 1) + 1))]) (st := []) (M := pvu M36_ 67 3 0) rfl ⟨trivial, rfl, trivial, trivial, ⟨rfl, (zr_in (n := 4) (show 3 ≤ Int32.toInt (((0 + 1) + 1) + 1) ∧ Int32.toInt (((0 + 1) + 1) + 1) ≤ 3 from (by decide)) (by decide) (by decide))⟩, trivial⟩ (fun M41_ e42_ => ?_)
  have o43_ : pvOk M41_ := pvok_u2 e42_ o38_ rfl (zr_wide (show 0 ≤ Int32.toInt 0 ∧ Int32.toInt 0 ≤ 0 from (by decide)) (by decide) (by decide))
  have f44_ : pvFr fp_eX4_becomeNew_60_x_x_x_x_x M M41_ := pvfr_u e42_ f39_ rfl
  refine pw_blk hT 2 (S' := (35, [some (pvR 60), some (pvI n1), some (pvI n2), some (pvI n3), some (pvI n4), some (pvI n5), some (pvI ((((0 + 1) + 1) + 1) + 1))], [], M41_)) rfl ⟨trivial, trivial, trivial⟩ ?_
  refine pw_blk hT 2 (S' := (38, [some (pvR 60), some (pvI n1), some (pvI n2), some (pvI n3), some (pvI n4), some (pvI n5), some (pvI ((((0 + 1) + 1) + 1) + 1))], [pvI 4, pvI ((((0 + 1) + 1) + 1) + 1)], M41_)) rfl ⟨trivial, trivial, trivial⟩ ?_
  refine pw_ic hT (c := 4 ≤ ((((0 + 1) + 1) + 1) + 1)) rfl rfl (fun c45_ => ?_) (fun c45_ => absurd (by decide) c45_)
  exact pw_ret hT rfl (r := none) (M' := M41_) ⟨rfl, rfl⟩ ⟨rfl, o43_, f44_, ((((((((((pvu_n e42_ 60 0 (Or.inl (by decide))).trans (pvu_n e37_ 60 0 (Or.inl (by decide)))).trans (pvu_n e32_ 60 0 (Or.inl (by decide)))).trans (pvu_n e27_ 60 0 (Or.inl (by decide)))).trans (pvu_n e22_ 60 0 (Or.inr (by decide)))).trans (pvu_n e18_ 60 0 (Or.inr (by decide)))).trans (pvu_n e14_ 60 0 (Or.inr (by decide)))).trans (pvu_n e10_ 60 0 (Or.inr (by decide)))).trans (pvu_n e6_ 60 0 (Or.inr (by decide)))).trans (pvu_s e2_)), (((((((((pvu_n e42_ 60 1 (Or.inl (by decide))).trans (pvu_n e37_ 60 1 (Or.inl (by decide)))).trans (pvu_n e32_ 60 1 (Or.inl (by decide)))).trans (pvu_n e27_ 60 1 (Or.inl (by decide)))).trans (pvu_n e22_ 60 1 (Or.inr (by decide)))).trans (pvu_n e18_ 60 1 (Or.inr (by decide)))).trans (pvu_n e14_ 60 1 (Or.inr (by decide)))).trans (pvu_n e10_ 60 1 (Or.inr (by decide)))).trans (pvu_s e6_)), ((((((((pvu_n e42_ 60 2 (Or.inl (by decide))).trans (pvu_n e37_ 60 2 (Or.inl (by decide)))).trans (pvu_n e32_ 60 2 (Or.inl (by decide)))).trans (pvu_n e27_ 60 2 (Or.inl (by decide)))).trans (pvu_n e22_ 60 2 (Or.inr (by decide)))).trans (pvu_n e18_ 60 2 (Or.inr (by decide)))).trans (pvu_n e14_ 60 2 (Or.inr (by decide)))).trans (pvu_s e10_)), (((((((pvu_n e42_ 60 3 (Or.inl (by decide))).trans (pvu_n e37_ 60 3 (Or.inl (by decide)))).trans (pvu_n e32_ 60 3 (Or.inl (by decide)))).trans (pvu_n e27_ 60 3 (Or.inl (by decide)))).trans (pvu_n e22_ 60 3 (Or.inr (by decide)))).trans (pvu_n e18_ 60 3 (Or.inr (by decide)))).trans (pvu_s e14_)), ((((((pvu_n e42_ 60 4 (Or.inl (by decide))).trans (pvu_n e37_ 60 4 (Or.inl (by decide)))).trans (pvu_n e32_ 60 4 (Or.inl (by decide)))).trans (pvu_n e27_ 60 4 (Or.inl (by decide)))).trans (pvu_n e22_ 60 4 (Or.inr (by decide)))).trans (pvu_s e18_)), ((((pvu_n e42_ 67 0 (Or.inr (by decide))).trans (pvu_n e37_ 67 0 (Or.inr (by decide)))).trans (pvu_n e32_ 67 0 (Or.inr (by decide)))).trans (pvu_s e27_)), (((pvu_n e42_ 67 1 (Or.inr (by decide))).trans (pvu_n e37_ 67 1 (Or.inr (by decide)))).trans (pvu_s e32_)), ((pvu_n e42_ 67 2 (Or.inr (by decide))).trans (pvu_s e37_)), (pvu_s e42_), (((((pvu_n e42_ 60 5 (Or.inl (by decide))).trans (pvu_n e37_ 60 5 (Or.inl (by decide)))).trans (pvu_n e32_ 60 5 (Or.inl (by decide)))).trans (pvu_n e27_ 60 5 (Or.inl (by decide)))).trans (pvu_s e22_))⟩
def fpL_eX4_becomeAs_60_74 : List (Nat × Nat × Nat) := [(0, 60, 1), (0, 60, 2), (0, 60, 3), (0, 60, 4), (0, 60, 5), (0, 60, 6), (0, 67, 0)]
def fp_eX4_becomeAs_60_74 (q k : Nat) : Bool := pvfp fpL_eX4_becomeAs_60_74 q k
theorem fp_eX4_becomeAs_60_74_fp_eX4_becomeNew_60_x_x_x_x_x (a b : Nat) (h : fp_eX4_becomeNew_60_x_x_x_x_x a b = true) : fp_eX4_becomeAs_60_74 a b = true := pvfp_sub (l1 := fpL_eX4_becomeNew_60_x_x_x_x_x) (l2 := fpL_eX4_becomeAs_60_74) (by decide) a b h
set_option maxHeartbeats 4000000 in
set_option maxRecDepth 10000 in
theorem se_X4_becomeAs_60_74 (M : pvM) (hok : pvOk M) (d : Nat) : PW 133 d (0, [some (pvR 60), some (pvR 74)], [], M) (fun r X => r = none ∧ pvOk X ∧ pvFr fp_eX4_becomeAs_60_74 M X ∧ X.1 60 0 = (M.1 74 0) ∧ X.1 60 1 = (M.1 74 1) ∧ X.1 60 2 = (M.1 74 2) ∧ X.1 60 3 = (M.1 74 3) ∧ X.1 60 4 = (M.1 74 4) ∧ X.1 67 0 = (M.1 81 0) ∧ X.1 67 1 = (M.1 81 1) ∧ X.1 67 2 = (M.1 81 2) ∧ X.1 67 3 = (M.1 81 3) ∧ X.1 60 5 = (M.1 74 5)) := by
  have hT : pvdom 133 = pvD_133 := rfl
  have b1_ : 0 ≤ Int32.toInt (M.1 74 0) ∧ Int32.toInt (M.1 74 0) ≤ 6 := pvok_r hok 74 0 rfl
  have b2_ : 0 ≤ Int32.toInt (M.1 74 1) ∧ Int32.toInt (M.1 74 1) ≤ 9 := pvok_r hok 74 1 rfl
  have b3_ : 0 ≤ Int32.toInt (M.1 74 2) ∧ Int32.toInt (M.1 74 2) ≤ 3 := pvok_r hok 74 2 rfl
  have b4_ : 0 ≤ Int32.toInt (M.1 74 3) ∧ Int32.toInt (M.1 74 3) ≤ 4 := pvok_r hok 74 3 rfl
  have b5_ : 0 ≤ Int32.toInt (M.1 74 4) ∧ Int32.toInt (M.1 74 4) ≤ 9 := pvok_r hok 74 4 rfl
  refine pw_blk hT 11 (S' := (21, [some (pvR 60), some (pvR 74)], [pvI (M.1 74 4), pvI (M.1 74 3), pvI (M.1 74 2), pvI (M.1 74 1), pvI (M.1 74 0), pvR 60], M)) rfl ⟨trivial, trivial, rfl, trivial, rfl, trivial, rfl, trivial, rfl, trivial, rfl, trivial⟩ ?_
  refine pw_callVd hT (as := [pvR 60, pvI (M.1 74 0), pvI (M.1 74 1), pvI (M.1 74 2), pvI (M.1 74 3), pvI (M.1 74 4)]) (lo1 := [some (pvR 60), some (pvI (M.1 74 0)), some (pvI (M.1 74 1)), some (pvI (M.1 74 2)), some (pvI (M.1 74 3)), some (pvI (M.1 74 4)), none]) (d1 := d) (rest := []) rfl rfl rfl rfl rfl (fun _ => rfl) (Nat.zero_le _) rfl rfl rfl (se_X4_becomeNew_60_x_x_x_x_x M hok (M.1 74 0) (M.1 74 1) (M.1 74 2) (M.1 74 3) (M.1 74 4) b1_ b2_ b3_ b4_ b5_ d) (fun M8_ o10_ g11_ d6_ => ?_)
  have f12_ : pvFr fp_eX4_becomeAs_60_74 M M8_ := pvfr_t g11_ pvfr_0 fp_eX4_becomeAs_60_74_fp_eX4_becomeNew_60_x_x_x_x_x
  have b13_ : 0 ≤ Int32.toInt (M8_.1 74 5) ∧ Int32.toInt (M8_.1 74 5) ≤ 1 := pvok_r o10_ 74 5 rfl
  refine pw_blkw hT 4 (pc := 32) (lo := [some (pvR 60), some (pvR 74)]) (st := []) (M := pvu M8_ 60 5 (M8_.1 74 5)) rfl ⟨trivial, trivial, rfl, ⟨rfl, pv01 b13_⟩, trivial⟩ (fun M14_ e15_ => ?_)
  have o16_ : pvOk M14_ := pvok_u2 e15_ o10_ rfl b13_
  have f17_ : pvFr fp_eX4_becomeAs_60_74 M M14_ := pvfr_u e15_ f12_ rfl
  refine pw_blkw hT 8 (pc := 46) (lo := [some (pvR 60), some (pvR 74)]) (st := []) (M := pvr M14_ 67 (va_cpy (M14_.1 81) (M14_.1 67) (Int32.toNatClampNeg 0) (Int32.toNatClampNeg 0) (Int32.toNatClampNeg 4))) rfl ⟨trivial, rfl, trivial, trivial, rfl, trivial, trivial, ⟨rfl, rfl, (pvnneg (b := 0) (show 0 ≤ Int32.toInt 0 ∧ Int32.toInt 0 ≤ 0 from (by decide))), (pvnneg (b := 0) (show 0 ≤ Int32.toInt 0 ∧ Int32.toInt 0 ≤ 0 from (by decide))), (pvnneg (b := 4) (zr_wide (show 4 ≤ Int32.toInt 4 ∧ Int32.toInt 4 ≤ 4 from (by decide)) (by decide) (by decide))), (show _ ≤ 4 from (by have u0 := (show 0 ≤ Int32.toInt 0 ∧ Int32.toInt 0 ≤ 0 from (by decide)); have u1 := (show 4 ≤ Int32.toInt 4 ∧ Int32.toInt 4 ≤ 4 from (by decide)); have u2 := ztn 0 (by omega); have u3 := ztn 4 (by omega); omega)), (show _ ≤ 4 from (by have u0 := (show 0 ≤ Int32.toInt 0 ∧ Int32.toInt 0 ≤ 0 from (by decide)); have u1 := (show 4 ≤ Int32.toInt 4 ∧ Int32.toInt 4 ≤ 4 from (by decide)); have u2 := ztn 0 (by omega); have u3 := ztn 4 (by omega); omega)), Nat.le_of_ble_eq_true rfl⟩, trivial⟩ (fun M18_ e19_ => ?_)
  have o20_ : pvOk M18_ := pvok_rr e19_ o16_ (fun _ => rfl) (pvcpy_r (fun k => pvok_r o16_ 81 k rfl) (fun k => pvok_r o16_ 67 k rfl))
  have f21_ : pvFr fp_eX4_becomeAs_60_74 M M18_ := pvfr_rr e19_ f17_ (fun _ => rfl)
  exact pw_ret hT rfl (r := none) (M' := M18_) ⟨rfl, rfl⟩ ⟨rfl, o20_, f21_, (((show M18_.1 60 0 = M14_.1 60 0 from by rw [e19_]; rfl).trans (pvu_n e15_ 60 0 (Or.inr (by decide)))).trans (d6_.1)), (((show M18_.1 60 1 = M14_.1 60 1 from by rw [e19_]; rfl).trans (pvu_n e15_ 60 1 (Or.inr (by decide)))).trans (d6_.2.1)), (((show M18_.1 60 2 = M14_.1 60 2 from by rw [e19_]; rfl).trans (pvu_n e15_ 60 2 (Or.inr (by decide)))).trans (d6_.2.2.1)), (((show M18_.1 60 3 = M14_.1 60 3 from by rw [e19_]; rfl).trans (pvu_n e15_ 60 3 (Or.inr (by decide)))).trans (d6_.2.2.2.1)), (((show M18_.1 60 4 = M14_.1 60 4 from by rw [e19_]; rfl).trans (pvu_n e15_ 60 4 (Or.inr (by decide)))).trans (d6_.2.2.2.2.1)), ((show M18_.1 67 0 = (M14_.1 81 0) from by rw [e19_]; rfl).trans ((pvu_n e15_ 81 0 (Or.inl (by decide))).trans (g11_ 81 0 rfl))), ((show M18_.1 67 1 = (M14_.1 81 1) from by rw [e19_]; rfl).trans ((pvu_n e15_ 81 1 (Or.inl (by decide))).trans (g11_ 81 1 rfl))), ((show M18_.1 67 2 = (M14_.1 81 2) from by rw [e19_]; rfl).trans ((pvu_n e15_ 81 2 (Or.inl (by decide))).trans (g11_ 81 2 rfl))), ((show M18_.1 67 3 = (M14_.1 81 3) from by rw [e19_]; rfl).trans ((pvu_n e15_ 81 3 (Or.inl (by decide))).trans (g11_ 81 3 rfl))), (((show M18_.1 60 5 = M14_.1 60 5 from by rw [e19_]; rfl).trans (pvu_s e15_)).trans (g11_ 74 5 rfl))⟩
def fpL_eX4_becomeNew_61_x_x_x_x_x : List (Nat × Nat × Nat) := [(0, 61, 1), (0, 61, 2), (0, 61, 3), (0, 61, 4), (0, 61, 5), (0, 61, 6), (0, 68, 0)]
def fp_eX4_becomeNew_61_x_x_x_x_x (q k : Nat) : Bool := pvfp fpL_eX4_becomeNew_61_x_x_x_x_x q k
set_option maxHeartbeats 4000000 in
set_option maxRecDepth 10000 in
theorem se_X4_becomeNew_61_x_x_x_x_x (M : pvM) (hok : pvOk M) (n1 : Int32) (n2 : Int32) (n3 : Int32) (n4 : Int32) (n5 : Int32) (hn1 : 0 ≤ Int32.toInt n1 ∧ Int32.toInt n1 ≤ 6) (hn2 : 0 ≤ Int32.toInt n2 ∧ Int32.toInt n2 ≤ 9) (hn3 : 0 ≤ Int32.toInt n3 ∧ Int32.toInt n3 ≤ 3) (hn4 : 0 ≤ Int32.toInt n4 ∧ Int32.toInt n4 ≤ 4) (hn5 : 0 ≤ Int32.toInt n5 ∧ Int32.toInt n5 ≤ 9) (d : Nat) : PW 134 d (0, [some (pvR 61), some (pvI n1), some (pvI n2), some (pvI n3), some (pvI n4), some (pvI n5), none], [], M) (fun r X => r = none ∧ pvOk X ∧ pvFr fp_eX4_becomeNew_61_x_x_x_x_x M X ∧ X.1 61 0 = n1 ∧ X.1 61 1 = n2 ∧ X.1 61 2 = n3 ∧ X.1 61 3 = n4 ∧ X.1 61 4 = n5 ∧ X.1 68 0 = 0 ∧ X.1 68 1 = 0 ∧ X.1 68 2 = 0 ∧ X.1 68 3 = 0 ∧ X.1 61 5 = 0) := by
  have hT : pvdom 134 = pvD_134 := rfl
  refine pw_blkw hT 3 (pc := 5) (lo := [some (pvR 61), some (pvI n1), some (pvI n2), some (pvI n3), some (pvI n4), some (pvI n5), none]) (st := []) (M := pvu M 61 0 n1) rfl ⟨trivial, trivial, rfl, trivial⟩ (fun M1_ e2_ => ?_)
  have o3_ : pvOk M1_ := pvok_u2 e2_ hok rfl hn1
  have f4_ : pvFr fp_eX4_becomeNew_61_x_x_x_x_x M M1_ := pvfr_u e2_ pvfr_0 rfl
  refine pw_blkw hT 3 (pc := 10) (lo := [some (pvR 61), some (pvI n1), some (pvI n2), some (pvI n3), some (pvI n4), some (pvI n5), none]) (st := []) (M := pvu M1_ 61 1 n2) rfl ⟨trivial, trivial, rfl, trivial⟩ (fun M5_ e6_ => ?_)
  have o7_ : pvOk M5_ := pvok_u2 e6_ o3_ rfl hn2
  have f8_ : pvFr fp_eX4_becomeNew_61_x_x_x_x_x M M5_ := pvfr_u e6_ f4_ rfl
  refine pw_blkw hT 3 (pc := 15) (lo := [some (pvR 61), some (pvI n1), some (pvI n2), some (pvI n3), some (pvI n4), some (pvI n5), none]) (st := []) (M := pvu M5_ 61 2 n3) rfl ⟨trivial, trivial, rfl, trivial⟩ (fun M9_ e10_ => ?_)
  have o11_ : pvOk M9_ := pvok_u2 e10_ o7_ rfl hn3
  have f12_ : pvFr fp_eX4_becomeNew_61_x_x_x_x_x M M9_ := pvfr_u e10_ f8_ rfl
  refine pw_blkw hT 3 (pc := 21) (lo := [some (pvR 61), some (pvI n1), some (pvI n2), some (pvI n3), some (pvI n4), some (pvI n5), none]) (st := []) (M := pvu M9_ 61 3 n4) rfl ⟨trivial, trivial, rfl, trivial⟩ (fun M13_ e14_ => ?_)
  have o15_ : pvOk M13_ := pvok_u2 e14_ o11_ rfl hn4
  have f16_ : pvFr fp_eX4_becomeNew_61_x_x_x_x_x M M13_ := pvfr_u e14_ f12_ rfl
  refine pw_blkw hT 3 (pc := 27) (lo := [some (pvR 61), some (pvI n1), some (pvI n2), some (pvI n3), some (pvI n4), some (pvI n5), none]) (st := []) (M := pvu M13_ 61 4 n5) rfl ⟨trivial, trivial, rfl, trivial⟩ (fun M17_ e18_ => ?_)
  have o19_ : pvOk M17_ := pvok_u2 e18_ o15_ rfl hn5
  have f20_ : pvFr fp_eX4_becomeNew_61_x_x_x_x_x M M17_ := pvfr_u e18_ f16_ rfl
  refine pw_blkw hT 3 (pc := 32) (lo := [some (pvR 61), some (pvI n1), some (pvI n2), some (pvI n3), some (pvI n4), some (pvI n5), none]) (st := []) (M := pvu M17_ 61 5 0) rfl ⟨trivial, trivial, ⟨rfl, Or.inl rfl⟩, trivial⟩ (fun M21_ e22_ => ?_)
  have o23_ : pvOk M21_ := pvok_u2 e22_ o19_ rfl (zr_wide (show 0 ≤ Int32.toInt 0 ∧ Int32.toInt 0 ≤ 0 from (by decide)) (by decide) (by decide))
  have f24_ : pvFr fp_eX4_becomeNew_61_x_x_x_x_x M M21_ := pvfr_u e22_ f20_ rfl
  refine pw_blk hT 2 (S' := (35, [some (pvR 61), some (pvI n1), some (pvI n2), some (pvI n3), some (pvI n4), some (pvI n5), some (pvI 0)], [], M21_)) rfl ⟨trivial, trivial, trivial⟩ ?_
  refine pw_blk hT 2 (S' := (38, [some (pvR 61), some (pvI n1), some (pvI n2), some (pvI n3), some (pvI n4), some (pvI n5), some (pvI 0)], [pvI 4, pvI 0], M21_)) rfl ⟨trivial, trivial, trivial⟩ ?_
  refine pw_ic hT (c := 4 ≤ 0) rfl rfl (fun c25_ => absurd c25_ (by decide)) (fun c25_ => ?_)
  refine pw_blkw hT 5 (pc := 49) (lo := [some (pvR 61), some (pvI n1), some (pvI n2), some (pvI n3), some (pvI n4), some (pvI n5), some (pvI 0)]) (st := []) (M := pvu M21_ 68 0 0) rfl ⟨trivial, rfl, trivial, trivial, ⟨rfl, (zr_in (n := 4) (show 0 ≤ Int32.toInt 0 ∧ Int32.toInt 0 ≤ 0 from (by decide)) (by decide) (by decide))⟩, trivial⟩ (fun M26_ e27_ => ?_)
  have o28_ : pvOk M26_ := pvok_u2 e27_ o23_ rfl (zr_wide (show 0 ≤ Int32.toInt 0 ∧ Int32.toInt 0 ≤ 0 from (by decide)) (by decide) (by decide))
  have f29_ : pvFr fp_eX4_becomeNew_61_x_x_x_x_x M M26_ := pvfr_u e27_ f24_ rfl
  refine pw_blk hT 2 (S' := (35, [some (pvR 61), some (pvI n1), some (pvI n2), some (pvI n3), some (pvI n4), some (pvI n5), some (pvI (0 + 1))], [], M26_)) rfl ⟨trivial, trivial, trivial⟩ ?_
  refine pw_blk hT 2 (S' := (38, [some (pvR 61), some (pvI n1), some (pvI n2), some (pvI n3), some (pvI n4), some (pvI n5), some (pvI (0 + 1))], [pvI 4, pvI (0 + 1)], M26_)) rfl ⟨trivial, trivial, trivial⟩ ?_
  refine pw_ic hT (c := 4 ≤ (0 + 1)) rfl rfl (fun c30_ => absurd c30_ (by decide)) (fun c30_ => ?_)
  refine pw_blkw hT 5 (pc := 49) (lo := [some (pvR 61), some (pvI n1), some (pvI n2), some (pvI n3), some (pvI n4), some (pvI n5), some (pvI (0 + 1))]) (st := []) (M := pvu M26_ 68 1 0) rfl ⟨trivial, rfl, trivial, trivial, ⟨rfl, (zr_in (n := 4) (show 1 ≤ Int32.toInt (0 + 1) ∧ Int32.toInt (0 + 1) ≤ 1 from (by decide)) (by decide) (by decide))⟩, trivial⟩ (fun M31_ e32_ => ?_)
  have o33_ : pvOk M31_ := pvok_u2 e32_ o28_ rfl (zr_wide (show 0 ≤ Int32.toInt 0 ∧ Int32.toInt 0 ≤ 0 from (by decide)) (by decide) (by decide))
  have f34_ : pvFr fp_eX4_becomeNew_61_x_x_x_x_x M M31_ := pvfr_u e32_ f29_ rfl
  refine pw_blk hT 2 (S' := (35, [some (pvR 61), some (pvI n1), some (pvI n2), some (pvI n3), some (pvI n4), some (pvI n5), some (pvI ((0 + 1) + 1))], [], M31_)) rfl ⟨trivial, trivial, trivial⟩ ?_
  refine pw_blk hT 2 (S' := (38, [some (pvR 61), some (pvI n1), some (pvI n2), some (pvI n3), some (pvI n4), some (pvI n5), some (pvI ((0 + 1) + 1))], [pvI 4, pvI ((0 + 1) + 1)], M31_)) rfl ⟨trivial, trivial, trivial⟩ ?_
  refine pw_ic hT (c := 4 ≤ ((0 + 1) + 1)) rfl rfl (fun c35_ => absurd c35_ (by decide)) (fun c35_ => ?_)
  refine pw_blkw hT 5 (pc := 49) (lo := [some (pvR 61), some (pvI n1), some (pvI n2), some (pvI n3), some (pvI n4), some (pvI n5), some (pvI ((0 + 1) + 1))]) (st := []) (M := pvu M31_ 68 2 0) rfl ⟨trivial, rfl, trivial, trivial, ⟨rfl, (zr_in (n := 4) (show 2 ≤ Int32.toInt ((0 + 1) + 1) ∧ Int32.toInt ((0 + 1) + 1) ≤ 2 from (by decide)) (by decide) (by decide))⟩, trivial⟩ (fun M36_ e37_ => ?_)
  have o38_ : pvOk M36_ := pvok_u2 e37_ o33_ rfl (zr_wide (show 0 ≤ Int32.toInt 0 ∧ Int32.toInt 0 ≤ 0 from (by decide)) (by decide) (by decide))
  have f39_ : pvFr fp_eX4_becomeNew_61_x_x_x_x_x M M36_ := pvfr_u e37_ f34_ rfl
  refine pw_blk hT 2 (S' := (35, [some (pvR 61), some (pvI n1), some (pvI n2), some (pvI n3), some (pvI n4), some (pvI n5), some (pvI (((0 + 1) + 1) + 1))], [], M36_)) rfl ⟨trivial, trivial, trivial⟩ ?_
  refine pw_blk hT 2 (S' := (38, [some (pvR 61), some (pvI n1), some (pvI n2), some (pvI n3), some (pvI n4), some (pvI n5), some (pvI (((0 + 1) + 1) + 1))], [pvI 4, pvI (((0 + 1) + 1) + 1)], M36_)) rfl ⟨trivial, trivial, trivial⟩ ?_
  refine pw_ic hT (c := 4 ≤ (((0 + 1) + 1) + 1)) rfl rfl (fun c40_ => absurd c40_ (by decide)) (fun c40_ => ?_)
  refine pw_blkw hT 5 (pc := 49) (lo := [some (pvR 61), some (pvI n1), some (pvI n2), some (pvI n3), some (pvI n4), some (pvI n5), some (pvI (((0 + 1) + 1) + 1))]) (st := []) (M := pvu M36_ 68 3 0) rfl ⟨trivial, rfl, trivial, trivial, ⟨rfl, (zr_in (n := 4) (show 3 ≤ Int32.toInt (((0 + 1) + 1) + 1) ∧ Int32.toInt (((0 + 1) + 1) + 1) ≤ 3 from (by decide)) (by decide) (by decide))⟩, trivial⟩ (fun M41_ e42_ => ?_)
  have o43_ : pvOk M41_ := pvok_u2 e42_ o38_ rfl (zr_wide (show 0 ≤ Int32.toInt 0 ∧ Int32.toInt 0 ≤ 0 from (by decide)) (by decide) (by decide))
  have f44_ : pvFr fp_eX4_becomeNew_61_x_x_x_x_x M M41_ := pvfr_u e42_ f39_ rfl
  refine pw_blk hT 2 (S' := (35, [some (pvR 61), some (pvI n1), some (pvI n2), some (pvI n3), some (pvI n4), some (pvI n5), some (pvI ((((0 + 1) + 1) + 1) + 1))], [], M41_)) rfl ⟨trivial, trivial, trivial⟩ ?_
  refine pw_blk hT 2 (S' := (38, [some (pvR 61), some (pvI n1), some (pvI n2), some (pvI n3), some (pvI n4), some (pvI n5), some (pvI ((((0 + 1) + 1) + 1) + 1))], [pvI 4, pvI ((((0 + 1) + 1) + 1) + 1)], M41_)) rfl ⟨trivial, trivial, trivial⟩ ?_
  refine pw_ic hT (c := 4 ≤ ((((0 + 1) + 1) + 1) + 1)) rfl rfl (fun c45_ => ?_) (fun c45_ => absurd (by decide) c45_)
  exact pw_ret hT rfl (r := none) (M' := M41_) ⟨rfl, rfl⟩ ⟨rfl, o43_, f44_, ((((((((((pvu_n e42_ 61 0 (Or.inl (by decide))).trans (pvu_n e37_ 61 0 (Or.inl (by decide)))).trans (pvu_n e32_ 61 0 (Or.inl (by decide)))).trans (pvu_n e27_ 61 0 (Or.inl (by decide)))).trans (pvu_n e22_ 61 0 (Or.inr (by decide)))).trans (pvu_n e18_ 61 0 (Or.inr (by decide)))).trans (pvu_n e14_ 61 0 (Or.inr (by decide)))).trans (pvu_n e10_ 61 0 (Or.inr (by decide)))).trans (pvu_n e6_ 61 0 (Or.inr (by decide)))).trans (pvu_s e2_)), (((((((((pvu_n e42_ 61 1 (Or.inl (by decide))).trans (pvu_n e37_ 61 1 (Or.inl (by decide)))).trans (pvu_n e32_ 61 1 (Or.inl (by decide)))).trans (pvu_n e27_ 61 1 (Or.inl (by decide)))).trans (pvu_n e22_ 61 1 (Or.inr (by decide)))).trans (pvu_n e18_ 61 1 (Or.inr (by decide)))).trans (pvu_n e14_ 61 1 (Or.inr (by decide)))).trans (pvu_n e10_ 61 1 (Or.inr (by decide)))).trans (pvu_s e6_)), ((((((((pvu_n e42_ 61 2 (Or.inl (by decide))).trans (pvu_n e37_ 61 2 (Or.inl (by decide)))).trans (pvu_n e32_ 61 2 (Or.inl (by decide)))).trans (pvu_n e27_ 61 2 (Or.inl (by decide)))).trans (pvu_n e22_ 61 2 (Or.inr (by decide)))).trans (pvu_n e18_ 61 2 (Or.inr (by decide)))).trans (pvu_n e14_ 61 2 (Or.inr (by decide)))).trans (pvu_s e10_)), (((((((pvu_n e42_ 61 3 (Or.inl (by decide))).trans (pvu_n e37_ 61 3 (Or.inl (by decide)))).trans (pvu_n e32_ 61 3 (Or.inl (by decide)))).trans (pvu_n e27_ 61 3 (Or.inl (by decide)))).trans (pvu_n e22_ 61 3 (Or.inr (by decide)))).trans (pvu_n e18_ 61 3 (Or.inr (by decide)))).trans (pvu_s e14_)), ((((((pvu_n e42_ 61 4 (Or.inl (by decide))).trans (pvu_n e37_ 61 4 (Or.inl (by decide)))).trans (pvu_n e32_ 61 4 (Or.inl (by decide)))).trans (pvu_n e27_ 61 4 (Or.inl (by decide)))).trans (pvu_n e22_ 61 4 (Or.inr (by decide)))).trans (pvu_s e18_)), ((((pvu_n e42_ 68 0 (Or.inr (by decide))).trans (pvu_n e37_ 68 0 (Or.inr (by decide)))).trans (pvu_n e32_ 68 0 (Or.inr (by decide)))).trans (pvu_s e27_)), (((pvu_n e42_ 68 1 (Or.inr (by decide))).trans (pvu_n e37_ 68 1 (Or.inr (by decide)))).trans (pvu_s e32_)), ((pvu_n e42_ 68 2 (Or.inr (by decide))).trans (pvu_s e37_)), (pvu_s e42_), (((((pvu_n e42_ 61 5 (Or.inl (by decide))).trans (pvu_n e37_ 61 5 (Or.inl (by decide)))).trans (pvu_n e32_ 61 5 (Or.inl (by decide)))).trans (pvu_n e27_ 61 5 (Or.inl (by decide)))).trans (pvu_s e22_))⟩
def fpL_eX4_becomeAs_61_75 : List (Nat × Nat × Nat) := [(0, 61, 1), (0, 61, 2), (0, 61, 3), (0, 61, 4), (0, 61, 5), (0, 61, 6), (0, 68, 0)]
def fp_eX4_becomeAs_61_75 (q k : Nat) : Bool := pvfp fpL_eX4_becomeAs_61_75 q k
theorem fp_eX4_becomeAs_61_75_fp_eX4_becomeNew_61_x_x_x_x_x (a b : Nat) (h : fp_eX4_becomeNew_61_x_x_x_x_x a b = true) : fp_eX4_becomeAs_61_75 a b = true := pvfp_sub (l1 := fpL_eX4_becomeNew_61_x_x_x_x_x) (l2 := fpL_eX4_becomeAs_61_75) (by decide) a b h
set_option maxHeartbeats 4000000 in
set_option maxRecDepth 10000 in
theorem se_X4_becomeAs_61_75 (M : pvM) (hok : pvOk M) (d : Nat) : PW 133 d (0, [some (pvR 61), some (pvR 75)], [], M) (fun r X => r = none ∧ pvOk X ∧ pvFr fp_eX4_becomeAs_61_75 M X ∧ X.1 61 0 = (M.1 75 0) ∧ X.1 61 1 = (M.1 75 1) ∧ X.1 61 2 = (M.1 75 2) ∧ X.1 61 3 = (M.1 75 3) ∧ X.1 61 4 = (M.1 75 4) ∧ X.1 68 0 = (M.1 82 0) ∧ X.1 68 1 = (M.1 82 1) ∧ X.1 68 2 = (M.1 82 2) ∧ X.1 68 3 = (M.1 82 3) ∧ X.1 61 5 = (M.1 75 5)) := by
  have hT : pvdom 133 = pvD_133 := rfl
  have b1_ : 0 ≤ Int32.toInt (M.1 75 0) ∧ Int32.toInt (M.1 75 0) ≤ 6 := pvok_r hok 75 0 rfl
  have b2_ : 0 ≤ Int32.toInt (M.1 75 1) ∧ Int32.toInt (M.1 75 1) ≤ 9 := pvok_r hok 75 1 rfl
  have b3_ : 0 ≤ Int32.toInt (M.1 75 2) ∧ Int32.toInt (M.1 75 2) ≤ 3 := pvok_r hok 75 2 rfl
  have b4_ : 0 ≤ Int32.toInt (M.1 75 3) ∧ Int32.toInt (M.1 75 3) ≤ 4 := pvok_r hok 75 3 rfl
  have b5_ : 0 ≤ Int32.toInt (M.1 75 4) ∧ Int32.toInt (M.1 75 4) ≤ 9 := pvok_r hok 75 4 rfl
  refine pw_blk hT 11 (S' := (21, [some (pvR 61), some (pvR 75)], [pvI (M.1 75 4), pvI (M.1 75 3), pvI (M.1 75 2), pvI (M.1 75 1), pvI (M.1 75 0), pvR 61], M)) rfl ⟨trivial, trivial, rfl, trivial, rfl, trivial, rfl, trivial, rfl, trivial, rfl, trivial⟩ ?_
  refine pw_callVd hT (as := [pvR 61, pvI (M.1 75 0), pvI (M.1 75 1), pvI (M.1 75 2), pvI (M.1 75 3), pvI (M.1 75 4)]) (lo1 := [some (pvR 61), some (pvI (M.1 75 0)), some (pvI (M.1 75 1)), some (pvI (M.1 75 2)), some (pvI (M.1 75 3)), some (pvI (M.1 75 4)), none]) (d1 := d) (rest := []) rfl rfl rfl rfl rfl (fun _ => rfl) (Nat.zero_le _) rfl rfl rfl (se_X4_becomeNew_61_x_x_x_x_x M hok (M.1 75 0) (M.1 75 1) (M.1 75 2) (M.1 75 3) (M.1 75 4) b1_ b2_ b3_ b4_ b5_ d) (fun M8_ o10_ g11_ d6_ => ?_)
  have f12_ : pvFr fp_eX4_becomeAs_61_75 M M8_ := pvfr_t g11_ pvfr_0 fp_eX4_becomeAs_61_75_fp_eX4_becomeNew_61_x_x_x_x_x
  have b13_ : 0 ≤ Int32.toInt (M8_.1 75 5) ∧ Int32.toInt (M8_.1 75 5) ≤ 1 := pvok_r o10_ 75 5 rfl
  refine pw_blkw hT 4 (pc := 32) (lo := [some (pvR 61), some (pvR 75)]) (st := []) (M := pvu M8_ 61 5 (M8_.1 75 5)) rfl ⟨trivial, trivial, rfl, ⟨rfl, pv01 b13_⟩, trivial⟩ (fun M14_ e15_ => ?_)
  have o16_ : pvOk M14_ := pvok_u2 e15_ o10_ rfl b13_
  have f17_ : pvFr fp_eX4_becomeAs_61_75 M M14_ := pvfr_u e15_ f12_ rfl
  refine pw_blkw hT 8 (pc := 46) (lo := [some (pvR 61), some (pvR 75)]) (st := []) (M := pvr M14_ 68 (va_cpy (M14_.1 82) (M14_.1 68) (Int32.toNatClampNeg 0) (Int32.toNatClampNeg 0) (Int32.toNatClampNeg 4))) rfl ⟨trivial, rfl, trivial, trivial, rfl, trivial, trivial, ⟨rfl, rfl, (pvnneg (b := 0) (show 0 ≤ Int32.toInt 0 ∧ Int32.toInt 0 ≤ 0 from (by decide))), (pvnneg (b := 0) (show 0 ≤ Int32.toInt 0 ∧ Int32.toInt 0 ≤ 0 from (by decide))), (pvnneg (b := 4) (zr_wide (show 4 ≤ Int32.toInt 4 ∧ Int32.toInt 4 ≤ 4 from (by decide)) (by decide) (by decide))), (show _ ≤ 4 from (by have u0 := (show 0 ≤ Int32.toInt 0 ∧ Int32.toInt 0 ≤ 0 from (by decide)); have u1 := (show 4 ≤ Int32.toInt 4 ∧ Int32.toInt 4 ≤ 4 from (by decide)); have u2 := ztn 0 (by omega); have u3 := ztn 4 (by omega); omega)), (show _ ≤ 4 from (by have u0 := (show 0 ≤ Int32.toInt 0 ∧ Int32.toInt 0 ≤ 0 from (by decide)); have u1 := (show 4 ≤ Int32.toInt 4 ∧ Int32.toInt 4 ≤ 4 from (by decide)); have u2 := ztn 0 (by omega); have u3 := ztn 4 (by omega); omega)), Nat.le_of_ble_eq_true rfl⟩, trivial⟩ (fun M18_ e19_ => ?_)
  have o20_ : pvOk M18_ := pvok_rr e19_ o16_ (fun _ => rfl) (pvcpy_r (fun k => pvok_r o16_ 82 k rfl) (fun k => pvok_r o16_ 68 k rfl))
  have f21_ : pvFr fp_eX4_becomeAs_61_75 M M18_ := pvfr_rr e19_ f17_ (fun _ => rfl)
  exact pw_ret hT rfl (r := none) (M' := M18_) ⟨rfl, rfl⟩ ⟨rfl, o20_, f21_, (((show M18_.1 61 0 = M14_.1 61 0 from by rw [e19_]; rfl).trans (pvu_n e15_ 61 0 (Or.inr (by decide)))).trans (d6_.1)), (((show M18_.1 61 1 = M14_.1 61 1 from by rw [e19_]; rfl).trans (pvu_n e15_ 61 1 (Or.inr (by decide)))).trans (d6_.2.1)), (((show M18_.1 61 2 = M14_.1 61 2 from by rw [e19_]; rfl).trans (pvu_n e15_ 61 2 (Or.inr (by decide)))).trans (d6_.2.2.1)), (((show M18_.1 61 3 = M14_.1 61 3 from by rw [e19_]; rfl).trans (pvu_n e15_ 61 3 (Or.inr (by decide)))).trans (d6_.2.2.2.1)), (((show M18_.1 61 4 = M14_.1 61 4 from by rw [e19_]; rfl).trans (pvu_n e15_ 61 4 (Or.inr (by decide)))).trans (d6_.2.2.2.2.1)), ((show M18_.1 68 0 = (M14_.1 82 0) from by rw [e19_]; rfl).trans ((pvu_n e15_ 82 0 (Or.inl (by decide))).trans (g11_ 82 0 rfl))), ((show M18_.1 68 1 = (M14_.1 82 1) from by rw [e19_]; rfl).trans ((pvu_n e15_ 82 1 (Or.inl (by decide))).trans (g11_ 82 1 rfl))), ((show M18_.1 68 2 = (M14_.1 82 2) from by rw [e19_]; rfl).trans ((pvu_n e15_ 82 2 (Or.inl (by decide))).trans (g11_ 82 2 rfl))), ((show M18_.1 68 3 = (M14_.1 82 3) from by rw [e19_]; rfl).trans ((pvu_n e15_ 82 3 (Or.inl (by decide))).trans (g11_ 82 3 rfl))), (((show M18_.1 61 5 = M14_.1 61 5 from by rw [e19_]; rfl).trans (pvu_s e15_)).trans (g11_ 75 5 rfl))⟩
def fpL_eX4_becomeNew_62_x_x_x_x_x : List (Nat × Nat × Nat) := [(0, 62, 1), (0, 62, 2), (0, 62, 3), (0, 62, 4), (0, 62, 5), (0, 62, 6), (0, 69, 0)]
def fp_eX4_becomeNew_62_x_x_x_x_x (q k : Nat) : Bool := pvfp fpL_eX4_becomeNew_62_x_x_x_x_x q k
set_option maxHeartbeats 4000000 in
set_option maxRecDepth 10000 in
theorem se_X4_becomeNew_62_x_x_x_x_x (M : pvM) (hok : pvOk M) (n1 : Int32) (n2 : Int32) (n3 : Int32) (n4 : Int32) (n5 : Int32) (hn1 : 0 ≤ Int32.toInt n1 ∧ Int32.toInt n1 ≤ 6) (hn2 : 0 ≤ Int32.toInt n2 ∧ Int32.toInt n2 ≤ 9) (hn3 : 0 ≤ Int32.toInt n3 ∧ Int32.toInt n3 ≤ 3) (hn4 : 0 ≤ Int32.toInt n4 ∧ Int32.toInt n4 ≤ 4) (hn5 : 0 ≤ Int32.toInt n5 ∧ Int32.toInt n5 ≤ 9) (d : Nat) : PW 134 d (0, [some (pvR 62), some (pvI n1), some (pvI n2), some (pvI n3), some (pvI n4), some (pvI n5), none], [], M) (fun r X => r = none ∧ pvOk X ∧ pvFr fp_eX4_becomeNew_62_x_x_x_x_x M X ∧ X.1 62 0 = n1 ∧ X.1 62 1 = n2 ∧ X.1 62 2 = n3 ∧ X.1 62 3 = n4 ∧ X.1 62 4 = n5 ∧ X.1 69 0 = 0 ∧ X.1 69 1 = 0 ∧ X.1 69 2 = 0 ∧ X.1 69 3 = 0 ∧ X.1 62 5 = 0) := by
  have hT : pvdom 134 = pvD_134 := rfl
  refine pw_blkw hT 3 (pc := 5) (lo := [some (pvR 62), some (pvI n1), some (pvI n2), some (pvI n3), some (pvI n4), some (pvI n5), none]) (st := []) (M := pvu M 62 0 n1) rfl ⟨trivial, trivial, rfl, trivial⟩ (fun M1_ e2_ => ?_)
  have o3_ : pvOk M1_ := pvok_u2 e2_ hok rfl hn1
  have f4_ : pvFr fp_eX4_becomeNew_62_x_x_x_x_x M M1_ := pvfr_u e2_ pvfr_0 rfl
  refine pw_blkw hT 3 (pc := 10) (lo := [some (pvR 62), some (pvI n1), some (pvI n2), some (pvI n3), some (pvI n4), some (pvI n5), none]) (st := []) (M := pvu M1_ 62 1 n2) rfl ⟨trivial, trivial, rfl, trivial⟩ (fun M5_ e6_ => ?_)
  have o7_ : pvOk M5_ := pvok_u2 e6_ o3_ rfl hn2
  have f8_ : pvFr fp_eX4_becomeNew_62_x_x_x_x_x M M5_ := pvfr_u e6_ f4_ rfl
  refine pw_blkw hT 3 (pc := 15) (lo := [some (pvR 62), some (pvI n1), some (pvI n2), some (pvI n3), some (pvI n4), some (pvI n5), none]) (st := []) (M := pvu M5_ 62 2 n3) rfl ⟨trivial, trivial, rfl, trivial⟩ (fun M9_ e10_ => ?_)
  have o11_ : pvOk M9_ := pvok_u2 e10_ o7_ rfl hn3
  have f12_ : pvFr fp_eX4_becomeNew_62_x_x_x_x_x M M9_ := pvfr_u e10_ f8_ rfl
  refine pw_blkw hT 3 (pc := 21) (lo := [some (pvR 62), some (pvI n1), some (pvI n2), some (pvI n3), some (pvI n4), some (pvI n5), none]) (st := []) (M := pvu M9_ 62 3 n4) rfl ⟨trivial, trivial, rfl, trivial⟩ (fun M13_ e14_ => ?_)
  have o15_ : pvOk M13_ := pvok_u2 e14_ o11_ rfl hn4
  have f16_ : pvFr fp_eX4_becomeNew_62_x_x_x_x_x M M13_ := pvfr_u e14_ f12_ rfl
  refine pw_blkw hT 3 (pc := 27) (lo := [some (pvR 62), some (pvI n1), some (pvI n2), some (pvI n3), some (pvI n4), some (pvI n5), none]) (st := []) (M := pvu M13_ 62 4 n5) rfl ⟨trivial, trivial, rfl, trivial⟩ (fun M17_ e18_ => ?_)
  have o19_ : pvOk M17_ := pvok_u2 e18_ o15_ rfl hn5
  have f20_ : pvFr fp_eX4_becomeNew_62_x_x_x_x_x M M17_ := pvfr_u e18_ f16_ rfl
  refine pw_blkw hT 3 (pc := 32) (lo := [some (pvR 62), some (pvI n1), some (pvI n2), some (pvI n3), some (pvI n4), some (pvI n5), none]) (st := []) (M := pvu M17_ 62 5 0) rfl ⟨trivial, trivial, ⟨rfl, Or.inl rfl⟩, trivial⟩ (fun M21_ e22_ => ?_)
  have o23_ : pvOk M21_ := pvok_u2 e22_ o19_ rfl (zr_wide (show 0 ≤ Int32.toInt 0 ∧ Int32.toInt 0 ≤ 0 from (by decide)) (by decide) (by decide))
  have f24_ : pvFr fp_eX4_becomeNew_62_x_x_x_x_x M M21_ := pvfr_u e22_ f20_ rfl
  refine pw_blk hT 2 (S' := (35, [some (pvR 62), some (pvI n1), some (pvI n2), some (pvI n3), some (pvI n4), some (pvI n5), some (pvI 0)], [], M21_)) rfl ⟨trivial, trivial, trivial⟩ ?_
  refine pw_blk hT 2 (S' := (38, [some (pvR 62), some (pvI n1), some (pvI n2), some (pvI n3), some (pvI n4), some (pvI n5), some (pvI 0)], [pvI 4, pvI 0], M21_)) rfl ⟨trivial, trivial, trivial⟩ ?_
  refine pw_ic hT (c := 4 ≤ 0) rfl rfl (fun c25_ => absurd c25_ (by decide)) (fun c25_ => ?_)
  refine pw_blkw hT 5 (pc := 49) (lo := [some (pvR 62), some (pvI n1), some (pvI n2), some (pvI n3), some (pvI n4), some (pvI n5), some (pvI 0)]) (st := []) (M := pvu M21_ 69 0 0) rfl ⟨trivial, rfl, trivial, trivial, ⟨rfl, (zr_in (n := 4) (show 0 ≤ Int32.toInt 0 ∧ Int32.toInt 0 ≤ 0 from (by decide)) (by decide) (by decide))⟩, trivial⟩ (fun M26_ e27_ => ?_)
  have o28_ : pvOk M26_ := pvok_u2 e27_ o23_ rfl (zr_wide (show 0 ≤ Int32.toInt 0 ∧ Int32.toInt 0 ≤ 0 from (by decide)) (by decide) (by decide))
  have f29_ : pvFr fp_eX4_becomeNew_62_x_x_x_x_x M M26_ := pvfr_u e27_ f24_ rfl
  refine pw_blk hT 2 (S' := (35, [some (pvR 62), some (pvI n1), some (pvI n2), some (pvI n3), some (pvI n4), some (pvI n5), some (pvI (0 + 1))], [], M26_)) rfl ⟨trivial, trivial, trivial⟩ ?_
  refine pw_blk hT 2 (S' := (38, [some (pvR 62), some (pvI n1), some (pvI n2), some (pvI n3), some (pvI n4), some (pvI n5), some (pvI (0 + 1))], [pvI 4, pvI (0 + 1)], M26_)) rfl ⟨trivial, trivial, trivial⟩ ?_
  refine pw_ic hT (c := 4 ≤ (0 + 1)) rfl rfl (fun c30_ => absurd c30_ (by decide)) (fun c30_ => ?_)
  refine pw_blkw hT 5 (pc := 49) (lo := [some (pvR 62), some (pvI n1), some (pvI n2), some (pvI n3), some (pvI n4), some (pvI n5), some (pvI (0 + 1))]) (st := []) (M := pvu M26_ 69 1 0) rfl ⟨trivial, rfl, trivial, trivial, ⟨rfl, (zr_in (n := 4) (show 1 ≤ Int32.toInt (0 + 1) ∧ Int32.toInt (0 + 1) ≤ 1 from (by decide)) (by decide) (by decide))⟩, trivial⟩ (fun M31_ e32_ => ?_)
  have o33_ : pvOk M31_ := pvok_u2 e32_ o28_ rfl (zr_wide (show 0 ≤ Int32.toInt 0 ∧ Int32.toInt 0 ≤ 0 from (by decide)) (by decide) (by decide))
  have f34_ : pvFr fp_eX4_becomeNew_62_x_x_x_x_x M M31_ := pvfr_u e32_ f29_ rfl
  refine pw_blk hT 2 (S' := (35, [some (pvR 62), some (pvI n1), some (pvI n2), some (pvI n3), some (pvI n4), some (pvI n5), some (pvI ((0 + 1) + 1))], [], M31_)) rfl ⟨trivial, trivial, trivial⟩ ?_
  refine pw_blk hT 2 (S' := (38, [some (pvR 62), some (pvI n1), some (pvI n2), some (pvI n3), some (pvI n4), some (pvI n5), some (pvI ((0 + 1) + 1))], [pvI 4, pvI ((0 + 1) + 1)], M31_)) rfl ⟨trivial, trivial, trivial⟩ ?_
  refine pw_ic hT (c := 4 ≤ ((0 + 1) + 1)) rfl rfl (fun c35_ => absurd c35_ (by decide)) (fun c35_ => ?_)
  refine pw_blkw hT 5 (pc := 49) (lo := [some (pvR 62), some (pvI n1), some (pvI n2), some (pvI n3), some (pvI n4), some (pvI n5), some (pvI ((0 + 1) + 1))]) (st := []) (M := pvu M31_ 69 2 0) rfl ⟨trivial, rfl, trivial, trivial, ⟨rfl, (zr_in (n := 4) (show 2 ≤ Int32.toInt ((0 + 1) + 1) ∧ Int32.toInt ((0 + 1) + 1) ≤ 2 from (by decide)) (by decide) (by decide))⟩, trivial⟩ (fun M36_ e37_ => ?_)
  have o38_ : pvOk M36_ := pvok_u2 e37_ o33_ rfl (zr_wide (show 0 ≤ Int32.toInt 0 ∧ Int32.toInt 0 ≤ 0 from (by decide)) (by decide) (by decide))
  have f39_ : pvFr fp_eX4_becomeNew_62_x_x_x_x_x M M36_ := pvfr_u e37_ f34_ rfl
  refine pw_blk hT 2 (S' := (35, [some (pvR 62), some (pvI n1), some (pvI n2), some (pvI n3), some (pvI n4), some (pvI n5), some (pvI (((0 + 1) + 1) + 1))], [], M36_)) rfl ⟨trivial, trivial, trivial⟩ ?_
  refine pw_blk hT 2 (S' := (38, [some (pvR 62), some (pvI n1), some (pvI n2), some (pvI n3), some (pvI n4), some (pvI n5), some (pvI (((0 + 1) + 1) + 1))], [pvI 4, pvI (((0 + 1) + 1) + 1)], M36_)) rfl ⟨trivial, trivial, trivial⟩ ?_
  refine pw_ic hT (c := 4 ≤ (((0 + 1) + 1) + 1)) rfl rfl (fun c40_ => absurd c40_ (by decide)) (fun c40_ => ?_)
  refine pw_blkw hT 5 (pc := 49) (lo := [some (pvR 62), some (pvI n1), some (pvI n2), some (pvI n3), some (pvI n4), some (pvI n5), some (pvI (((0 + 1) + 1) + 1))]) (st := []) (M := pvu M36_ 69 3 0) rfl ⟨trivial, rfl, trivial, trivial, ⟨rfl, (zr_in (n := 4) (show 3 ≤ Int32.toInt (((0 + 1) + 1) + 1) ∧ Int32.toInt (((0 + 1) + 1) + 1) ≤ 3 from (by decide)) (by decide) (by decide))⟩, trivial⟩ (fun M41_ e42_ => ?_)
  have o43_ : pvOk M41_ := pvok_u2 e42_ o38_ rfl (zr_wide (show 0 ≤ Int32.toInt 0 ∧ Int32.toInt 0 ≤ 0 from (by decide)) (by decide) (by decide))
  have f44_ : pvFr fp_eX4_becomeNew_62_x_x_x_x_x M M41_ := pvfr_u e42_ f39_ rfl
  refine pw_blk hT 2 (S' := (35, [some (pvR 62), some (pvI n1), some (pvI n2), some (pvI n3), some (pvI n4), some (pvI n5), some (pvI ((((0 + 1) + 1) + 1) + 1))], [], M41_)) rfl ⟨trivial, trivial, trivial⟩ ?_
  refine pw_blk hT 2 (S' := (38, [some (pvR 62), some (pvI n1), some (pvI n2), some (pvI n3), some (pvI n4), some (pvI n5), some (pvI ((((0 + 1) + 1) + 1) + 1))], [pvI 4, pvI ((((0 + 1) + 1) + 1) + 1)], M41_)) rfl ⟨trivial, trivial, trivial⟩ ?_
  refine pw_ic hT (c := 4 ≤ ((((0 + 1) + 1) + 1) + 1)) rfl rfl (fun c45_ => ?_) (fun c45_ => absurd (by decide) c45_)
  exact pw_ret hT rfl (r := none) (M' := M41_) ⟨rfl, rfl⟩ ⟨rfl, o43_, f44_, ((((((((((pvu_n e42_ 62 0 (Or.inl (by decide))).trans (pvu_n e37_ 62 0 (Or.inl (by decide)))).trans (pvu_n e32_ 62 0 (Or.inl (by decide)))).trans (pvu_n e27_ 62 0 (Or.inl (by decide)))).trans (pvu_n e22_ 62 0 (Or.inr (by decide)))).trans (pvu_n e18_ 62 0 (Or.inr (by decide)))).trans (pvu_n e14_ 62 0 (Or.inr (by decide)))).trans (pvu_n e10_ 62 0 (Or.inr (by decide)))).trans (pvu_n e6_ 62 0 (Or.inr (by decide)))).trans (pvu_s e2_)), (((((((((pvu_n e42_ 62 1 (Or.inl (by decide))).trans (pvu_n e37_ 62 1 (Or.inl (by decide)))).trans (pvu_n e32_ 62 1 (Or.inl (by decide)))).trans (pvu_n e27_ 62 1 (Or.inl (by decide)))).trans (pvu_n e22_ 62 1 (Or.inr (by decide)))).trans (pvu_n e18_ 62 1 (Or.inr (by decide)))).trans (pvu_n e14_ 62 1 (Or.inr (by decide)))).trans (pvu_n e10_ 62 1 (Or.inr (by decide)))).trans (pvu_s e6_)), ((((((((pvu_n e42_ 62 2 (Or.inl (by decide))).trans (pvu_n e37_ 62 2 (Or.inl (by decide)))).trans (pvu_n e32_ 62 2 (Or.inl (by decide)))).trans (pvu_n e27_ 62 2 (Or.inl (by decide)))).trans (pvu_n e22_ 62 2 (Or.inr (by decide)))).trans (pvu_n e18_ 62 2 (Or.inr (by decide)))).trans (pvu_n e14_ 62 2 (Or.inr (by decide)))).trans (pvu_s e10_)), (((((((pvu_n e42_ 62 3 (Or.inl (by decide))).trans (pvu_n e37_ 62 3 (Or.inl (by decide)))).trans (pvu_n e32_ 62 3 (Or.inl (by decide)))).trans (pvu_n e27_ 62 3 (Or.inl (by decide)))).trans (pvu_n e22_ 62 3 (Or.inr (by decide)))).trans (pvu_n e18_ 62 3 (Or.inr (by decide)))).trans (pvu_s e14_)), ((((((pvu_n e42_ 62 4 (Or.inl (by decide))).trans (pvu_n e37_ 62 4 (Or.inl (by decide)))).trans (pvu_n e32_ 62 4 (Or.inl (by decide)))).trans (pvu_n e27_ 62 4 (Or.inl (by decide)))).trans (pvu_n e22_ 62 4 (Or.inr (by decide)))).trans (pvu_s e18_)), ((((pvu_n e42_ 69 0 (Or.inr (by decide))).trans (pvu_n e37_ 69 0 (Or.inr (by decide)))).trans (pvu_n e32_ 69 0 (Or.inr (by decide)))).trans (pvu_s e27_)), (((pvu_n e42_ 69 1 (Or.inr (by decide))).trans (pvu_n e37_ 69 1 (Or.inr (by decide)))).trans (pvu_s e32_)), ((pvu_n e42_ 69 2 (Or.inr (by decide))).trans (pvu_s e37_)), (pvu_s e42_), (((((pvu_n e42_ 62 5 (Or.inl (by decide))).trans (pvu_n e37_ 62 5 (Or.inl (by decide)))).trans (pvu_n e32_ 62 5 (Or.inl (by decide)))).trans (pvu_n e27_ 62 5 (Or.inl (by decide)))).trans (pvu_s e22_))⟩
def fpL_eX4_becomeAs_62_76 : List (Nat × Nat × Nat) := [(0, 62, 1), (0, 62, 2), (0, 62, 3), (0, 62, 4), (0, 62, 5), (0, 62, 6), (0, 69, 0)]
def fp_eX4_becomeAs_62_76 (q k : Nat) : Bool := pvfp fpL_eX4_becomeAs_62_76 q k
theorem fp_eX4_becomeAs_62_76_fp_eX4_becomeNew_62_x_x_x_x_x (a b : Nat) (h : fp_eX4_becomeNew_62_x_x_x_x_x a b = true) : fp_eX4_becomeAs_62_76 a b = true := pvfp_sub (l1 := fpL_eX4_becomeNew_62_x_x_x_x_x) (l2 := fpL_eX4_becomeAs_62_76) (by decide) a b h
set_option maxHeartbeats 4000000 in
set_option maxRecDepth 10000 in
theorem se_X4_becomeAs_62_76 (M : pvM) (hok : pvOk M) (d : Nat) : PW 133 d (0, [some (pvR 62), some (pvR 76)], [], M) (fun r X => r = none ∧ pvOk X ∧ pvFr fp_eX4_becomeAs_62_76 M X ∧ X.1 62 0 = (M.1 76 0) ∧ X.1 62 1 = (M.1 76 1) ∧ X.1 62 2 = (M.1 76 2) ∧ X.1 62 3 = (M.1 76 3) ∧ X.1 62 4 = (M.1 76 4) ∧ X.1 69 0 = (M.1 83 0) ∧ X.1 69 1 = (M.1 83 1) ∧ X.1 69 2 = (M.1 83 2) ∧ X.1 69 3 = (M.1 83 3) ∧ X.1 62 5 = (M.1 76 5)) := by
  have hT : pvdom 133 = pvD_133 := rfl
  have b1_ : 0 ≤ Int32.toInt (M.1 76 0) ∧ Int32.toInt (M.1 76 0) ≤ 6 := pvok_r hok 76 0 rfl
  have b2_ : 0 ≤ Int32.toInt (M.1 76 1) ∧ Int32.toInt (M.1 76 1) ≤ 9 := pvok_r hok 76 1 rfl
  have b3_ : 0 ≤ Int32.toInt (M.1 76 2) ∧ Int32.toInt (M.1 76 2) ≤ 3 := pvok_r hok 76 2 rfl
  have b4_ : 0 ≤ Int32.toInt (M.1 76 3) ∧ Int32.toInt (M.1 76 3) ≤ 4 := pvok_r hok 76 3 rfl
  have b5_ : 0 ≤ Int32.toInt (M.1 76 4) ∧ Int32.toInt (M.1 76 4) ≤ 9 := pvok_r hok 76 4 rfl
  refine pw_blk hT 11 (S' := (21, [some (pvR 62), some (pvR 76)], [pvI (M.1 76 4), pvI (M.1 76 3), pvI (M.1 76 2), pvI (M.1 76 1), pvI (M.1 76 0), pvR 62], M)) rfl ⟨trivial, trivial, rfl, trivial, rfl, trivial, rfl, trivial, rfl, trivial, rfl, trivial⟩ ?_
  refine pw_callVd hT (as := [pvR 62, pvI (M.1 76 0), pvI (M.1 76 1), pvI (M.1 76 2), pvI (M.1 76 3), pvI (M.1 76 4)]) (lo1 := [some (pvR 62), some (pvI (M.1 76 0)), some (pvI (M.1 76 1)), some (pvI (M.1 76 2)), some (pvI (M.1 76 3)), some (pvI (M.1 76 4)), none]) (d1 := d) (rest := []) rfl rfl rfl rfl rfl (fun _ => rfl) (Nat.zero_le _) rfl rfl rfl (se_X4_becomeNew_62_x_x_x_x_x M hok (M.1 76 0) (M.1 76 1) (M.1 76 2) (M.1 76 3) (M.1 76 4) b1_ b2_ b3_ b4_ b5_ d) (fun M8_ o10_ g11_ d6_ => ?_)
  have f12_ : pvFr fp_eX4_becomeAs_62_76 M M8_ := pvfr_t g11_ pvfr_0 fp_eX4_becomeAs_62_76_fp_eX4_becomeNew_62_x_x_x_x_x
  have b13_ : 0 ≤ Int32.toInt (M8_.1 76 5) ∧ Int32.toInt (M8_.1 76 5) ≤ 1 := pvok_r o10_ 76 5 rfl
  refine pw_blkw hT 4 (pc := 32) (lo := [some (pvR 62), some (pvR 76)]) (st := []) (M := pvu M8_ 62 5 (M8_.1 76 5)) rfl ⟨trivial, trivial, rfl, ⟨rfl, pv01 b13_⟩, trivial⟩ (fun M14_ e15_ => ?_)
  have o16_ : pvOk M14_ := pvok_u2 e15_ o10_ rfl b13_
  have f17_ : pvFr fp_eX4_becomeAs_62_76 M M14_ := pvfr_u e15_ f12_ rfl
  refine pw_blkw hT 8 (pc := 46) (lo := [some (pvR 62), some (pvR 76)]) (st := []) (M := pvr M14_ 69 (va_cpy (M14_.1 83) (M14_.1 69) (Int32.toNatClampNeg 0) (Int32.toNatClampNeg 0) (Int32.toNatClampNeg 4))) rfl ⟨trivial, rfl, trivial, trivial, rfl, trivial, trivial, ⟨rfl, rfl, (pvnneg (b := 0) (show 0 ≤ Int32.toInt 0 ∧ Int32.toInt 0 ≤ 0 from (by decide))), (pvnneg (b := 0) (show 0 ≤ Int32.toInt 0 ∧ Int32.toInt 0 ≤ 0 from (by decide))), (pvnneg (b := 4) (zr_wide (show 4 ≤ Int32.toInt 4 ∧ Int32.toInt 4 ≤ 4 from (by decide)) (by decide) (by decide))), (show _ ≤ 4 from (by have u0 := (show 0 ≤ Int32.toInt 0 ∧ Int32.toInt 0 ≤ 0 from (by decide)); have u1 := (show 4 ≤ Int32.toInt 4 ∧ Int32.toInt 4 ≤ 4 from (by decide)); have u2 := ztn 0 (by omega); have u3 := ztn 4 (by omega); omega)), (show _ ≤ 4 from (by have u0 := (show 0 ≤ Int32.toInt 0 ∧ Int32.toInt 0 ≤ 0 from (by decide)); have u1 := (show 4 ≤ Int32.toInt 4 ∧ Int32.toInt 4 ≤ 4 from (by decide)); have u2 := ztn 0 (by omega); have u3 := ztn 4 (by omega); omega)), Nat.le_of_ble_eq_true rfl⟩, trivial⟩ (fun M18_ e19_ => ?_)
  have o20_ : pvOk M18_ := pvok_rr e19_ o16_ (fun _ => rfl) (pvcpy_r (fun k => pvok_r o16_ 83 k rfl) (fun k => pvok_r o16_ 69 k rfl))
  have f21_ : pvFr fp_eX4_becomeAs_62_76 M M18_ := pvfr_rr e19_ f17_ (fun _ => rfl)
  exact pw_ret hT rfl (r := none) (M' := M18_) ⟨rfl, rfl⟩ ⟨rfl, o20_, f21_, (((show M18_.1 62 0 = M14_.1 62 0 from by rw [e19_]; rfl).trans (pvu_n e15_ 62 0 (Or.inr (by decide)))).trans (d6_.1)), (((show M18_.1 62 1 = M14_.1 62 1 from by rw [e19_]; rfl).trans (pvu_n e15_ 62 1 (Or.inr (by decide)))).trans (d6_.2.1)), (((show M18_.1 62 2 = M14_.1 62 2 from by rw [e19_]; rfl).trans (pvu_n e15_ 62 2 (Or.inr (by decide)))).trans (d6_.2.2.1)), (((show M18_.1 62 3 = M14_.1 62 3 from by rw [e19_]; rfl).trans (pvu_n e15_ 62 3 (Or.inr (by decide)))).trans (d6_.2.2.2.1)), (((show M18_.1 62 4 = M14_.1 62 4 from by rw [e19_]; rfl).trans (pvu_n e15_ 62 4 (Or.inr (by decide)))).trans (d6_.2.2.2.2.1)), ((show M18_.1 69 0 = (M14_.1 83 0) from by rw [e19_]; rfl).trans ((pvu_n e15_ 83 0 (Or.inl (by decide))).trans (g11_ 83 0 rfl))), ((show M18_.1 69 1 = (M14_.1 83 1) from by rw [e19_]; rfl).trans ((pvu_n e15_ 83 1 (Or.inl (by decide))).trans (g11_ 83 1 rfl))), ((show M18_.1 69 2 = (M14_.1 83 2) from by rw [e19_]; rfl).trans ((pvu_n e15_ 83 2 (Or.inl (by decide))).trans (g11_ 83 2 rfl))), ((show M18_.1 69 3 = (M14_.1 83 3) from by rw [e19_]; rfl).trans ((pvu_n e15_ 83 3 (Or.inl (by decide))).trans (g11_ 83 3 rfl))), (((show M18_.1 62 5 = M14_.1 62 5 from by rw [e19_]; rfl).trans (pvu_s e15_)).trans (g11_ 76 5 rfl))⟩
def fpL_eX4_becomeNew_63_x_x_x_x_x : List (Nat × Nat × Nat) := [(0, 63, 1), (0, 63, 2), (0, 63, 3), (0, 63, 4), (0, 63, 5), (0, 63, 6), (0, 70, 0)]
def fp_eX4_becomeNew_63_x_x_x_x_x (q k : Nat) : Bool := pvfp fpL_eX4_becomeNew_63_x_x_x_x_x q k
set_option maxHeartbeats 4000000 in
set_option maxRecDepth 10000 in
theorem se_X4_becomeNew_63_x_x_x_x_x (M : pvM) (hok : pvOk M) (n1 : Int32) (n2 : Int32) (n3 : Int32) (n4 : Int32) (n5 : Int32) (hn1 : 0 ≤ Int32.toInt n1 ∧ Int32.toInt n1 ≤ 6) (hn2 : 0 ≤ Int32.toInt n2 ∧ Int32.toInt n2 ≤ 9) (hn3 : 0 ≤ Int32.toInt n3 ∧ Int32.toInt n3 ≤ 3) (hn4 : 0 ≤ Int32.toInt n4 ∧ Int32.toInt n4 ≤ 4) (hn5 : 0 ≤ Int32.toInt n5 ∧ Int32.toInt n5 ≤ 9) (d : Nat) : PW 134 d (0, [some (pvR 63), some (pvI n1), some (pvI n2), some (pvI n3), some (pvI n4), some (pvI n5), none], [], M) (fun r X => r = none ∧ pvOk X ∧ pvFr fp_eX4_becomeNew_63_x_x_x_x_x M X ∧ X.1 63 0 = n1 ∧ X.1 63 1 = n2 ∧ X.1 63 2 = n3 ∧ X.1 63 3 = n4 ∧ X.1 63 4 = n5 ∧ X.1 70 0 = 0 ∧ X.1 70 1 = 0 ∧ X.1 70 2 = 0 ∧ X.1 70 3 = 0 ∧ X.1 63 5 = 0) := by
  have hT : pvdom 134 = pvD_134 := rfl
  refine pw_blkw hT 3 (pc := 5) (lo := [some (pvR 63), some (pvI n1), some (pvI n2), some (pvI n3), some (pvI n4), some (pvI n5), none]) (st := []) (M := pvu M 63 0 n1) rfl ⟨trivial, trivial, rfl, trivial⟩ (fun M1_ e2_ => ?_)
  have o3_ : pvOk M1_ := pvok_u2 e2_ hok rfl hn1
  have f4_ : pvFr fp_eX4_becomeNew_63_x_x_x_x_x M M1_ := pvfr_u e2_ pvfr_0 rfl
  refine pw_blkw hT 3 (pc := 10) (lo := [some (pvR 63), some (pvI n1), some (pvI n2), some (pvI n3), some (pvI n4), some (pvI n5), none]) (st := []) (M := pvu M1_ 63 1 n2) rfl ⟨trivial, trivial, rfl, trivial⟩ (fun M5_ e6_ => ?_)
  have o7_ : pvOk M5_ := pvok_u2 e6_ o3_ rfl hn2
  have f8_ : pvFr fp_eX4_becomeNew_63_x_x_x_x_x M M5_ := pvfr_u e6_ f4_ rfl
  refine pw_blkw hT 3 (pc := 15) (lo := [some (pvR 63), some (pvI n1), some (pvI n2), some (pvI n3), some (pvI n4), some (pvI n5), none]) (st := []) (M := pvu M5_ 63 2 n3) rfl ⟨trivial, trivial, rfl, trivial⟩ (fun M9_ e10_ => ?_)
  have o11_ : pvOk M9_ := pvok_u2 e10_ o7_ rfl hn3
  have f12_ : pvFr fp_eX4_becomeNew_63_x_x_x_x_x M M9_ := pvfr_u e10_ f8_ rfl
  refine pw_blkw hT 3 (pc := 21) (lo := [some (pvR 63), some (pvI n1), some (pvI n2), some (pvI n3), some (pvI n4), some (pvI n5), none]) (st := []) (M := pvu M9_ 63 3 n4) rfl ⟨trivial, trivial, rfl, trivial⟩ (fun M13_ e14_ => ?_)
  have o15_ : pvOk M13_ := pvok_u2 e14_ o11_ rfl hn4
  have f16_ : pvFr fp_eX4_becomeNew_63_x_x_x_x_x M M13_ := pvfr_u e14_ f12_ rfl
  refine pw_blkw hT 3 (pc := 27) (lo := [some (pvR 63), some (pvI n1), some (pvI n2), some (pvI n3), some (pvI n4), some (pvI n5), none]) (st := []) (M := pvu M13_ 63 4 n5) rfl ⟨trivial, trivial, rfl, trivial⟩ (fun M17_ e18_ => ?_)
  have o19_ : pvOk M17_ := pvok_u2 e18_ o15_ rfl hn5
  have f20_ : pvFr fp_eX4_becomeNew_63_x_x_x_x_x M M17_ := pvfr_u e18_ f16_ rfl
  refine pw_blkw hT 3 (pc := 32) (lo := [some (pvR 63), some (pvI n1), some (pvI n2), some (pvI n3), some (pvI n4), some (pvI n5), none]) (st := []) (M := pvu M17_ 63 5 0) rfl ⟨trivial, trivial, ⟨rfl, Or.inl rfl⟩, trivial⟩ (fun M21_ e22_ => ?_)
  have o23_ : pvOk M21_ := pvok_u2 e22_ o19_ rfl (zr_wide (show 0 ≤ Int32.toInt 0 ∧ Int32.toInt 0 ≤ 0 from (by decide)) (by decide) (by decide))
  have f24_ : pvFr fp_eX4_becomeNew_63_x_x_x_x_x M M21_ := pvfr_u e22_ f20_ rfl
  refine pw_blk hT 2 (S' := (35, [some (pvR 63), some (pvI n1), some (pvI n2), some (pvI n3), some (pvI n4), some (pvI n5), some (pvI 0)], [], M21_)) rfl ⟨trivial, trivial, trivial⟩ ?_
  refine pw_blk hT 2 (S' := (38, [some (pvR 63), some (pvI n1), some (pvI n2), some (pvI n3), some (pvI n4), some (pvI n5), some (pvI 0)], [pvI 4, pvI 0], M21_)) rfl ⟨trivial, trivial, trivial⟩ ?_
  refine pw_ic hT (c := 4 ≤ 0) rfl rfl (fun c25_ => absurd c25_ (by decide)) (fun c25_ => ?_)
  refine pw_blkw hT 5 (pc := 49) (lo := [some (pvR 63), some (pvI n1), some (pvI n2), some (pvI n3), some (pvI n4), some (pvI n5), some (pvI 0)]) (st := []) (M := pvu M21_ 70 0 0) rfl ⟨trivial, rfl, trivial, trivial, ⟨rfl, (zr_in (n := 4) (show 0 ≤ Int32.toInt 0 ∧ Int32.toInt 0 ≤ 0 from (by decide)) (by decide) (by decide))⟩, trivial⟩ (fun M26_ e27_ => ?_)
  have o28_ : pvOk M26_ := pvok_u2 e27_ o23_ rfl (zr_wide (show 0 ≤ Int32.toInt 0 ∧ Int32.toInt 0 ≤ 0 from (by decide)) (by decide) (by decide))
  have f29_ : pvFr fp_eX4_becomeNew_63_x_x_x_x_x M M26_ := pvfr_u e27_ f24_ rfl
  refine pw_blk hT 2 (S' := (35, [some (pvR 63), some (pvI n1), some (pvI n2), some (pvI n3), some (pvI n4), some (pvI n5), some (pvI (0 + 1))], [], M26_)) rfl ⟨trivial, trivial, trivial⟩ ?_
  refine pw_blk hT 2 (S' := (38, [some (pvR 63), some (pvI n1), some (pvI n2), some (pvI n3), some (pvI n4), some (pvI n5), some (pvI (0 + 1))], [pvI 4, pvI (0 + 1)], M26_)) rfl ⟨trivial, trivial, trivial⟩ ?_
  refine pw_ic hT (c := 4 ≤ (0 + 1)) rfl rfl (fun c30_ => absurd c30_ (by decide)) (fun c30_ => ?_)
  refine pw_blkw hT 5 (pc := 49) (lo := [some (pvR 63), some (pvI n1), some (pvI n2), some (pvI n3), some (pvI n4), some (pvI n5), some (pvI (0 + 1))]) (st := []) (M := pvu M26_ 70 1 0) rfl ⟨trivial, rfl, trivial, trivial, ⟨rfl, (zr_in (n := 4) (show 1 ≤ Int32.toInt (0 + 1) ∧ Int32.toInt (0 + 1) ≤ 1 from (by decide)) (by decide) (by decide))⟩, trivial⟩ (fun M31_ e32_ => ?_)
  have o33_ : pvOk M31_ := pvok_u2 e32_ o28_ rfl (zr_wide (show 0 ≤ Int32.toInt 0 ∧ Int32.toInt 0 ≤ 0 from (by decide)) (by decide) (by decide))
  have f34_ : pvFr fp_eX4_becomeNew_63_x_x_x_x_x M M31_ := pvfr_u e32_ f29_ rfl
  refine pw_blk hT 2 (S' := (35, [some (pvR 63), some (pvI n1), some (pvI n2), some (pvI n3), some (pvI n4), some (pvI n5), some (pvI ((0 + 1) + 1))], [], M31_)) rfl ⟨trivial, trivial, trivial⟩ ?_
  refine pw_blk hT 2 (S' := (38, [some (pvR 63), some (pvI n1), some (pvI n2), some (pvI n3), some (pvI n4), some (pvI n5), some (pvI ((0 + 1) + 1))], [pvI 4, pvI ((0 + 1) + 1)], M31_)) rfl ⟨trivial, trivial, trivial⟩ ?_
  refine pw_ic hT (c := 4 ≤ ((0 + 1) + 1)) rfl rfl (fun c35_ => absurd c35_ (by decide)) (fun c35_ => ?_)
  refine pw_blkw hT 5 (pc := 49) (lo := [some (pvR 63), some (pvI n1), some (pvI n2), some (pvI n3), some (pvI n4), some (pvI n5), some (pvI ((0 + 1) + 1))]) (st := []) (M := pvu M31_ 70 2 0) rfl ⟨trivial, rfl, trivial, trivial, ⟨rfl, (zr_in (n := 4) (show 2 ≤ Int32.toInt ((0 + 1) + 1) ∧ Int32.toInt ((0 + 1) + 1) ≤ 2 from (by decide)) (by decide) (by decide))⟩, trivial⟩ (fun M36_ e37_ => ?_)
  have o38_ : pvOk M36_ := pvok_u2 e37_ o33_ rfl (zr_wide (show 0 ≤ Int32.toInt 0 ∧ Int32.toInt 0 ≤ 0 from (by decide)) (by decide) (by decide))
  have f39_ : pvFr fp_eX4_becomeNew_63_x_x_x_x_x M M36_ := pvfr_u e37_ f34_ rfl
  refine pw_blk hT 2 (S' := (35, [some (pvR 63), some (pvI n1), some (pvI n2), some (pvI n3), some (pvI n4), some (pvI n5), some (pvI (((0 + 1) + 1) + 1))], [], M36_)) rfl ⟨trivial, trivial, trivial⟩ ?_
  refine pw_blk hT 2 (S' := (38, [some (pvR 63), some (pvI n1), some (pvI n2), some (pvI n3), some (pvI n4), some (pvI n5), some (pvI (((0 + 1) + 1) + 1))], [pvI 4, pvI (((0 + 1) + 1) + 1)], M36_)) rfl ⟨trivial, trivial, trivial⟩ ?_
  refine pw_ic hT (c := 4 ≤ (((0 + 1) + 1) + 1)) rfl rfl (fun c40_ => absurd c40_ (by decide)) (fun c40_ => ?_)
  refine pw_blkw hT 5 (pc := 49) (lo := [some (pvR 63), some (pvI n1), some (pvI n2), some (pvI n3), some (pvI n4), some (pvI n5), some (pvI (((0 + 1) + 1) + 1))]) (st := []) (M := pvu M36_ 70 3 0) rfl ⟨trivial, rfl, trivial, trivial, ⟨rfl, (zr_in (n := 4) (show 3 ≤ Int32.toInt (((0 + 1) + 1) + 1) ∧ Int32.toInt (((0 + 1) + 1) + 1) ≤ 3 from (by decide)) (by decide) (by decide))⟩, trivial⟩ (fun M41_ e42_ => ?_)
  have o43_ : pvOk M41_ := pvok_u2 e42_ o38_ rfl (zr_wide (show 0 ≤ Int32.toInt 0 ∧ Int32.toInt 0 ≤ 0 from (by decide)) (by decide) (by decide))
  have f44_ : pvFr fp_eX4_becomeNew_63_x_x_x_x_x M M41_ := pvfr_u e42_ f39_ rfl
  refine pw_blk hT 2 (S' := (35, [some (pvR 63), some (pvI n1), some (pvI n2), some (pvI n3), some (pvI n4), some (pvI n5), some (pvI ((((0 + 1) + 1) + 1) + 1))], [], M41_)) rfl ⟨trivial, trivial, trivial⟩ ?_
  refine pw_blk hT 2 (S' := (38, [some (pvR 63), some (pvI n1), some (pvI n2), some (pvI n3), some (pvI n4), some (pvI n5), some (pvI ((((0 + 1) + 1) + 1) + 1))], [pvI 4, pvI ((((0 + 1) + 1) + 1) + 1)], M41_)) rfl ⟨trivial, trivial, trivial⟩ ?_
  refine pw_ic hT (c := 4 ≤ ((((0 + 1) + 1) + 1) + 1)) rfl rfl (fun c45_ => ?_) (fun c45_ => absurd (by decide) c45_)
  exact pw_ret hT rfl (r := none) (M' := M41_) ⟨rfl, rfl⟩ ⟨rfl, o43_, f44_, ((((((((((pvu_n e42_ 63 0 (Or.inl (by decide))).trans (pvu_n e37_ 63 0 (Or.inl (by decide)))).trans (pvu_n e32_ 63 0 (Or.inl (by decide)))).trans (pvu_n e27_ 63 0 (Or.inl (by decide)))).trans (pvu_n e22_ 63 0 (Or.inr (by decide)))).trans (pvu_n e18_ 63 0 (Or.inr (by decide)))).trans (pvu_n e14_ 63 0 (Or.inr (by decide)))).trans (pvu_n e10_ 63 0 (Or.inr (by decide)))).trans (pvu_n e6_ 63 0 (Or.inr (by decide)))).trans (pvu_s e2_)), (((((((((pvu_n e42_ 63 1 (Or.inl (by decide))).trans (pvu_n e37_ 63 1 (Or.inl (by decide)))).trans (pvu_n e32_ 63 1 (Or.inl (by decide)))).trans (pvu_n e27_ 63 1 (Or.inl (by decide)))).trans (pvu_n e22_ 63 1 (Or.inr (by decide)))).trans (pvu_n e18_ 63 1 (Or.inr (by decide)))).trans (pvu_n e14_ 63 1 (Or.inr (by decide)))).trans (pvu_n e10_ 63 1 (Or.inr (by decide)))).trans (pvu_s e6_)), ((((((((pvu_n e42_ 63 2 (Or.inl (by decide))).trans (pvu_n e37_ 63 2 (Or.inl (by decide)))).trans (pvu_n e32_ 63 2 (Or.inl (by decide)))).trans (pvu_n e27_ 63 2 (Or.inl (by decide)))).trans (pvu_n e22_ 63 2 (Or.inr (by decide)))).trans (pvu_n e18_ 63 2 (Or.inr (by decide)))).trans (pvu_n e14_ 63 2 (Or.inr (by decide)))).trans (pvu_s e10_)), (((((((pvu_n e42_ 63 3 (Or.inl (by decide))).trans (pvu_n e37_ 63 3 (Or.inl (by decide)))).trans (pvu_n e32_ 63 3 (Or.inl (by decide)))).trans (pvu_n e27_ 63 3 (Or.inl (by decide)))).trans (pvu_n e22_ 63 3 (Or.inr (by decide)))).trans (pvu_n e18_ 63 3 (Or.inr (by decide)))).trans (pvu_s e14_)), ((((((pvu_n e42_ 63 4 (Or.inl (by decide))).trans (pvu_n e37_ 63 4 (Or.inl (by decide)))).trans (pvu_n e32_ 63 4 (Or.inl (by decide)))).trans (pvu_n e27_ 63 4 (Or.inl (by decide)))).trans (pvu_n e22_ 63 4 (Or.inr (by decide)))).trans (pvu_s e18_)), ((((pvu_n e42_ 70 0 (Or.inr (by decide))).trans (pvu_n e37_ 70 0 (Or.inr (by decide)))).trans (pvu_n e32_ 70 0 (Or.inr (by decide)))).trans (pvu_s e27_)), (((pvu_n e42_ 70 1 (Or.inr (by decide))).trans (pvu_n e37_ 70 1 (Or.inr (by decide)))).trans (pvu_s e32_)), ((pvu_n e42_ 70 2 (Or.inr (by decide))).trans (pvu_s e37_)), (pvu_s e42_), (((((pvu_n e42_ 63 5 (Or.inl (by decide))).trans (pvu_n e37_ 63 5 (Or.inl (by decide)))).trans (pvu_n e32_ 63 5 (Or.inl (by decide)))).trans (pvu_n e27_ 63 5 (Or.inl (by decide)))).trans (pvu_s e22_))⟩
def fpL_eX4_becomeAs_63_77 : List (Nat × Nat × Nat) := [(0, 63, 1), (0, 63, 2), (0, 63, 3), (0, 63, 4), (0, 63, 5), (0, 63, 6), (0, 70, 0)]
def fp_eX4_becomeAs_63_77 (q k : Nat) : Bool := pvfp fpL_eX4_becomeAs_63_77 q k
theorem fp_eX4_becomeAs_63_77_fp_eX4_becomeNew_63_x_x_x_x_x (a b : Nat) (h : fp_eX4_becomeNew_63_x_x_x_x_x a b = true) : fp_eX4_becomeAs_63_77 a b = true := pvfp_sub (l1 := fpL_eX4_becomeNew_63_x_x_x_x_x) (l2 := fpL_eX4_becomeAs_63_77) (by decide) a b h
set_option maxHeartbeats 4000000 in
set_option maxRecDepth 10000 in
theorem se_X4_becomeAs_63_77 (M : pvM) (hok : pvOk M) (d : Nat) : PW 133 d (0, [some (pvR 63), some (pvR 77)], [], M) (fun r X => r = none ∧ pvOk X ∧ pvFr fp_eX4_becomeAs_63_77 M X ∧ X.1 63 0 = (M.1 77 0) ∧ X.1 63 1 = (M.1 77 1) ∧ X.1 63 2 = (M.1 77 2) ∧ X.1 63 3 = (M.1 77 3) ∧ X.1 63 4 = (M.1 77 4) ∧ X.1 70 0 = (M.1 84 0) ∧ X.1 70 1 = (M.1 84 1) ∧ X.1 70 2 = (M.1 84 2) ∧ X.1 70 3 = (M.1 84 3) ∧ X.1 63 5 = (M.1 77 5)) := by
  have hT : pvdom 133 = pvD_133 := rfl
  have b1_ : 0 ≤ Int32.toInt (M.1 77 0) ∧ Int32.toInt (M.1 77 0) ≤ 6 := pvok_r hok 77 0 rfl
  have b2_ : 0 ≤ Int32.toInt (M.1 77 1) ∧ Int32.toInt (M.1 77 1) ≤ 9 := pvok_r hok 77 1 rfl
  have b3_ : 0 ≤ Int32.toInt (M.1 77 2) ∧ Int32.toInt (M.1 77 2) ≤ 3 := pvok_r hok 77 2 rfl
  have b4_ : 0 ≤ Int32.toInt (M.1 77 3) ∧ Int32.toInt (M.1 77 3) ≤ 4 := pvok_r hok 77 3 rfl
  have b5_ : 0 ≤ Int32.toInt (M.1 77 4) ∧ Int32.toInt (M.1 77 4) ≤ 9 := pvok_r hok 77 4 rfl
  refine pw_blk hT 11 (S' := (21, [some (pvR 63), some (pvR 77)], [pvI (M.1 77 4), pvI (M.1 77 3), pvI (M.1 77 2), pvI (M.1 77 1), pvI (M.1 77 0), pvR 63], M)) rfl ⟨trivial, trivial, rfl, trivial, rfl, trivial, rfl, trivial, rfl, trivial, rfl, trivial⟩ ?_
  refine pw_callVd hT (as := [pvR 63, pvI (M.1 77 0), pvI (M.1 77 1), pvI (M.1 77 2), pvI (M.1 77 3), pvI (M.1 77 4)]) (lo1 := [some (pvR 63), some (pvI (M.1 77 0)), some (pvI (M.1 77 1)), some (pvI (M.1 77 2)), some (pvI (M.1 77 3)), some (pvI (M.1 77 4)), none]) (d1 := d) (rest := []) rfl rfl rfl rfl rfl (fun _ => rfl) (Nat.zero_le _) rfl rfl rfl (se_X4_becomeNew_63_x_x_x_x_x M hok (M.1 77 0) (M.1 77 1) (M.1 77 2) (M.1 77 3) (M.1 77 4) b1_ b2_ b3_ b4_ b5_ d) (fun M8_ o10_ g11_ d6_ => ?_)
  have f12_ : pvFr fp_eX4_becomeAs_63_77 M M8_ := pvfr_t g11_ pvfr_0 fp_eX4_becomeAs_63_77_fp_eX4_becomeNew_63_x_x_x_x_x
  have b13_ : 0 ≤ Int32.toInt (M8_.1 77 5) ∧ Int32.toInt (M8_.1 77 5) ≤ 1 := pvok_r o10_ 77 5 rfl
  refine pw_blkw hT 4 (pc := 32) (lo := [some (pvR 63), some (pvR 77)]) (st := []) (M := pvu M8_ 63 5 (M8_.1 77 5)) rfl ⟨trivial, trivial, rfl, ⟨rfl, pv01 b13_⟩, trivial⟩ (fun M14_ e15_ => ?_)
  have o16_ : pvOk M14_ := pvok_u2 e15_ o10_ rfl b13_
  have f17_ : pvFr fp_eX4_becomeAs_63_77 M M14_ := pvfr_u e15_ f12_ rfl
  refine pw_blkw hT 8 (pc := 46) (lo := [some (pvR 63), some (pvR 77)]) (st := []) (M := pvr M14_ 70 (va_cpy (M14_.1 84) (M14_.1 70) (Int32.toNatClampNeg 0) (Int32.toNatClampNeg 0) (Int32.toNatClampNeg 4))) rfl ⟨trivial, rfl, trivial, trivial, rfl, trivial, trivial, ⟨rfl, rfl, (pvnneg (b := 0) (show 0 ≤ Int32.toInt 0 ∧ Int32.toInt 0 ≤ 0 from (by decide))), (pvnneg (b := 0) (show 0 ≤ Int32.toInt 0 ∧ Int32.toInt 0 ≤ 0 from (by decide))), (pvnneg (b := 4) (zr_wide (show 4 ≤ Int32.toInt 4 ∧ Int32.toInt 4 ≤ 4 from (by decide)) (by decide) (by decide))), (show _ ≤ 4 from (by have u0 := (show 0 ≤ Int32.toInt 0 ∧ Int32.toInt 0 ≤ 0 from (by decide)); have u1 := (show 4 ≤ Int32.toInt 4 ∧ Int32.toInt 4 ≤ 4 from (by decide)); have u2 := ztn 0 (by omega); have u3 := ztn 4 (by omega); omega)), (show _ ≤ 4 from (by have u0 := (show 0 ≤ Int32.toInt 0 ∧ Int32.toInt 0 ≤ 0 from (by decide)); have u1 := (show 4 ≤ Int32.toInt 4 ∧ Int32.toInt 4 ≤ 4 from (by decide)); have u2 := ztn 0 (by omega); have u3 := ztn 4 (by omega); omega)), Nat.le_of_ble_eq_true rfl⟩, trivial⟩ (fun M18_ e19_ => ?_)
  have o20_ : pvOk M18_ := pvok_rr e19_ o16_ (fun _ => rfl) (pvcpy_r (fun k => pvok_r o16_ 84 k rfl) (fun k => pvok_r o16_ 70 k rfl))
  have f21_ : pvFr fp_eX4_becomeAs_63_77 M M18_ := pvfr_rr e19_ f17_ (fun _ => rfl)
  exact pw_ret hT rfl (r := none) (M' := M18_) ⟨rfl, rfl⟩ ⟨rfl, o20_, f21_, (((show M18_.1 63 0 = M14_.1 63 0 from by rw [e19_]; rfl).trans (pvu_n e15_ 63 0 (Or.inr (by decide)))).trans (d6_.1)), (((show M18_.1 63 1 = M14_.1 63 1 from by rw [e19_]; rfl).trans (pvu_n e15_ 63 1 (Or.inr (by decide)))).trans (d6_.2.1)), (((show M18_.1 63 2 = M14_.1 63 2 from by rw [e19_]; rfl).trans (pvu_n e15_ 63 2 (Or.inr (by decide)))).trans (d6_.2.2.1)), (((show M18_.1 63 3 = M14_.1 63 3 from by rw [e19_]; rfl).trans (pvu_n e15_ 63 3 (Or.inr (by decide)))).trans (d6_.2.2.2.1)), (((show M18_.1 63 4 = M14_.1 63 4 from by rw [e19_]; rfl).trans (pvu_n e15_ 63 4 (Or.inr (by decide)))).trans (d6_.2.2.2.2.1)), ((show M18_.1 70 0 = (M14_.1 84 0) from by rw [e19_]; rfl).trans ((pvu_n e15_ 84 0 (Or.inl (by decide))).trans (g11_ 84 0 rfl))), ((show M18_.1 70 1 = (M14_.1 84 1) from by rw [e19_]; rfl).trans ((pvu_n e15_ 84 1 (Or.inl (by decide))).trans (g11_ 84 1 rfl))), ((show M18_.1 70 2 = (M14_.1 84 2) from by rw [e19_]; rfl).trans ((pvu_n e15_ 84 2 (Or.inl (by decide))).trans (g11_ 84 2 rfl))), ((show M18_.1 70 3 = (M14_.1 84 3) from by rw [e19_]; rfl).trans ((pvu_n e15_ 84 3 (Or.inl (by decide))).trans (g11_ 84 3 rfl))), (((show M18_.1 63 5 = M14_.1 63 5 from by rw [e19_]; rfl).trans (pvu_s e15_)).trans (g11_ 77 5 rfl))⟩
