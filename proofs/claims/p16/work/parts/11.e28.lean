def fpL_eX6_becomeAs_101_100 : List (Nat × Nat × Nat) := [(0, 101, 1), (0, 109, 0), (0, 117, 0)]
def fp_eX6_becomeAs_101_100 (q k : Nat) : Bool := pvfp fpL_eX6_becomeAs_101_100 q k
theorem fp_eX6_becomeAs_101_100_fp_eX6_append_101_x_x (a b : Nat) (h : fp_eX6_append_101_x_x a b = true) : fp_eX6_becomeAs_101_100 a b = true := pvfp_sub (l1 := fpL_eX6_append_101_x_x) (l2 := fpL_eX6_becomeAs_101_100) (by decide) a b h
theorem fp_eX6_becomeAs_101_100_fp_eX6_clear_101 (a b : Nat) (h : fp_eX6_clear_101 a b = true) : fp_eX6_becomeAs_101_100 a b = true := pvfp_sub (l1 := fpL_eX6_clear_101) (l2 := fpL_eX6_becomeAs_101_100) (by decide) a b h
set_option maxHeartbeats 4000000 in
set_option maxRecDepth 10000 in
theorem se_X6_becomeAs_101_100 (M : pvM) (hok : pvOk M) (d : Nat) : PW 152 d (0, [some (pvR 101), some (pvR 100), none], [], M) (fun r X => r = none ∧ pvOk X ∧ pvFr fp_eX6_becomeAs_101_100 M X ∧ X.1 101 0 = (M.1 100 0) ∧ zC1 109 108 (Int32.toNatClampNeg (M.1 100 0)) M X ∧ zC1 117 116 (Int32.toNatClampNeg (M.1 100 0)) M X) := by
  have hT : pvdom 152 = pvD_152 := rfl
  refine pw_blk hT 1 (S' := (1, [some (pvR 101), some (pvR 100), none], [pvR 101], M)) rfl ⟨trivial, trivial⟩ ?_
  refine pw_callGd hT (as := [pvR 101]) (lo1 := [some (pvR 101)]) (d1 := d) (rest := []) rfl rfl rfl rfl rfl (fun _ => rfl) (Nat.zero_le _) rfl rfl rfl (se_X6_clear_101 M hok d) (fun x2_ M3_ b4_ o5_ g6_ d1_ => ?_)
  have f7_ : pvFr fp_eX6_becomeAs_101_100 M M3_ := pvfr_t g6_ pvfr_0 fp_eX6_becomeAs_101_100_fp_eX6_clear_101
  obtain ⟨b8_, d9_⟩ := b4_
  subst d9_
  refine pw_blk hT 3 (S' := (7, [some (pvR 101), some (pvR 100), some (pvI 0)], [], M3_)) rfl ⟨trivial, trivial, trivial, trivial⟩ ?_
  have hlz90_ : ∀ (nz90_ : Nat) (i2z90_ : Int32) (Mz90_ : pvM), (pvOk Mz90_) → (pvFr fp_eX6_becomeAs_101_100 M Mz90_) → (0 ≤ Int32.toInt i2z90_ ∧ Int32.toInt i2z90_ ≤ 7) → (Mz90_.1 101 0 = i2z90_) → (Int32.toInt i2z90_ ≤ Int32.toInt (M.1 100 0)) → (zC1 109 108 (Int32.toNatClampNeg i2z90_) M Mz90_) → (zC1 117 116 (Int32.toNatClampNeg i2z90_) M Mz90_) → (zhide ((8 - Int32.toInt i2z90_).toNat < nz90_)) → PW 152 d (7, [some (pvR 101), some (pvR 100), some (pvI i2z90_)], [], Mz90_) (fun r X => r = none ∧ pvOk X ∧ pvFr fp_eX6_becomeAs_101_100 M X ∧ X.1 101 0 = (M.1 100 0) ∧ zC1 109 108 (Int32.toNatClampNeg (M.1 100 0)) M X ∧ zC1 117 116 (Int32.toNatClampNeg (M.1 100 0)) M X) := by
    intro nz90_
    induction nz90_ with
    | zero => intro i2z90_ Mz90_ oz90_ fz90_ h2z90_ j0z90_ j1z90_ j2z90_ j3z90_ hmz90_; exact absurd (zshow hmz90_) (Nat.not_lt_zero _)
    | succ nz90_ ihz90_ =>
      intro i2z90_ Mz90_ oz90_ fz90_ h2z90_ j0z90_ j1z90_ j2z90_ j3z90_ hmz90_
      have b91_ : 0 ≤ Int32.toInt (Mz90_.1 100 0) ∧ Int32.toInt (Mz90_.1 100 0) ≤ 7 := pvok_r oz90_ 100 0 rfl
      refine pw_blk hT 3 (S' := (12, [some (pvR 101), some (pvR 100), some (pvI i2z90_)], [pvI (Mz90_.1 100 0), pvI i2z90_], Mz90_)) rfl ⟨trivial, trivial, rfl, trivial⟩ ?_
      refine pw_ic hT (c := (Mz90_.1 100 0) ≤ i2z90_) rfl rfl (fun c92_ => ?_) (fun c92_ => ?_)
      · have d93_ : Int32.toInt (Mz90_.1 100 0) ≤ Int32.toInt i2z90_ := (zi_le _ _).mp c92_
        exact pw_ret hT rfl (r := none) (M' := Mz90_) ⟨rfl, rfl⟩ ⟨rfl, oz90_, fz90_, (Int32.toInt_inj.mp (by have z3 : Mz90_.1 100 0 = M.1 100 0 := fz90_ 100 0 rfl; have z4 := congrArg Int32.toInt z3; have z5 := congrArg Int32.toInt j0z90_; omega)), (zC1_n (show Int32.toNatClampNeg (M.1 100 0) = Int32.toNatClampNeg i2z90_ from by have z3 : Mz90_.1 100 0 = M.1 100 0 := fz90_ 100 0 rfl; have z4 := congrArg Int32.toInt z3; show (M.1 100 0).toInt.toNat = i2z90_.toInt.toNat; omega) j2z90_), (zC1_n (show Int32.toNatClampNeg (M.1 100 0) = Int32.toNatClampNeg i2z90_ from by have z3 : Mz90_.1 100 0 = M.1 100 0 := fz90_ 100 0 rfl; have z4 := congrArg Int32.toInt z3; show (M.1 100 0).toInt.toNat = i2z90_.toInt.toNat; omega) j3z90_)⟩
      · have b94_ : 1 ≤ Int32.toInt (Mz90_.1 100 0) ∧ Int32.toInt (Mz90_.1 100 0) ≤ 7 := zr_nle_l 1 c92_ b91_ h2z90_ (by decide)
        have b95_ : 0 ≤ Int32.toInt i2z90_ ∧ Int32.toInt i2z90_ ≤ 6 := zr_nle_r 6 c92_ h2z90_ b94_ (by decide)
        have d96_ : Int32.toInt (Mz90_.1 100 0) > Int32.toInt i2z90_ := Int.not_le.mp ((not_congr (zi_le _ _)).mp c92_)
        have b97_ : 0 ≤ Int32.toInt (Mz90_.1 108 (Int32.toNatClampNeg i2z90_)) ∧ Int32.toInt (Mz90_.1 108 (Int32.toNatClampNeg i2z90_)) ≤ 6 := pvok_r oz90_ 108 (Int32.toNatClampNeg i2z90_) rfl
        have b98_ : 0 ≤ Int32.toInt (Mz90_.1 116 (Int32.toNatClampNeg i2z90_)) ∧ Int32.toInt (Mz90_.1 116 (Int32.toNatClampNeg i2z90_)) ≤ 9999 := pvok_r oz90_ 116 (Int32.toNatClampNeg i2z90_) rfl
        refine pw_blk hT 9 (S' := (28, [some (pvR 101), some (pvR 100), some (pvI i2z90_)], [pvI (Mz90_.1 116 (Int32.toNatClampNeg i2z90_)), pvI (Mz90_.1 108 (Int32.toNatClampNeg i2z90_)), pvR 101], Mz90_)) rfl ⟨trivial, trivial, rfl, trivial, ⟨rfl, (zr_in (n := 7) b95_ (by decide) (by decide))⟩, trivial, rfl, trivial, ⟨rfl, (zr_in (n := 7) b95_ (by decide) (by decide))⟩, trivial⟩ ?_
        refine pw_callGd hT (as := [pvR 101, pvI (Mz90_.1 108 (Int32.toNatClampNeg i2z90_)), pvI (Mz90_.1 116 (Int32.toNatClampNeg i2z90_))]) (lo1 := [some (pvR 101), some (pvI (Mz90_.1 108 (Int32.toNatClampNeg i2z90_))), some (pvI (Mz90_.1 116 (Int32.toNatClampNeg i2z90_)))]) (d1 := d) (rest := []) rfl rfl rfl rfl rfl (fun _ => rfl) (Nat.zero_le _) rfl rfl rfl (se_X6_append_101_x_x Mz90_ oz90_ (Mz90_.1 108 (Int32.toNatClampNeg i2z90_)) (Mz90_.1 116 (Int32.toNatClampNeg i2z90_)) b97_ b98_ d) (fun x100_ M101_ b102_ o103_ g104_ d99_ => ?_)
        have f105_ : pvFr fp_eX6_becomeAs_101_100 M M101_ := pvfr_t g104_ fz90_ fp_eX6_becomeAs_101_100_fp_eX6_append_101_x_x
        obtain ⟨b106_, d107_⟩ := b102_
        subst d107_
        obtain ⟨q109_, b108_⟩ : (Int32.toInt (i2z90_ + 1) = Int32.toInt i2z90_ + 1) ∧ (1 ≤ Int32.toInt (i2z90_ + 1) ∧ Int32.toInt (i2z90_ + 1) ≤ 7) := zadd_k i2z90_ 1 1 1 7 b95_ (by decide) (by decide) (by decide) (by decide) (by decide)
        refine pw_blk hT 3 (S' := (7, [some (pvR 101), some (pvR 100), some (pvI (i2z90_ + 1))], [], M101_)) rfl ⟨trivial, trivial, trivial, trivial⟩ ?_
        have j110_ : M101_.1 101 0 = (i2z90_ + 1) := (by have z1 : Int32.toInt (Int32.ofNat 7) = 7 := (by decide); have z2 := pvok_r oz90_ 100 0 rfl; have z3 : Mz90_.1 100 0 = M.1 100 0 := fz90_ 100 0 rfl; have z4 := congrArg Int32.toInt z3; rw [d99_.2, j0z90_, if_pos ((zi_lt _ _).mpr (by omega))])
        have j111_ : Int32.toInt (i2z90_ + 1) ≤ Int32.toInt (M.1 100 0) := (by have z3 : Mz90_.1 100 0 = M.1 100 0 := fz90_ 100 0 rfl; have z4 := congrArg Int32.toInt z3; omega)
        have j112_ : zC1 109 108 (Int32.toNatClampNeg (i2z90_ + 1)) M M101_ := (zC1_n (znp1 b95_ (by decide) (by decide)) (zC1_ap j2z90_ d99_.1 j0z90_ (by have u := b95_; omega) (fz90_ 108 (Int32.toNatClampNeg i2z90_) rfl)))
        have j113_ : zC1 117 116 (Int32.toNatClampNeg (i2z90_ + 1)) M M101_ := (zC1_n (znp1 b95_ (by decide) (by decide)) (zC1_bp j3z90_ d99_.1 j0z90_ (by have u := b95_; omega) (fz90_ 116 (Int32.toNatClampNeg i2z90_) rfl)))
        exact ihz90_ (i2z90_ + 1) M101_ o103_ f105_ (zr_wide b108_ (by decide) (by decide)) j110_ j111_ j112_ j113_ (zhid (pvms_up (zshow hmz90_) h2z90_ q109_ (by decide) (by decide)))
  have u114_ : Int32.toInt 0 = 0 := by decide
  have j115_ : M3_.1 101 0 = 0 := d1_
  have j116_ : Int32.toInt 0 ≤ Int32.toInt (M.1 100 0) := (by have z := pvok_r hok 100 0 rfl; have u : Int32.toInt 0 = 0 := (by decide); omega)
  have j117_ : zC1 109 108 (Int32.toNatClampNeg 0) M M3_ := (zC1_0 109 108 M M3_)
  have j118_ : zC1 117 116 (Int32.toNatClampNeg 0) M M3_ := (zC1_0 117 116 M M3_)
  exact hlz90_ _ 0 M3_ o5_ f7_ (zr_wide (show 0 ≤ Int32.toInt 0 ∧ Int32.toInt 0 ≤ 0 from (by decide)) (by decide) (by decide)) j115_ j116_ j117_ j118_ (zhid (Nat.lt_succ_self _))
def fpL_eX6_clear_103 : List (Nat × Nat × Nat) := [(0, 103, 1)]
def fp_eX6_clear_103 (q k : Nat) : Bool := pvfp fpL_eX6_clear_103 q k
set_option maxHeartbeats 4000000 in
set_option maxRecDepth 10000 in
theorem se_X6_clear_103 (M : pvM) (hok : pvOk M) (d : Nat) : PW 153 d (0, [some (pvR 103)], [], M) (fun r X => (∃ x : Int32, r = some (pvI x) ∧ (0 ≤ Int32.toInt x ∧ Int32.toInt x ≤ 0) ∧ x = 0) ∧ pvOk X ∧ pvFr fp_eX6_clear_103 M X ∧ X.1 103 0 = 0) := by
  have hT : pvdom 153 = pvD_153 := rfl
  refine pw_blkw hT 3 (pc := 5) (lo := [some (pvR 103)]) (st := []) (M := pvu M 103 0 0) rfl ⟨trivial, trivial, rfl, trivial⟩ (fun M1_ e2_ => ?_)
  have o3_ : pvOk M1_ := pvok_u2 e2_ hok rfl (zr_wide (show 0 ≤ Int32.toInt 0 ∧ Int32.toInt 0 ≤ 0 from (by decide)) (by decide) (by decide))
  have f4_ : pvFr fp_eX6_clear_103 M M1_ := pvfr_u e2_ pvfr_0 rfl
  refine pw_blk hT 1 (S' := (6, [some (pvR 103)], [pvI 0], M1_)) rfl ⟨trivial, trivial⟩ ?_
  exact pw_ret hT rfl (r := some (pvI 0)) (M' := M1_) ⟨rfl, rfl⟩ ⟨⟨_, rfl, (show 0 ≤ Int32.toInt 0 ∧ Int32.toInt 0 ≤ 0 from (by decide)), rfl⟩, o3_, f4_, (pvu_s e2_)⟩
def fpL_eX6_append_103_x_x : List (Nat × Nat × Nat) := [(0, 103, 1), (0, 111, 0), (0, 119, 0)]
def fp_eX6_append_103_x_x (q k : Nat) : Bool := pvfp fpL_eX6_append_103_x_x q k
set_option maxHeartbeats 4000000 in
set_option maxRecDepth 10000 in
theorem se_X6_append_103_x_x (M : pvM) (hok : pvOk M) (n1 : Int32) (n2 : Int32) (hn1 : 0 ≤ Int32.toInt n1 ∧ Int32.toInt n1 ≤ 6) (hn2 : 0 ≤ Int32.toInt n2 ∧ Int32.toInt n2 ≤ 9999) (d : Nat) : PW 151 d (0, [some (pvR 103), some (pvI n1), some (pvI n2)], [], M) (fun r X => (∃ x : Int32, r = some (pvI x) ∧ (1 ≤ Int32.toInt x ∧ Int32.toInt x ≤ 6) ∧ x = (if (M.1 103 0) < (Int32.ofNat 6) then ((M.1 103 0) + 1) else (M.1 103 0))) ∧ pvOk X ∧ pvFr fp_eX6_append_103_x_x M X ∧ zAp 103 111 119 6 n1 n2 M X ∧ X.1 103 0 = (if (M.1 103 0) < (Int32.ofNat 6) then ((M.1 103 0) + 1) else (M.1 103 0))) := by
  have hT : pvdom 151 = pvD_151 := rfl
  refine pw_blk hT 1 (S' := (1, [some (pvR 103), some (pvI n1), some (pvI n2)], [pvR 103], M)) rfl ⟨trivial, trivial⟩ ?_
  refine pw_callT hT (as := [pvR 103]) (lo1 := [some (pvR 103)]) (d1 := d) (rest := []) rfl rfl rfl rfl rfl (fun _ => rfl) (Nat.zero_le _) rfl rfl rfl (sf_X6_isFull_103 M hok d) ?_
  have b6_ : 0 ≤ Int32.toInt (M.1 103 0) ∧ Int32.toInt (M.1 103 0) ≤ 6 := pvok_r hok 103 0 rfl
  by_cases c7_ : (M.1 103 0) < (Int32.ofNat 6)
  · refine pw_eqI (if_pos c7_) ?_
    have b8_ : 0 ≤ Int32.toInt (M.1 103 0) ∧ Int32.toInt (M.1 103 0) ≤ 5 := zr_lt_l 5 c7_ b6_ (show 6 ≤ Int32.toInt (Int32.ofNat 6) ∧ Int32.toInt (Int32.ofNat 6) ≤ 6 from (by decide)) (by decide)
    show PW 151 d (4, [some (pvR 103), some (pvI n1), some (pvI n2)], [pvI 0], M) _
    refine pw_if hT (c := 0 = 0) rfl rfl (fun c9_ => ?_) (fun c9_ => absurd (by decide) c9_)
    refine pw_blkw hT 6 (pc := 22) (lo := [some (pvR 103), some (pvI n1), some (pvI n2)]) (st := []) (M := pvu M 111 (Int32.toNatClampNeg (M.1 103 0)) n1) rfl ⟨trivial, rfl, trivial, rfl, trivial, ⟨rfl, (zr_in (n := 6) b8_ (by decide) (by decide))⟩, trivial⟩ (fun M10_ e11_ => ?_)
    have o12_ : pvOk M10_ := pvok_u2 e11_ hok rfl hn1
    have f13_ : pvFr fp_eX6_append_103_x_x M M10_ := pvfr_u e11_ pvfr_0 rfl
    have e14_ : (M10_.1 103 0) = (M.1 103 0) := (pvu_n e11_ 103 0 (Or.inl (by decide)))
    have b15_ : 0 ≤ Int32.toInt (M10_.1 103 0) ∧ Int32.toInt (M10_.1 103 0) ≤ 5 := (by rw [e14_]; exact b8_)
    refine pw_blkw hT 6 (pc := 32) (lo := [some (pvR 103), some (pvI n1), some (pvI n2)]) (st := []) (M := pvu M10_ 119 (Int32.toNatClampNeg (M10_.1 103 0)) n2) rfl ⟨trivial, rfl, trivial, rfl, trivial, ⟨rfl, (zr_in (n := 6) b15_ (by decide) (by decide))⟩, trivial⟩ (fun M16_ e17_ => ?_)
    have o18_ : pvOk M16_ := pvok_u2 e17_ o12_ rfl hn2
    have f19_ : pvFr fp_eX6_append_103_x_x M M16_ := pvfr_u e17_ f13_ rfl
    have e20_ : (M16_.1 103 0) = (M10_.1 103 0) := (pvu_n e17_ 103 0 (Or.inl (by decide)))
    have b21_ : 0 ≤ Int32.toInt (M16_.1 103 0) ∧ Int32.toInt (M16_.1 103 0) ≤ 5 := (by rw [e20_]; exact b15_)
    obtain ⟨q23_, b22_⟩ : (Int32.toInt ((M16_.1 103 0) + 1) = Int32.toInt (M16_.1 103 0) + 1) ∧ (1 ≤ Int32.toInt ((M16_.1 103 0) + 1) ∧ Int32.toInt ((M16_.1 103 0) + 1) ≤ 6) := zadd_k (M16_.1 103 0) 1 1 1 6 b21_ (by decide) (by decide) (by decide) (by decide) (by decide)
    refine pw_blkw hT 6 (pc := 42) (lo := [some (pvR 103), some (pvI n1), some (pvI n2)]) (st := []) (M := pvu M16_ 103 0 ((M16_.1 103 0) + 1)) rfl ⟨trivial, trivial, rfl, trivial, trivial, rfl, trivial⟩ (fun M24_ e25_ => ?_)
    have o26_ : pvOk M24_ := pvok_u2 e25_ o18_ rfl (zr_wide b22_ (by decide) (by decide))
    have f27_ : pvFr fp_eX6_append_103_x_x M M24_ := pvfr_u e25_ f19_ rfl
    have e28_ : (M24_.1 103 0) = ((M16_.1 103 0) + 1) := (pvu_s e25_)
    have b29_ : 1 ≤ Int32.toInt (M24_.1 103 0) ∧ Int32.toInt (M24_.1 103 0) ≤ 6 := (by rw [e28_]; exact b22_)
    refine pw_blk hT 2 (S' := (46, [some (pvR 103), some (pvI n1), some (pvI n2)], [pvI (M24_.1 103 0)], M24_)) rfl ⟨trivial, rfl, trivial⟩ ?_
    exact pw_ret hT rfl (r := some (pvI (M24_.1 103 0))) (M' := M24_) ⟨rfl, rfl⟩ ⟨⟨_, rfl, b29_, (by rw [if_pos c7_]; first | done | exact (show (M24_.1 103 0) = ((M.1 103 0) + 1) from by rw [((pvu_s e25_).trans (show ((M16_.1 103 0) + 1) = ((M.1 103 0) + 1) from by rw [((pvu_n e17_ 103 0 (Or.inl (by decide))).trans (pvu_n e11_ 103 0 (Or.inl (by decide))))]))]) | (rw [if_pos c7_]; exact (show (M24_.1 103 0) = ((M.1 103 0) + 1) from by rw [((pvu_s e25_).trans (show ((M16_.1 103 0) + 1) = ((M.1 103 0) + 1) from by rw [((pvu_n e17_ 103 0 (Or.inl (by decide))).trans (pvu_n e11_ 103 0 (Or.inl (by decide))))]))])))⟩, o26_, f27_, (zAp_y (by decide) (by decide) (by decide) (by have u := b8_; omega) e11_ e17_ e25_), (by rw [if_pos c7_]; first | done | exact ((pvu_s e25_).trans (show ((M16_.1 103 0) + 1) = ((M.1 103 0) + 1) from by rw [((pvu_n e17_ 103 0 (Or.inl (by decide))).trans (pvu_n e11_ 103 0 (Or.inl (by decide))))])) | (rw [if_pos c7_]; done) | (rw [if_pos c7_]; exact ((pvu_s e25_).trans (show ((M16_.1 103 0) + 1) = ((M.1 103 0) + 1) from by rw [((pvu_n e17_ 103 0 (Or.inl (by decide))).trans (pvu_n e11_ 103 0 (Or.inl (by decide))))]))))⟩
  · refine pw_eqI (if_neg c7_) ?_
    have b30_ : 6 ≤ Int32.toInt (M.1 103 0) ∧ Int32.toInt (M.1 103 0) ≤ 6 := zr_nlt_l 6 c7_ b6_ (show 6 ≤ Int32.toInt (Int32.ofNat 6) ∧ Int32.toInt (Int32.ofNat 6) ≤ 6 from (by decide)) (by decide)
    show PW 151 d (4, [some (pvR 103), some (pvI n1), some (pvI n2)], [pvI 1], M) _
    refine pw_if hT (c := 1 = 0) rfl rfl (fun c31_ => absurd c31_ (by decide)) (fun c31_ => ?_)
    refine pw_blk hT 2 (S' := (11, [some (pvR 103), some (pvI n1), some (pvI n2)], [pvI (M.1 103 0)], M)) rfl ⟨trivial, rfl, trivial⟩ ?_
    exact pw_ret hT rfl (r := some (pvI (M.1 103 0))) (M' := M) ⟨rfl, rfl⟩ ⟨⟨_, rfl, (zr_wide b30_ (by decide) (by decide)), (by rw [if_neg c7_]; first | done | (rw [if_neg c7_]; done))⟩, hok, pvfr_0, (zAp_n (by have u := b30_; omega)), (by rw [if_neg c7_]; first | done | exact rfl | (rw [if_neg c7_]; done) | (rw [if_neg c7_]; exact rfl))⟩
def fpL_eX6_becomeAs_103_102 : List (Nat × Nat × Nat) := [(0, 103, 1), (0, 111, 0), (0, 119, 0)]
def fp_eX6_becomeAs_103_102 (q k : Nat) : Bool := pvfp fpL_eX6_becomeAs_103_102 q k
theorem fp_eX6_becomeAs_103_102_fp_eX6_append_103_x_x (a b : Nat) (h : fp_eX6_append_103_x_x a b = true) : fp_eX6_becomeAs_103_102 a b = true := pvfp_sub (l1 := fpL_eX6_append_103_x_x) (l2 := fpL_eX6_becomeAs_103_102) (by decide) a b h
theorem fp_eX6_becomeAs_103_102_fp_eX6_clear_103 (a b : Nat) (h : fp_eX6_clear_103 a b = true) : fp_eX6_becomeAs_103_102 a b = true := pvfp_sub (l1 := fpL_eX6_clear_103) (l2 := fpL_eX6_becomeAs_103_102) (by decide) a b h
set_option maxHeartbeats 4000000 in
set_option maxRecDepth 10000 in
theorem se_X6_becomeAs_103_102 (M : pvM) (hok : pvOk M) (d : Nat) : PW 152 d (0, [some (pvR 103), some (pvR 102), none], [], M) (fun r X => r = none ∧ pvOk X ∧ pvFr fp_eX6_becomeAs_103_102 M X ∧ X.1 103 0 = (M.1 102 0) ∧ zC1 111 110 (Int32.toNatClampNeg (M.1 102 0)) M X ∧ zC1 119 118 (Int32.toNatClampNeg (M.1 102 0)) M X) := by
  have hT : pvdom 152 = pvD_152 := rfl
  refine pw_blk hT 1 (S' := (1, [some (pvR 103), some (pvR 102), none], [pvR 103], M)) rfl ⟨trivial, trivial⟩ ?_
  refine pw_callGd hT (as := [pvR 103]) (lo1 := [some (pvR 103)]) (d1 := d) (rest := []) rfl rfl rfl rfl rfl (fun _ => rfl) (Nat.zero_le _) rfl rfl rfl (se_X6_clear_103 M hok d) (fun x2_ M3_ b4_ o5_ g6_ d1_ => ?_)
  have f7_ : pvFr fp_eX6_becomeAs_103_102 M M3_ := pvfr_t g6_ pvfr_0 fp_eX6_becomeAs_103_102_fp_eX6_clear_103
  obtain ⟨b8_, d9_⟩ := b4_
  subst d9_
  refine pw_blk hT 3 (S' := (7, [some (pvR 103), some (pvR 102), some (pvI 0)], [], M3_)) rfl ⟨trivial, trivial, trivial, trivial⟩ ?_
  have hlz90_ : ∀ (nz90_ : Nat) (i2z90_ : Int32) (Mz90_ : pvM), (pvOk Mz90_) → (pvFr fp_eX6_becomeAs_103_102 M Mz90_) → (0 ≤ Int32.toInt i2z90_ ∧ Int32.toInt i2z90_ ≤ 6) → (Mz90_.1 103 0 = i2z90_) → (Int32.toInt i2z90_ ≤ Int32.toInt (M.1 102 0)) → (zC1 111 110 (Int32.toNatClampNeg i2z90_) M Mz90_) → (zC1 119 118 (Int32.toNatClampNeg i2z90_) M Mz90_) → (zhide ((7 - Int32.toInt i2z90_).toNat < nz90_)) → PW 152 d (7, [some (pvR 103), some (pvR 102), some (pvI i2z90_)], [], Mz90_) (fun r X => r = none ∧ pvOk X ∧ pvFr fp_eX6_becomeAs_103_102 M X ∧ X.1 103 0 = (M.1 102 0) ∧ zC1 111 110 (Int32.toNatClampNeg (M.1 102 0)) M X ∧ zC1 119 118 (Int32.toNatClampNeg (M.1 102 0)) M X) := by
    intro nz90_
    induction nz90_ with
    | zero => intro i2z90_ Mz90_ oz90_ fz90_ h2z90_ j0z90_ j1z90_ j2z90_ j3z90_ hmz90_; exact absurd (zshow hmz90_) (Nat.not_lt_zero _)
    | succ nz90_ ihz90_ =>
      intro i2z90_ Mz90_ oz90_ fz90_ h2z90_ j0z90_ j1z90_ j2z90_ j3z90_ hmz90_
      have b91_ : 0 ≤ Int32.toInt (Mz90_.1 102 0) ∧ Int32.toInt (Mz90_.1 102 0) ≤ 6 := pvok_r oz90_ 102 0 rfl
      refine pw_blk hT 3 (S' := (12, [some (pvR 103), some (pvR 102), some (pvI i2z90_)], [pvI (Mz90_.1 102 0), pvI i2z90_], Mz90_)) rfl ⟨trivial, trivial, rfl, trivial⟩ ?_
      refine pw_ic hT (c := (Mz90_.1 102 0) ≤ i2z90_) rfl rfl (fun c92_ => ?_) (fun c92_ => ?_)
      · have d93_ : Int32.toInt (Mz90_.1 102 0) ≤ Int32.toInt i2z90_ := (zi_le _ _).mp c92_
        exact pw_ret hT rfl (r := none) (M' := Mz90_) ⟨rfl, rfl⟩ ⟨rfl, oz90_, fz90_, (Int32.toInt_inj.mp (by have z3 : Mz90_.1 102 0 = M.1 102 0 := fz90_ 102 0 rfl; have z4 := congrArg Int32.toInt z3; have z5 := congrArg Int32.toInt j0z90_; omega)), (zC1_n (show Int32.toNatClampNeg (M.1 102 0) = Int32.toNatClampNeg i2z90_ from by have z3 : Mz90_.1 102 0 = M.1 102 0 := fz90_ 102 0 rfl; have z4 := congrArg Int32.toInt z3; show (M.1 102 0).toInt.toNat = i2z90_.toInt.toNat; omega) j2z90_), (zC1_n (show Int32.toNatClampNeg (M.1 102 0) = Int32.toNatClampNeg i2z90_ from by have z3 : Mz90_.1 102 0 = M.1 102 0 := fz90_ 102 0 rfl; have z4 := congrArg Int32.toInt z3; show (M.1 102 0).toInt.toNat = i2z90_.toInt.toNat; omega) j3z90_)⟩
      · have b94_ : 1 ≤ Int32.toInt (Mz90_.1 102 0) ∧ Int32.toInt (Mz90_.1 102 0) ≤ 6 := zr_nle_l 1 c92_ b91_ h2z90_ (by decide)
        have b95_ : 0 ≤ Int32.toInt i2z90_ ∧ Int32.toInt i2z90_ ≤ 5 := zr_nle_r 5 c92_ h2z90_ b94_ (by decide)
        have d96_ : Int32.toInt (Mz90_.1 102 0) > Int32.toInt i2z90_ := Int.not_le.mp ((not_congr (zi_le _ _)).mp c92_)
        have b97_ : 0 ≤ Int32.toInt (Mz90_.1 110 (Int32.toNatClampNeg i2z90_)) ∧ Int32.toInt (Mz90_.1 110 (Int32.toNatClampNeg i2z90_)) ≤ 6 := pvok_r oz90_ 110 (Int32.toNatClampNeg i2z90_) rfl
        have b98_ : 0 ≤ Int32.toInt (Mz90_.1 118 (Int32.toNatClampNeg i2z90_)) ∧ Int32.toInt (Mz90_.1 118 (Int32.toNatClampNeg i2z90_)) ≤ 9999 := pvok_r oz90_ 118 (Int32.toNatClampNeg i2z90_) rfl
        refine pw_blk hT 9 (S' := (28, [some (pvR 103), some (pvR 102), some (pvI i2z90_)], [pvI (Mz90_.1 118 (Int32.toNatClampNeg i2z90_)), pvI (Mz90_.1 110 (Int32.toNatClampNeg i2z90_)), pvR 103], Mz90_)) rfl ⟨trivial, trivial, rfl, trivial, ⟨rfl, (zr_in (n := 6) b95_ (by decide) (by decide))⟩, trivial, rfl, trivial, ⟨rfl, (zr_in (n := 6) b95_ (by decide) (by decide))⟩, trivial⟩ ?_
        refine pw_callGd hT (as := [pvR 103, pvI (Mz90_.1 110 (Int32.toNatClampNeg i2z90_)), pvI (Mz90_.1 118 (Int32.toNatClampNeg i2z90_))]) (lo1 := [some (pvR 103), some (pvI (Mz90_.1 110 (Int32.toNatClampNeg i2z90_))), some (pvI (Mz90_.1 118 (Int32.toNatClampNeg i2z90_)))]) (d1 := d) (rest := []) rfl rfl rfl rfl rfl (fun _ => rfl) (Nat.zero_le _) rfl rfl rfl (se_X6_append_103_x_x Mz90_ oz90_ (Mz90_.1 110 (Int32.toNatClampNeg i2z90_)) (Mz90_.1 118 (Int32.toNatClampNeg i2z90_)) b97_ b98_ d) (fun x100_ M101_ b102_ o103_ g104_ d99_ => ?_)
        have f105_ : pvFr fp_eX6_becomeAs_103_102 M M101_ := pvfr_t g104_ fz90_ fp_eX6_becomeAs_103_102_fp_eX6_append_103_x_x
        obtain ⟨b106_, d107_⟩ := b102_
        subst d107_
        obtain ⟨q109_, b108_⟩ : (Int32.toInt (i2z90_ + 1) = Int32.toInt i2z90_ + 1) ∧ (1 ≤ Int32.toInt (i2z90_ + 1) ∧ Int32.toInt (i2z90_ + 1) ≤ 6) := zadd_k i2z90_ 1 1 1 6 b95_ (by decide) (by decide) (by decide) (by decide) (by decide)
        refine pw_blk hT 3 (S' := (7, [some (pvR 103), some (pvR 102), some (pvI (i2z90_ + 1))], [], M101_)) rfl ⟨trivial, trivial, trivial, trivial⟩ ?_
        have j110_ : M101_.1 103 0 = (i2z90_ + 1) := (by have z1 : Int32.toInt (Int32.ofNat 6) = 6 := (by decide); have z2 := pvok_r oz90_ 102 0 rfl; have z3 : Mz90_.1 102 0 = M.1 102 0 := fz90_ 102 0 rfl; have z4 := congrArg Int32.toInt z3; rw [d99_.2, j0z90_, if_pos ((zi_lt _ _).mpr (by omega))])
        have j111_ : Int32.toInt (i2z90_ + 1) ≤ Int32.toInt (M.1 102 0) := (by have z3 : Mz90_.1 102 0 = M.1 102 0 := fz90_ 102 0 rfl; have z4 := congrArg Int32.toInt z3; omega)
        have j112_ : zC1 111 110 (Int32.toNatClampNeg (i2z90_ + 1)) M M101_ := (zC1_n (znp1 b95_ (by decide) (by decide)) (zC1_ap j2z90_ d99_.1 j0z90_ (by have u := b95_; omega) (fz90_ 110 (Int32.toNatClampNeg i2z90_) rfl)))
        have j113_ : zC1 119 118 (Int32.toNatClampNeg (i2z90_ + 1)) M M101_ := (zC1_n (znp1 b95_ (by decide) (by decide)) (zC1_bp j3z90_ d99_.1 j0z90_ (by have u := b95_; omega) (fz90_ 118 (Int32.toNatClampNeg i2z90_) rfl)))
        exact ihz90_ (i2z90_ + 1) M101_ o103_ f105_ (zr_wide b108_ (by decide) (by decide)) j110_ j111_ j112_ j113_ (zhid (pvms_up (zshow hmz90_) h2z90_ q109_ (by decide) (by decide)))
  have u114_ : Int32.toInt 0 = 0 := by decide
  have j115_ : M3_.1 103 0 = 0 := d1_
  have j116_ : Int32.toInt 0 ≤ Int32.toInt (M.1 102 0) := (by have z := pvok_r hok 102 0 rfl; have u : Int32.toInt 0 = 0 := (by decide); omega)
  have j117_ : zC1 111 110 (Int32.toNatClampNeg 0) M M3_ := (zC1_0 111 110 M M3_)
  have j118_ : zC1 119 118 (Int32.toNatClampNeg 0) M M3_ := (zC1_0 119 118 M M3_)
  exact hlz90_ _ 0 M3_ o5_ f7_ (zr_wide (show 0 ≤ Int32.toInt 0 ∧ Int32.toInt 0 ≤ 0 from (by decide)) (by decide) (by decide)) j115_ j116_ j117_ j118_ (zhid (Nat.lt_succ_self _))
def fpL_eX6_clear_105 : List (Nat × Nat × Nat) := [(0, 105, 1)]
def fp_eX6_clear_105 (q k : Nat) : Bool := pvfp fpL_eX6_clear_105 q k
set_option maxHeartbeats 4000000 in
set_option maxRecDepth 10000 in
theorem se_X6_clear_105 (M : pvM) (hok : pvOk M) (d : Nat) : PW 153 d (0, [some (pvR 105)], [], M) (fun r X => (∃ x : Int32, r = some (pvI x) ∧ (0 ≤ Int32.toInt x ∧ Int32.toInt x ≤ 0) ∧ x = 0) ∧ pvOk X ∧ pvFr fp_eX6_clear_105 M X ∧ X.1 105 0 = 0) := by
  have hT : pvdom 153 = pvD_153 := rfl
  refine pw_blkw hT 3 (pc := 5) (lo := [some (pvR 105)]) (st := []) (M := pvu M 105 0 0) rfl ⟨trivial, trivial, rfl, trivial⟩ (fun M1_ e2_ => ?_)
  have o3_ : pvOk M1_ := pvok_u2 e2_ hok rfl (zr_wide (show 0 ≤ Int32.toInt 0 ∧ Int32.toInt 0 ≤ 0 from (by decide)) (by decide) (by decide))
  have f4_ : pvFr fp_eX6_clear_105 M M1_ := pvfr_u e2_ pvfr_0 rfl
  refine pw_blk hT 1 (S' := (6, [some (pvR 105)], [pvI 0], M1_)) rfl ⟨trivial, trivial⟩ ?_
  exact pw_ret hT rfl (r := some (pvI 0)) (M' := M1_) ⟨rfl, rfl⟩ ⟨⟨_, rfl, (show 0 ≤ Int32.toInt 0 ∧ Int32.toInt 0 ≤ 0 from (by decide)), rfl⟩, o3_, f4_, (pvu_s e2_)⟩
def fpL_eX6_append_105_x_x : List (Nat × Nat × Nat) := [(0, 105, 1), (0, 113, 0), (0, 121, 0)]
def fp_eX6_append_105_x_x (q k : Nat) : Bool := pvfp fpL_eX6_append_105_x_x q k
set_option maxHeartbeats 4000000 in
set_option maxRecDepth 10000 in
theorem se_X6_append_105_x_x (M : pvM) (hok : pvOk M) (n1 : Int32) (n2 : Int32) (hn1 : 0 ≤ Int32.toInt n1 ∧ Int32.toInt n1 ≤ 6) (hn2 : 0 ≤ Int32.toInt n2 ∧ Int32.toInt n2 ≤ 9999) (d : Nat) : PW 151 d (0, [some (pvR 105), some (pvI n1), some (pvI n2)], [], M) (fun r X => (∃ x : Int32, r = some (pvI x) ∧ (1 ≤ Int32.toInt x ∧ Int32.toInt x ≤ 8) ∧ x = (if (M.1 105 0) < (Int32.ofNat 8) then ((M.1 105 0) + 1) else (M.1 105 0))) ∧ pvOk X ∧ pvFr fp_eX6_append_105_x_x M X ∧ zAp 105 113 121 8 n1 n2 M X ∧ X.1 105 0 = (if (M.1 105 0) < (Int32.ofNat 8) then ((M.1 105 0) + 1) else (M.1 105 0))) := by
  have hT : pvdom 151 = pvD_151 := rfl
  refine pw_blk hT 1 (S' := (1, [some (pvR 105), some (pvI n1), some (pvI n2)], [pvR 105], M)) rfl ⟨trivial, trivial⟩ ?_
  refine pw_callT hT (as := [pvR 105]) (lo1 := [some (pvR 105)]) (d1 := d) (rest := []) rfl rfl rfl rfl rfl (fun _ => rfl) (Nat.zero_le _) rfl rfl rfl (sf_X6_isFull_105 M hok d) ?_
  have b6_ : 0 ≤ Int32.toInt (M.1 105 0) ∧ Int32.toInt (M.1 105 0) ≤ 8 := pvok_r hok 105 0 rfl
  by_cases c7_ : (M.1 105 0) < (Int32.ofNat 8)
  · refine pw_eqI (if_pos c7_) ?_
    have b8_ : 0 ≤ Int32.toInt (M.1 105 0) ∧ Int32.toInt (M.1 105 0) ≤ 7 := zr_lt_l 7 c7_ b6_ (show 8 ≤ Int32.toInt (Int32.ofNat 8) ∧ Int32.toInt (Int32.ofNat 8) ≤ 8 from (by decide)) (by decide)
    show PW 151 d (4, [some (pvR 105), some (pvI n1), some (pvI n2)], [pvI 0], M) _
    refine pw_if hT (c := 0 = 0) rfl rfl (fun c9_ => ?_) (fun c9_ => absurd (by decide) c9_)
    refine pw_blkw hT 6 (pc := 22) (lo := [some (pvR 105), some (pvI n1), some (pvI n2)]) (st := []) (M := pvu M 113 (Int32.toNatClampNeg (M.1 105 0)) n1) rfl ⟨trivial, rfl, trivial, rfl, trivial, ⟨rfl, (zr_in (n := 8) b8_ (by decide) (by decide))⟩, trivial⟩ (fun M10_ e11_ => ?_)
    have o12_ : pvOk M10_ := pvok_u2 e11_ hok rfl hn1
    have f13_ : pvFr fp_eX6_append_105_x_x M M10_ := pvfr_u e11_ pvfr_0 rfl
    have e14_ : (M10_.1 105 0) = (M.1 105 0) := (pvu_n e11_ 105 0 (Or.inl (by decide)))
    have b15_ : 0 ≤ Int32.toInt (M10_.1 105 0) ∧ Int32.toInt (M10_.1 105 0) ≤ 7 := (by rw [e14_]; exact b8_)
    refine pw_blkw hT 6 (pc := 32) (lo := [some (pvR 105), some (pvI n1), some (pvI n2)]) (st := []) (M := pvu M10_ 121 (Int32.toNatClampNeg (M10_.1 105 0)) n2) rfl ⟨trivial, rfl, trivial, rfl, trivial, ⟨rfl, (zr_in (n := 8) b15_ (by decide) (by decide))⟩, trivial⟩ (fun M16_ e17_ => ?_)
    have o18_ : pvOk M16_ := pvok_u2 e17_ o12_ rfl hn2
    have f19_ : pvFr fp_eX6_append_105_x_x M M16_ := pvfr_u e17_ f13_ rfl
    have e20_ : (M16_.1 105 0) = (M10_.1 105 0) := (pvu_n e17_ 105 0 (Or.inl (by decide)))
    have b21_ : 0 ≤ Int32.toInt (M16_.1 105 0) ∧ Int32.toInt (M16_.1 105 0) ≤ 7 := (by rw [e20_]; exact b15_)
    obtain ⟨q23_, b22_⟩ : (Int32.toInt ((M16_.1 105 0) + 1) = Int32.toInt (M16_.1 105 0) + 1) ∧ (1 ≤ Int32.toInt ((M16_.1 105 0) + 1) ∧ Int32.toInt ((M16_.1 105 0) + 1) ≤ 8) := zadd_k (M16_.1 105 0) 1 1 1 8 b21_ (by decide) (by decide) (by decide) (by decide) (by decide)
    refine pw_blkw hT 6 (pc := 42) (lo := [some (pvR 105), some (pvI n1), some (pvI n2)]) (st := []) (M := pvu M16_ 105 0 ((M16_.1 105 0) + 1)) rfl ⟨trivial, trivial, rfl, trivial, trivial, rfl, trivial⟩ (fun M24_ e25_ => ?_)
    have o26_ : pvOk M24_ := pvok_u2 e25_ o18_ rfl (zr_wide b22_ (by decide) (by decide))
    have f27_ : pvFr fp_eX6_append_105_x_x M M24_ := pvfr_u e25_ f19_ rfl
    have e28_ : (M24_.1 105 0) = ((M16_.1 105 0) + 1) := (pvu_s e25_)
    have b29_ : 1 ≤ Int32.toInt (M24_.1 105 0) ∧ Int32.toInt (M24_.1 105 0) ≤ 8 := (by rw [e28_]; exact b22_)
    refine pw_blk hT 2 (S' := (46, [some (pvR 105), some (pvI n1), some (pvI n2)], [pvI (M24_.1 105 0)], M24_)) rfl ⟨trivial, rfl, trivial⟩ ?_
    exact pw_ret hT rfl (r := some (pvI (M24_.1 105 0))) (M' := M24_) ⟨rfl, rfl⟩ ⟨⟨_, rfl, b29_, (by rw [if_pos c7_]; first | done | exact (show (M24_.1 105 0) = ((M.1 105 0) + 1) from by rw [((pvu_s e25_).trans (show ((M16_.1 105 0) + 1) = ((M.1 105 0) + 1) from by rw [((pvu_n e17_ 105 0 (Or.inl (by decide))).trans (pvu_n e11_ 105 0 (Or.inl (by decide))))]))]) | (rw [if_pos c7_]; exact (show (M24_.1 105 0) = ((M.1 105 0) + 1) from by rw [((pvu_s e25_).trans (show ((M16_.1 105 0) + 1) = ((M.1 105 0) + 1) from by rw [((pvu_n e17_ 105 0 (Or.inl (by decide))).trans (pvu_n e11_ 105 0 (Or.inl (by decide))))]))])))⟩, o26_, f27_, (zAp_y (by decide) (by decide) (by decide) (by have u := b8_; omega) e11_ e17_ e25_), (by rw [if_pos c7_]; first | done | exact ((pvu_s e25_).trans (show ((M16_.1 105 0) + 1) = ((M.1 105 0) + 1) from by rw [((pvu_n e17_ 105 0 (Or.inl (by decide))).trans (pvu_n e11_ 105 0 (Or.inl (by decide))))])) | (rw [if_pos c7_]; done) | (rw [if_pos c7_]; exact ((pvu_s e25_).trans (show ((M16_.1 105 0) + 1) = ((M.1 105 0) + 1) from by rw [((pvu_n e17_ 105 0 (Or.inl (by decide))).trans (pvu_n e11_ 105 0 (Or.inl (by decide))))]))))⟩
  · refine pw_eqI (if_neg c7_) ?_
    have b30_ : 8 ≤ Int32.toInt (M.1 105 0) ∧ Int32.toInt (M.1 105 0) ≤ 8 := zr_nlt_l 8 c7_ b6_ (show 8 ≤ Int32.toInt (Int32.ofNat 8) ∧ Int32.toInt (Int32.ofNat 8) ≤ 8 from (by decide)) (by decide)
    show PW 151 d (4, [some (pvR 105), some (pvI n1), some (pvI n2)], [pvI 1], M) _
    refine pw_if hT (c := 1 = 0) rfl rfl (fun c31_ => absurd c31_ (by decide)) (fun c31_ => ?_)
    refine pw_blk hT 2 (S' := (11, [some (pvR 105), some (pvI n1), some (pvI n2)], [pvI (M.1 105 0)], M)) rfl ⟨trivial, rfl, trivial⟩ ?_
    exact pw_ret hT rfl (r := some (pvI (M.1 105 0))) (M' := M) ⟨rfl, rfl⟩ ⟨⟨_, rfl, (zr_wide b30_ (by decide) (by decide)), (by rw [if_neg c7_]; first | done | (rw [if_neg c7_]; done))⟩, hok, pvfr_0, (zAp_n (by have u := b30_; omega)), (by rw [if_neg c7_]; first | done | exact rfl | (rw [if_neg c7_]; done) | (rw [if_neg c7_]; exact rfl))⟩
def fpL_eX6_becomeAs_105_104 : List (Nat × Nat × Nat) := [(0, 105, 1), (0, 113, 0), (0, 121, 0)]
def fp_eX6_becomeAs_105_104 (q k : Nat) : Bool := pvfp fpL_eX6_becomeAs_105_104 q k
theorem fp_eX6_becomeAs_105_104_fp_eX6_append_105_x_x (a b : Nat) (h : fp_eX6_append_105_x_x a b = true) : fp_eX6_becomeAs_105_104 a b = true := pvfp_sub (l1 := fpL_eX6_append_105_x_x) (l2 := fpL_eX6_becomeAs_105_104) (by decide) a b h
theorem fp_eX6_becomeAs_105_104_fp_eX6_clear_105 (a b : Nat) (h : fp_eX6_clear_105 a b = true) : fp_eX6_becomeAs_105_104 a b = true := pvfp_sub (l1 := fpL_eX6_clear_105) (l2 := fpL_eX6_becomeAs_105_104) (by decide) a b h
set_option maxHeartbeats 4000000 in
set_option maxRecDepth 10000 in
theorem se_X6_becomeAs_105_104 (M : pvM) (hok : pvOk M) (d : Nat) : PW 152 d (0, [some (pvR 105), some (pvR 104), none], [], M) (fun r X => r = none ∧ pvOk X ∧ pvFr fp_eX6_becomeAs_105_104 M X ∧ X.1 105 0 = (M.1 104 0) ∧ zC1 113 112 (Int32.toNatClampNeg (M.1 104 0)) M X ∧ zC1 121 120 (Int32.toNatClampNeg (M.1 104 0)) M X) := by
  have hT : pvdom 152 = pvD_152 := rfl
  refine pw_blk hT 1 (S' := (1, [some (pvR 105), some (pvR 104), none], [pvR 105], M)) rfl ⟨trivial, trivial⟩ ?_
  refine pw_callGd hT (as := [pvR 105]) (lo1 := [some (pvR 105)]) (d1 := d) (rest := []) rfl rfl rfl rfl rfl (fun _ => rfl) (Nat.zero_le _) rfl rfl rfl (se_X6_clear_105 M hok d) (fun x2_ M3_ b4_ o5_ g6_ d1_ => ?_)
  have f7_ : pvFr fp_eX6_becomeAs_105_104 M M3_ := pvfr_t g6_ pvfr_0 fp_eX6_becomeAs_105_104_fp_eX6_clear_105
  obtain ⟨b8_, d9_⟩ := b4_
  subst d9_
  refine pw_blk hT 3 (S' := (7, [some (pvR 105), some (pvR 104), some (pvI 0)], [], M3_)) rfl ⟨trivial, trivial, trivial, trivial⟩ ?_
  have hlz90_ : ∀ (nz90_ : Nat) (i2z90_ : Int32) (Mz90_ : pvM), (pvOk Mz90_) → (pvFr fp_eX6_becomeAs_105_104 M Mz90_) → (0 ≤ Int32.toInt i2z90_ ∧ Int32.toInt i2z90_ ≤ 8) → (Mz90_.1 105 0 = i2z90_) → (Int32.toInt i2z90_ ≤ Int32.toInt (M.1 104 0)) → (zC1 113 112 (Int32.toNatClampNeg i2z90_) M Mz90_) → (zC1 121 120 (Int32.toNatClampNeg i2z90_) M Mz90_) → (zhide ((9 - Int32.toInt i2z90_).toNat < nz90_)) → PW 152 d (7, [some (pvR 105), some (pvR 104), some (pvI i2z90_)], [], Mz90_) (fun r X => r = none ∧ pvOk X ∧ pvFr fp_eX6_becomeAs_105_104 M X ∧ X.1 105 0 = (M.1 104 0) ∧ zC1 113 112 (Int32.toNatClampNeg (M.1 104 0)) M X ∧ zC1 121 120 (Int32.toNatClampNeg (M.1 104 0)) M X) := by
    intro nz90_
    induction nz90_ with
    | zero => intro i2z90_ Mz90_ oz90_ fz90_ h2z90_ j0z90_ j1z90_ j2z90_ j3z90_ hmz90_; exact absurd (zshow hmz90_) (Nat.not_lt_zero _)
    | succ nz90_ ihz90_ =>
      intro i2z90_ Mz90_ oz90_ fz90_ h2z90_ j0z90_ j1z90_ j2z90_ j3z90_ hmz90_
      have b91_ : 0 ≤ Int32.toInt (Mz90_.1 104 0) ∧ Int32.toInt (Mz90_.1 104 0) ≤ 8 := pvok_r oz90_ 104 0 rfl
      refine pw_blk hT 3 (S' := (12, [some (pvR 105), some (pvR 104), some (pvI i2z90_)], [pvI (Mz90_.1 104 0), pvI i2z90_], Mz90_)) rfl ⟨trivial, trivial, rfl, trivial⟩ ?_
      refine pw_ic hT (c := (Mz90_.1 104 0) ≤ i2z90_) rfl rfl (fun c92_ => ?_) (fun c92_ => ?_)
      · have d93_ : Int32.toInt (Mz90_.1 104 0) ≤ Int32.toInt i2z90_ := (zi_le _ _).mp c92_
        exact pw_ret hT rfl (r := none) (M' := Mz90_) ⟨rfl, rfl⟩ ⟨rfl, oz90_, fz90_, (Int32.toInt_inj.mp (by have z3 : Mz90_.1 104 0 = M.1 104 0 := fz90_ 104 0 rfl; have z4 := congrArg Int32.toInt z3; have z5 := congrArg Int32.toInt j0z90_; omega)), (zC1_n (show Int32.toNatClampNeg (M.1 104 0) = Int32.toNatClampNeg i2z90_ from by have z3 : Mz90_.1 104 0 = M.1 104 0 := fz90_ 104 0 rfl; have z4 := congrArg Int32.toInt z3; show (M.1 104 0).toInt.toNat = i2z90_.toInt.toNat; omega) j2z90_), (zC1_n (show Int32.toNatClampNeg (M.1 104 0) = Int32.toNatClampNeg i2z90_ from by have z3 : Mz90_.1 104 0 = M.1 104 0 := fz90_ 104 0 rfl; have z4 := congrArg Int32.toInt z3; show (M.1 104 0).toInt.toNat = i2z90_.toInt.toNat; omega) j3z90_)⟩
      · have b94_ : 1 ≤ Int32.toInt (Mz90_.1 104 0) ∧ Int32.toInt (Mz90_.1 104 0) ≤ 8 := zr_nle_l 1 c92_ b91_ h2z90_ (by decide)
        have b95_ : 0 ≤ Int32.toInt i2z90_ ∧ Int32.toInt i2z90_ ≤ 7 := zr_nle_r 7 c92_ h2z90_ b94_ (by decide)
        have d96_ : Int32.toInt (Mz90_.1 104 0) > Int32.toInt i2z90_ := Int.not_le.mp ((not_congr (zi_le _ _)).mp c92_)
        have b97_ : 0 ≤ Int32.toInt (Mz90_.1 112 (Int32.toNatClampNeg i2z90_)) ∧ Int32.toInt (Mz90_.1 112 (Int32.toNatClampNeg i2z90_)) ≤ 6 := pvok_r oz90_ 112 (Int32.toNatClampNeg i2z90_) rfl
        have b98_ : 0 ≤ Int32.toInt (Mz90_.1 120 (Int32.toNatClampNeg i2z90_)) ∧ Int32.toInt (Mz90_.1 120 (Int32.toNatClampNeg i2z90_)) ≤ 9999 := pvok_r oz90_ 120 (Int32.toNatClampNeg i2z90_) rfl
        refine pw_blk hT 9 (S' := (28, [some (pvR 105), some (pvR 104), some (pvI i2z90_)], [pvI (Mz90_.1 120 (Int32.toNatClampNeg i2z90_)), pvI (Mz90_.1 112 (Int32.toNatClampNeg i2z90_)), pvR 105], Mz90_)) rfl ⟨trivial, trivial, rfl, trivial, ⟨rfl, (zr_in (n := 8) b95_ (by decide) (by decide))⟩, trivial, rfl, trivial, ⟨rfl, (zr_in (n := 8) b95_ (by decide) (by decide))⟩, trivial⟩ ?_
        refine pw_callGd hT (as := [pvR 105, pvI (Mz90_.1 112 (Int32.toNatClampNeg i2z90_)), pvI (Mz90_.1 120 (Int32.toNatClampNeg i2z90_))]) (lo1 := [some (pvR 105), some (pvI (Mz90_.1 112 (Int32.toNatClampNeg i2z90_))), some (pvI (Mz90_.1 120 (Int32.toNatClampNeg i2z90_)))]) (d1 := d) (rest := []) rfl rfl rfl rfl rfl (fun _ => rfl) (Nat.zero_le _) rfl rfl rfl (se_X6_append_105_x_x Mz90_ oz90_ (Mz90_.1 112 (Int32.toNatClampNeg i2z90_)) (Mz90_.1 120 (Int32.toNatClampNeg i2z90_)) b97_ b98_ d) (fun x100_ M101_ b102_ o103_ g104_ d99_ => ?_)
        have f105_ : pvFr fp_eX6_becomeAs_105_104 M M101_ := pvfr_t g104_ fz90_ fp_eX6_becomeAs_105_104_fp_eX6_append_105_x_x
        obtain ⟨b106_, d107_⟩ := b102_
        subst d107_
        obtain ⟨q109_, b108_⟩ : (Int32.toInt (i2z90_ + 1) = Int32.toInt i2z90_ + 1) ∧ (1 ≤ Int32.toInt (i2z90_ + 1) ∧ Int32.toInt (i2z90_ + 1) ≤ 8) := zadd_k i2z90_ 1 1 1 8 b95_ (by decide) (by decide) (by decide) (by decide) (by decide)
        refine pw_blk hT 3 (S' := (7, [some (pvR 105), some (pvR 104), some (pvI (i2z90_ + 1))], [], M101_)) rfl ⟨trivial, trivial, trivial, trivial⟩ ?_
        have j110_ : M101_.1 105 0 = (i2z90_ + 1) := (by have z1 : Int32.toInt (Int32.ofNat 8) = 8 := (by decide); have z2 := pvok_r oz90_ 104 0 rfl; have z3 : Mz90_.1 104 0 = M.1 104 0 := fz90_ 104 0 rfl; have z4 := congrArg Int32.toInt z3; rw [d99_.2, j0z90_, if_pos ((zi_lt _ _).mpr (by omega))])
        have j111_ : Int32.toInt (i2z90_ + 1) ≤ Int32.toInt (M.1 104 0) := (by have z3 : Mz90_.1 104 0 = M.1 104 0 := fz90_ 104 0 rfl; have z4 := congrArg Int32.toInt z3; omega)
        have j112_ : zC1 113 112 (Int32.toNatClampNeg (i2z90_ + 1)) M M101_ := (zC1_n (znp1 b95_ (by decide) (by decide)) (zC1_ap j2z90_ d99_.1 j0z90_ (by have u := b95_; omega) (fz90_ 112 (Int32.toNatClampNeg i2z90_) rfl)))
        have j113_ : zC1 121 120 (Int32.toNatClampNeg (i2z90_ + 1)) M M101_ := (zC1_n (znp1 b95_ (by decide) (by decide)) (zC1_bp j3z90_ d99_.1 j0z90_ (by have u := b95_; omega) (fz90_ 120 (Int32.toNatClampNeg i2z90_) rfl)))
        exact ihz90_ (i2z90_ + 1) M101_ o103_ f105_ (zr_wide b108_ (by decide) (by decide)) j110_ j111_ j112_ j113_ (zhid (pvms_up (zshow hmz90_) h2z90_ q109_ (by decide) (by decide)))
  have u114_ : Int32.toInt 0 = 0 := by decide
  have j115_ : M3_.1 105 0 = 0 := d1_
  have j116_ : Int32.toInt 0 ≤ Int32.toInt (M.1 104 0) := (by have z := pvok_r hok 104 0 rfl; have u : Int32.toInt 0 = 0 := (by decide); omega)
  have j117_ : zC1 113 112 (Int32.toNatClampNeg 0) M M3_ := (zC1_0 113 112 M M3_)
  have j118_ : zC1 121 120 (Int32.toNatClampNeg 0) M M3_ := (zC1_0 121 120 M M3_)
  exact hlz90_ _ 0 M3_ o5_ f7_ (zr_wide (show 0 ≤ Int32.toInt 0 ∧ Int32.toInt 0 ≤ 0 from (by decide)) (by decide) (by decide)) j115_ j116_ j117_ j118_ (zhid (Nat.lt_succ_self _))
def fpL_eX4_becomeNew_74_x_x_x_x_x : List (Nat × Nat × Nat) := [(0, 74, 1), (0, 74, 2), (0, 74, 3), (0, 74, 4), (0, 74, 5), (0, 74, 6), (0, 81, 0)]
def fp_eX4_becomeNew_74_x_x_x_x_x (q k : Nat) : Bool := pvfp fpL_eX4_becomeNew_74_x_x_x_x_x q k
set_option maxHeartbeats 4000000 in
set_option maxRecDepth 10000 in
theorem se_X4_becomeNew_74_x_x_x_x_x (M : pvM) (hok : pvOk M) (n1 : Int32) (n2 : Int32) (n3 : Int32) (n4 : Int32) (n5 : Int32) (hn1 : 0 ≤ Int32.toInt n1 ∧ Int32.toInt n1 ≤ 6) (hn2 : 0 ≤ Int32.toInt n2 ∧ Int32.toInt n2 ≤ 9) (hn3 : 0 ≤ Int32.toInt n3 ∧ Int32.toInt n3 ≤ 3) (hn4 : 0 ≤ Int32.toInt n4 ∧ Int32.toInt n4 ≤ 4) (hn5 : 0 ≤ Int32.toInt n5 ∧ Int32.toInt n5 ≤ 9) (d : Nat) : PW 134 d (0, [some (pvR 74), some (pvI n1), some (pvI n2), some (pvI n3), some (pvI n4), some (pvI n5), none], [], M) (fun r X => r = none ∧ pvOk X ∧ pvFr fp_eX4_becomeNew_74_x_x_x_x_x M X ∧ X.1 74 0 = n1 ∧ X.1 74 1 = n2 ∧ X.1 74 2 = n3 ∧ X.1 74 3 = n4 ∧ X.1 74 4 = n5 ∧ X.1 81 0 = 0 ∧ X.1 81 1 = 0 ∧ X.1 81 2 = 0 ∧ X.1 81 3 = 0 ∧ X.1 74 5 = 0) := by
  have hT : pvdom 134 = pvD_134 := rfl
  refine pw_blkw hT 3 (pc := 5) (lo := [some (pvR 74), some (pvI n1), some (pvI n2), some (pvI n3), some (pvI n4), some (pvI n5), none]) (st := []) (M := pvu M 74 0 n1) rfl ⟨trivial, trivial, rfl, trivial⟩ (fun M1_ e2_ => ?_)
  have o3_ : pvOk M1_ := pvok_u2 e2_ hok rfl hn1
  have f4_ : pvFr fp_eX4_becomeNew_74_x_x_x_x_x M M1_ := pvfr_u e2_ pvfr_0 rfl
  refine pw_blkw hT 3 (pc := 10) (lo := [some (pvR 74), some (pvI n1), some (pvI n2), some (pvI n3), some (pvI n4), some (pvI n5), none]) (st := []) (M := pvu M1_ 74 1 n2) rfl ⟨trivial, trivial, rfl, trivial⟩ (fun M5_ e6_ => ?_)
  have o7_ : pvOk M5_ := pvok_u2 e6_ o3_ rfl hn2
  have f8_ : pvFr fp_eX4_becomeNew_74_x_x_x_x_x M M5_ := pvfr_u e6_ f4_ rfl
  refine pw_blkw hT 3 (pc := 15) (lo := [some (pvR 74), some (pvI n1), some (pvI n2), some (pvI n3), some (pvI n4), some (pvI n5), none]) (st := []) (M := pvu M5_ 74 2 n3) rfl ⟨trivial, trivial, rfl, trivial⟩ (fun M9_ e10_ => ?_)
  have o11_ : pvOk M9_ := pvok_u2 e10_ o7_ rfl hn3
  have f12_ : pvFr fp_eX4_becomeNew_74_x_x_x_x_x M M9_ := pvfr_u e10_ f8_ rfl
  refine pw_blkw hT 3 (pc := 21) (lo := [some (pvR 74), some (pvI n1), some (pvI n2), some (pvI n3), some (pvI n4), some (pvI n5), none]) (st := []) (M := pvu M9_ 74 3 n4) rfl ⟨trivial, trivial, rfl, trivial⟩ (fun M13_ e14_ => ?_)
  have o15_ : pvOk M13_ := pvok_u2 e14_ o11_ rfl hn4
  have f16_ : pvFr fp_eX4_becomeNew_74_x_x_x_x_x M M13_ := pvfr_u e14_ f12_ rfl
  refine pw_blkw hT 3 (pc := 27) (lo := [some (pvR 74), some (pvI n1), some (pvI n2), some (pvI n3), some (pvI n4), some (pvI n5), none]) (st := []) (M := pvu M13_ 74 4 n5) rfl ⟨trivial, trivial, rfl, trivial⟩ (fun M17_ e18_ => ?_)
  have o19_ : pvOk M17_ := pvok_u2 e18_ o15_ rfl hn5
  have f20_ : pvFr fp_eX4_becomeNew_74_x_x_x_x_x M M17_ := pvfr_u e18_ f16_ rfl
  refine pw_blkw hT 3 (pc := 32) (lo := [some (pvR 74), some (pvI n1), some (pvI n2), some (pvI n3), some (pvI n4), some (pvI n5), none]) (st := []) (M := pvu M17_ 74 5 0) rfl ⟨trivial, trivial, ⟨rfl, Or.inl rfl⟩, trivial⟩ (fun M21_ e22_ => ?_)
  have o23_ : pvOk M21_ := pvok_u2 e22_ o19_ rfl (zr_wide (show 0 ≤ Int32.toInt 0 ∧ Int32.toInt 0 ≤ 0 from (by decide)) (by decide) (by decide))
  have f24_ : pvFr fp_eX4_becomeNew_74_x_x_x_x_x M M21_ := pvfr_u e22_ f20_ rfl
  refine pw_blk hT 2 (S' := (35, [some (pvR 74), some (pvI n1), some (pvI n2), some (pvI n3), some (pvI n4), some (pvI n5), some (pvI 0)], [], M21_)) rfl ⟨trivial, trivial, trivial⟩ ?_
  refine pw_blk hT 2 (S' := (38, [some (pvR 74), some (pvI n1), some (pvI n2), some (pvI n3), some (pvI n4), some (pvI n5), some (pvI 0)], [pvI 4, pvI 0], M21_)) rfl ⟨trivial, trivial, trivial⟩ ?_
  refine pw_ic hT (c := 4 ≤ 0) rfl rfl (fun c25_ => absurd c25_ (by decide)) (fun c25_ => ?_)
  refine pw_blkw hT 5 (pc := 49) (lo := [some (pvR 74), some (pvI n1), some (pvI n2), some (pvI n3), some (pvI n4), some (pvI n5), some (pvI 0)]) (st := []) (M := pvu M21_ 81 0 0) rfl ⟨trivial, rfl, trivial, trivial, ⟨rfl, (zr_in (n := 4) (show 0 ≤ Int32.toInt 0 ∧ Int32.toInt 0 ≤ 0 from (by decide)) (by decide) (by decide))⟩, trivial⟩ (fun M26_ e27_ => ?_)
  have o28_ : pvOk M26_ := pvok_u2 e27_ o23_ rfl (zr_wide (show 0 ≤ Int32.toInt 0 ∧ Int32.toInt 0 ≤ 0 from (by decide)) (by decide) (by decide))
  have f29_ : pvFr fp_eX4_becomeNew_74_x_x_x_x_x M M26_ := pvfr_u e27_ f24_ rfl
  refine pw_blk hT 2 (S' := (35, [some (pvR 74), some (pvI n1), some (pvI n2), some (pvI n3), some (pvI n4), some (pvI n5), some (pvI (0 + 1))], [], M26_)) rfl ⟨trivial, trivial, trivial⟩ ?_
  refine pw_blk hT 2 (S' := (38, [some (pvR 74), some (pvI n1), some (pvI n2), some (pvI n3), some (pvI n4), some (pvI n5), some (pvI (0 + 1))], [pvI 4, pvI (0 + 1)], M26_)) rfl ⟨trivial, trivial, trivial⟩ ?_
  refine pw_ic hT (c := 4 ≤ (0 + 1)) rfl rfl (fun c30_ => absurd c30_ (by decide)) (fun c30_ => ?_)
  refine pw_blkw hT 5 (pc := 49) (lo := [some (pvR 74), some (pvI n1), some (pvI n2), some (pvI n3), some (pvI n4), some (pvI n5), some (pvI (0 + 1))]) (st := []) (M := pvu M26_ 81 1 0) rfl ⟨trivial, rfl, trivial, trivial, ⟨rfl, (zr_in (n := 4) (show 1 ≤ Int32.toInt (0 + 1) ∧ Int32.toInt (0 + 1) ≤ 1 from (by decide)) (by decide) (by decide))⟩, trivial⟩ (fun M31_ e32_ => ?_)
  have o33_ : pvOk M31_ := pvok_u2 e32_ o28_ rfl (zr_wide (show 0 ≤ Int32.toInt 0 ∧ Int32.toInt 0 ≤ 0 from (by decide)) (by decide) (by decide))
  have f34_ : pvFr fp_eX4_becomeNew_74_x_x_x_x_x M M31_ := pvfr_u e32_ f29_ rfl
  refine pw_blk hT 2 (S' := (35, [some (pvR 74), some (pvI n1), some (pvI n2), some (pvI n3), some (pvI n4), some (pvI n5), some (pvI ((0 + 1) + 1))], [], M31_)) rfl ⟨trivial, trivial, trivial⟩ ?_
  refine pw_blk hT 2 (S' := (38, [some (pvR 74), some (pvI n1), some (pvI n2), some (pvI n3), some (pvI n4), some (pvI n5), some (pvI ((0 + 1) + 1))], [pvI 4, pvI ((0 + 1) + 1)], M31_)) rfl ⟨trivial, trivial, trivial⟩ ?_
  refine pw_ic hT (c := 4 ≤ ((0 + 1) + 1)) rfl rfl (fun c35_ => absurd c35_ (by decide)) (fun c35_ => ?_)
  refine pw_blkw hT 5 (pc := 49) (lo := [some (pvR 74), some (pvI n1), some (pvI n2), some (pvI n3), some (pvI n4), some (pvI n5), some (pvI ((0 + 1) + 1))]) (st := []) (M := pvu M31_ 81 2 0) rfl ⟨trivial, rfl, trivial, trivial, ⟨rfl, (zr_in (n := 4) (show 2 ≤ Int32.toInt ((0 + 1) + 1) ∧ Int32.toInt ((0 + 1) + 1) ≤ 2 from (by decide)) (by decide) (by decide))⟩, trivial⟩ (fun M36_ e37_ => ?_)
  have o38_ : pvOk M36_ := pvok_u2 e37_ o33_ rfl (zr_wide (show 0 ≤ Int32.toInt 0 ∧ Int32.toInt 0 ≤ 0 from (by decide)) (by decide) (by decide))
  have f39_ : pvFr fp_eX4_becomeNew_74_x_x_x_x_x M M36_ := pvfr_u e37_ f34_ rfl
  refine pw_blk hT 2 (S' := (35, [some (pvR 74), some (pvI n1), some (pvI n2), some (pvI n3), some (pvI n4), some (pvI n5), some (pvI (((0 + 1) + 1) + 1))], [], M36_)) rfl ⟨trivial, trivial, trivial⟩ ?_
  refine pw_blk hT 2 (S' := (38, [some (pvR 74), some (pvI n1), some (pvI n2), some (pvI n3), some (pvI n4), some (pvI n5), some (pvI (((0 + 1) + 1) + 1))], [pvI 4, pvI (((0 + 1) + 1) + 1)], M36_)) rfl ⟨trivial, trivial, trivial⟩ ?_
  refine pw_ic hT (c := 4 ≤ (((0 + 1) + 1) + 1)) rfl rfl (fun c40_ => absurd c40_ (by decide)) (fun c40_ => ?_)
  refine pw_blkw hT 5 (pc := 49) (lo := [some (pvR 74), some (pvI n1), some (pvI n2), some (pvI n3), some (pvI n4), some (pvI n5), some (pvI (((0 + 1) + 1) + 1))]) (st := []) (M := pvu M36_ 81 3 0) rfl ⟨trivial, rfl, trivial, trivial, ⟨rfl, (zr_in (n := 4) (show 3 ≤ Int32.toInt (((0 + 1) + 1) + 1) ∧ Int32.toInt (((0 + 1) + 1) + 1) ≤ 3 from (by decide)) (by decide) (by decide))⟩, trivial⟩ (fun M41_ e42_ => ?_)
  have o43_ : pvOk M41_ := pvok_u2 e42_ o38_ rfl (zr_wide (show 0 ≤ Int32.toInt 0 ∧ Int32.toInt 0 ≤ 0 from (by decide)) (by decide) (by decide))
  have f44_ : pvFr fp_eX4_becomeNew_74_x_x_x_x_x M M41_ := pvfr_u e42_ f39_ rfl
  refine pw_blk hT 2 (S' := (35, [some (pvR 74), some (pvI n1), some (pvI n2), some (pvI n3), some (pvI n4), some (pvI n5), some (pvI ((((0 + 1) + 1) + 1) + 1))], [], M41_)) rfl ⟨trivial, trivial, trivial⟩ ?_
  refine pw_blk hT 2 (S' := (38, [some (pvR 74), some (pvI n1), some (pvI n2), some (pvI n3), some (pvI n4), some (pvI n5), some (pvI ((((0 + 1) + 1) + 1) + 1))], [pvI 4, pvI ((((0 + 1) + 1) + 1) + 1)], M41_)) rfl ⟨trivial, trivial, trivial⟩ ?_
  refine pw_ic hT (c := 4 ≤ ((((0 + 1) + 1) + 1) + 1)) rfl rfl (fun c45_ => ?_) (fun c45_ => absurd (by decide) c45_)
  exact pw_ret hT rfl (r := none) (M' := M41_) ⟨rfl, rfl⟩ ⟨rfl, o43_, f44_, ((((((((((pvu_n e42_ 74 0 (Or.inl (by decide))).trans (pvu_n e37_ 74 0 (Or.inl (by decide)))).trans (pvu_n e32_ 74 0 (Or.inl (by decide)))).trans (pvu_n e27_ 74 0 (Or.inl (by decide)))).trans (pvu_n e22_ 74 0 (Or.inr (by decide)))).trans (pvu_n e18_ 74 0 (Or.inr (by decide)))).trans (pvu_n e14_ 74 0 (Or.inr (by decide)))).trans (pvu_n e10_ 74 0 (Or.inr (by decide)))).trans (pvu_n e6_ 74 0 (Or.inr (by decide)))).trans (pvu_s e2_)), (((((((((pvu_n e42_ 74 1 (Or.inl (by decide))).trans (pvu_n e37_ 74 1 (Or.inl (by decide)))).trans (pvu_n e32_ 74 1 (Or.inl (by decide)))).trans (pvu_n e27_ 74 1 (Or.inl (by decide)))).trans (pvu_n e22_ 74 1 (Or.inr (by decide)))).trans (pvu_n e18_ 74 1 (Or.inr (by decide)))).trans (pvu_n e14_ 74 1 (Or.inr (by decide)))).trans (pvu_n e10_ 74 1 (Or.inr (by decide)))).trans (pvu_s e6_)), ((((((((pvu_n e42_ 74 2 (Or.inl (by decide))).trans (pvu_n e37_ 74 2 (Or.inl (by decide)))).trans (pvu_n e32_ 74 2 (Or.inl (by decide)))).trans (pvu_n e27_ 74 2 (Or.inl (by decide)))).trans (pvu_n e22_ 74 2 (Or.inr (by decide)))).trans (pvu_n e18_ 74 2 (Or.inr (by decide)))).trans (pvu_n e14_ 74 2 (Or.inr (by decide)))).trans (pvu_s e10_)), (((((((pvu_n e42_ 74 3 (Or.inl (by decide))).trans (pvu_n e37_ 74 3 (Or.inl (by decide)))).trans (pvu_n e32_ 74 3 (Or.inl (by decide)))).trans (pvu_n e27_ 74 3 (Or.inl (by decide)))).trans (pvu_n e22_ 74 3 (Or.inr (by decide)))).trans (pvu_n e18_ 74 3 (Or.inr (by decide)))).trans (pvu_s e14_)), ((((((pvu_n e42_ 74 4 (Or.inl (by decide))).trans (pvu_n e37_ 74 4 (Or.inl (by decide)))).trans (pvu_n e32_ 74 4 (Or.inl (by decide)))).trans (pvu_n e27_ 74 4 (Or.inl (by decide)))).trans (pvu_n e22_ 74 4 (Or.inr (by decide)))).trans (pvu_s e18_)), ((((pvu_n e42_ 81 0 (Or.inr (by decide))).trans (pvu_n e37_ 81 0 (Or.inr (by decide)))).trans (pvu_n e32_ 81 0 (Or.inr (by decide)))).trans (pvu_s e27_)), (((pvu_n e42_ 81 1 (Or.inr (by decide))).trans (pvu_n e37_ 81 1 (Or.inr (by decide)))).trans (pvu_s e32_)), ((pvu_n e42_ 81 2 (Or.inr (by decide))).trans (pvu_s e37_)), (pvu_s e42_), (((((pvu_n e42_ 74 5 (Or.inl (by decide))).trans (pvu_n e37_ 74 5 (Or.inl (by decide)))).trans (pvu_n e32_ 74 5 (Or.inl (by decide)))).trans (pvu_n e27_ 74 5 (Or.inl (by decide)))).trans (pvu_s e22_))⟩
def fpL_eX4_becomeAs_74_60 : List (Nat × Nat × Nat) := [(0, 74, 1), (0, 74, 2), (0, 74, 3), (0, 74, 4), (0, 74, 5), (0, 74, 6), (0, 81, 0)]
def fp_eX4_becomeAs_74_60 (q k : Nat) : Bool := pvfp fpL_eX4_becomeAs_74_60 q k
theorem fp_eX4_becomeAs_74_60_fp_eX4_becomeNew_74_x_x_x_x_x (a b : Nat) (h : fp_eX4_becomeNew_74_x_x_x_x_x a b = true) : fp_eX4_becomeAs_74_60 a b = true := pvfp_sub (l1 := fpL_eX4_becomeNew_74_x_x_x_x_x) (l2 := fpL_eX4_becomeAs_74_60) (by decide) a b h
set_option maxHeartbeats 4000000 in
set_option maxRecDepth 10000 in
theorem se_X4_becomeAs_74_60 (M : pvM) (hok : pvOk M) (d : Nat) : PW 133 d (0, [some (pvR 74), some (pvR 60)], [], M) (fun r X => r = none ∧ pvOk X ∧ pvFr fp_eX4_becomeAs_74_60 M X ∧ X.1 74 0 = (M.1 60 0) ∧ X.1 74 1 = (M.1 60 1) ∧ X.1 74 2 = (M.1 60 2) ∧ X.1 74 3 = (M.1 60 3) ∧ X.1 74 4 = (M.1 60 4) ∧ X.1 81 0 = (M.1 67 0) ∧ X.1 81 1 = (M.1 67 1) ∧ X.1 81 2 = (M.1 67 2) ∧ X.1 81 3 = (M.1 67 3) ∧ X.1 74 5 = (M.1 60 5)) := by
  have hT : pvdom 133 = pvD_133 := rfl
  have b1_ : 0 ≤ Int32.toInt (M.1 60 0) ∧ Int32.toInt (M.1 60 0) ≤ 6 := pvok_r hok 60 0 rfl
  have b2_ : 0 ≤ Int32.toInt (M.1 60 1) ∧ Int32.toInt (M.1 60 1) ≤ 9 := pvok_r hok 60 1 rfl
  have b3_ : 0 ≤ Int32.toInt (M.1 60 2) ∧ Int32.toInt (M.1 60 2) ≤ 3 := pvok_r hok 60 2 rfl
  have b4_ : 0 ≤ Int32.toInt (M.1 60 3) ∧ Int32.toInt (M.1 60 3) ≤ 4 := pvok_r hok 60 3 rfl
  have b5_ : 0 ≤ Int32.toInt (M.1 60 4) ∧ Int32.toInt (M.1 60 4) ≤ 9 := pvok_r hok 60 4 rfl
  refine pw_blk hT 11 (S' := (21, [some (pvR 74), some (pvR 60)], [pvI (M.1 60 4), pvI (M.1 60 3), pvI (M.1 60 2), pvI (M.1 60 1), pvI (M.1 60 0), pvR 74], M)) rfl ⟨trivial, trivial, rfl, trivial, rfl, trivial, rfl, trivial, rfl, trivial, rfl, trivial⟩ ?_
  refine pw_callVd hT (as := [pvR 74, pvI (M.1 60 0), pvI (M.1 60 1), pvI (M.1 60 2), pvI (M.1 60 3), pvI (M.1 60 4)]) (lo1 := [some (pvR 74), some (pvI (M.1 60 0)), some (pvI (M.1 60 1)), some (pvI (M.1 60 2)), some (pvI (M.1 60 3)), some (pvI (M.1 60 4)), none]) (d1 := d) (rest := []) rfl rfl rfl rfl rfl (fun _ => rfl) (Nat.zero_le _) rfl rfl rfl (se_X4_becomeNew_74_x_x_x_x_x M hok (M.1 60 0) (M.1 60 1) (M.1 60 2) (M.1 60 3) (M.1 60 4) b1_ b2_ b3_ b4_ b5_ d) (fun M8_ o10_ g11_ d6_ => ?_)
  have f12_ : pvFr fp_eX4_becomeAs_74_60 M M8_ := pvfr_t g11_ pvfr_0 fp_eX4_becomeAs_74_60_fp_eX4_becomeNew_74_x_x_x_x_x
  have b13_ : 0 ≤ Int32.toInt (M8_.1 60 5) ∧ Int32.toInt (M8_.1 60 5) ≤ 1 := pvok_r o10_ 60 5 rfl
  refine pw_blkw hT 4 (pc := 32) (lo := [some (pvR 74), some (pvR 60)]) (st := []) (M := pvu M8_ 74 5 (M8_.1 60 5)) rfl ⟨trivial, trivial, rfl, ⟨rfl, pv01 b13_⟩, trivial⟩ (fun M14_ e15_ => ?_)
  have o16_ : pvOk M14_ := pvok_u2 e15_ o10_ rfl b13_
  have f17_ : pvFr fp_eX4_becomeAs_74_60 M M14_ := pvfr_u e15_ f12_ rfl
  refine pw_blkw hT 8 (pc := 46) (lo := [some (pvR 74), some (pvR 60)]) (st := []) (M := pvr M14_ 81 (va_cpy (M14_.1 67) (M14_.1 81) (Int32.toNatClampNeg 0) (Int32.toNatClampNeg 0) (Int32.toNatClampNeg 4))) rfl ⟨trivial, rfl, trivial, trivial, rfl, trivial, trivial, ⟨rfl, rfl, (pvnneg (b := 0) (show 0 ≤ Int32.toInt 0 ∧ Int32.toInt 0 ≤ 0 from (by decide))), (pvnneg (b := 0) (show 0 ≤ Int32.toInt 0 ∧ Int32.toInt 0 ≤ 0 from (by decide))), (pvnneg (b := 4) (zr_wide (show 4 ≤ Int32.toInt 4 ∧ Int32.toInt 4 ≤ 4 from (by decide)) (by decide) (by decide))), (show _ ≤ 4 from (by have u0 := (show 0 ≤ Int32.toInt 0 ∧ Int32.toInt 0 ≤ 0 from (by decide)); have u1 := (show 4 ≤ Int32.toInt 4 ∧ Int32.toInt 4 ≤ 4 from (by decide)); have u2 := ztn 0 (by omega); have u3 := ztn 4 (by omega); omega)), (show _ ≤ 4 from (by have u0 := (show 0 ≤ Int32.toInt 0 ∧ Int32.toInt 0 ≤ 0 from (by decide)); have u1 := (show 4 ≤ Int32.toInt 4 ∧ Int32.toInt 4 ≤ 4 from (by decide)); have u2 := ztn 0 (by omega); have u3 := ztn 4 (by omega); omega)), Nat.le_of_ble_eq_true rfl⟩, trivial⟩ (fun M18_ e19_ => ?_)
  have o20_ : pvOk M18_ := pvok_rr e19_ o16_ (fun _ => rfl) (pvcpy_r (fun k => pvok_r o16_ 67 k rfl) (fun k => pvok_r o16_ 81 k rfl))
  have f21_ : pvFr fp_eX4_becomeAs_74_60 M M18_ := pvfr_rr e19_ f17_ (fun _ => rfl)
  exact pw_ret hT rfl (r := none) (M' := M18_) ⟨rfl, rfl⟩ ⟨rfl, o20_, f21_, (((show M18_.1 74 0 = M14_.1 74 0 from by rw [e19_]; rfl).trans (pvu_n e15_ 74 0 (Or.inr (by decide)))).trans (d6_.1)), (((show M18_.1 74 1 = M14_.1 74 1 from by rw [e19_]; rfl).trans (pvu_n e15_ 74 1 (Or.inr (by decide)))).trans (d6_.2.1)), (((show M18_.1 74 2 = M14_.1 74 2 from by rw [e19_]; rfl).trans (pvu_n e15_ 74 2 (Or.inr (by decide)))).trans (d6_.2.2.1)), (((show M18_.1 74 3 = M14_.1 74 3 from by rw [e19_]; rfl).trans (pvu_n e15_ 74 3 (Or.inr (by decide)))).trans (d6_.2.2.2.1)), (((show M18_.1 74 4 = M14_.1 74 4 from by rw [e19_]; rfl).trans (pvu_n e15_ 74 4 (Or.inr (by decide)))).trans (d6_.2.2.2.2.1)), ((show M18_.1 81 0 = (M14_.1 67 0) from by rw [e19_]; rfl).trans ((pvu_n e15_ 67 0 (Or.inl (by decide))).trans (g11_ 67 0 rfl))), ((show M18_.1 81 1 = (M14_.1 67 1) from by rw [e19_]; rfl).trans ((pvu_n e15_ 67 1 (Or.inl (by decide))).trans (g11_ 67 1 rfl))), ((show M18_.1 81 2 = (M14_.1 67 2) from by rw [e19_]; rfl).trans ((pvu_n e15_ 67 2 (Or.inl (by decide))).trans (g11_ 67 2 rfl))), ((show M18_.1 81 3 = (M14_.1 67 3) from by rw [e19_]; rfl).trans ((pvu_n e15_ 67 3 (Or.inl (by decide))).trans (g11_ 67 3 rfl))), (((show M18_.1 74 5 = M14_.1 74 5 from by rw [e19_]; rfl).trans (pvu_s e15_)).trans (g11_ 60 5 rfl))⟩
def fpL_eX4_becomeNew_75_x_x_x_x_x : List (Nat × Nat × Nat) := [(0, 75, 1), (0, 75, 2), (0, 75, 3), (0, 75, 4), (0, 75, 5), (0, 75, 6), (0, 82, 0)]
def fp_eX4_becomeNew_75_x_x_x_x_x (q k : Nat) : Bool := pvfp fpL_eX4_becomeNew_75_x_x_x_x_x q k
set_option maxHeartbeats 4000000 in
set_option maxRecDepth 10000 in
theorem se_X4_becomeNew_75_x_x_x_x_x (M : pvM) (hok : pvOk M) (n1 : Int32) (n2 : Int32) (n3 : Int32) (n4 : Int32) (n5 : Int32) (hn1 : 0 ≤ Int32.toInt n1 ∧ Int32.toInt n1 ≤ 6) (hn2 : 0 ≤ Int32.toInt n2 ∧ Int32.toInt n2 ≤ 9) (hn3 : 0 ≤ Int32.toInt n3 ∧ Int32.toInt n3 ≤ 3) (hn4 : 0 ≤ Int32.toInt n4 ∧ Int32.toInt n4 ≤ 4) (hn5 : 0 ≤ Int32.toInt n5 ∧ Int32.toInt n5 ≤ 9) (d : Nat) : PW 134 d (0, [some (pvR 75), some (pvI n1), some (pvI n2), some (pvI n3), some (pvI n4), some (pvI n5), none], [], M) (fun r X => r = none ∧ pvOk X ∧ pvFr fp_eX4_becomeNew_75_x_x_x_x_x M X ∧ X.1 75 0 = n1 ∧ X.1 75 1 = n2 ∧ X.1 75 2 = n3 ∧ X.1 75 3 = n4 ∧ X.1 75 4 = n5 ∧ X.1 82 0 = 0 ∧ X.1 82 1 = 0 ∧ X.1 82 2 = 0 ∧ X.1 82 3 = 0 ∧ X.1 75 5 = 0) := by
  have hT : pvdom 134 = pvD_134 := rfl
  refine pw_blkw hT 3 (pc := 5) (lo := [some (pvR 75), some (pvI n1), some (pvI n2), some (pvI n3), some (pvI n4), some (pvI n5), none]) (st := []) (M := pvu M 75 0 n1) rfl ⟨trivial, trivial, rfl, trivial⟩ (fun M1_ e2_ => ?_)
  have o3_ : pvOk M1_ := pvok_u2 e2_ hok rfl hn1
  have f4_ : pvFr fp_eX4_becomeNew_75_x_x_x_x_x M M1_ := pvfr_u e2_ pvfr_0 rfl
  refine pw_blkw hT 3 (pc := 10) (lo := [some (pvR 75), some (pvI n1), some (pvI n2), some (pvI n3), some (pvI n4), some (pvI n5), none]) (st := []) (M := pvu M1_ 75 1 n2) rfl ⟨trivial, trivial, rfl, trivial⟩ (fun M5_ e6_ => ?_)
  have o7_ : pvOk M5_ := pvok_u2 e6_ o3_ rfl hn2
  have f8_ : pvFr fp_eX4_becomeNew_75_x_x_x_x_x M M5_ := pvfr_u e6_ f4_ rfl
  refine pw_blkw hT 3 (pc := 15) (lo := [some (pvR 75), some (pvI n1), some (pvI n2), some (pvI n3), some (pvI n4), some (pvI n5), none]) (st := []) (M := pvu M5_ 75 2 n3) rfl ⟨trivial, trivial, rfl, trivial⟩ (fun M9_ e10_ => ?_)
  have o11_ : pvOk M9_ := pvok_u2 e10_ o7_ rfl hn3
  have f12_ : pvFr fp_eX4_becomeNew_75_x_x_x_x_x M M9_ := pvfr_u e10_ f8_ rfl
  refine pw_blkw hT 3 (pc := 21) (lo := [some (pvR 75), some (pvI n1), some (pvI n2), some (pvI n3), some (pvI n4), some (pvI n5), none]) (st := []) (M := pvu M9_ 75 3 n4) rfl ⟨trivial, trivial, rfl, trivial⟩ (fun M13_ e14_ => ?_)
  have o15_ : pvOk M13_ := pvok_u2 e14_ o11_ rfl hn4
  have f16_ : pvFr fp_eX4_becomeNew_75_x_x_x_x_x M M13_ := pvfr_u e14_ f12_ rfl
  refine pw_blkw hT 3 (pc := 27) (lo := [some (pvR 75), some (pvI n1), some (pvI n2), some (pvI n3), some (pvI n4), some (pvI n5), none]) (st := []) (M := pvu M13_ 75 4 n5) rfl ⟨trivial, trivial, rfl, trivial⟩ (fun M17_ e18_ => ?_)
  have o19_ : pvOk M17_ := pvok_u2 e18_ o15_ rfl hn5
  have f20_ : pvFr fp_eX4_becomeNew_75_x_x_x_x_x M M17_ := pvfr_u e18_ f16_ rfl
  refine pw_blkw hT 3 (pc := 32) (lo := [some (pvR 75), some (pvI n1), some (pvI n2), some (pvI n3), some (pvI n4), some (pvI n5), none]) (st := []) (M := pvu M17_ 75 5 0) rfl ⟨trivial, trivial, ⟨rfl, Or.inl rfl⟩, trivial⟩ (fun M21_ e22_ => ?_)
  have o23_ : pvOk M21_ := pvok_u2 e22_ o19_ rfl (zr_wide (show 0 ≤ Int32.toInt 0 ∧ Int32.toInt 0 ≤ 0 from (by decide)) (by decide) (by decide))
  have f24_ : pvFr fp_eX4_becomeNew_75_x_x_x_x_x M M21_ := pvfr_u e22_ f20_ rfl
  refine pw_blk hT 2 (S' := (35, [some (pvR 75), some (pvI n1), some (pvI n2), some (pvI n3), some (pvI n4), some (pvI n5), some (pvI 0)], [], M21_)) rfl ⟨trivial, trivial, trivial⟩ ?_
  refine pw_blk hT 2 (S' := (38, [some (pvR 75), some (pvI n1), some (pvI n2), some (pvI n3), some (pvI n4), some (pvI n5), some (pvI 0)], [pvI 4, pvI 0], M21_)) rfl ⟨trivial, trivial, trivial⟩ ?_
  refine pw_ic hT (c := 4 ≤ 0) rfl rfl (fun c25_ => absurd c25_ (by decide)) (fun c25_ => ?_)
  refine pw_blkw hT 5 (pc := 49) (lo := [some (pvR 75), some (pvI n1), some (pvI n2), some (pvI n3), some (pvI n4), some (pvI n5), some (pvI 0)]) (st := []) (M := pvu M21_ 82 0 0) rfl ⟨trivial, rfl, trivial, trivial, ⟨rfl, (zr_in (n := 4) (show 0 ≤ Int32.toInt 0 ∧ Int32.toInt 0 ≤ 0 from (by decide)) (by decide) (by decide))⟩, trivial⟩ (fun M26_ e27_ => ?_)
  have o28_ : pvOk M26_ := pvok_u2 e27_ o23_ rfl (zr_wide (show 0 ≤ Int32.toInt 0 ∧ Int32.toInt 0 ≤ 0 from (by decide)) (by decide) (by decide))
  have f29_ : pvFr fp_eX4_becomeNew_75_x_x_x_x_x M M26_ := pvfr_u e27_ f24_ rfl
  refine pw_blk hT 2 (S' := (35, [some (pvR 75), some (pvI n1), some (pvI n2), some (pvI n3), some (pvI n4), some (pvI n5), some (pvI (0 + 1))], [], M26_)) rfl ⟨trivial, trivial, trivial⟩ ?_
  refine pw_blk hT 2 (S' := (38, [some (pvR 75), some (pvI n1), some (pvI n2), some (pvI n3), some (pvI n4), some (pvI n5), some (pvI (0 + 1))], [pvI 4, pvI (0 + 1)], M26_)) rfl ⟨trivial, trivial, trivial⟩ ?_
  refine pw_ic hT (c := 4 ≤ (0 + 1)) rfl rfl (fun c30_ => absurd c30_ (by decide)) (fun c30_ => ?_)
  refine pw_blkw hT 5 (pc := 49) (lo := [some (pvR 75), some (pvI n1), some (pvI n2), some (pvI n3), some (pvI n4), some (pvI n5), some (pvI (0 + 1))]) (st := []) (M := pvu M26_ 82 1 0) rfl ⟨trivial, rfl, trivial, trivial, ⟨rfl, (zr_in (n := 4) (show 1 ≤ Int32.toInt (0 + 1) ∧ Int32.toInt (0 + 1) ≤ 1 from (by decide)) (by decide) (by decide))⟩, trivial⟩ (fun M31_ e32_ => ?_)
  have o33_ : pvOk M31_ := pvok_u2 e32_ o28_ rfl (zr_wide (show 0 ≤ Int32.toInt 0 ∧ Int32.toInt 0 ≤ 0 from (by decide)) (by decide) (by decide))
  have f34_ : pvFr fp_eX4_becomeNew_75_x_x_x_x_x M M31_ := pvfr_u e32_ f29_ rfl
  refine pw_blk hT 2 (S' := (35, [some (pvR 75), some (pvI n1), some (pvI n2), some (pvI n3), some (pvI n4), some (pvI n5), some (pvI ((0 + 1) + 1))], [], M31_)) rfl ⟨trivial, trivial, trivial⟩ ?_
  refine pw_blk hT 2 (S' := (38, [some (pvR 75), some (pvI n1), some (pvI n2), some (pvI n3), some (pvI n4), some (pvI n5), some (pvI ((0 + 1) + 1))], [pvI 4, pvI ((0 + 1) + 1)], M31_)) rfl ⟨trivial, trivial, trivial⟩ ?_
  refine pw_ic hT (c := 4 ≤ ((0 + 1) + 1)) rfl rfl (fun c35_ => absurd c35_ (by decide)) (fun c35_ => ?_)
  refine pw_blkw hT 5 (pc := 49) (lo := [some (pvR 75), some (pvI n1), some (pvI n2), some (pvI n3), some (pvI n4), some (pvI n5), some (pvI ((0 + 1) + 1))]) (st := []) (M := pvu M31_ 82 2 0) rfl ⟨trivial, rfl, trivial, trivial, ⟨rfl, (zr_in (n := 4) (show 2 ≤ Int32.toInt ((0 + 1) + 1) ∧ Int32.toInt ((0 + 1) + 1) ≤ 2 from (by decide)) (by decide) (by decide))⟩, trivial⟩ (fun M36_ e37_ => ?_)
  have o38_ : pvOk M36_ := pvok_u2 e37_ o33_ rfl (zr_wide (show 0 ≤ Int32.toInt 0 ∧ Int32.toInt 0 ≤ 0 from (by decide)) (by decide) (by decide))
  have f39_ : pvFr fp_eX4_becomeNew_75_x_x_x_x_x M M36_ := pvfr_u e37_ f34_ rfl
  refine pw_blk hT 2 (S' := (35, [some (pvR 75), some (pvI n1), some (pvI n2), some (pvI n3), some (pvI n4), some (pvI n5), some (pvI (((0 + 1) + 1) + 1))], [], M36_)) rfl ⟨trivial, trivial, trivial⟩ ?_
  refine pw_blk hT 2 (S' := (38, [some (pvR 75), some (pvI n1), some (pvI n2), some (pvI n3), some (pvI n4), some (pvI n5), some (pvI (((0 + 1) + 1) + 1))], [pvI 4, pvI (((0 + 1) + 1) + 1)], M36_)) rfl ⟨trivial, trivial, trivial⟩ ?_
  refine pw_ic hT (c := 4 ≤ (((0 + 1) + 1) + 1)) rfl rfl (fun c40_ => absurd c40_ (by decide)) (fun c40_ => ?_)
  refine pw_blkw hT 5 (pc := 49) (lo := [some (pvR 75), some (pvI n1), some (pvI n2), some (pvI n3), some (pvI n4), some (pvI n5), some (pvI (((0 + 1) + 1) + 1))]) (st := []) (M := pvu M36_ 82 3 0) rfl ⟨trivial, rfl, trivial, trivial, ⟨rfl, (zr_in (n := 4) (show 3 ≤ Int32.toInt (((0 + 1) + 1) + 1) ∧ Int32.toInt (((0 + 1) + 1) + 1) ≤ 3 from (by decide)) (by decide) (by decide))⟩, trivial⟩ (fun M41_ e42_ => ?_)
  have o43_ : pvOk M41_ := pvok_u2 e42_ o38_ rfl (zr_wide (show 0 ≤ Int32.toInt 0 ∧ Int32.toInt 0 ≤ 0 from (by decide)) (by decide) (by decide))
  have f44_ : pvFr fp_eX4_becomeNew_75_x_x_x_x_x M M41_ := pvfr_u e42_ f39_ rfl
  refine pw_blk hT 2 (S' := (35, [some (pvR 75), some (pvI n1), some (pvI n2), some (pvI n3), some (pvI n4), some (pvI n5), some (pvI ((((0 + 1) + 1) + 1) + 1))], [], M41_)) rfl ⟨trivial, trivial, trivial⟩ ?_
  refine pw_blk hT 2 (S' := (38, [some (pvR 75), some (pvI n1), some (pvI n2), some (pvI n3), some (pvI n4), some (pvI n5), some (pvI ((((0 + 1) + 1) + 1) + 1))], [pvI 4, pvI ((((0 + 1) + 1) + 1) + 1)], M41_)) rfl ⟨trivial, trivial, trivial⟩ ?_
  refine pw_ic hT (c := 4 ≤ ((((0 + 1) + 1) + 1) + 1)) rfl rfl (fun c45_ => ?_) (fun c45_ => absurd (by decide) c45_)
  exact pw_ret hT rfl (r := none) (M' := M41_) ⟨rfl, rfl⟩ ⟨rfl, o43_, f44_, ((((((((((pvu_n e42_ 75 0 (Or.inl (by decide))).trans (pvu_n e37_ 75 0 (Or.inl (by decide)))).trans (pvu_n e32_ 75 0 (Or.inl (by decide)))).trans (pvu_n e27_ 75 0 (Or.inl (by decide)))).trans (pvu_n e22_ 75 0 (Or.inr (by decide)))).trans (pvu_n e18_ 75 0 (Or.inr (by decide)))).trans (pvu_n e14_ 75 0 (Or.inr (by decide)))).trans (pvu_n e10_ 75 0 (Or.inr (by decide)))).trans (pvu_n e6_ 75 0 (Or.inr (by decide)))).trans (pvu_s e2_)), (((((((((pvu_n e42_ 75 1 (Or.inl (by decide))).trans (pvu_n e37_ 75 1 (Or.inl (by decide)))).trans (pvu_n e32_ 75 1 (Or.inl (by decide)))).trans (pvu_n e27_ 75 1 (Or.inl (by decide)))).trans (pvu_n e22_ 75 1 (Or.inr (by decide)))).trans (pvu_n e18_ 75 1 (Or.inr (by decide)))).trans (pvu_n e14_ 75 1 (Or.inr (by decide)))).trans (pvu_n e10_ 75 1 (Or.inr (by decide)))).trans (pvu_s e6_)), ((((((((pvu_n e42_ 75 2 (Or.inl (by decide))).trans (pvu_n e37_ 75 2 (Or.inl (by decide)))).trans (pvu_n e32_ 75 2 (Or.inl (by decide)))).trans (pvu_n e27_ 75 2 (Or.inl (by decide)))).trans (pvu_n e22_ 75 2 (Or.inr (by decide)))).trans (pvu_n e18_ 75 2 (Or.inr (by decide)))).trans (pvu_n e14_ 75 2 (Or.inr (by decide)))).trans (pvu_s e10_)), (((((((pvu_n e42_ 75 3 (Or.inl (by decide))).trans (pvu_n e37_ 75 3 (Or.inl (by decide)))).trans (pvu_n e32_ 75 3 (Or.inl (by decide)))).trans (pvu_n e27_ 75 3 (Or.inl (by decide)))).trans (pvu_n e22_ 75 3 (Or.inr (by decide)))).trans (pvu_n e18_ 75 3 (Or.inr (by decide)))).trans (pvu_s e14_)), ((((((pvu_n e42_ 75 4 (Or.inl (by decide))).trans (pvu_n e37_ 75 4 (Or.inl (by decide)))).trans (pvu_n e32_ 75 4 (Or.inl (by decide)))).trans (pvu_n e27_ 75 4 (Or.inl (by decide)))).trans (pvu_n e22_ 75 4 (Or.inr (by decide)))).trans (pvu_s e18_)), ((((pvu_n e42_ 82 0 (Or.inr (by decide))).trans (pvu_n e37_ 82 0 (Or.inr (by decide)))).trans (pvu_n e32_ 82 0 (Or.inr (by decide)))).trans (pvu_s e27_)), (((pvu_n e42_ 82 1 (Or.inr (by decide))).trans (pvu_n e37_ 82 1 (Or.inr (by decide)))).trans (pvu_s e32_)), ((pvu_n e42_ 82 2 (Or.inr (by decide))).trans (pvu_s e37_)), (pvu_s e42_), (((((pvu_n e42_ 75 5 (Or.inl (by decide))).trans (pvu_n e37_ 75 5 (Or.inl (by decide)))).trans (pvu_n e32_ 75 5 (Or.inl (by decide)))).trans (pvu_n e27_ 75 5 (Or.inl (by decide)))).trans (pvu_s e22_))⟩
def fpL_eX4_becomeAs_75_61 : List (Nat × Nat × Nat) := [(0, 75, 1), (0, 75, 2), (0, 75, 3), (0, 75, 4), (0, 75, 5), (0, 75, 6), (0, 82, 0)]
def fp_eX4_becomeAs_75_61 (q k : Nat) : Bool := pvfp fpL_eX4_becomeAs_75_61 q k
theorem fp_eX4_becomeAs_75_61_fp_eX4_becomeNew_75_x_x_x_x_x (a b : Nat) (h : fp_eX4_becomeNew_75_x_x_x_x_x a b = true) : fp_eX4_becomeAs_75_61 a b = true := pvfp_sub (l1 := fpL_eX4_becomeNew_75_x_x_x_x_x) (l2 := fpL_eX4_becomeAs_75_61) (by decide) a b h
set_option maxHeartbeats 4000000 in
set_option maxRecDepth 10000 in
theorem se_X4_becomeAs_75_61 (M : pvM) (hok : pvOk M) (d : Nat) : PW 133 d (0, [some (pvR 75), some (pvR 61)], [], M) (fun r X => r = none ∧ pvOk X ∧ pvFr fp_eX4_becomeAs_75_61 M X ∧ X.1 75 0 = (M.1 61 0) ∧ X.1 75 1 = (M.1 61 1) ∧ X.1 75 2 = (M.1 61 2) ∧ X.1 75 3 = (M.1 61 3) ∧ X.1 75 4 = (M.1 61 4) ∧ X.1 82 0 = (M.1 68 0) ∧ X.1 82 1 = (M.1 68 1) ∧ X.1 82 2 = (M.1 68 2) ∧ X.1 82 3 = (M.1 68 3) ∧ X.1 75 5 = (M.1 61 5)) := by
  have hT : pvdom 133 = pvD_133 := rfl
  have b1_ : 0 ≤ Int32.toInt (M.1 61 0) ∧ Int32.toInt (M.1 61 0) ≤ 6 := pvok_r hok 61 0 rfl
  have b2_ : 0 ≤ Int32.toInt (M.1 61 1) ∧ Int32.toInt (M.1 61 1) ≤ 9 := pvok_r hok 61 1 rfl
  have b3_ : 0 ≤ Int32.toInt (M.1 61 2) ∧ Int32.toInt (M.1 61 2) ≤ 3 := pvok_r hok 61 2 rfl
  have b4_ : 0 ≤ Int32.toInt (M.1 61 3) ∧ Int32.toInt (M.1 61 3) ≤ 4 := pvok_r hok 61 3 rfl
  have b5_ : 0 ≤ Int32.toInt (M.1 61 4) ∧ Int32.toInt (M.1 61 4) ≤ 9 := pvok_r hok 61 4 rfl
  refine pw_blk hT 11 (S' := (21, [some (pvR 75), some (pvR 61)], [pvI (M.1 61 4), pvI (M.1 61 3), pvI (M.1 61 2), pvI (M.1 61 1), pvI (M.1 61 0), pvR 75], M)) rfl ⟨trivial, trivial, rfl, trivial, rfl, trivial, rfl, trivial, rfl, trivial, rfl, trivial⟩ ?_
  refine pw_callVd hT (as := [pvR 75, pvI (M.1 61 0), pvI (M.1 61 1), pvI (M.1 61 2), pvI (M.1 61 3), pvI (M.1 61 4)]) (lo1 := [some (pvR 75), some (pvI (M.1 61 0)), some (pvI (M.1 61 1)), some (pvI (M.1 61 2)), some (pvI (M.1 61 3)), some (pvI (M.1 61 4)), none]) (d1 := d) (rest := []) rfl rfl rfl rfl rfl (fun _ => rfl) (Nat.zero_le _) rfl rfl rfl (se_X4_becomeNew_75_x_x_x_x_x M hok (M.1 61 0) (M.1 61 1) (M.1 61 2) (M.1 61 3) (M.1 61 4) b1_ b2_ b3_ b4_ b5_ d) (fun M8_ o10_ g11_ d6_ => ?_)
  have f12_ : pvFr fp_eX4_becomeAs_75_61 M M8_ := pvfr_t g11_ pvfr_0 fp_eX4_becomeAs_75_61_fp_eX4_becomeNew_75_x_x_x_x_x
  have b13_ : 0 ≤ Int32.toInt (M8_.1 61 5) ∧ Int32.toInt (M8_.1 61 5) ≤ 1 := pvok_r o10_ 61 5 rfl
  refine pw_blkw hT 4 (pc := 32) (lo := [some (pvR 75), some (pvR 61)]) (st := []) (M := pvu M8_ 75 5 (M8_.1 61 5)) rfl ⟨trivial, trivial, rfl, ⟨rfl, pv01 b13_⟩, trivial⟩ (fun M14_ e15_ => ?_)
  have o16_ : pvOk M14_ := pvok_u2 e15_ o10_ rfl b13_
  have f17_ : pvFr fp_eX4_becomeAs_75_61 M M14_ := pvfr_u e15_ f12_ rfl
  refine pw_blkw hT 8 (pc := 46) (lo := [some (pvR 75), some (pvR 61)]) (st := []) (M := pvr M14_ 82 (va_cpy (M14_.1 68) (M14_.1 82) (Int32.toNatClampNeg 0) (Int32.toNatClampNeg 0) (Int32.toNatClampNeg 4))) rfl ⟨trivial, rfl, trivial, trivial, rfl, trivial, trivial, ⟨rfl, rfl, (pvnneg (b := 0) (show 0 ≤ Int32.toInt 0 ∧ Int32.toInt 0 ≤ 0 from (by decide))), (pvnneg (b := 0) (show 0 ≤ Int32.toInt 0 ∧ Int32.toInt 0 ≤ 0 from (by decide))), (pvnneg (b := 4) (zr_wide (show 4 ≤ Int32.toInt 4 ∧ Int32.toInt 4 ≤ 4 from (by decide)) (by decide) (by decide))), (show _ ≤ 4 from (by have u0 := (show 0 ≤ Int32.toInt 0 ∧ Int32.toInt 0 ≤ 0 from (by decide)); have u1 := (show 4 ≤ Int32.toInt 4 ∧ Int32.toInt 4 ≤ 4 from (by decide)); have u2 := ztn 0 (by omega); have u3 := ztn 4 (by omega); omega)), (show _ ≤ 4 from (by have u0 := (show 0 ≤ Int32.toInt 0 ∧ Int32.toInt 0 ≤ 0 from (by decide)); have u1 := (show 4 ≤ Int32.toInt 4 ∧ Int32.toInt 4 ≤ 4 from (by decide)); have u2 := ztn 0 (by omega); have u3 := ztn 4 (by omega); omega)), Nat.le_of_ble_eq_true rfl⟩, trivial⟩ (fun M18_ e19_ => ?_)
  have o20_ : pvOk M18_ := pvok_rr e19_ o16_ (fun _ => rfl) (pvcpy_r (fun k => pvok_r o16_ 68 k rfl) (fun k => pvok_r o16_ 82 k rfl))
  have f21_ : pvFr fp_eX4_becomeAs_75_61 M M18_ := pvfr_rr e19_ f17_ (fun _ => rfl)
  exact pw_ret hT rfl (r := none) (M' := M18_) ⟨rfl, rfl⟩ ⟨rfl, o20_, f21_, (((show M18_.1 75 0 = M14_.1 75 0 from by rw [e19_]; rfl).trans (pvu_n e15_ 75 0 (Or.inr (by decide)))).trans (d6_.1)), (((show M18_.1 75 1 = M14_.1 75 1 from by rw [e19_]; rfl).trans (pvu_n e15_ 75 1 (Or.inr (by decide)))).trans (d6_.2.1)), (((show M18_.1 75 2 = M14_.1 75 2 from by rw [e19_]; rfl).trans (pvu_n e15_ 75 2 (Or.inr (by decide)))).trans (d6_.2.2.1)), (((show M18_.1 75 3 = M14_.1 75 3 from by rw [e19_]; rfl).trans (pvu_n e15_ 75 3 (Or.inr (by decide)))).trans (d6_.2.2.2.1)), (((show M18_.1 75 4 = M14_.1 75 4 from by rw [e19_]; rfl).trans (pvu_n e15_ 75 4 (Or.inr (by decide)))).trans (d6_.2.2.2.2.1)), ((show M18_.1 82 0 = (M14_.1 68 0) from by rw [e19_]; rfl).trans ((pvu_n e15_ 68 0 (Or.inl (by decide))).trans (g11_ 68 0 rfl))), ((show M18_.1 82 1 = (M14_.1 68 1) from by rw [e19_]; rfl).trans ((pvu_n e15_ 68 1 (Or.inl (by decide))).trans (g11_ 68 1 rfl))), ((show M18_.1 82 2 = (M14_.1 68 2) from by rw [e19_]; rfl).trans ((pvu_n e15_ 68 2 (Or.inl (by decide))).trans (g11_ 68 2 rfl))), ((show M18_.1 82 3 = (M14_.1 68 3) from by rw [e19_]; rfl).trans ((pvu_n e15_ 68 3 (Or.inl (by decide))).trans (g11_ 68 3 rfl))), (((show M18_.1 75 5 = M14_.1 75 5 from by rw [e19_]; rfl).trans (pvu_s e15_)).trans (g11_ 61 5 rfl))⟩
def fpL_eX4_becomeNew_76_x_x_x_x_x : List (Nat × Nat × Nat) := [(0, 76, 1), (0, 76, 2), (0, 76, 3), (0, 76, 4), (0, 76, 5), (0, 76, 6), (0, 83, 0)]
def fp_eX4_becomeNew_76_x_x_x_x_x (q k : Nat) : Bool := pvfp fpL_eX4_becomeNew_76_x_x_x_x_x q k
set_option maxHeartbeats 4000000 in
set_option maxRecDepth 10000 in
theorem se_X4_becomeNew_76_x_x_x_x_x (M : pvM) (hok : pvOk M) (n1 : Int32) (n2 : Int32) (n3 : Int32) (n4 : Int32) (n5 : Int32) (hn1 : 0 ≤ Int32.toInt n1 ∧ Int32.toInt n1 ≤ 6) (hn2 : 0 ≤ Int32.toInt n2 ∧ Int32.toInt n2 ≤ 9) (hn3 : 0 ≤ Int32.toInt n3 ∧ Int32.toInt n3 ≤ 3) (hn4 : 0 ≤ Int32.toInt n4 ∧ Int32.toInt n4 ≤ 4) (hn5 : 0 ≤ Int32.toInt n5 ∧ Int32.toInt n5 ≤ 9) (d : Nat) : PW 134 d (0, [some (pvR 76), some (pvI n1), some (pvI n2), some (pvI n3), some (pvI n4), some (pvI n5), none], [], M) (fun r X => r = none ∧ pvOk X ∧ pvFr fp_eX4_becomeNew_76_x_x_x_x_x M X ∧ X.1 76 0 = n1 ∧ X.1 76 1 = n2 ∧ X.1 76 2 = n3 ∧ X.1 76 3 = n4 ∧ X.1 76 4 = n5 ∧ X.1 83 0 = 0 ∧ X.1 83 1 = 0 ∧ X.1 83 2 = 0 ∧ X.1 83 3 = 0 ∧ X.1 76 5 = 0) := by
  have hT : pvdom 134 = pvD_134 := rfl
  refine pw_blkw hT 3 (pc := 5) (lo := [some (pvR 76), some (pvI n1), some (pvI n2), some (pvI n3), some (pvI n4), some (pvI n5), none]) (st := []) (M := pvu M 76 0 n1) rfl ⟨trivial, trivial, rfl, trivial⟩ (fun M1_ e2_ => ?_)
  have o3_ : pvOk M1_ := pvok_u2 e2_ hok rfl hn1
  have f4_ : pvFr fp_eX4_becomeNew_76_x_x_x_x_x M M1_ := pvfr_u e2_ pvfr_0 rfl
  refine pw_blkw hT 3 (pc := 10) (lo := [some (pvR 76), some (pvI n1), some (pvI n2), some (pvI n3), some (pvI n4), some (pvI n5), none]) (st := []) (M := pvu M1_ 76 1 n2) rfl ⟨trivial, trivial, rfl, trivial⟩ (fun M5_ e6_ => ?_)
  have o7_ : pvOk M5_ := pvok_u2 e6_ o3_ rfl hn2
  have f8_ : pvFr fp_eX4_becomeNew_76_x_x_x_x_x M M5_ := pvfr_u e6_ f4_ rfl
  refine pw_blkw hT 3 (pc := 15) (lo := [some (pvR 76), some (pvI n1), some (pvI n2), some (pvI n3), some (pvI n4), some (pvI n5), none]) (st := []) (M := pvu M5_ 76 2 n3) rfl ⟨trivial, trivial, rfl, trivial⟩ (fun M9_ e10_ => ?_)
  have o11_ : pvOk M9_ := pvok_u2 e10_ o7_ rfl hn3
  have f12_ : pvFr fp_eX4_becomeNew_76_x_x_x_x_x M M9_ := pvfr_u e10_ f8_ rfl
  refine pw_blkw hT 3 (pc := 21) (lo := [some (pvR 76), some (pvI n1), some (pvI n2), some (pvI n3), some (pvI n4), some (pvI n5), none]) (st := []) (M := pvu M9_ 76 3 n4) rfl ⟨trivial, trivial, rfl, trivial⟩ (fun M13_ e14_ => ?_)
  have o15_ : pvOk M13_ := pvok_u2 e14_ o11_ rfl hn4
  have f16_ : pvFr fp_eX4_becomeNew_76_x_x_x_x_x M M13_ := pvfr_u e14_ f12_ rfl
  refine pw_blkw hT 3 (pc := 27) (lo := [some (pvR 76), some (pvI n1), some (pvI n2), some (pvI n3), some (pvI n4), some (pvI n5), none]) (st := []) (M := pvu M13_ 76 4 n5) rfl ⟨trivial, trivial, rfl, trivial⟩ (fun M17_ e18_ => ?_)
  have o19_ : pvOk M17_ := pvok_u2 e18_ o15_ rfl hn5
  have f20_ : pvFr fp_eX4_becomeNew_76_x_x_x_x_x M M17_ := pvfr_u e18_ f16_ rfl
  refine pw_blkw hT 3 (pc := 32) (lo := [some (pvR 76), some (pvI n1), some (pvI n2), some (pvI n3), some (pvI n4), some (pvI n5), none]) (st := []) (M := pvu M17_ 76 5 0) rfl ⟨trivial, trivial, ⟨rfl, Or.inl rfl⟩, trivial⟩ (fun M21_ e22_ => ?_)
  have o23_ : pvOk M21_ := pvok_u2 e22_ o19_ rfl (zr_wide (show 0 ≤ Int32.toInt 0 ∧ Int32.toInt 0 ≤ 0 from (by decide)) (by decide) (by decide))
  have f24_ : pvFr fp_eX4_becomeNew_76_x_x_x_x_x M M21_ := pvfr_u e22_ f20_ rfl
  refine pw_blk hT 2 (S' := (35, [some (pvR 76), some (pvI n1), some (pvI n2), some (pvI n3), some (pvI n4), some (pvI n5), some (pvI 0)], [], M21_)) rfl ⟨trivial, trivial, trivial⟩ ?_
  refine pw_blk hT 2 (S' := (38, [some (pvR 76), some (pvI n1), some (pvI n2), some (pvI n3), some (pvI n4), some (pvI n5), some (pvI 0)], [pvI 4, pvI 0], M21_)) rfl ⟨trivial, trivial, trivial⟩ ?_
  refine pw_ic hT (c := 4 ≤ 0) rfl rfl (fun c25_ => absurd c25_ (by decide)) (fun c25_ => ?_)
  refine pw_blkw hT 5 (pc := 49) (lo := [some (pvR 76), some (pvI n1), some (pvI n2), some (pvI n3), some (pvI n4), some (pvI n5), some (pvI 0)]) (st := []) (M := pvu M21_ 83 0 0) rfl ⟨trivial, rfl, trivial, trivial, ⟨rfl, (zr_in (n := 4) (show 0 ≤ Int32.toInt 0 ∧ Int32.toInt 0 ≤ 0 from (by decide)) (by decide) (by decide))⟩, trivial⟩ (fun M26_ e27_ => ?_)
  have o28_ : pvOk M26_ := pvok_u2 e27_ o23_ rfl (zr_wide (show 0 ≤ Int32.toInt 0 ∧ Int32.toInt 0 ≤ 0 from (by decide)) (by decide) (by decide))
  have f29_ : pvFr fp_eX4_becomeNew_76_x_x_x_x_x M M26_ := pvfr_u e27_ f24_ rfl
  refine pw_blk hT 2 (S' := (35, [some (pvR 76), some (pvI n1), some (pvI n2), some (pvI n3), some (pvI n4), some (pvI n5), some (pvI (0 + 1))], [], M26_)) rfl ⟨trivial, trivial, trivial⟩ ?_
  refine pw_blk hT 2 (S' := (38, [some (pvR 76), some (pvI n1), some (pvI n2), some (pvI n3), some (pvI n4), some (pvI n5), some (pvI (0 + 1))], [pvI 4, pvI (0 + 1)], M26_)) rfl ⟨trivial, trivial, trivial⟩ ?_
  refine pw_ic hT (c := 4 ≤ (0 + 1)) rfl rfl (fun c30_ => absurd c30_ (by decide)) (fun c30_ => ?_)
  refine pw_blkw hT 5 (pc := 49) (lo := [some (pvR 76), some (pvI n1), some (pvI n2), some (pvI n3), some (pvI n4), some (pvI n5), some (pvI (0 + 1))]) (st := []) (M := pvu M26_ 83 1 0) rfl ⟨trivial, rfl, trivial, trivial, ⟨rfl, (zr_in (n := 4) (show 1 ≤ Int32.toInt (0 + 1) ∧ Int32.toInt (0 + 1) ≤ 1 from (by decide)) (by decide) (by decide))⟩, trivial⟩ (fun M31_ e32_ => ?_)
  have o33_ : pvOk M31_ := pvok_u2 e32_ o28_ rfl (zr_wide (show 0 ≤ Int32.toInt 0 ∧ Int32.toInt 0 ≤ 0 from (by decide)) (by decide) (by decide))
  have f34_ : pvFr fp_eX4_becomeNew_76_x_x_x_x_x M M31_ := pvfr_u e32_ f29_ rfl
  refine pw_blk hT 2 (S' := (35, [some (pvR 76), some (pvI n1), some (pvI n2), some (pvI n3), some (pvI n4), some (pvI n5), some (pvI ((0 + 1) + 1))], [], M31_)) rfl ⟨trivial, trivial, trivial⟩ ?_
  refine pw_blk hT 2 (S' := (38, [some (pvR 76), some (pvI n1), some (pvI n2), some (pvI n3), some (pvI n4), some (pvI n5), some (pvI ((0 + 1) + 1))], [pvI 4, pvI ((0 + 1) + 1)], M31_)) rfl ⟨trivial, trivial, trivial⟩ ?_
  refine pw_ic hT (c := 4 ≤ ((0 + 1) + 1)) rfl rfl (fun c35_ => absurd c35_ (by decide)) (fun c35_ => ?_)
  refine pw_blkw hT 5 (pc := 49) (lo := [some (pvR 76), some (pvI n1), some (pvI n2), some (pvI n3), some (pvI n4), some (pvI n5), some (pvI ((0 + 1) + 1))]) (st := []) (M := pvu M31_ 83 2 0) rfl ⟨trivial, rfl, trivial, trivial, ⟨rfl, (zr_in (n := 4) (show 2 ≤ Int32.toInt ((0 + 1) + 1) ∧ Int32.toInt ((0 + 1) + 1) ≤ 2 from (by decide)) (by decide) (by decide))⟩, trivial⟩ (fun M36_ e37_ => ?_)
  have o38_ : pvOk M36_ := pvok_u2 e37_ o33_ rfl (zr_wide (show 0 ≤ Int32.toInt 0 ∧ Int32.toInt 0 ≤ 0 from (by decide)) (by decide) (by decide))
  have f39_ : pvFr fp_eX4_becomeNew_76_x_x_x_x_x M M36_ := pvfr_u e37_ f34_ rfl
  refine pw_blk hT 2 (S' := (35, [some (pvR 76), some (pvI n1), some (pvI n2), some (pvI n3), some (pvI n4), some (pvI n5), some (pvI (((0 + 1) + 1) + 1))], [], M36_)) rfl ⟨trivial, trivial, trivial⟩ ?_
  refine pw_blk hT 2 (S' := (38, [some (pvR 76), some (pvI n1), some (pvI n2), some (pvI n3), some (pvI n4), some (pvI n5), some (pvI (((0 + 1) + 1) + 1))], [pvI 4, pvI (((0 + 1) + 1) + 1)], M36_)) rfl ⟨trivial, trivial, trivial⟩ ?_
  refine pw_ic hT (c := 4 ≤ (((0 + 1) + 1) + 1)) rfl rfl (fun c40_ => absurd c40_ (by decide)) (fun c40_ => ?_)
  refine pw_blkw hT 5 (pc := 49) (lo := [some (pvR 76), some (pvI n1), some (pvI n2), some (pvI n3), some (pvI n4), some (pvI n5), some (pvI (((0 + 1) + 1) + 1))]) (st := []) (M := pvu M36_ 83 3 0) rfl ⟨trivial, rfl, trivial, trivial, ⟨rfl, (zr_in (n := 4) (show 3 ≤ Int32.toInt (((0 + 1) + 1) + 1) ∧ Int32.toInt (((0 + 1) + 1) + 1) ≤ 3 from (by decide)) (by decide) (by decide))⟩, trivial⟩ (fun M41_ e42_ => ?_)
  have o43_ : pvOk M41_ := pvok_u2 e42_ o38_ rfl (zr_wide (show 0 ≤ Int32.toInt 0 ∧ Int32.toInt 0 ≤ 0 from (by decide)) (by decide) (by decide))
  have f44_ : pvFr fp_eX4_becomeNew_76_x_x_x_x_x M M41_ := pvfr_u e42_ f39_ rfl
  refine pw_blk hT 2 (S' := (35, [some (pvR 76), some (pvI n1), some (pvI n2), some (pvI n3), some (pvI n4), some (pvI n5), some (pvI ((((0 + 1) + 1) + 1) + 1))], [], M41_)) rfl ⟨trivial, trivial, trivial⟩ ?_
  refine pw_blk hT 2 (S' := (38, [some (pvR 76), some (pvI n1), some (pvI n2), some (pvI n3), some (pvI n4), some (pvI n5), some (pvI ((((0 + 1) + 1) + 1) + 1))], [pvI 4, pvI ((((0 + 1) + 1) + 1) + 1)], M41_)) rfl ⟨trivial, trivial, trivial⟩ ?_
  refine pw_ic hT (c := 4 ≤ ((((0 + 1) + 1) + 1) + 1)) rfl rfl (fun c45_ => ?_) (fun c45_ => absurd (by decide) c45_)
  exact pw_ret hT rfl (r := none) (M' := M41_) ⟨rfl, rfl⟩ ⟨rfl, o43_, f44_, ((((((((((pvu_n e42_ 76 0 (Or.inl (by decide))).trans (pvu_n e37_ 76 0 (Or.inl (by decide)))).trans (pvu_n e32_ 76 0 (Or.inl (by decide)))).trans (pvu_n e27_ 76 0 (Or.inl (by decide)))).trans (pvu_n e22_ 76 0 (Or.inr (by decide)))).trans (pvu_n e18_ 76 0 (Or.inr (by decide)))).trans (pvu_n e14_ 76 0 (Or.inr (by decide)))).trans (pvu_n e10_ 76 0 (Or.inr (by decide)))).trans (pvu_n e6_ 76 0 (Or.inr (by decide)))).trans (pvu_s e2_)), (((((((((pvu_n e42_ 76 1 (Or.inl (by decide))).trans (pvu_n e37_ 76 1 (Or.inl (by decide)))).trans (pvu_n e32_ 76 1 (Or.inl (by decide)))).trans (pvu_n e27_ 76 1 (Or.inl (by decide)))).trans (pvu_n e22_ 76 1 (Or.inr (by decide)))).trans (pvu_n e18_ 76 1 (Or.inr (by decide)))).trans (pvu_n e14_ 76 1 (Or.inr (by decide)))).trans (pvu_n e10_ 76 1 (Or.inr (by decide)))).trans (pvu_s e6_)), ((((((((pvu_n e42_ 76 2 (Or.inl (by decide))).trans (pvu_n e37_ 76 2 (Or.inl (by decide)))).trans (pvu_n e32_ 76 2 (Or.inl (by decide)))).trans (pvu_n e27_ 76 2 (Or.inl (by decide)))).trans (pvu_n e22_ 76 2 (Or.inr (by decide)))).trans (pvu_n e18_ 76 2 (Or.inr (by decide)))).trans (pvu_n e14_ 76 2 (Or.inr (by decide)))).trans (pvu_s e10_)), (((((((pvu_n e42_ 76 3 (Or.inl (by decide))).trans (pvu_n e37_ 76 3 (Or.inl (by decide)))).trans (pvu_n e32_ 76 3 (Or.inl (by decide)))).trans (pvu_n e27_ 76 3 (Or.inl (by decide)))).trans (pvu_n e22_ 76 3 (Or.inr (by decide)))).trans (pvu_n e18_ 76 3 (Or.inr (by decide)))).trans (pvu_s e14_)), ((((((pvu_n e42_ 76 4 (Or.inl (by decide))).trans (pvu_n e37_ 76 4 (Or.inl (by decide)))).trans (pvu_n e32_ 76 4 (Or.inl (by decide)))).trans (pvu_n e27_ 76 4 (Or.inl (by decide)))).trans (pvu_n e22_ 76 4 (Or.inr (by decide)))).trans (pvu_s e18_)), ((((pvu_n e42_ 83 0 (Or.inr (by decide))).trans (pvu_n e37_ 83 0 (Or.inr (by decide)))).trans (pvu_n e32_ 83 0 (Or.inr (by decide)))).trans (pvu_s e27_)), (((pvu_n e42_ 83 1 (Or.inr (by decide))).trans (pvu_n e37_ 83 1 (Or.inr (by decide)))).trans (pvu_s e32_)), ((pvu_n e42_ 83 2 (Or.inr (by decide))).trans (pvu_s e37_)), (pvu_s e42_), (((((pvu_n e42_ 76 5 (Or.inl (by decide))).trans (pvu_n e37_ 76 5 (Or.inl (by decide)))).trans (pvu_n e32_ 76 5 (Or.inl (by decide)))).trans (pvu_n e27_ 76 5 (Or.inl (by decide)))).trans (pvu_s e22_))⟩
def fpL_eX4_becomeAs_76_62 : List (Nat × Nat × Nat) := [(0, 76, 1), (0, 76, 2), (0, 76, 3), (0, 76, 4), (0, 76, 5), (0, 76, 6), (0, 83, 0)]
def fp_eX4_becomeAs_76_62 (q k : Nat) : Bool := pvfp fpL_eX4_becomeAs_76_62 q k
theorem fp_eX4_becomeAs_76_62_fp_eX4_becomeNew_76_x_x_x_x_x (a b : Nat) (h : fp_eX4_becomeNew_76_x_x_x_x_x a b = true) : fp_eX4_becomeAs_76_62 a b = true := pvfp_sub (l1 := fpL_eX4_becomeNew_76_x_x_x_x_x) (l2 := fpL_eX4_becomeAs_76_62) (by decide) a b h
set_option maxHeartbeats 4000000 in
set_option maxRecDepth 10000 in
theorem se_X4_becomeAs_76_62 (M : pvM) (hok : pvOk M) (d : Nat) : PW 133 d (0, [some (pvR 76), some (pvR 62)], [], M) (fun r X => r = none ∧ pvOk X ∧ pvFr fp_eX4_becomeAs_76_62 M X ∧ X.1 76 0 = (M.1 62 0) ∧ X.1 76 1 = (M.1 62 1) ∧ X.1 76 2 = (M.1 62 2) ∧ X.1 76 3 = (M.1 62 3) ∧ X.1 76 4 = (M.1 62 4) ∧ X.1 83 0 = (M.1 69 0) ∧ X.1 83 1 = (M.1 69 1) ∧ X.1 83 2 = (M.1 69 2) ∧ X.1 83 3 = (M.1 69 3) ∧ X.1 76 5 = (M.1 62 5)) := by
  have hT : pvdom 133 = pvD_133 := rfl
  have b1_ : 0 ≤ Int32.toInt (M.1 62 0) ∧ Int32.toInt (M.1 62 0) ≤ 6 := pvok_r hok 62 0 rfl
  have b2_ : 0 ≤ Int32.toInt (M.1 62 1) ∧ Int32.toInt (M.1 62 1) ≤ 9 := pvok_r hok 62 1 rfl
  have b3_ : 0 ≤ Int32.toInt (M.1 62 2) ∧ Int32.toInt (M.1 62 2) ≤ 3 := pvok_r hok 62 2 rfl
  have b4_ : 0 ≤ Int32.toInt (M.1 62 3) ∧ Int32.toInt (M.1 62 3) ≤ 4 := pvok_r hok 62 3 rfl
  have b5_ : 0 ≤ Int32.toInt (M.1 62 4) ∧ Int32.toInt (M.1 62 4) ≤ 9 := pvok_r hok 62 4 rfl
  refine pw_blk hT 11 (S' := (21, [some (pvR 76), some (pvR 62)], [pvI (M.1 62 4), pvI (M.1 62 3), pvI (M.1 62 2), pvI (M.1 62 1), pvI (M.1 62 0), pvR 76], M)) rfl ⟨trivial, trivial, rfl, trivial, rfl, trivial, rfl, trivial, rfl, trivial, rfl, trivial⟩ ?_
  refine pw_callVd hT (as := [pvR 76, pvI (M.1 62 0), pvI (M.1 62 1), pvI (M.1 62 2), pvI (M.1 62 3), pvI (M.1 62 4)]) (lo1 := [some (pvR 76), some (pvI (M.1 62 0)), some (pvI (M.1 62 1)), some (pvI (M.1 62 2)), some (pvI (M.1 62 3)), some (pvI (M.1 62 4)), none]) (d1 := d) (rest := []) rfl rfl rfl rfl rfl (fun _ => rfl) (Nat.zero_le _) rfl rfl rfl (se_X4_becomeNew_76_x_x_x_x_x M hok (M.1 62 0) (M.1 62 1) (M.1 62 2) (M.1 62 3) (M.1 62 4) b1_ b2_ b3_ b4_ b5_ d) (fun M8_ o10_ g11_ d6_ => ?_)
  have f12_ : pvFr fp_eX4_becomeAs_76_62 M M8_ := pvfr_t g11_ pvfr_0 fp_eX4_becomeAs_76_62_fp_eX4_becomeNew_76_x_x_x_x_x
  have b13_ : 0 ≤ Int32.toInt (M8_.1 62 5) ∧ Int32.toInt (M8_.1 62 5) ≤ 1 := pvok_r o10_ 62 5 rfl
  refine pw_blkw hT 4 (pc := 32) (lo := [some (pvR 76), some (pvR 62)]) (st := []) (M := pvu M8_ 76 5 (M8_.1 62 5)) rfl ⟨trivial, trivial, rfl, ⟨rfl, pv01 b13_⟩, trivial⟩ (fun M14_ e15_ => ?_)
  have o16_ : pvOk M14_ := pvok_u2 e15_ o10_ rfl b13_
  have f17_ : pvFr fp_eX4_becomeAs_76_62 M M14_ := pvfr_u e15_ f12_ rfl
  refine pw_blkw hT 8 (pc := 46) (lo := [some (pvR 76), some (pvR 62)]) (st := []) (M := pvr M14_ 83 (va_cpy (M14_.1 69) (M14_.1 83) (Int32.toNatClampNeg 0) (Int32.toNatClampNeg 0) (Int32.toNatClampNeg 4))) rfl ⟨trivial, rfl, trivial, trivial, rfl, trivial, trivial, ⟨rfl, rfl, (pvnneg (b := 0) (show 0 ≤ Int32.toInt 0 ∧ Int32.toInt 0 ≤ 0 from (by decide))), (pvnneg (b := 0) (show 0 ≤ Int32.toInt 0 ∧ Int32.toInt 0 ≤ 0 from (by decide))), (pvnneg (b := 4) (zr_wide (show 4 ≤ Int32.toInt 4 ∧ Int32.toInt 4 ≤ 4 from (by decide)) (by decide) (by decide))), (show _ ≤ 4 from (by have u0 := (show 0 ≤ Int32.toInt 0 ∧ Int32.toInt 0 ≤ 0 from (by decide)); have u1 := (show 4 ≤ Int32.toInt 4 ∧ Int32.toInt 4 ≤ 4 from (by decide)); have u2 := ztn 0 (by omega); have u3 := ztn 4 (by omega); omega)), (show _ ≤ 4 from (by have u0 := (show 0 ≤ Int32.toInt 0 ∧ Int32.toInt 0 ≤ 0 from (by decide)); have u1 := (show 4 ≤ Int32.toInt 4 ∧ Int32.toInt 4 ≤ 4 from (by decide)); have u2 := ztn 0 (by omega); have u3 := ztn 4 (by omega); omega)), Nat.le_of_ble_eq_true rfl⟩, trivial⟩ (fun M18_ e19_ => ?_)
  have o20_ : pvOk M18_ := pvok_rr e19_ o16_ (fun _ => rfl) (pvcpy_r (fun k => pvok_r o16_ 69 k rfl) (fun k => pvok_r o16_ 83 k rfl))
  have f21_ : pvFr fp_eX4_becomeAs_76_62 M M18_ := pvfr_rr e19_ f17_ (fun _ => rfl)
  exact pw_ret hT rfl (r := none) (M' := M18_) ⟨rfl, rfl⟩ ⟨rfl, o20_, f21_, (((show M18_.1 76 0 = M14_.1 76 0 from by rw [e19_]; rfl).trans (pvu_n e15_ 76 0 (Or.inr (by decide)))).trans (d6_.1)), (((show M18_.1 76 1 = M14_.1 76 1 from by rw [e19_]; rfl).trans (pvu_n e15_ 76 1 (Or.inr (by decide)))).trans (d6_.2.1)), (((show M18_.1 76 2 = M14_.1 76 2 from by rw [e19_]; rfl).trans (pvu_n e15_ 76 2 (Or.inr (by decide)))).trans (d6_.2.2.1)), (((show M18_.1 76 3 = M14_.1 76 3 from by rw [e19_]; rfl).trans (pvu_n e15_ 76 3 (Or.inr (by decide)))).trans (d6_.2.2.2.1)), (((show M18_.1 76 4 = M14_.1 76 4 from by rw [e19_]; rfl).trans (pvu_n e15_ 76 4 (Or.inr (by decide)))).trans (d6_.2.2.2.2.1)), ((show M18_.1 83 0 = (M14_.1 69 0) from by rw [e19_]; rfl).trans ((pvu_n e15_ 69 0 (Or.inl (by decide))).trans (g11_ 69 0 rfl))), ((show M18_.1 83 1 = (M14_.1 69 1) from by rw [e19_]; rfl).trans ((pvu_n e15_ 69 1 (Or.inl (by decide))).trans (g11_ 69 1 rfl))), ((show M18_.1 83 2 = (M14_.1 69 2) from by rw [e19_]; rfl).trans ((pvu_n e15_ 69 2 (Or.inl (by decide))).trans (g11_ 69 2 rfl))), ((show M18_.1 83 3 = (M14_.1 69 3) from by rw [e19_]; rfl).trans ((pvu_n e15_ 69 3 (Or.inl (by decide))).trans (g11_ 69 3 rfl))), (((show M18_.1 76 5 = M14_.1 76 5 from by rw [e19_]; rfl).trans (pvu_s e15_)).trans (g11_ 62 5 rfl))⟩
def fpL_eX4_becomeNew_77_x_x_x_x_x : List (Nat × Nat × Nat) := [(0, 77, 1), (0, 77, 2), (0, 77, 3), (0, 77, 4), (0, 77, 5), (0, 77, 6), (0, 84, 0)]
def fp_eX4_becomeNew_77_x_x_x_x_x (q k : Nat) : Bool := pvfp fpL_eX4_becomeNew_77_x_x_x_x_x q k
set_option maxHeartbeats 4000000 in
set_option maxRecDepth 10000 in
theorem se_X4_becomeNew_77_x_x_x_x_x (M : pvM) (hok : pvOk M) (n1 : Int32) (n2 : Int32) (n3 : Int32) (n4 : Int32) (n5 : Int32) (hn1 : 0 ≤ Int32.toInt n1 ∧ Int32.toInt n1 ≤ 6) (hn2 : 0 ≤ Int32.toInt n2 ∧ Int32.toInt n2 ≤ 9) (hn3 : 0 ≤ Int32.toInt n3 ∧ Int32.toInt n3 ≤ 3) (hn4 : 0 ≤ Int32.toInt n4 ∧ Int32.toInt n4 ≤ 4) (hn5 : 0 ≤ Int32.toInt n5 ∧ Int32.toInt n5 ≤ 9) (d : Nat) : PW 134 d (0, [some (pvR 77), some (pvI n1), some (pvI n2), some (pvI n3), some (pvI n4), some (pvI n5), none], [], M) (fun r X => r = none ∧ pvOk X ∧ pvFr fp_eX4_becomeNew_77_x_x_x_x_x M X ∧ X.1 77 0 = n1 ∧ X.1 77 1 = n2 ∧ X.1 77 2 = n3 ∧ X.1 77 3 = n4 ∧ X.1 77 4 = n5 ∧ X.1 84 0 = 0 ∧ X.1 84 1 = 0 ∧ X.1 84 2 = 0 ∧ X.1 84 3 = 0 ∧ X.1 77 5 = 0) := by
  have hT : pvdom 134 = pvD_134 := rfl
  refine pw_blkw hT 3 (pc := 5) (lo := [some (pvR 77), some (pvI n1), some (pvI n2), some (pvI n3), some (pvI n4), some (pvI n5), none]) (st := []) (M := pvu M 77 0 n1) rfl ⟨trivial, trivial, rfl, trivial⟩ (fun M1_ e2_ => ?_)
  have o3_ : pvOk M1_ := pvok_u2 e2_ hok rfl hn1
  have f4_ : pvFr fp_eX4_becomeNew_77_x_x_x_x_x M M1_ := pvfr_u e2_ pvfr_0 rfl
  refine pw_blkw hT 3 (pc := 10) (lo := [some (pvR 77), some (pvI n1), some (pvI n2), some (pvI n3), some (pvI n4), some (pvI n5), none]) (st := []) (M := pvu M1_ 77 1 n2) rfl ⟨trivial, trivial, rfl, trivial⟩ (fun M5_ e6_ => ?_)
  have o7_ : pvOk M5_ := pvok_u2 e6_ o3_ rfl hn2
  have f8_ : pvFr fp_eX4_becomeNew_77_x_x_x_x_x M M5_ := pvfr_u e6_ f4_ rfl
  refine pw_blkw hT 3 (pc := 15) (lo := [some (pvR 77), some (pvI n1), some (pvI n2), some (pvI n3), some (pvI n4), some (pvI n5), none]) (st := []) (M := pvu M5_ 77 2 n3) rfl ⟨trivial, trivial, rfl, trivial⟩ (fun M9_ e10_ => ?_)
  have o11_ : pvOk M9_ := pvok_u2 e10_ o7_ rfl hn3
  have f12_ : pvFr fp_eX4_becomeNew_77_x_x_x_x_x M M9_ := pvfr_u e10_ f8_ rfl
  refine pw_blkw hT 3 (pc := 21) (lo := [some (pvR 77), some (pvI n1), some (pvI n2), some (pvI n3), some (pvI n4), some (pvI n5), none]) (st := []) (M := pvu M9_ 77 3 n4) rfl ⟨trivial, trivial, rfl, trivial⟩ (fun M13_ e14_ => ?_)
  have o15_ : pvOk M13_ := pvok_u2 e14_ o11_ rfl hn4
  have f16_ : pvFr fp_eX4_becomeNew_77_x_x_x_x_x M M13_ := pvfr_u e14_ f12_ rfl
  refine pw_blkw hT 3 (pc := 27) (lo := [some (pvR 77), some (pvI n1), some (pvI n2), some (pvI n3), some (pvI n4), some (pvI n5), none]) (st := []) (M := pvu M13_ 77 4 n5) rfl ⟨trivial, trivial, rfl, trivial⟩ (fun M17_ e18_ => ?_)
  have o19_ : pvOk M17_ := pvok_u2 e18_ o15_ rfl hn5
  have f20_ : pvFr fp_eX4_becomeNew_77_x_x_x_x_x M M17_ := pvfr_u e18_ f16_ rfl
  refine pw_blkw hT 3 (pc := 32) (lo := [some (pvR 77), some (pvI n1), some (pvI n2), some (pvI n3), some (pvI n4), some (pvI n5), none]) (st := []) (M := pvu M17_ 77 5 0) rfl ⟨trivial, trivial, ⟨rfl, Or.inl rfl⟩, trivial⟩ (fun M21_ e22_ => ?_)
  have o23_ : pvOk M21_ := pvok_u2 e22_ o19_ rfl (zr_wide (show 0 ≤ Int32.toInt 0 ∧ Int32.toInt 0 ≤ 0 from (by decide)) (by decide) (by decide))
  have f24_ : pvFr fp_eX4_becomeNew_77_x_x_x_x_x M M21_ := pvfr_u e22_ f20_ rfl
  refine pw_blk hT 2 (S' := (35, [some (pvR 77), some (pvI n1), some (pvI n2), some (pvI n3), some (pvI n4), some (pvI n5), some (pvI 0)], [], M21_)) rfl ⟨trivial, trivial, trivial⟩ ?_
  refine pw_blk hT 2 (S' := (38, [some (pvR 77), some (pvI n1), some (pvI n2), some (pvI n3), some (pvI n4), some (pvI n5), some (pvI 0)], [pvI 4, pvI 0], M21_)) rfl ⟨trivial, trivial, trivial⟩ ?_
  refine pw_ic hT (c := 4 ≤ 0) rfl rfl (fun c25_ => absurd c25_ (by decide)) (fun c25_ => ?_)
  refine pw_blkw hT 5 (pc := 49) (lo := [some (pvR 77), some (pvI n1), some (pvI n2), some (pvI n3), some (pvI n4), some (pvI n5), some (pvI 0)]) (st := []) (M := pvu M21_ 84 0 0) rfl ⟨trivial, rfl, trivial, trivial, ⟨rfl, (zr_in (n := 4) (show 0 ≤ Int32.toInt 0 ∧ Int32.toInt 0 ≤ 0 from (by decide)) (by decide) (by decide))⟩, trivial⟩ (fun M26_ e27_ => ?_)
  have o28_ : pvOk M26_ := pvok_u2 e27_ o23_ rfl (zr_wide (show 0 ≤ Int32.toInt 0 ∧ Int32.toInt 0 ≤ 0 from (by decide)) (by decide) (by decide))
  have f29_ : pvFr fp_eX4_becomeNew_77_x_x_x_x_x M M26_ := pvfr_u e27_ f24_ rfl
  refine pw_blk hT 2 (S' := (35, [some (pvR 77), some (pvI n1), some (pvI n2), some (pvI n3), some (pvI n4), some (pvI n5), some (pvI (0 + 1))], [], M26_)) rfl ⟨trivial, trivial, trivial⟩ ?_
  refine pw_blk hT 2 (S' := (38, [some (pvR 77), some (pvI n1), some (pvI n2), some (pvI n3), some (pvI n4), some (pvI n5), some (pvI (0 + 1))], [pvI 4, pvI (0 + 1)], M26_)) rfl ⟨trivial, trivial, trivial⟩ ?_
  refine pw_ic hT (c := 4 ≤ (0 + 1)) rfl rfl (fun c30_ => absurd c30_ (by decide)) (fun c30_ => ?_)
  refine pw_blkw hT 5 (pc := 49) (lo := [some (pvR 77), some (pvI n1), some (pvI n2), some (pvI n3), some (pvI n4), some (pvI n5), some (pvI (0 + 1))]) (st := []) (M := pvu M26_ 84 1 0) rfl ⟨trivial, rfl, trivial, trivial, ⟨rfl, (zr_in (n := 4) (show 1 ≤ Int32.toInt (0 + 1) ∧ Int32.toInt (0 + 1) ≤ 1 from (by decide)) (by decide) (by decide))⟩, trivial⟩ (fun M31_ e32_ => ?_)
  have o33_ : pvOk M31_ := pvok_u2 e32_ o28_ rfl (zr_wide (show 0 ≤ Int32.toInt 0 ∧ Int32.toInt 0 ≤ 0 from (by decide)) (by decide) (by decide))
  have f34_ : pvFr fp_eX4_becomeNew_77_x_x_x_x_x M M31_ := pvfr_u e32_ f29_ rfl
  refine pw_blk hT 2 (S' := (35, [some (pvR 77), some (pvI n1), some (pvI n2), some (pvI n3), some (pvI n4), some (pvI n5), some (pvI ((0 + 1) + 1))], [], M31_)) rfl ⟨trivial, trivial, trivial⟩ ?_
  refine pw_blk hT 2 (S' := (38, [some (pvR 77), some (pvI n1), some (pvI n2), some (pvI n3), some (pvI n4), some (pvI n5), some (pvI ((0 + 1) + 1))], [pvI 4, pvI ((0 + 1) + 1)], M31_)) rfl ⟨trivial, trivial, trivial⟩ ?_
  refine pw_ic hT (c := 4 ≤ ((0 + 1) + 1)) rfl rfl (fun c35_ => absurd c35_ (by decide)) (fun c35_ => ?_)
  refine pw_blkw hT 5 (pc := 49) (lo := [some (pvR 77), some (pvI n1), some (pvI n2), some (pvI n3), some (pvI n4), some (pvI n5), some (pvI ((0 + 1) + 1))]) (st := []) (M := pvu M31_ 84 2 0) rfl ⟨trivial, rfl, trivial, trivial, ⟨rfl, (zr_in (n := 4) (show 2 ≤ Int32.toInt ((0 + 1) + 1) ∧ Int32.toInt ((0 + 1) + 1) ≤ 2 from (by decide)) (by decide) (by decide))⟩, trivial⟩ (fun M36_ e37_ => ?_)
  have o38_ : pvOk M36_ := pvok_u2 e37_ o33_ rfl (zr_wide (show 0 ≤ Int32.toInt 0 ∧ Int32.toInt 0 ≤ 0 from (by decide)) (by decide) (by decide))
  have f39_ : pvFr fp_eX4_becomeNew_77_x_x_x_x_x M M36_ := pvfr_u e37_ f34_ rfl
  refine pw_blk hT 2 (S' := (35, [some (pvR 77), some (pvI n1), some (pvI n2), some (pvI n3), some (pvI n4), some (pvI n5), some (pvI (((0 + 1) + 1) + 1))], [], M36_)) rfl ⟨trivial, trivial, trivial⟩ ?_
  refine pw_blk hT 2 (S' := (38, [some (pvR 77), some (pvI n1), some (pvI n2), some (pvI n3), some (pvI n4), some (pvI n5), some (pvI (((0 + 1) + 1) + 1))], [pvI 4, pvI (((0 + 1) + 1) + 1)], M36_)) rfl ⟨trivial, trivial, trivial⟩ ?_
  refine pw_ic hT (c := 4 ≤ (((0 + 1) + 1) + 1)) rfl rfl (fun c40_ => absurd c40_ (by decide)) (fun c40_ => ?_)
  refine pw_blkw hT 5 (pc := 49) (lo := [some (pvR 77), some (pvI n1), some (pvI n2), some (pvI n3), some (pvI n4), some (pvI n5), some (pvI (((0 + 1) + 1) + 1))]) (st := []) (M := pvu M36_ 84 3 0) rfl ⟨trivial, rfl, trivial, trivial, ⟨rfl, (zr_in (n := 4) (show 3 ≤ Int32.toInt (((0 + 1) + 1) + 1) ∧ Int32.toInt (((0 + 1) + 1) + 1) ≤ 3 from (by decide)) (by decide) (by decide))⟩, trivial⟩ (fun M41_ e42_ => ?_)
  have o43_ : pvOk M41_ := pvok_u2 e42_ o38_ rfl (zr_wide (show 0 ≤ Int32.toInt 0 ∧ Int32.toInt 0 ≤ 0 from (by decide)) (by decide) (by decide))
  have f44_ : pvFr fp_eX4_becomeNew_77_x_x_x_x_x M M41_ := pvfr_u e42_ f39_ rfl
  refine pw_blk hT 2 (S' := (35, [some (pvR 77), some (pvI n1), some (pvI n2), some (pvI n3), some (pvI n4), some (pvI n5), some (pvI ((((0 + 1) + 1) + 1) + 1))], [], M41_)) rfl ⟨trivial, trivial, trivial⟩ ?_
  refine pw_blk hT 2 (S' := (38, [some (pvR 77), some (pvI n1), some (pvI n2), some (pvI n3), some (pvI n4), some (pvI n5), some (pvI ((((0 + 1) + 1) + 1) + 1))], [pvI 4, pvI ((((0 + 1) + 1) + 1) + 1)], M41_)) rfl ⟨trivial, trivial, trivial⟩ ?_
  refine pw_ic hT (c := 4 ≤ ((((0 + 1) + 1) + 1) + 1)) rfl rfl (fun c45_ => ?_) (fun c45_ => absurd (by decide) c45_)
  exact pw_ret hT rfl (r := none) (M' := M41_) ⟨rfl, rfl⟩ ⟨rfl, o43_, f44_, ((((((((((pvu_n e42_ 77 0 (Or.inl (by decide))).trans (pvu_n e37_ 77 0 (Or.inl (by decide)))).trans (pvu_n e32_ 77 0 (Or.inl (by decide)))).trans (pvu_n e27_ 77 0 (Or.inl (by decide)))).trans (pvu_n e22_ 77 0 (Or.inr (by decide)))).trans (pvu_n e18_ 77 0 (Or.inr (by decide)))).trans (pvu_n e14_ 77 0 (Or.inr (by decide)))).trans (pvu_n e10_ 77 0 (Or.inr (by decide)))).trans (pvu_n e6_ 77 0 (Or.inr (by decide)))).trans (pvu_s e2_)), (((((((((pvu_n e42_ 77 1 (Or.inl (by decide))).trans (pvu_n e37_ 77 1 (Or.inl (by decide)))).trans (pvu_n e32_ 77 1 (Or.inl (by decide)))).trans (pvu_n e27_ 77 1 (Or.inl (by decide)))).trans (pvu_n e22_ 77 1 (Or.inr (by decide)))).trans (pvu_n e18_ 77 1 (Or.inr (by decide)))).trans (pvu_n e14_ 77 1 (Or.inr (by decide)))).trans (pvu_n e10_ 77 1 (Or.inr (by decide)))).trans (pvu_s e6_)), ((((((((pvu_n e42_ 77 2 (Or.inl (by decide))).trans (pvu_n e37_ 77 2 (Or.inl (by decide)))).trans (pvu_n e32_ 77 2 (Or.inl (by decide)))).trans (pvu_n e27_ 77 2 (Or.inl (by decide)))).trans (pvu_n e22_ 77 2 (Or.inr (by decide)))).trans (pvu_n e18_ 77 2 (Or.inr (by decide)))).trans (pvu_n e14_ 77 2 (Or.inr (by decide)))).trans (pvu_s e10_)), (((((((pvu_n e42_ 77 3 (Or.inl (by decide))).trans (pvu_n e37_ 77 3 (Or.inl (by decide)))).trans (pvu_n e32_ 77 3 (Or.inl (by decide)))).trans (pvu_n e27_ 77 3 (Or.inl (by decide)))).trans (pvu_n e22_ 77 3 (Or.inr (by decide)))).trans (pvu_n e18_ 77 3 (Or.inr (by decide)))).trans (pvu_s e14_)), ((((((pvu_n e42_ 77 4 (Or.inl (by decide))).trans (pvu_n e37_ 77 4 (Or.inl (by decide)))).trans (pvu_n e32_ 77 4 (Or.inl (by decide)))).trans (pvu_n e27_ 77 4 (Or.inl (by decide)))).trans (pvu_n e22_ 77 4 (Or.inr (by decide)))).trans (pvu_s e18_)), ((((pvu_n e42_ 84 0 (Or.inr (by decide))).trans (pvu_n e37_ 84 0 (Or.inr (by decide)))).trans (pvu_n e32_ 84 0 (Or.inr (by decide)))).trans (pvu_s e27_)), (((pvu_n e42_ 84 1 (Or.inr (by decide))).trans (pvu_n e37_ 84 1 (Or.inr (by decide)))).trans (pvu_s e32_)), ((pvu_n e42_ 84 2 (Or.inr (by decide))).trans (pvu_s e37_)), (pvu_s e42_), (((((pvu_n e42_ 77 5 (Or.inl (by decide))).trans (pvu_n e37_ 77 5 (Or.inl (by decide)))).trans (pvu_n e32_ 77 5 (Or.inl (by decide)))).trans (pvu_n e27_ 77 5 (Or.inl (by decide)))).trans (pvu_s e22_))⟩
