def fpL_eX6_clear_103 : List (Nat × Nat × Nat) := [(0, 103, 1)]
def fp_eX6_clear_103 (q k : Nat) : Bool := pvfp fpL_eX6_clear_103 q k
set_option maxHeartbeats 4000000 in
set_option maxRecDepth 10000 in
theorem se_X6_clear_103 (M : pvM) (hok : pvOk M) (d : Nat) : PW 153 d (0, [some (pvR 103)], [], M) (fun r X => (∃ x : Int32, r = some (pvI x) ∧ (0 ≤ Int32.toInt x ∧ Int32.toInt x ≤ 0) ∧ x = 0) ∧ pvOk X ∧ pvFr fp_eX6_clear_103 M X ∧ X.1 103 0 = 0) := by
  have hT : pvdom 153 = pvD_153 := rfl
  refine pw_blkw hT 3 (pc := 5) (lo := [some (pvR 103)]) (st := []) (M := pvu M 103 0 0) rfl ⟨trivial, trivial, rfl, trivial⟩ (fun M1_ e2_ => ?_)
  have o3_ : pvOk M1_ := pvok_u2 e2_ hok rfl (zr_wide (show 0 ≤ Int32.toInt 0 ∧ Int32.toInt 0 ≤ 0 from (by decide)) (by decide) (by decide))
  have f4_ : pvFr fp_eX6_clear_103 M M1_ := pvfr_u e2_ pvfr_0 rfl
  refine pw_blk hT 1 (S' := (6, [some (pvR 103)], [pvI 0], M1_)) rfl ⟨trivial, trivial⟩ ?_
  exact pw_ret hT rfl (r := some (pvI 0)) (M' := M1_) ⟨rfl, rfl⟩ ⟨⟨_, rfl, (show 0 ≤ Int32.toInt 0 ∧ Int32.toInt 0 ≤ 0 from (by decide)), rfl⟩, o3_, f4_, (pvu_s e2_)⟩
def fpL_eX6_append_103_x_x : List (Nat × Nat × Nat) := [(0, 103, 1), (0, 111, 0), (0, 119, 0)]
def fp_eX6_append_103_x_x (q k : Nat) : Bool := pvfp fpL_eX6_append_103_x_x q k
set_option maxHeartbeats 4000000 in
set_option maxRecDepth 10000 in
theorem se_X6_append_103_x_x (M : pvM) (hok : pvOk M) (n1 : Int32) (n2 : Int32) (hn1 : 0 ≤ Int32.toInt n1 ∧ Int32.toInt n1 ≤ 6) (hn2 : 0 ≤ Int32.toInt n2 ∧ Int32.toInt n2 ≤ 9999) (d : Nat) : PW 151 d (0, [some (pvR 103), some (pvI n1), some (pvI n2)], [], M) (fun r X => (∃ x : Int32, r = some (pvI x) ∧ (1 ≤ Int32.toInt x ∧ Int32.toInt x ≤ 6) ∧ x = (if (M.1 103 0) < (Int32.ofNat 6) then ((M.1 103 0) + 1) else (M.1 103 0))) ∧ pvOk X ∧ pvFr fp_eX6_append_103_x_x M X ∧ X.1 103 0 = (if (M.1 103 0) < (Int32.ofNat 6) then ((M.1 103 0) + 1) else (M.1 103 0))) := by
  have hT : pvdom 151 = pvD_151 := rfl
  refine pw_blk hT 1 (S' := (1, [some (pvR 103), some (pvI n1), some (pvI n2)], [pvR 103], M)) rfl ⟨trivial, trivial⟩ ?_
  refine pw_callT hT (as := [pvR 103]) (lo1 := [some (pvR 103)]) (d1 := d) (rest := []) rfl rfl rfl rfl rfl (fun _ => rfl) (Nat.zero_le _) rfl rfl rfl (sf_X6_isFull_103 M hok d) ?_
  have b6_ : 0 ≤ Int32.toInt (M.1 103 0) ∧ Int32.toInt (M.1 103 0) ≤ 6 := pvok_r hok 103 0 rfl
  by_cases c7_ : (M.1 103 0) < (Int32.ofNat 6)
  · refine pw_eqI (if_pos c7_) ?_
    have b8_ : 0 ≤ Int32.toInt (M.1 103 0) ∧ Int32.toInt (M.1 103 0) ≤ 5 := zr_lt_l 5 c7_ b6_ (show 6 ≤ Int32.toInt (Int32.ofNat 6) ∧ Int32.toInt (Int32.ofNat 6) ≤ 6 from (by decide)) (by decide)
    show PW 151 d (4, [some (pvR 103), some (pvI n1), some (pvI n2)], [pvI 0], M) _
    refine pw_if hT (c := 0 = 0) rfl rfl (fun c9_ => ?_) (fun c9_ => absurd (by decide) c9_)
    refine pw_blkw hT 6 (pc := 22) (lo := [some (pvR 103), some (pvI n1), some (pvI n2)]) (st := []) (M := pvu M 111 (Int32.toNatClampNeg (M.1 103 0)) n1) rfl ⟨trivial, rfl, trivial, rfl, trivial, ⟨rfl, (zr_in (n := 6) b8_ (by decide) (by decide))⟩, trivial⟩ (fun M10_ e11_ => ?_)
    have o12_ : pvOk M10_ := pvok_u2 e11_ hok rfl hn1
    have f13_ : pvFr fp_eX6_append_103_x_x M M10_ := pvfr_u e11_ pvfr_0 rfl
    have e14_ : (M10_.1 103 0) = (M.1 103 0) := (pvu_n e11_ 103 0 (Or.inl (by decide)))
    have b15_ : 0 ≤ Int32.toInt (M10_.1 103 0) ∧ Int32.toInt (M10_.1 103 0) ≤ 5 := (by rw [e14_]; exact b8_)
    refine pw_blkw hT 6 (pc := 32) (lo := [some (pvR 103), some (pvI n1), some (pvI n2)]) (st := []) (M := pvu M10_ 119 (Int32.toNatClampNeg (M10_.1 103 0)) n2) rfl ⟨trivial, rfl, trivial, rfl, trivial, ⟨rfl, (zr_in (n := 6) b15_ (by decide) (by decide))⟩, trivial⟩ (fun M16_ e17_ => ?_)
    have o18_ : pvOk M16_ := pvok_u2 e17_ o12_ rfl hn2
    have f19_ : pvFr fp_eX6_append_103_x_x M M16_ := pvfr_u e17_ f13_ rfl
    have e20_ : (M16_.1 103 0) = (M10_.1 103 0) := (pvu_n e17_ 103 0 (Or.inl (by decide)))
    have b21_ : 0 ≤ Int32.toInt (M16_.1 103 0) ∧ Int32.toInt (M16_.1 103 0) ≤ 5 := (by rw [e20_]; exact b15_)
    obtain ⟨q23_, b22_⟩ : (Int32.toInt ((M16_.1 103 0) + 1) = Int32.toInt (M16_.1 103 0) + 1) ∧ (1 ≤ Int32.toInt ((M16_.1 103 0) + 1) ∧ Int32.toInt ((M16_.1 103 0) + 1) ≤ 6) := zadd_k (M16_.1 103 0) 1 1 1 6 b21_ (by decide) (by decide) (by decide) (by decide) (by decide)
    refine pw_blkw hT 6 (pc := 42) (lo := [some (pvR 103), some (pvI n1), some (pvI n2)]) (st := []) (M := pvu M16_ 103 0 ((M16_.1 103 0) + 1)) rfl ⟨trivial, trivial, rfl, trivial, trivial, rfl, trivial⟩ (fun M24_ e25_ => ?_)
    have o26_ : pvOk M24_ := pvok_u2 e25_ o18_ rfl (zr_wide b22_ (by decide) (by decide))
    have f27_ : pvFr fp_eX6_append_103_x_x M M24_ := pvfr_u e25_ f19_ rfl
    have e28_ : (M24_.1 103 0) = ((M16_.1 103 0) + 1) := (pvu_s e25_)
    have b29_ : 1 ≤ Int32.toInt (M24_.1 103 0) ∧ Int32.toInt (M24_.1 103 0) ≤ 6 := (by rw [e28_]; exact b22_)
    refine pw_blk hT 2 (S' := (46, [some (pvR 103), some (pvI n1), some (pvI n2)], [pvI (M24_.1 103 0)], M24_)) rfl ⟨trivial, rfl, trivial⟩ ?_
    exact pw_ret hT rfl (r := some (pvI (M24_.1 103 0))) (M' := M24_) ⟨rfl, rfl⟩ ⟨⟨_, rfl, b29_, (by rw [if_pos c7_]; first | done | exact (show (M24_.1 103 0) = ((M.1 103 0) + 1) from by rw [((pvu_s e25_).trans (show ((M16_.1 103 0) + 1) = ((M.1 103 0) + 1) from by rw [((pvu_n e17_ 103 0 (Or.inl (by decide))).trans (pvu_n e11_ 103 0 (Or.inl (by decide))))]))]) | (rw [if_pos c7_]; exact (show (M24_.1 103 0) = ((M.1 103 0) + 1) from by rw [((pvu_s e25_).trans (show ((M16_.1 103 0) + 1) = ((M.1 103 0) + 1) from by rw [((pvu_n e17_ 103 0 (Or.inl (by decide))).trans (pvu_n e11_ 103 0 (Or.inl (by decide))))]))])))⟩, o26_, f27_, (by rw [if_pos c7_]; first | done | exact ((pvu_s e25_).trans (show ((M16_.1 103 0) + 1) = ((M.1 103 0) + 1) from by rw [((pvu_n e17_ 103 0 (Or.inl (by decide))).trans (pvu_n e11_ 103 0 (Or.inl (by decide))))])) | (rw [if_pos c7_]; done) | (rw [if_pos c7_]; exact ((pvu_s e25_).trans (show ((M16_.1 103 0) + 1) = ((M.1 103 0) + 1) from by rw [((pvu_n e17_ 103 0 (Or.inl (by decide))).trans (pvu_n e11_ 103 0 (Or.inl (by decide))))]))))⟩
  · refine pw_eqI (if_neg c7_) ?_
    have b30_ : 6 ≤ Int32.toInt (M.1 103 0) ∧ Int32.toInt (M.1 103 0) ≤ 6 := zr_nlt_l 6 c7_ b6_ (show 6 ≤ Int32.toInt (Int32.ofNat 6) ∧ Int32.toInt (Int32.ofNat 6) ≤ 6 from (by decide)) (by decide)
    show PW 151 d (4, [some (pvR 103), some (pvI n1), some (pvI n2)], [pvI 1], M) _
    refine pw_if hT (c := 1 = 0) rfl rfl (fun c31_ => absurd c31_ (by decide)) (fun c31_ => ?_)
    refine pw_blk hT 2 (S' := (11, [some (pvR 103), some (pvI n1), some (pvI n2)], [pvI (M.1 103 0)], M)) rfl ⟨trivial, rfl, trivial⟩ ?_
    exact pw_ret hT rfl (r := some (pvI (M.1 103 0))) (M' := M) ⟨rfl, rfl⟩ ⟨⟨_, rfl, (zr_wide b30_ (by decide) (by decide)), (by rw [if_neg c7_]; first | done | (rw [if_neg c7_]; done))⟩, hok, pvfr_0, (by rw [if_neg c7_]; first | done | exact rfl | (rw [if_neg c7_]; done) | (rw [if_neg c7_]; exact rfl))⟩
def fpL_eX6_becomeAs_103_102 : List (Nat × Nat × Nat) := [(0, 103, 1), (0, 111, 0), (0, 119, 0)]
def fp_eX6_becomeAs_103_102 (q k : Nat) : Bool := pvfp fpL_eX6_becomeAs_103_102 q k
theorem fp_eX6_becomeAs_103_102_fp_eX6_append_103_x_x (a b : Nat) (h : fp_eX6_append_103_x_x a b = true) : fp_eX6_becomeAs_103_102 a b = true := pvfp_sub (l1 := fpL_eX6_append_103_x_x) (l2 := fpL_eX6_becomeAs_103_102) (by decide) a b h
theorem fp_eX6_becomeAs_103_102_fp_eX6_clear_103 (a b : Nat) (h : fp_eX6_clear_103 a b = true) : fp_eX6_becomeAs_103_102 a b = true := pvfp_sub (l1 := fpL_eX6_clear_103) (l2 := fpL_eX6_becomeAs_103_102) (by decide) a b h
set_option maxHeartbeats 4000000 in
set_option maxRecDepth 10000 in
theorem se_X6_becomeAs_103_102 (M : pvM) (hok : pvOk M) (d : Nat) : PW 152 d (0, [some (pvR 103), some (pvR 102), none], [], M) (fun r X => r = none ∧ pvOk X ∧ pvFr fp_eX6_becomeAs_103_102 M X ∧ X.1 103 0 = (M.1 102 0)) := by
  have hT : pvdom 152 = pvD_152 := rfl
  refine pw_blk hT 1 (S' := (1, [some (pvR 103), some (pvR 102), none], [pvR 103], M)) rfl ⟨trivial, trivial⟩ ?_
  refine pw_callGd hT (as := [pvR 103]) (lo1 := [some (pvR 103)]) (d1 := d) (rest := []) rfl rfl rfl rfl rfl (fun _ => rfl) (Nat.zero_le _) rfl rfl rfl (se_X6_clear_103 M hok d) (fun x2_ M3_ b4_ o5_ g6_ d1_ => ?_)
  have f7_ : pvFr fp_eX6_becomeAs_103_102 M M3_ := pvfr_t g6_ pvfr_0 fp_eX6_becomeAs_103_102_fp_eX6_clear_103
  obtain ⟨b8_, d9_⟩ := b4_
  subst d9_
  refine pw_blk hT 3 (S' := (7, [some (pvR 103), some (pvR 102), some (pvI 0)], [], M3_)) rfl ⟨trivial, trivial, trivial, trivial⟩ ?_
  have hlz90_ : ∀ (nz90_ : Nat) (i2z90_ : Int32) (Mz90_ : pvM), (pvOk Mz90_) → (pvFr fp_eX6_becomeAs_103_102 M Mz90_) → (0 ≤ Int32.toInt i2z90_ ∧ Int32.toInt i2z90_ ≤ 6) → (Mz90_.1 103 0 = i2z90_) → (Int32.toInt i2z90_ ≤ Int32.toInt (M.1 102 0)) → (zhide ((7 - Int32.toInt i2z90_).toNat < nz90_)) → PW 152 d (7, [some (pvR 103), some (pvR 102), some (pvI i2z90_)], [], Mz90_) (fun r X => r = none ∧ pvOk X ∧ pvFr fp_eX6_becomeAs_103_102 M X ∧ X.1 103 0 = (M.1 102 0)) := by
    intro nz90_
    induction nz90_ with
    | zero => intro i2z90_ Mz90_ oz90_ fz90_ h2z90_ j0z90_ j1z90_ hmz90_; exact absurd (zshow hmz90_) (Nat.not_lt_zero _)
    | succ nz90_ ihz90_ =>
      intro i2z90_ Mz90_ oz90_ fz90_ h2z90_ j0z90_ j1z90_ hmz90_
      have b91_ : 0 ≤ Int32.toInt (Mz90_.1 102 0) ∧ Int32.toInt (Mz90_.1 102 0) ≤ 6 := pvok_r oz90_ 102 0 rfl
      refine pw_blk hT 3 (S' := (12, [some (pvR 103), some (pvR 102), some (pvI i2z90_)], [pvI (Mz90_.1 102 0), pvI i2z90_], Mz90_)) rfl ⟨trivial, trivial, rfl, trivial⟩ ?_
      refine pw_ic hT (c := (Mz90_.1 102 0) ≤ i2z90_) rfl rfl (fun c92_ => ?_) (fun c92_ => ?_)
      · have d93_ : Int32.toInt (Mz90_.1 102 0) ≤ Int32.toInt i2z90_ := (zi_le _ _).mp c92_
        exact pw_ret hT rfl (r := none) (M' := Mz90_) ⟨rfl, rfl⟩ ⟨rfl, oz90_, fz90_, (Int32.toInt_inj.mp (by have z3 : Mz90_.1 102 0 = M.1 102 0 := fz90_ 102 0 rfl; have z4 := congrArg Int32.toInt z3; have z5 := congrArg Int32.toInt j0z90_; omega))⟩
      · have b94_ : 1 ≤ Int32.toInt (Mz90_.1 102 0) ∧ Int32.toInt (Mz90_.1 102 0) ≤ 6 := zr_nle_l 1 c92_ b91_ h2z90_ (by decide)
        have b95_ : 0 ≤ Int32.toInt i2z90_ ∧ Int32.toInt i2z90_ ≤ 5 := zr_nle_r 5 c92_ h2z90_ b94_ (by decide)
        have d96_ : Int32.toInt (Mz90_.1 102 0) > Int32.toInt i2z90_ := Int.not_le.mp ((not_congr (zi_le _ _)).mp c92_)
        have b97_ : 0 ≤ Int32.toInt (Mz90_.1 110 (Int32.toNatClampNeg i2z90_)) ∧ Int32.toInt (Mz90_.1 110 (Int32.toNatClampNeg i2z90_)) ≤ 6 := pvok_r oz90_ 110 (Int32.toNatClampNeg i2z90_) rfl
        have b98_ : 0 ≤ Int32.toInt (Mz90_.1 118 (Int32.toNatClampNeg i2z90_)) ∧ Int32.toInt (Mz90_.1 118 (Int32.toNatClampNeg i2z90_)) ≤ 9999 := pvok_r oz90_ 118 (Int32.toNatClampNeg i2z90_) rfl
        refine pw_blk hT 9 (S' := (28, [some (pvR 103), some (pvR 102), some (pvI i2z90_)], [pvI (Mz90_.1 118 (Int32.toNatClampNeg i2z90_)), pvI (Mz90_.1 110 (Int32.toNatClampNeg i2z90_)), pvR 103], Mz90_)) rfl ⟨trivial, trivial, rfl, trivial, ⟨rfl, (zr_in (n := 6) b95_ (by decide) (by decide))⟩, trivial, rfl, trivial, ⟨rfl, (zr_in (n := 6) b95_ (by decide) (by decide))⟩, trivial⟩ ?_
        refine pw_callGd hT (as := [pvR 103, pvI (Mz90_.1 110 (Int32.toNatClampNeg i2z90_)), pvI (Mz90_.1 118 (Int32.toNatClampNeg i2z90_))]) (lo1 := [some (pvR 103), some (pvI (Mz90_.1 110 (Int32.toNatClampNeg i2z90_))), some (pvI (Mz90_.1 118 (Int32.toNatClampNeg i2z90_)))]) (d1 := d) (rest := []) rfl rfl rfl rfl rfl (fun _ => rfl) (Nat.zero_le _) rfl rfl rfl (se_X6_append_103_x_x Mz90_ oz90_ (Mz90_.1 110 (Int32.toNatClampNeg i2z90_)) (Mz90_.1 118 (Int32.toNatClampNeg i2z90_)) b97_ b98_ d) (fun x100_ M101_ b102_ o103_ g104_ d99_ => ?_)
        have f105_ : pvFr fp_eX6_becomeAs_103_102 M M101_ := pvfr_t g104_ fz90_ fp_eX6_becomeAs_103_102_fp_eX6_append_103_x_x
        obtain ⟨b106_, d107_⟩ := b102_
        subst d107_
        obtain ⟨q109_, b108_⟩ : (Int32.toInt (i2z90_ + 1) = Int32.toInt i2z90_ + 1) ∧ (1 ≤ Int32.toInt (i2z90_ + 1) ∧ Int32.toInt (i2z90_ + 1) ≤ 6) := zadd_k i2z90_ 1 1 1 6 b95_ (by decide) (by decide) (by decide) (by decide) (by decide)
        refine pw_blk hT 3 (S' := (7, [some (pvR 103), some (pvR 102), some (pvI (i2z90_ + 1))], [], M101_)) rfl ⟨trivial, trivial, trivial, trivial⟩ ?_
        have j110_ : M101_.1 103 0 = (i2z90_ + 1) := (by have z1 : Int32.toInt (Int32.ofNat 6) = 6 := (by decide); have z2 := pvok_r oz90_ 102 0 rfl; have z3 : Mz90_.1 102 0 = M.1 102 0 := fz90_ 102 0 rfl; have z4 := congrArg Int32.toInt z3; rw [d99_, j0z90_, if_pos ((zi_lt _ _).mpr (by omega))])
        have j111_ : Int32.toInt (i2z90_ + 1) ≤ Int32.toInt (M.1 102 0) := (by have z3 : Mz90_.1 102 0 = M.1 102 0 := fz90_ 102 0 rfl; have z4 := congrArg Int32.toInt z3; omega)
        exact ihz90_ (i2z90_ + 1) M101_ o103_ f105_ (zr_wide b108_ (by decide) (by decide)) j110_ j111_ (zhid (pvms_up (zshow hmz90_) h2z90_ q109_ (by decide) (by decide)))
  have u112_ : Int32.toInt 0 = 0 := by decide
  have j113_ : M3_.1 103 0 = 0 := d1_
  have j114_ : Int32.toInt 0 ≤ Int32.toInt (M.1 102 0) := (by have z := pvok_r hok 102 0 rfl; have u : Int32.toInt 0 = 0 := (by decide); omega)
  exact hlz90_ _ 0 M3_ o5_ f7_ (zr_wide (show 0 ≤ Int32.toInt 0 ∧ Int32.toInt 0 ≤ 0 from (by decide)) (by decide) (by decide)) j113_ j114_ (zhid (Nat.lt_succ_self _))
def fpL_eX6_clear_105 : List (Nat × Nat × Nat) := [(0, 105, 1)]
def fp_eX6_clear_105 (q k : Nat) : Bool := pvfp fpL_eX6_clear_105 q k
set_option maxHeartbeats 4000000 in
set_option maxRecDepth 10000 in
theorem se_X6_clear_105 (M : pvM) (hok : pvOk M) (d : Nat) : PW 153 d (0, [some (pvR 105)], [], M) (fun r X => (∃ x : Int32, r = some (pvI x) ∧ (0 ≤ Int32.toInt x ∧ Int32.toInt x ≤ 0) ∧ x = 0) ∧ pvOk X ∧ pvFr fp_eX6_clear_105 M X ∧ X.1 105 0 = 0) := by
  have hT : pvdom 153 = pvD_153 := rfl
  refine pw_blkw hT 3 (pc := 5) (lo := [some (pvR 105)]) (st := []) (M := pvu M 105 0 0) rfl ⟨trivial, trivial, rfl, trivial⟩ (fun M1_ e2_ => ?_)
  have o3_ : pvOk M1_ := pvok_u2 e2_ hok rfl (zr_wide (show 0 ≤ Int32.toInt 0 ∧ Int32.toInt 0 ≤ 0 from (by decide)) (by decide) (by decide))
  have f4_ : pvFr fp_eX6_clear_105 M M1_ := pvfr_u e2_ pvfr_0 rfl
  refine pw_blk hT 1 (S' := (6, [some (pvR 105)], [pvI 0], M1_)) rfl ⟨trivial, trivial⟩ ?_
  exact pw_ret hT rfl (r := some (pvI 0)) (M' := M1_) ⟨rfl, rfl⟩ ⟨⟨_, rfl, (show 0 ≤ Int32.toInt 0 ∧ Int32.toInt 0 ≤ 0 from (by decide)), rfl⟩, o3_, f4_, (pvu_s e2_)⟩
def fpL_eX6_append_105_x_x : List (Nat × Nat × Nat) := [(0, 105, 1), (0, 113, 0), (0, 121, 0)]
def fp_eX6_append_105_x_x (q k : Nat) : Bool := pvfp fpL_eX6_append_105_x_x q k
set_option maxHeartbeats 4000000 in
set_option maxRecDepth 10000 in
theorem se_X6_append_105_x_x (M : pvM) (hok : pvOk M) (n1 : Int32) (n2 : Int32) (hn1 : 0 ≤ Int32.toInt n1 ∧ Int32.toInt n1 ≤ 6) (hn2 : 0 ≤ Int32.toInt n2 ∧ Int32.toInt n2 ≤ 9999) (d : Nat) : PW 151 d (0, [some (pvR 105), some (pvI n1), some (pvI n2)], [], M) (fun r X => (∃ x : Int32, r = some (pvI x) ∧ (1 ≤ Int32.toInt x ∧ Int32.toInt x ≤ 8) ∧ x = (if (M.1 105 0) < (Int32.ofNat 8) then ((M.1 105 0) + 1) else (M.1 105 0))) ∧ pvOk X ∧ pvFr fp_eX6_append_105_x_x M X ∧ X.1 105 0 = (if (M.1 105 0) < (Int32.ofNat 8) then ((M.1 105 0) + 1) else (M.1 105 0))) := by
  have hT : pvdom 151 = pvD_151 := rfl
  refine pw_blk hT 1 (S' := (1, [some (pvR 105), some (pvI n1), some (pvI n2)], [pvR 105], M)) rfl ⟨trivial, trivial⟩ ?_
  refine pw_callT hT (as := [pvR 105]) (lo1 := [some (pvR 105)]) (d1 := d) (rest := []) rfl rfl rfl rfl rfl (fun _ => rfl) (Nat.zero_le _) rfl rfl rfl (sf_X6_isFull_105 M hok d) ?_
  have b6_ : 0 ≤ Int32.toInt (M.1 105 0) ∧ Int32.toInt (M.1 105 0) ≤ 8 := pvok_r hok 105 0 rfl
  by_cases c7_ : (M.1 105 0) < (Int32.ofNat 8)
  · refine pw_eqI (if_pos c7_) ?_
    have b8_ : 0 ≤ Int32.toInt (M.1 105 0) ∧ Int32.toInt (M.1 105 0) ≤ 7 := zr_lt_l 7 c7_ b6_ (show 8 ≤ Int32.toInt (Int32.ofNat 8) ∧ Int32.toInt (Int32.ofNat 8) ≤ 8 from (by decide)) (by decide)
    show PW 151 d (4, [some (pvR 105), some (pvI n1), some (pvI n2)], [pvI 0], M) _
    refine pw_if hT (c := 0 = 0) rfl rfl (fun c9_ => ?_) (fun c9_ => absurd (by decide) c9_)
    refine pw_blkw hT 6 (pc := 22) (lo := [some (pvR 105), some (pvI n1), some (pvI n2)]) (st := []) (M := pvu M 113 (Int32.toNatClampNeg (M.1 105 0)) n1) rfl ⟨trivial, rfl, trivial, rfl, trivial, ⟨rfl, (zr_in (n := 8) b8_ (by decide) (by decide))⟩, trivial⟩ (fun M10_ e11_ => ?_)
    have o12_ : pvOk M10_ := pvok_u2 e11_ hok rfl hn1
    have f13_ : pvFr fp_eX6_append_105_x_x M M10_ := pvfr_u e11_ pvfr_0 rfl
    have e14_ : (M10_.1 105 0) = (M.1 105 0) := (pvu_n e11_ 105 0 (Or.inl (by decide)))
    have b15_ : 0 ≤ Int32.toInt (M10_.1 105 0) ∧ Int32.toInt (M10_.1 105 0) ≤ 7 := (by rw [e14_]; exact b8_)
    refine pw_blkw hT 6 (pc := 32) (lo := [some (pvR 105), some (pvI n1), some (pvI n2)]) (st := []) (M := pvu M10_ 121 (Int32.toNatClampNeg (M10_.1 105 0)) n2) rfl ⟨trivial, rfl, trivial, rfl, trivial, ⟨rfl, (zr_in (n := 8) b15_ (by decide) (by decide))⟩, trivial⟩ (fun M16_ e17_ => ?_)
    have o18_ : pvOk M16_ := pvok_u2 e17_ o12_ rfl hn2
    have f19_ : pvFr fp_eX6_append_105_x_x M M16_ := pvfr_u e17_ f13_ rfl
    have e20_ : (M16_.1 105 0) = (M10_.1 105 0) := (pvu_n e17_ 105 0 (Or.inl (by decide)))
    have b21_ : 0 ≤ Int32.toInt (M16_.1 105 0) ∧ Int32.toInt (M16_.1 105 0) ≤ 7 := (by rw [e20_]; exact b15_)
    obtain ⟨q23_, b22_⟩ : (Int32.toInt ((M16_.1 105 0) + 1) = Int32.toInt (M16_.1 105 0) + 1) ∧ (1 ≤ Int32.toInt ((M16_.1 105 0) + 1) ∧ Int32.toInt ((M16_.1 105 0) + 1) ≤ 8) := zadd_k (M16_.1 105 0) 1 1 1 8 b21_ (by decide) (by decide) (by decide) (by decide) (by decide)
    refine pw_blkw hT 6 (pc := 42) (lo := [some (pvR 105), some (pvI n1), some (pvI n2)]) (st := []) (M := pvu M16_ 105 0 ((M16_.1 105 0) + 1)) rfl ⟨trivial, trivial, rfl, trivial, trivial, rfl, trivial⟩ (fun M24_ e25_ => ?_)
    have o26_ : pvOk M24_ := pvok_u2 e25_ o18_ rfl (zr_wide b22_ (by decide) (by decide))
    have f27_ : pvFr fp_eX6_append_105_x_x M M24_ := pvfr_u e25_ f19_ rfl
    have e28_ : (M24_.1 105 0) = ((M16_.1 105 0) + 1) := (pvu_s e25_)
    have b29_ : 1 ≤ Int32.toInt (M24_.1 105 0) ∧ Int32.toInt (M24_.1 105 0) ≤ 8 := (by rw [e28_]; exact b22_)
    refine pw_blk hT 2 (S' := (46, [some (pvR 105), some (pvI n1), some (pvI n2)], [pvI (M24_.1 105 0)], M24_)) rfl ⟨trivial, rfl, trivial⟩ ?_
    exact pw_ret hT rfl (r := some (pvI (M24_.1 105 0))) (M' := M24_) ⟨rfl, rfl⟩ ⟨⟨_, rfl, b29_, (by rw [if_pos c7_]; first | done | exact (show (M24_.1 105 0) = ((M.1 105 0) + 1) from by rw [((pvu_s e25_).trans (show ((M16_.1 105 0) + 1) = ((M.1 105 0) + 1) from by rw [((pvu_n e17_ 105 0 (Or.inl (by decide))).trans (pvu_n e11_ 105 0 (Or.inl (by decide))))]))]) | (rw [if_pos c7_]; exact (show (M24_.1 105 0) = ((M.1 105 0) + 1) from by rw [((pvu_s e25_).trans (show ((M16_.1 105 0) + 1) = ((M.1 105 0) + 1) from by rw [((pvu_n e17_ 105 0 (Or.inl (by decide))).trans (pvu_n e11_ 105 0 (Or.inl (by decide))))]))])))⟩, o26_, f27_, (by rw [if_pos c7_]; first | done | exact ((pvu_s e25_).trans (show ((M16_.1 105 0) + 1) = ((M.1 105 0) + 1) from by rw [((pvu_n e17_ 105 0 (Or.inl (by decide))).trans (pvu_n e11_ 105 0 (Or.inl (by decide))))])) | (rw [if_pos c7_]; done) | (rw [if_pos c7_]; exact ((pvu_s e25_).trans (show ((M16_.1 105 0) + 1) = ((M.1 105 0) + 1) from by rw [((pvu_n e17_ 105 0 (Or.inl (by decide))).trans (pvu_n e11_ 105 0 (Or.inl (by decide))))]))))⟩
  · refine pw_eqI (if_neg c7_) ?_
    have b30_ : 8 ≤ Int32.toInt (M.1 105 0) ∧ Int32.toInt (M.1 105 0) ≤ 8 := zr_nlt_l 8 c7_ b6_ (show 8 ≤ Int32.toInt (Int32.ofNat 8) ∧ Int32.toInt (Int32.ofNat 8) ≤ 8 from (by decide)) (by decide)
    show PW 151 d (4, [some (pvR 105), some (pvI n1), some (pvI n2)], [pvI 1], M) _
    refine pw_if hT (c := 1 = 0) rfl rfl (fun c31_ => absurd c31_ (by decide)) (fun c31_ => ?_)
    refine pw_blk hT 2 (S' := (11, [some (pvR 105), some (pvI n1), some (pvI n2)], [pvI (M.1 105 0)], M)) rfl ⟨trivial, rfl, trivial⟩ ?_
    exact pw_ret hT rfl (r := some (pvI (M.1 105 0))) (M' := M) ⟨rfl, rfl⟩ ⟨⟨_, rfl, (zr_wide b30_ (by decide) (by decide)), (by rw [if_neg c7_]; first | done | (rw [if_neg c7_]; done))⟩, hok, pvfr_0, (by rw [if_neg c7_]; first | done | exact rfl | (rw [if_neg c7_]; done) | (rw [if_neg c7_]; exact rfl))⟩
def fpL_eX6_becomeAs_105_104 : List (Nat × Nat × Nat) := [(0, 105, 1), (0, 113, 0), (0, 121, 0)]
def fp_eX6_becomeAs_105_104 (q k : Nat) : Bool := pvfp fpL_eX6_becomeAs_105_104 q k
theorem fp_eX6_becomeAs_105_104_fp_eX6_append_105_x_x (a b : Nat) (h : fp_eX6_append_105_x_x a b = true) : fp_eX6_becomeAs_105_104 a b = true := pvfp_sub (l1 := fpL_eX6_append_105_x_x) (l2 := fpL_eX6_becomeAs_105_104) (by decide) a b h
theorem fp_eX6_becomeAs_105_104_fp_eX6_clear_105 (a b : Nat) (h : fp_eX6_clear_105 a b = true) : fp_eX6_becomeAs_105_104 a b = true := pvfp_sub (l1 := fpL_eX6_clear_105) (l2 := fpL_eX6_becomeAs_105_104) (by decide) a b h
set_option maxHeartbeats 4000000 in
set_option maxRecDepth 10000 in
theorem se_X6_becomeAs_105_104 (M : pvM) (hok : pvOk M) (d : Nat) : PW 152 d (0, [some (pvR 105), some (pvR 104), none], [], M) (fun r X => r = none ∧ pvOk X ∧ pvFr fp_eX6_becomeAs_105_104 M X ∧ X.1 105 0 = (M.1 104 0)) := by
  have hT : pvdom 152 = pvD_152 := rfl
  refine pw_blk hT 1 (S' := (1, [some (pvR 105), some (pvR 104), none], [pvR 105], M)) rfl ⟨trivial, trivial⟩ ?_
  refine pw_callGd hT (as := [pvR 105]) (lo1 := [some (pvR 105)]) (d1 := d) (rest := []) rfl rfl rfl rfl rfl (fun _ => rfl) (Nat.zero_le _) rfl rfl rfl (se_X6_clear_105 M hok d) (fun x2_ M3_ b4_ o5_ g6_ d1_ => ?_)
  have f7_ : pvFr fp_eX6_becomeAs_105_104 M M3_ := pvfr_t g6_ pvfr_0 fp_eX6_becomeAs_105_104_fp_eX6_clear_105
  obtain ⟨b8_, d9_⟩ := b4_
  subst d9_
  refine pw_blk hT 3 (S' := (7, [some (pvR 105), some (pvR 104), some (pvI 0)], [], M3_)) rfl ⟨trivial, trivial, trivial, trivial⟩ ?_
  have hlz90_ : ∀ (nz90_ : Nat) (i2z90_ : Int32) (Mz90_ : pvM), (pvOk Mz90_) → (pvFr fp_eX6_becomeAs_105_104 M Mz90_) → (0 ≤ Int32.toInt i2z90_ ∧ Int32.toInt i2z90_ ≤ 8) → (Mz90_.1 105 0 = i2z90_) → (Int32.toInt i2z90_ ≤ Int32.toInt (M.1 104 0)) → (zhide ((9 - Int32.toInt i2z90_).toNat < nz90_)) → PW 152 d (7, [some (pvR 105), some (pvR 104), some (pvI i2z90_)], [], Mz90_) (fun r X => r = none ∧ pvOk X ∧ pvFr fp_eX6_becomeAs_105_104 M X ∧ X.1 105 0 = (M.1 104 0)) := by
    intro nz90_
    induction nz90_ with
    | zero => intro i2z90_ Mz90_ oz90_ fz90_ h2z90_ j0z90_ j1z90_ hmz90_; exact absurd (zshow hmz90_) (Nat.not_lt_zero _)
    | succ nz90_ ihz90_ =>
      intro i2z90_ Mz90_ oz90_ fz90_ h2z90_ j0z90_ j1z90_ hmz90_
      have b91_ : 0 ≤ Int32.toInt (Mz90_.1 104 0) ∧ Int32.toInt (Mz90_.1 104 0) ≤ 8 := pvok_r oz90_ 104 0 rfl
      refine pw_blk hT 3 (S' := (12, [some (pvR 105), some (pvR 104), some (pvI i2z90_)], [pvI (Mz90_.1 104 0), pvI i2z90_], Mz90_)) rfl ⟨trivial, trivial, rfl, trivial⟩ ?_
      refine pw_ic hT (c := (Mz90_.1 104 0) ≤ i2z90_) rfl rfl (fun c92_ => ?_) (fun c92_ => ?_)
      · have d93_ : Int32.toInt (Mz90_.1 104 0) ≤ Int32.toInt i2z90_ := (zi_le _ _).mp c92_
        exact pw_ret hT rfl (r := none) (M' := Mz90_) ⟨rfl, rfl⟩ ⟨rfl, oz90_, fz90_, (Int32.toInt_inj.mp (by have z3 : Mz90_.1 104 0 = M.1 104 0 := fz90_ 104 0 rfl; have z4 := congrArg Int32.toInt z3; have z5 := congrArg Int32.toInt j0z90_; omega))⟩
      · have b94_ : 1 ≤ Int32.toInt (Mz90_.1 104 0) ∧ Int32.toInt (Mz90_.1 104 0) ≤ 8 := zr_nle_l 1 c92_ b91_ h2z90_ (by decide)
        have b95_ : 0 ≤ Int32.toInt i2z90_ ∧ Int32.toInt i2z90_ ≤ 7 := zr_nle_r 7 c92_ h2z90_ b94_ (by decide)
        have d96_ : Int32.toInt (Mz90_.1 104 0) > Int32.toInt i2z90_ := Int.not_le.mp ((not_congr (zi_le _ _)).mp c92_)
        have b97_ : 0 ≤ Int32.toInt (Mz90_.1 112 (Int32.toNatClampNeg i2z90_)) ∧ Int32.toInt (Mz90_.1 112 (Int32.toNatClampNeg i2z90_)) ≤ 6 := pvok_r oz90_ 112 (Int32.toNatClampNeg i2z90_) rfl
        have b98_ : 0 ≤ Int32.toInt (Mz90_.1 120 (Int32.toNatClampNeg i2z90_)) ∧ Int32.toInt (Mz90_.1 120 (Int32.toNatClampNeg i2z90_)) ≤ 9999 := pvok_r oz90_ 120 (Int32.toNatClampNeg i2z90_) rfl
        refine pw_blk hT 9 (S' := (28, [some (pvR 105), some (pvR 104), some (pvI i2z90_)], [pvI (Mz90_.1 120 (Int32.toNatClampNeg i2z90_)), pvI (Mz90_.1 112 (Int32.toNatClampNeg i2z90_)), pvR 105], Mz90_)) rfl ⟨trivial, trivial, rfl, trivial, ⟨rfl, (zr_in (n := 8) b95_ (by decide) (by decide))⟩, trivial, rfl, trivial, ⟨rfl, (zr_in (n := 8) b95_ (by decide) (by decide))⟩, trivial⟩ ?_
        refine pw_callGd hT (as := [pvR 105, pvI (Mz90_.1 112 (Int32.toNatClampNeg i2z90_)), pvI (Mz90_.1 120 (Int32.toNatClampNeg i2z90_))]) (lo1 := [some (pvR 105), some (pvI (Mz90_.1 112 (Int32.toNatClampNeg i2z90_))), some (pvI (Mz90_.1 120 (Int32.toNatClampNeg i2z90_)))]) (d1 := d) (rest := []) rfl rfl rfl rfl rfl (fun _ => rfl) (Nat.zero_le _) rfl rfl rfl (se_X6_append_105_x_x Mz90_ oz90_ (Mz90_.1 112 (Int32.toNatClampNeg i2z90_)) (Mz90_.1 120 (Int32.toNatClampNeg i2z90_)) b97_ b98_ d) (fun x100_ M101_ b102_ o103_ g104_ d99_ => ?_)
        have f105_ : pvFr fp_eX6_becomeAs_105_104 M M101_ := pvfr_t g104_ fz90_ fp_eX6_becomeAs_105_104_fp_eX6_append_105_x_x
        obtain ⟨b106_, d107_⟩ := b102_
        subst d107_
        obtain ⟨q109_, b108_⟩ : (Int32.toInt (i2z90_ + 1) = Int32.toInt i2z90_ + 1) ∧ (1 ≤ Int32.toInt (i2z90_ + 1) ∧ Int32.toInt (i2z90_ + 1) ≤ 8) := zadd_k i2z90_ 1 1 1 8 b95_ (by decide) (by decide) (by decide) (by decide) (by decide)
        refine pw_blk hT 3 (S' := (7, [some (pvR 105), some (pvR 104), some (pvI (i2z90_ + 1))], [], M101_)) rfl ⟨trivial, trivial, trivial, trivial⟩ ?_
        have j110_ : M101_.1 105 0 = (i2z90_ + 1) := (by have z1 : Int32.toInt (Int32.ofNat 8) = 8 := (by decide); have z2 := pvok_r oz90_ 104 0 rfl; have z3 : Mz90_.1 104 0 = M.1 104 0 := fz90_ 104 0 rfl; have z4 := congrArg Int32.toInt z3; rw [d99_, j0z90_, if_pos ((zi_lt _ _).mpr (by omega))])
        have j111_ : Int32.toInt (i2z90_ + 1) ≤ Int32.toInt (M.1 104 0) := (by have z3 : Mz90_.1 104 0 = M.1 104 0 := fz90_ 104 0 rfl; have z4 := congrArg Int32.toInt z3; omega)
        exact ihz90_ (i2z90_ + 1) M101_ o103_ f105_ (zr_wide b108_ (by decide) (by decide)) j110_ j111_ (zhid (pvms_up (zshow hmz90_) h2z90_ q109_ (by decide) (by decide)))
  have u112_ : Int32.toInt 0 = 0 := by decide
  have j113_ : M3_.1 105 0 = 0 := d1_
  have j114_ : Int32.toInt 0 ≤ Int32.toInt (M.1 104 0) := (by have z := pvok_r hok 104 0 rfl; have u : Int32.toInt 0 = 0 := (by decide); omega)
  exact hlz90_ _ 0 M3_ o5_ f7_ (zr_wide (show 0 ≤ Int32.toInt 0 ∧ Int32.toInt 0 ≤ 0 from (by decide)) (by decide) (by decide)) j113_ j114_ (zhid (Nat.lt_succ_self _))
def fpL_eX7_becomeAs_9_8 : List (Nat × Nat × Nat) := [(0, 101, 1), (0, 103, 1), (0, 105, 1), (0, 109, 0), (0, 111, 0), (0, 113, 0), (0, 117, 0), (0, 119, 0), (0, 121, 0), (0, 9, 2), (0, 9, 3), (0, 9, 4), (0, 9, 5), (0, 9, 6), (0, 9, 7), (0, 9, 8), (0, 9, 9), (1, 113, 0), (1, 3, 1), (1, 3, 2), (1, 3, 3), (1, 3, 4), (1, 3, 5), (1, 3, 6)]
def fp_eX7_becomeAs_9_8 (q k : Nat) : Bool := pvfp fpL_eX7_becomeAs_9_8 q k
theorem fp_eX7_becomeAs_9_8_fp_X4_becomeAs_x_x (a b : Nat) (h : fp_X4_becomeAs_x_x a b = true) : fp_eX7_becomeAs_9_8 a b = true := pvfp_sub (l1 := fpL_X4_becomeAs_x_x) (l2 := fpL_eX7_becomeAs_9_8) (by decide) a b h
theorem fp_eX7_becomeAs_9_8_fp_eX6_becomeAs_101_100 (a b : Nat) (h : fp_eX6_becomeAs_101_100 a b = true) : fp_eX7_becomeAs_9_8 a b = true := pvfp_sub (l1 := fpL_eX6_becomeAs_101_100) (l2 := fpL_eX7_becomeAs_9_8) (by decide) a b h
theorem fp_eX7_becomeAs_9_8_fp_eX6_becomeAs_103_102 (a b : Nat) (h : fp_eX6_becomeAs_103_102 a b = true) : fp_eX7_becomeAs_9_8 a b = true := pvfp_sub (l1 := fpL_eX6_becomeAs_103_102) (l2 := fpL_eX7_becomeAs_9_8) (by decide) a b h
theorem fp_eX7_becomeAs_9_8_fp_eX6_becomeAs_105_104 (a b : Nat) (h : fp_eX6_becomeAs_105_104 a b = true) : fp_eX7_becomeAs_9_8 a b = true := pvfp_sub (l1 := fpL_eX6_becomeAs_105_104) (l2 := fpL_eX7_becomeAs_9_8) (by decide) a b h
set_option maxHeartbeats 4000000 in
set_option maxRecDepth 10000 in
theorem se_X7_becomeAs_9_8 (M : pvM) (hok : pvOk M) (d : Nat) : PW 158 d (0, [some (pvR 9), some (pvR 8), none], [], M) (fun r X => r = none ∧ pvOk X ∧ pvFr fp_eX7_becomeAs_9_8 M X ∧ X.1 9 1 = (M.1 8 1) ∧ X.1 9 2 = (M.1 8 2) ∧ X.1 9 3 = (M.1 8 3) ∧ X.1 103 0 = (M.1 102 0) ∧ X.1 105 0 = (M.1 104 0)) := by
  have hT : pvdom 158 = pvD_158 := rfl
  have b1_ : 0 ≤ Int32.toInt (M.1 8 1) ∧ Int32.toInt (M.1 8 1) ≤ 7 := pvok_r hok 8 1 rfl
  refine pw_blkw hT 4 (pc := 8) (lo := [some (pvR 9), some (pvR 8), none]) (st := []) (M := pvu M 9 1 (M.1 8 1)) rfl ⟨trivial, trivial, rfl, rfl, trivial⟩ (fun M2_ e3_ => ?_)
  have o4_ : pvOk M2_ := pvok_u2 e3_ hok rfl b1_
  have f5_ : pvFr fp_eX7_becomeAs_9_8 M M2_ := pvfr_u e3_ pvfr_0 rfl
  refine pw_blk hT 2 (S' := (10, [some (pvR 9), some (pvR 8), some (pvI 0)], [], M2_)) rfl ⟨trivial, trivial, trivial⟩ ?_
  have hlz322_ : ∀ (nz322_ : Nat) (i2z322_ : Int32) (Mz322_ : pvM), (pvOk Mz322_) → (pvFr fp_eX7_becomeAs_9_8 M Mz322_) → (0 ≤ Int32.toInt i2z322_ ∧ Int32.toInt i2z322_ ≤ 7) → (Mz322_.1 9 1 = (M.1 8 1)) → (zhide ((8 - Int32.toInt i2z322_).toNat < nz322_)) → PW 158 d (10, [some (pvR 9), some (pvR 8), some (pvI i2z322_)], [], Mz322_) (fun r X => r = none ∧ pvOk X ∧ pvFr fp_eX7_becomeAs_9_8 M X ∧ X.1 9 1 = (M.1 8 1) ∧ X.1 9 2 = (M.1 8 2) ∧ X.1 9 3 = (M.1 8 3) ∧ X.1 103 0 = (M.1 102 0) ∧ X.1 105 0 = (M.1 104 0)) := by
    intro nz322_
    induction nz322_ with
    | zero => intro i2z322_ Mz322_ oz322_ fz322_ h2z322_ j0z322_ hmz322_; exact absurd (zshow hmz322_) (Nat.not_lt_zero _)
    | succ nz322_ ihz322_ =>
      intro i2z322_ Mz322_ oz322_ fz322_ h2z322_ j0z322_ hmz322_
      have b323_ : 0 ≤ Int32.toInt (Mz322_.1 9 1) ∧ Int32.toInt (Mz322_.1 9 1) ≤ 7 := pvok_r oz322_ 9 1 rfl
      refine pw_blk hT 3 (S' := (15, [some (pvR 9), some (pvR 8), some (pvI i2z322_)], [pvI (Mz322_.1 9 1), pvI i2z322_], Mz322_)) rfl ⟨trivial, trivial, rfl, trivial⟩ ?_
      refine pw_ic hT (c := (Mz322_.1 9 1) ≤ i2z322_) rfl rfl (fun c324_ => ?_) (fun c324_ => ?_)
      · have d325_ : Int32.toInt (Mz322_.1 9 1) ≤ Int32.toInt i2z322_ := (zi_le _ _).mp c324_
        have b326_ : 0 ≤ Int32.toInt (Mz322_.1 8 2) ∧ Int32.toInt (Mz322_.1 8 2) ≤ 99 := pvok_r oz322_ 8 2 rfl
        refine pw_blkw hT 4 (pc := 47) (lo := [some (pvR 9), some (pvR 8), some (pvI i2z322_)]) (st := []) (M := pvu Mz322_ 9 2 (Mz322_.1 8 2)) rfl ⟨trivial, trivial, rfl, rfl, trivial⟩ (fun M327_ e328_ => ?_)
        have o329_ : pvOk M327_ := pvok_u2 e328_ oz322_ rfl b326_
        have f330_ : pvFr fp_eX7_becomeAs_9_8 M M327_ := pvfr_u e328_ fz322_ rfl
        have b331_ : 0 ≤ Int32.toInt (M327_.1 8 3) ∧ Int32.toInt (M327_.1 8 3) ≤ 3 := pvok_r o329_ 8 3 rfl
        refine pw_blkw hT 4 (pc := 55) (lo := [some (pvR 9), some (pvR 8), some (pvI i2z322_)]) (st := []) (M := pvu M327_ 9 3 (M327_.1 8 3)) rfl ⟨trivial, trivial, rfl, rfl, trivial⟩ (fun M332_ e333_ => ?_)
        have o334_ : pvOk M332_ := pvok_u2 e333_ o329_ rfl b331_
        have f335_ : pvFr fp_eX7_becomeAs_9_8 M M332_ := pvfr_u e333_ f330_ rfl
        have b336_ : 0 ≤ Int32.toInt (M332_.1 8 4) ∧ Int32.toInt (M332_.1 8 4) ≤ 9999 := pvok_r o334_ 8 4 rfl
        refine pw_blkw hT 4 (pc := 63) (lo := [some (pvR 9), some (pvR 8), some (pvI i2z322_)]) (st := []) (M := pvu M332_ 9 4 (M332_.1 8 4)) rfl ⟨trivial, trivial, rfl, rfl, trivial⟩ (fun M337_ e338_ => ?_)
        have o339_ : pvOk M337_ := pvok_u2 e338_ o334_ rfl b336_
        have f340_ : pvFr fp_eX7_becomeAs_9_8 M M337_ := pvfr_u e338_ f335_ rfl
        refine pw_blkw hT 4 (pc := 71) (lo := [some (pvR 9), some (pvR 8), some (pvI i2z322_)]) (st := []) (M := pvu M337_ 9 5 (M337_.1 8 5)) rfl ⟨trivial, trivial, rfl, rfl, trivial⟩ (fun M341_ e342_ => ?_)
        have o343_ : pvOk M341_ := pvok_u2 e342_ o339_ rfl (zbnd (M337_.1 8 5))
        have f344_ : pvFr fp_eX7_becomeAs_9_8 M M341_ := pvfr_u e342_ f340_ rfl
        have b345_ : 0 ≤ Int32.toInt (M341_.1 8 6) ∧ Int32.toInt (M341_.1 8 6) ≤ 3 := pvok_r o343_ 8 6 rfl
        refine pw_blkw hT 4 (pc := 79) (lo := [some (pvR 9), some (pvR 8), some (pvI i2z322_)]) (st := []) (M := pvu M341_ 9 6 (M341_.1 8 6)) rfl ⟨trivial, trivial, rfl, rfl, trivial⟩ (fun M346_ e347_ => ?_)
        have o348_ : pvOk M346_ := pvok_u2 e347_ o343_ rfl b345_
        have f349_ : pvFr fp_eX7_becomeAs_9_8 M M346_ := pvfr_u e347_ f344_ rfl
        have b350_ : 0 ≤ Int32.toInt (M346_.1 8 7) ∧ Int32.toInt (M346_.1 8 7) ≤ 4 := pvok_r o348_ 8 7 rfl
        refine pw_blkw hT 4 (pc := 87) (lo := [some (pvR 9), some (pvR 8), some (pvI i2z322_)]) (st := []) (M := pvu M346_ 9 7 (M346_.1 8 7)) rfl ⟨trivial, trivial, rfl, rfl, trivial⟩ (fun M351_ e352_ => ?_)
        have o353_ : pvOk M351_ := pvok_u2 e352_ o348_ rfl b350_
        have f354_ : pvFr fp_eX7_becomeAs_9_8 M M351_ := pvfr_u e352_ f349_ rfl
        have b355_ : 15 ≤ Int32.toInt (M351_.1 8 8) ∧ Int32.toInt (M351_.1 8 8) ≤ 23 := pvok_r o353_ 8 8 rfl
        refine pw_blkr hT 3 (pc := 92) (lo := [some (pvR 9), some (pvR 8), some (pvI i2z322_)]) (st := [pvR 9]) (M := M351_) (z := (pvhp (M351_.1 8 8))) rfl ⟨trivial, trivial, rfl, trivial⟩ (fun q356_ e358_ => ?_)
        have k357_ : pvkl q356_ = 2 := pvhp_k b355_ e358_
        refine pw_blkw hT 1 (pc := 95) (lo := [some (pvR 9), some (pvR 8), some (pvI i2z322_)]) (st := []) (M := pvu M351_ 9 8 (nI q356_)) rfl ⟨⟨rfl, k357_⟩, trivial⟩ (fun M359_ e360_ => ?_)
        have o361_ : pvOk M359_ := pvok_u2 e360_ o353_ rfl (pvhp_r k357_)
        have f362_ : pvFr fp_eX7_becomeAs_9_8 M M359_ := pvfr_u e360_ f354_ rfl
        refine pw_blk hT 4 (S' := (103, [some (pvR 9), some (pvR 8), some (pvI i2z322_)], [pvR 100, pvR 101], M359_)) rfl ⟨trivial, rfl, trivial, rfl, trivial⟩ ?_
        refine pw_callVd hT (as := [pvR 101, pvR 100]) (lo1 := [some (pvR 101), some (pvR 100), none]) (d1 := d) (rest := []) rfl rfl rfl rfl rfl (fun _ => rfl) (Nat.zero_le _) rfl rfl rfl (se_X6_becomeAs_101_100 M359_ o361_ d) (fun M365_ o367_ g368_ d363_ => ?_)
        have f369_ : pvFr fp_eX7_becomeAs_9_8 M M365_ := pvfr_t g368_ f362_ fp_eX7_becomeAs_9_8_fp_eX6_becomeAs_101_100
        refine pw_blk hT 4 (S' := (114, [some (pvR 9), some (pvR 8), some (pvI i2z322_)], [pvR 102, pvR 103], M365_)) rfl ⟨trivial, rfl, trivial, rfl, trivial⟩ ?_
        refine pw_callVd hT (as := [pvR 103, pvR 102]) (lo1 := [some (pvR 103), some (pvR 102), none]) (d1 := d) (rest := []) rfl rfl rfl rfl rfl (fun _ => rfl) (Nat.zero_le _) rfl rfl rfl (se_X6_becomeAs_103_102 M365_ o367_ d) (fun M372_ o374_ g375_ d370_ => ?_)
        have f376_ : pvFr fp_eX7_becomeAs_9_8 M M372_ := pvfr_t g375_ f369_ fp_eX7_becomeAs_9_8_fp_eX6_becomeAs_103_102
        refine pw_blk hT 4 (S' := (125, [some (pvR 9), some (pvR 8), some (pvI i2z322_)], [pvR 104, pvR 105], M372_)) rfl ⟨trivial, rfl, trivial, rfl, trivial⟩ ?_
        refine pw_callVd hT (as := [pvR 105, pvR 104]) (lo1 := [some (pvR 105), some (pvR 104), none]) (d1 := d) (rest := []) rfl rfl rfl rfl rfl (fun _ => rfl) (Nat.zero_le _) rfl rfl rfl (se_X6_becomeAs_105_104 M372_ o374_ d) (fun M379_ o381_ g382_ d377_ => ?_)
        have f383_ : pvFr fp_eX7_becomeAs_9_8 M M379_ := pvfr_t g382_ f376_ fp_eX7_becomeAs_9_8_fp_eX6_becomeAs_105_104
        exact pw_ret hT rfl (r := none) (M' := M379_) ⟨rfl, rfl⟩ ⟨rfl, o381_, f383_, (((((((((((g382_ 9 1 rfl).trans (g375_ 9 1 rfl)).trans (g368_ 9 1 rfl)).trans (pvu_n e360_ 9 1 (Or.inr (by decide)))).trans (pvu_n e352_ 9 1 (Or.inr (by decide)))).trans (pvu_n e347_ 9 1 (Or.inr (by decide)))).trans (pvu_n e342_ 9 1 (Or.inr (by decide)))).trans (pvu_n e338_ 9 1 (Or.inr (by decide)))).trans (pvu_n e333_ 9 1 (Or.inr (by decide)))).trans (pvu_n e328_ 9 1 (Or.inr (by decide)))).trans (j0z322_)), (((((((((((g382_ 9 2 rfl).trans (g375_ 9 2 rfl)).trans (g368_ 9 2 rfl)).trans (pvu_n e360_ 9 2 (Or.inr (by decide)))).trans (pvu_n e352_ 9 2 (Or.inr (by decide)))).trans (pvu_n e347_ 9 2 (Or.inr (by decide)))).trans (pvu_n e342_ 9 2 (Or.inr (by decide)))).trans (pvu_n e338_ 9 2 (Or.inr (by decide)))).trans (pvu_n e333_ 9 2 (Or.inr (by decide)))).trans (pvu_s e328_)).trans (fz322_ 8 2 rfl)), ((((((((((g382_ 9 3 rfl).trans (g375_ 9 3 rfl)).trans (g368_ 9 3 rfl)).trans (pvu_n e360_ 9 3 (Or.inr (by decide)))).trans (pvu_n e352_ 9 3 (Or.inr (by decide)))).trans (pvu_n e347_ 9 3 (Or.inr (by decide)))).trans (pvu_n e342_ 9 3 (Or.inr (by decide)))).trans (pvu_n e338_ 9 3 (Or.inr (by decide)))).trans (pvu_s e333_)).trans ((pvu_n e328_ 8 3 (Or.inl (by decide))).trans (fz322_ 8 3 rfl))), (((g382_ 103 0 rfl).trans (d370_)).trans (((((((((g368_ 102 0 rfl).trans (pvu_n e360_ 102 0 (Or.inl (by decide)))).trans (pvu_n e352_ 102 0 (Or.inl (by decide)))).trans (pvu_n e347_ 102 0 (Or.inl (by decide)))).trans (pvu_n e342_ 102 0 (Or.inl (by decide)))).trans (pvu_n e338_ 102 0 (Or.inl (by decide)))).trans (pvu_n e333_ 102 0 (Or.inl (by decide)))).trans (pvu_n e328_ 102 0 (Or.inl (by decide)))).trans (fz322_ 102 0 rfl))), (d377_.trans ((((((((((g375_ 104 0 rfl).trans (g368_ 104 0 rfl)).trans (pvu_n e360_ 104 0 (Or.inl (by decide)))).trans (pvu_n e352_ 104 0 (Or.inl (by decide)))).trans (pvu_n e347_ 104 0 (Or.inl (by decide)))).trans (pvu_n e342_ 104 0 (Or.inl (by decide)))).trans (pvu_n e338_ 104 0 (Or.inl (by decide)))).trans (pvu_n e333_ 104 0 (Or.inl (by decide)))).trans (pvu_n e328_ 104 0 (Or.inl (by decide)))).trans (fz322_ 104 0 rfl)))⟩
      · have b384_ : 1 ≤ Int32.toInt (Mz322_.1 9 1) ∧ Int32.toInt (Mz322_.1 9 1) ≤ 7 := zr_nle_l 1 c324_ b323_ h2z322_ (by decide)
        have b385_ : 0 ≤ Int32.toInt i2z322_ ∧ Int32.toInt i2z322_ ≤ 6 := zr_nle_r 6 c324_ h2z322_ b384_ (by decide)
        have d386_ : Int32.toInt (Mz322_.1 9 1) > Int32.toInt i2z322_ := Int.not_le.mp ((not_congr (zi_le _ _)).mp c324_)
        refine pw_blkr hT 4 (pc := 24) (lo := [some (pvR 9), some (pvR 8), some (pvI i2z322_)]) (st := []) (M := Mz322_) (z := (pvbs 11 + Int32.toNatClampNeg i2z322_)) rfl ⟨trivial, rfl, trivial, ⟨rfl, (zr_in (n := 7) b385_ (by decide) (by decide))⟩, trivial⟩ (fun q387_ e389_ => ?_)
        have k388_ : pvkl q387_ = 3 := pvel_11 (zr_in (n := 7) b385_ (by decide) (by decide)) e389_
        refine pw_blkr hT 4 (pc := 30) (lo := [some (pvR 9), some (pvR 8), some (pvI i2z322_)]) (st := [pvR q387_]) (M := Mz322_) (z := (pvbs 10 + Int32.toNatClampNeg i2z322_)) rfl ⟨trivial, rfl, trivial, ⟨rfl, (zr_in (n := 7) b385_ (by decide) (by decide))⟩, trivial⟩ (fun q390_ e392_ => ?_)
        have k391_ : pvkl q390_ = 3 := pvel_10 (zr_in (n := 7) b385_ (by decide) (by decide)) e392_
        refine pw_callV hT (as := [pvR q387_, pvR q390_]) (lo1 := [some (pvR q387_), some (pvR q390_)]) (d1 := d) (rest := []) rfl rfl rfl rfl rfl (fun _ => k388_) (Nat.zero_le _) rfl rfl rfl (sf_X4_becomeAs_x_x Mz322_ oz322_ q387_ q390_ k388_ k391_ d) (fun M394_ o396_ g397_ => ?_)
        have f398_ : pvFr fp_eX7_becomeAs_9_8 M M394_ := pvfr_t g397_ fz322_ fp_eX7_becomeAs_9_8_fp_X4_becomeAs_x_x
        obtain ⟨q400_, b399_⟩ : (Int32.toInt (i2z322_ + 1) = Int32.toInt i2z322_ + 1) ∧ (1 ≤ Int32.toInt (i2z322_ + 1) ∧ Int32.toInt (i2z322_ + 1) ≤ 7) := zadd_k i2z322_ 1 1 1 7 b385_ (by decide) (by decide) (by decide) (by decide) (by decide)
        refine pw_blk hT 2 (S' := (10, [some (pvR 9), some (pvR 8), some (pvI (i2z322_ + 1))], [], M394_)) rfl ⟨trivial, trivial, trivial⟩ ?_
        have j401_ : M394_.1 9 1 = (M.1 8 1) := ((g397_ 9 1 rfl).trans (j0z322_))
        exact ihz322_ (i2z322_ + 1) M394_ o396_ f398_ (zr_wide b399_ (by decide) (by decide)) j401_ (zhid (pvms_up (zshow hmz322_) h2z322_ q400_ (by decide) (by decide)))
  have u402_ : Int32.toInt 0 = 0 := by decide
  have j403_ : M2_.1 9 1 = (M.1 8 1) := (pvu_s e3_)
  exact hlz322_ _ 0 M2_ o4_ f5_ (zr_wide (show 0 ≤ Int32.toInt 0 ∧ Int32.toInt 0 ≤ 0 from (by decide)) (by decide) (by decide)) j403_ (zhid (Nat.lt_succ_self _))
def fpL_eX9_image_0 : List (Nat × Nat × Nat) := [(0, 0, 6), (0, 101, 1), (0, 103, 1), (0, 105, 1), (0, 109, 0), (0, 111, 0), (0, 113, 0), (0, 117, 0), (0, 119, 0), (0, 121, 0), (0, 9, 2), (0, 9, 3), (0, 9, 4), (0, 9, 5), (0, 9, 6), (0, 9, 7), (0, 9, 8), (0, 9, 9), (1, 113, 0), (1, 3, 1), (1, 3, 2), (1, 3, 3), (1, 3, 4), (1, 3, 5), (1, 3, 6)]
def fp_eX9_image_0 (q k : Nat) : Bool := pvfp fpL_eX9_image_0 q k
theorem fp_eX9_image_0_fp_eX7_becomeAs_9_8 (a b : Nat) (h : fp_eX7_becomeAs_9_8 a b = true) : fp_eX9_image_0 a b = true := pvfp_sub (l1 := fpL_eX7_becomeAs_9_8) (l2 := fpL_eX9_image_0) (by decide) a b h
set_option maxHeartbeats 4000000 in
set_option maxRecDepth 10000 in
theorem se_X9_image_0 (M : pvM) (hok : pvOk M) (d : Nat) : PW 178 d (0, [some (pvR 0)], [], M) (fun r X => (∃ x : Int32, r = some (pvI x) ∧ (0 ≤ Int32.toInt x ∧ Int32.toInt x ≤ 7) ∧ x = (M.1 8 1)) ∧ pvOk X ∧ pvFr fp_eX9_image_0 M X ∧ X.1 9 1 = (M.1 8 1) ∧ X.1 9 2 = (M.1 8 2) ∧ X.1 9 3 = (M.1 8 3) ∧ X.1 0 5 = 1 ∧ X.1 103 0 = (M.1 102 0) ∧ X.1 105 0 = (M.1 104 0)) := by
  have hT : pvdom 178 = pvD_178 := rfl
  refine pw_blk hT 4 (S' := (8, [some (pvR 0)], [pvR 8, pvR 9], M)) rfl ⟨trivial, rfl, trivial, rfl, trivial⟩ ?_
  refine pw_callVd hT (as := [pvR 9, pvR 8]) (lo1 := [some (pvR 9), some (pvR 8), none]) (d1 := d) (rest := []) rfl rfl rfl rfl rfl (fun _ => rfl) (Nat.zero_le _) rfl rfl rfl (se_X7_becomeAs_9_8 M hok d) (fun M3_ o5_ g6_ d1_ => ?_)
  have f7_ : pvFr fp_eX9_image_0 M M3_ := pvfr_t g6_ pvfr_0 fp_eX9_image_0_fp_eX7_becomeAs_9_8
  refine pw_blkw hT 3 (pc := 16) (lo := [some (pvR 0)]) (st := []) (M := pvu M3_ 0 5 1) rfl ⟨trivial, trivial, ⟨rfl, Or.inr rfl⟩, trivial⟩ (fun M8_ e9_ => ?_)
  have o10_ : pvOk M8_ := pvok_u2 e9_ o5_ rfl (zr_wide (show 1 ≤ Int32.toInt 1 ∧ Int32.toInt 1 ≤ 1 from (by decide)) (by decide) (by decide))
  have f11_ : pvFr fp_eX9_image_0 M M8_ := pvfr_u e9_ f7_ rfl
  have b12_ : 0 ≤ Int32.toInt (M8_.1 8 1) ∧ Int32.toInt (M8_.1 8 1) ≤ 7 := pvok_r o10_ 8 1 rfl
  refine pw_blk hT 3 (S' := (23, [some (pvR 0)], [pvI (M8_.1 8 1)], M8_)) rfl ⟨trivial, rfl, rfl, trivial⟩ ?_
  exact pw_ret hT rfl (r := some (pvI (M8_.1 8 1))) (M' := M8_) ⟨rfl, rfl⟩ ⟨⟨_, rfl, b12_, (show (M8_.1 8 1) = (M.1 8 1) from by rw [((pvu_n e9_ 8 1 (Or.inl (by decide))).trans (g6_ 8 1 rfl))])⟩, o10_, f11_, ((pvu_n e9_ 9 1 (Or.inl (by decide))).trans (d1_.1)), ((pvu_n e9_ 9 2 (Or.inl (by decide))).trans (d1_.2.1)), ((pvu_n e9_ 9 3 (Or.inl (by decide))).trans (d1_.2.2.1)), (pvu_s e9_), ((pvu_n e9_ 103 0 (Or.inl (by decide))).trans (d1_.2.2.2.1)), ((pvu_n e9_ 105 0 (Or.inl (by decide))).trans (d1_.2.2.2.2))⟩
def fpL_eX6_append_102_x_x : List (Nat × Nat × Nat) := [(0, 102, 1), (0, 110, 0), (0, 118, 0)]
def fp_eX6_append_102_x_x (q k : Nat) : Bool := pvfp fpL_eX6_append_102_x_x q k
set_option maxHeartbeats 4000000 in
set_option maxRecDepth 10000 in
theorem se_X6_append_102_x_x (M : pvM) (hok : pvOk M) (n1 : Int32) (n2 : Int32) (hn1 : 0 ≤ Int32.toInt n1 ∧ Int32.toInt n1 ≤ 6) (hn2 : 0 ≤ Int32.toInt n2 ∧ Int32.toInt n2 ≤ 9999) (d : Nat) : PW 151 d (0, [some (pvR 102), some (pvI n1), some (pvI n2)], [], M) (fun r X => (∃ x : Int32, r = some (pvI x) ∧ (1 ≤ Int32.toInt x ∧ Int32.toInt x ≤ 6) ∧ x = (if (M.1 102 0) < (Int32.ofNat 6) then ((M.1 102 0) + 1) else (M.1 102 0))) ∧ pvOk X ∧ pvFr fp_eX6_append_102_x_x M X ∧ X.1 102 0 = (if (M.1 102 0) < (Int32.ofNat 6) then ((M.1 102 0) + 1) else (M.1 102 0))) := by
  have hT : pvdom 151 = pvD_151 := rfl
  refine pw_blk hT 1 (S' := (1, [some (pvR 102), some (pvI n1), some (pvI n2)], [pvR 102], M)) rfl ⟨trivial, trivial⟩ ?_
  refine pw_callT hT (as := [pvR 102]) (lo1 := [some (pvR 102)]) (d1 := d) (rest := []) rfl rfl rfl rfl rfl (fun _ => rfl) (Nat.zero_le _) rfl rfl rfl (sf_X6_isFull_102 M hok d) ?_
  have b6_ : 0 ≤ Int32.toInt (M.1 102 0) ∧ Int32.toInt (M.1 102 0) ≤ 6 := pvok_r hok 102 0 rfl
  by_cases c7_ : (M.1 102 0) < (Int32.ofNat 6)
  · refine pw_eqI (if_pos c7_) ?_
    have b8_ : 0 ≤ Int32.toInt (M.1 102 0) ∧ Int32.toInt (M.1 102 0) ≤ 5 := zr_lt_l 5 c7_ b6_ (show 6 ≤ Int32.toInt (Int32.ofNat 6) ∧ Int32.toInt (Int32.ofNat 6) ≤ 6 from (by decide)) (by decide)
    show PW 151 d (4, [some (pvR 102), some (pvI n1), some (pvI n2)], [pvI 0], M) _
    refine pw_if hT (c := 0 = 0) rfl rfl (fun c9_ => ?_) (fun c9_ => absurd (by decide) c9_)
    refine pw_blkw hT 6 (pc := 22) (lo := [some (pvR 102), some (pvI n1), some (pvI n2)]) (st := []) (M := pvu M 110 (Int32.toNatClampNeg (M.1 102 0)) n1) rfl ⟨trivial, rfl, trivial, rfl, trivial, ⟨rfl, (zr_in (n := 6) b8_ (by decide) (by decide))⟩, trivial⟩ (fun M10_ e11_ => ?_)
    have o12_ : pvOk M10_ := pvok_u2 e11_ hok rfl hn1
    have f13_ : pvFr fp_eX6_append_102_x_x M M10_ := pvfr_u e11_ pvfr_0 rfl
    have e14_ : (M10_.1 102 0) = (M.1 102 0) := (pvu_n e11_ 102 0 (Or.inl (by decide)))
    have b15_ : 0 ≤ Int32.toInt (M10_.1 102 0) ∧ Int32.toInt (M10_.1 102 0) ≤ 5 := (by rw [e14_]; exact b8_)
    refine pw_blkw hT 6 (pc := 32) (lo := [some (pvR 102), some (pvI n1), some (pvI n2)]) (st := []) (M := pvu M10_ 118 (Int32.toNatClampNeg (M10_.1 102 0)) n2) rfl ⟨trivial, rfl, trivial, rfl, trivial, ⟨rfl, (zr_in (n := 6) b15_ (by decide) (by decide))⟩, trivial⟩ (fun M16_ e17_ => ?_)
    have o18_ : pvOk M16_ := pvok_u2 e17_ o12_ rfl hn2
    have f19_ : pvFr fp_eX6_append_102_x_x M M16_ := pvfr_u e17_ f13_ rfl
    have e20_ : (M16_.1 102 0) = (M10_.1 102 0) := (pvu_n e17_ 102 0 (Or.inl (by decide)))
    have b21_ : 0 ≤ Int32.toInt (M16_.1 102 0) ∧ Int32.toInt (M16_.1 102 0) ≤ 5 := (by rw [e20_]; exact b15_)
    obtain ⟨q23_, b22_⟩ : (Int32.toInt ((M16_.1 102 0) + 1) = Int32.toInt (M16_.1 102 0) + 1) ∧ (1 ≤ Int32.toInt ((M16_.1 102 0) + 1) ∧ Int32.toInt ((M16_.1 102 0) + 1) ≤ 6) := zadd_k (M16_.1 102 0) 1 1 1 6 b21_ (by decide) (by decide) (by decide) (by decide) (by decide)
    refine pw_blkw hT 6 (pc := 42) (lo := [some (pvR 102), some (pvI n1), some (pvI n2)]) (st := []) (M := pvu M16_ 102 0 ((M16_.1 102 0) + 1)) rfl ⟨trivial, trivial, rfl, trivial, trivial, rfl, trivial⟩ (fun M24_ e25_ => ?_)
    have o26_ : pvOk M24_ := pvok_u2 e25_ o18_ rfl (zr_wide b22_ (by decide) (by decide))
    have f27_ : pvFr fp_eX6_append_102_x_x M M24_ := pvfr_u e25_ f19_ rfl
    have e28_ : (M24_.1 102 0) = ((M16_.1 102 0) + 1) := (pvu_s e25_)
    have b29_ : 1 ≤ Int32.toInt (M24_.1 102 0) ∧ Int32.toInt (M24_.1 102 0) ≤ 6 := (by rw [e28_]; exact b22_)
    refine pw_blk hT 2 (S' := (46, [some (pvR 102), some (pvI n1), some (pvI n2)], [pvI (M24_.1 102 0)], M24_)) rfl ⟨trivial, rfl, trivial⟩ ?_
    exact pw_ret hT rfl (r := some (pvI (M24_.1 102 0))) (M' := M24_) ⟨rfl, rfl⟩ ⟨⟨_, rfl, b29_, (by rw [if_pos c7_]; first | done | exact (show (M24_.1 102 0) = ((M.1 102 0) + 1) from by rw [((pvu_s e25_).trans (show ((M16_.1 102 0) + 1) = ((M.1 102 0) + 1) from by rw [((pvu_n e17_ 102 0 (Or.inl (by decide))).trans (pvu_n e11_ 102 0 (Or.inl (by decide))))]))]) | (rw [if_pos c7_]; exact (show (M24_.1 102 0) = ((M.1 102 0) + 1) from by rw [((pvu_s e25_).trans (show ((M16_.1 102 0) + 1) = ((M.1 102 0) + 1) from by rw [((pvu_n e17_ 102 0 (Or.inl (by decide))).trans (pvu_n e11_ 102 0 (Or.inl (by decide))))]))])))⟩, o26_, f27_, (by rw [if_pos c7_]; first | done | exact ((pvu_s e25_).trans (show ((M16_.1 102 0) + 1) = ((M.1 102 0) + 1) from by rw [((pvu_n e17_ 102 0 (Or.inl (by decide))).trans (pvu_n e11_ 102 0 (Or.inl (by decide))))])) | (rw [if_pos c7_]; done) | (rw [if_pos c7_]; exact ((pvu_s e25_).trans (show ((M16_.1 102 0) + 1) = ((M.1 102 0) + 1) from by rw [((pvu_n e17_ 102 0 (Or.inl (by decide))).trans (pvu_n e11_ 102 0 (Or.inl (by decide))))]))))⟩
  · refine pw_eqI (if_neg c7_) ?_
    have b30_ : 6 ≤ Int32.toInt (M.1 102 0) ∧ Int32.toInt (M.1 102 0) ≤ 6 := zr_nlt_l 6 c7_ b6_ (show 6 ≤ Int32.toInt (Int32.ofNat 6) ∧ Int32.toInt (Int32.ofNat 6) ≤ 6 from (by decide)) (by decide)
    show PW 151 d (4, [some (pvR 102), some (pvI n1), some (pvI n2)], [pvI 1], M) _
    refine pw_if hT (c := 1 = 0) rfl rfl (fun c31_ => absurd c31_ (by decide)) (fun c31_ => ?_)
    refine pw_blk hT 2 (S' := (11, [some (pvR 102), some (pvI n1), some (pvI n2)], [pvI (M.1 102 0)], M)) rfl ⟨trivial, rfl, trivial⟩ ?_
    exact pw_ret hT rfl (r := some (pvI (M.1 102 0))) (M' := M) ⟨rfl, rfl⟩ ⟨⟨_, rfl, (zr_wide b30_ (by decide) (by decide)), (by rw [if_neg c7_]; first | done | (rw [if_neg c7_]; done))⟩, hok, pvfr_0, (by rw [if_neg c7_]; first | done | exact rfl | (rw [if_neg c7_]; done) | (rw [if_neg c7_]; exact rfl))⟩
def fpL_eX6_clear_102 : List (Nat × Nat × Nat) := [(0, 102, 1)]
def fp_eX6_clear_102 (q k : Nat) : Bool := pvfp fpL_eX6_clear_102 q k
set_option maxHeartbeats 4000000 in
set_option maxRecDepth 10000 in
theorem se_X6_clear_102 (M : pvM) (hok : pvOk M) (d : Nat) : PW 153 d (0, [some (pvR 102)], [], M) (fun r X => (∃ x : Int32, r = some (pvI x) ∧ (0 ≤ Int32.toInt x ∧ Int32.toInt x ≤ 0) ∧ x = 0) ∧ pvOk X ∧ pvFr fp_eX6_clear_102 M X ∧ X.1 102 0 = 0) := by
  have hT : pvdom 153 = pvD_153 := rfl
  refine pw_blkw hT 3 (pc := 5) (lo := [some (pvR 102)]) (st := []) (M := pvu M 102 0 0) rfl ⟨trivial, trivial, rfl, trivial⟩ (fun M1_ e2_ => ?_)
  have o3_ : pvOk M1_ := pvok_u2 e2_ hok rfl (zr_wide (show 0 ≤ Int32.toInt 0 ∧ Int32.toInt 0 ≤ 0 from (by decide)) (by decide) (by decide))
  have f4_ : pvFr fp_eX6_clear_102 M M1_ := pvfr_u e2_ pvfr_0 rfl
  refine pw_blk hT 1 (S' := (6, [some (pvR 102)], [pvI 0], M1_)) rfl ⟨trivial, trivial⟩ ?_
  exact pw_ret hT rfl (r := some (pvI 0)) (M' := M1_) ⟨rfl, rfl⟩ ⟨⟨_, rfl, (show 0 ≤ Int32.toInt 0 ∧ Int32.toInt 0 ≤ 0 from (by decide)), rfl⟩, o3_, f4_, (pvu_s e2_)⟩
def fpL_eX9_appendTold_0_102_x_x : List (Nat × Nat × Nat) := [(0, 102, 1), (0, 110, 0), (0, 118, 0)]
def fp_eX9_appendTold_0_102_x_x (q k : Nat) : Bool := pvfp fpL_eX9_appendTold_0_102_x_x q k
theorem fp_eX9_appendTold_0_102_x_x_fp_eX6_append_102_x_x (a b : Nat) (h : fp_eX6_append_102_x_x a b = true) : fp_eX9_appendTold_0_102_x_x a b = true := pvfp_sub (l1 := fpL_eX6_append_102_x_x) (l2 := fpL_eX9_appendTold_0_102_x_x) (by decide) a b h
theorem fp_eX9_appendTold_0_102_x_x_fp_eX6_clear_102 (a b : Nat) (h : fp_eX6_clear_102 a b = true) : fp_eX9_appendTold_0_102_x_x a b = true := pvfp_sub (l1 := fpL_eX6_clear_102) (l2 := fpL_eX9_appendTold_0_102_x_x) (by decide) a b h
set_option maxHeartbeats 4000000 in
set_option maxRecDepth 10000 in
theorem se_X9_appendTold_0_102_x_x (M : pvM) (hok : pvOk M) (n2 : Int32) (n3 : Int32) (d : Nat) : PW 168 d (0, [some (pvR 0), some (pvR 102), some (pvI n2), some (pvI n3)], [], M) (fun r X => (∃ x : Int32, r = some (pvI x) ∧ ((-4) ≤ Int32.toInt x ∧ Int32.toInt x ≤ 6) ∧ x = (if n2 = (-1) then 0 else (if n2 < 0 then (-1) else (if (M.1 8 1) ≤ n2 then (-1) else (if n3 < 0 then (-2) else (if 9999 < n3 then (-2) else (if (M.1 102 0) < (Int32.ofNat 6) then (if (M.1 102 0) < (Int32.ofNat 6) then ((M.1 102 0) + 1) else (M.1 102 0)) else (-4)))))))) ∧ pvOk X ∧ pvFr fp_eX9_appendTold_0_102_x_x M X ∧ X.1 102 0 = (if n2 = (-1) then 0 else (if n2 < 0 then (M.1 102 0) else (if (M.1 8 1) ≤ n2 then (M.1 102 0) else (if n3 < 0 then (M.1 102 0) else (if 9999 < n3 then (M.1 102 0) else (if (M.1 102 0) < (Int32.ofNat 6) then (if (M.1 102 0) < (Int32.ofNat 6) then ((M.1 102 0) + 1) else (M.1 102 0)) else (M.1 102 0)))))))) := by
  have hT : pvdom 168 = pvD_168 := rfl
  refine pw_blk hT 2 (S' := (2, [some (pvR 0), some (pvR 102), some (pvI n2), some (pvI n3)], [pvI (-1), pvI n2], M)) rfl ⟨trivial, trivial, trivial⟩ ?_
  refine pw_icn hT (c := n2 = (-1)) rfl rfl (fun c1_ => ?_) (fun c1_ => ?_)
  · refine pw_blk hT 3 (S' := (15, [some (pvR 0), some (pvR 102), some (pvI n2), some (pvI n3)], [pvI n2, pvR 8], M)) rfl ⟨trivial, rfl, trivial, trivial⟩ ?_
    refine pw_callT hT (as := [pvR 8, pvI n2]) (lo1 := [some (pvR 8), some (pvI n2)]) (d1 := d) (rest := []) rfl rfl rfl rfl rfl (fun _ => rfl) (Nat.zero_le _) rfl rfl rfl (sf_X7_has_8_x M hok n2 d) ?_
    by_cases c7_ : n2 < 0
    · refine pw_eqI (if_pos c7_) ?_
      have b8_ : (-2147483648) ≤ Int32.toInt n2 ∧ Int32.toInt n2 ≤ (-2) := (by have u0 := (zbnd n2); have u9 := (show _ ∧ _ from ⟨(zi_lt _ _).mp c7_, (show 0 ≤ Int32.toInt 0 ∧ Int32.toInt 0 ≤ 0 from (by decide))⟩); have v1 := (not_congr (zi_eq _ _)).mp c1_; have w1 : ((-1) : Int32).toInt = -1 := (by decide); omega)
      show PW 168 d (18, [some (pvR 0), some (pvR 102), some (pvI n2), some (pvI n3)], [pvI 0], M) _
      refine pw_ifn hT (c := 0 = 0) rfl rfl (fun c9_ => absurd (by decide) c9_) (fun c9_ => ?_)
      refine pw_blk hT 1 (S' := (22, [some (pvR 0), some (pvR 102), some (pvI n2), some (pvI n3)], [pvI (-1)], M)) rfl ⟨trivial, trivial⟩ ?_
      exact pw_ret hT rfl (r := some (pvI (-1))) (M' := M) ⟨rfl, rfl⟩ ⟨⟨_, rfl, (zr_wide (show (-1) ≤ Int32.toInt (-1) ∧ Int32.toInt (-1) ≤ (-1) from (by decide)) (by decide) (by decide)), (by rw [if_neg c1_, if_pos c7_]; first | done | (rw [if_pos c7_]; done))⟩, hok, pvfr_0, (by rw [if_neg c1_, if_pos c7_]; first | done | exact rfl | (rw [if_pos c7_]; done) | (rw [if_pos c7_]; exact rfl))⟩
    · refine pw_eqI (if_neg c7_) ?_
      have b10_ : 0 ≤ Int32.toInt n2 ∧ Int32.toInt n2 ≤ 2147483647 := zr_nlt_l 0 c7_ (zbnd n2) (show 0 ≤ Int32.toInt 0 ∧ Int32.toInt 0 ≤ 0 from (by decide)) (by decide)
      have b11_ : 0 ≤ Int32.toInt (M.1 8 1) ∧ Int32.toInt (M.1 8 1) ≤ 7 := pvok_r hok 8 1 rfl
      by_cases c12_ : (M.1 8 1) ≤ n2
      · refine pw_eqI (if_pos c12_) ?_
        have d13_ : Int32.toInt (M.1 8 1) ≤ Int32.toInt n2 := (zi_le _ _).mp c12_
        show PW 168 d (18, [some (pvR 0), some (pvR 102), some (pvI n2), some (pvI n3)], [pvI 0], M) _
        refine pw_ifn hT (c := 0 = 0) rfl rfl (fun c14_ => absurd (by decide) c14_) (fun c14_ => ?_)
        refine pw_blk hT 1 (S' := (22, [some (pvR 0), some (pvR 102), some (pvI n2), some (pvI n3)], [pvI (-1)], M)) rfl ⟨trivial, trivial⟩ ?_
        exact pw_ret hT rfl (r := some (pvI (-1))) (M' := M) ⟨rfl, rfl⟩ ⟨⟨_, rfl, (zr_wide (show (-1) ≤ Int32.toInt (-1) ∧ Int32.toInt (-1) ≤ (-1) from (by decide)) (by decide) (by decide)), (by rw [if_neg c1_, if_neg c7_, if_pos c12_]; first | done | (rw [if_pos c12_]; done))⟩, hok, pvfr_0, (by rw [if_neg c1_, if_neg c7_, if_pos c12_]; first | done | exact rfl | (rw [if_pos c12_]; done) | (rw [if_pos c12_]; exact rfl))⟩
      · refine pw_eqI (if_neg c12_) ?_
        have b15_ : 1 ≤ Int32.toInt (M.1 8 1) ∧ Int32.toInt (M.1 8 1) ≤ 7 := zr_nle_l 1 c12_ b11_ b10_ (by decide)
        have b16_ : 0 ≤ Int32.toInt n2 ∧ Int32.toInt n2 ≤ 6 := zr_nle_r 6 c12_ b10_ b15_ (by decide)
        have d17_ : Int32.toInt (M.1 8 1) > Int32.toInt n2 := Int.not_le.mp ((not_congr (zi_le _ _)).mp c12_)
        show PW 168 d (18, [some (pvR 0), some (pvR 102), some (pvI n2), some (pvI n3)], [pvI 1], M) _
        refine pw_ifn hT (c := 1 = 0) rfl rfl (fun c18_ => ?_) (fun c18_ => absurd c18_ (by decide))
        refine pw_blk hT 3 (S' := (28, [some (pvR 0), some (pvR 102), some (pvI n2), some (pvI n3)], [pvI 9999, pvI 0, pvI n3], M)) rfl ⟨trivial, trivial, trivial, trivial⟩ ?_
        refine pw_callT hT (as := [pvI n3, pvI 0, pvI 9999]) (lo1 := [some (pvI n3), some (pvI 0), some (pvI 9999)]) (d1 := d) (rest := []) rfl rfl rfl rfl rfl (fun h => absurd h (by decide)) (Nat.zero_le _) rfl rfl rfl (sf_X9_within_x_x_x M hok n3 0 9999 d) ?_
        by_cases c24_ : n3 < 0
        · refine pw_eqI (if_pos c24_) ?_
          have b25_ : (-2147483648) ≤ Int32.toInt n3 ∧ Int32.toInt n3 ≤ (-1) := zr_lt_l (-1) c24_ (zbnd n3) (show 0 ≤ Int32.toInt 0 ∧ Int32.toInt 0 ≤ 0 from (by decide)) (by decide)
          show PW 168 d (31, [some (pvR 0), some (pvR 102), some (pvI n2), some (pvI n3)], [pvI 0], M) _
          refine pw_ifn hT (c := 0 = 0) rfl rfl (fun c26_ => absurd (by decide) c26_) (fun c26_ => ?_)
          refine pw_blk hT 1 (S' := (36, [some (pvR 0), some (pvR 102), some (pvI n2), some (pvI n3)], [pvI (-2)], M)) rfl ⟨trivial, trivial⟩ ?_
          exact pw_ret hT rfl (r := some (pvI (-2))) (M' := M) ⟨rfl, rfl⟩ ⟨⟨_, rfl, (zr_wide (show (-2) ≤ Int32.toInt (-2) ∧ Int32.toInt (-2) ≤ (-2) from (by decide)) (by decide) (by decide)), (by rw [if_neg c1_, if_neg c7_, if_neg c12_, if_pos c24_]; first | done | (rw [if_pos c24_]; done))⟩, hok, pvfr_0, (by rw [if_neg c1_, if_neg c7_, if_neg c12_, if_pos c24_]; first | done | exact rfl | (rw [if_pos c24_]; done) | (rw [if_pos c24_]; exact rfl))⟩
        · refine pw_eqI (if_neg c24_) ?_
          have b27_ : 0 ≤ Int32.toInt n3 ∧ Int32.toInt n3 ≤ 2147483647 := zr_nlt_l 0 c24_ (zbnd n3) (show 0 ≤ Int32.toInt 0 ∧ Int32.toInt 0 ≤ 0 from (by decide)) (by decide)
          by_cases c28_ : 9999 < n3
          · refine pw_eqI (if_pos c28_) ?_
            have b29_ : 10000 ≤ Int32.toInt n3 ∧ Int32.toInt n3 ≤ 2147483647 := zr_lt_r 10000 c28_ b27_ (show 9999 ≤ Int32.toInt 9999 ∧ Int32.toInt 9999 ≤ 9999 from (by decide)) (by decide)
            show PW 168 d (31, [some (pvR 0), some (pvR 102), some (pvI n2), some (pvI n3)], [pvI 0], M) _
            refine pw_ifn hT (c := 0 = 0) rfl rfl (fun c30_ => absurd (by decide) c30_) (fun c30_ => ?_)
            refine pw_blk hT 1 (S' := (36, [some (pvR 0), some (pvR 102), some (pvI n2), some (pvI n3)], [pvI (-2)], M)) rfl ⟨trivial, trivial⟩ ?_
            exact pw_ret hT rfl (r := some (pvI (-2))) (M' := M) ⟨rfl, rfl⟩ ⟨⟨_, rfl, (zr_wide (show (-2) ≤ Int32.toInt (-2) ∧ Int32.toInt (-2) ≤ (-2) from (by decide)) (by decide) (by decide)), (by rw [if_neg c1_, if_neg c7_, if_neg c12_, if_neg c24_, if_pos c28_]; first | done | (rw [if_pos c28_]; done))⟩, hok, pvfr_0, (by rw [if_neg c1_, if_neg c7_, if_neg c12_, if_neg c24_, if_pos c28_]; first | done | exact rfl | (rw [if_pos c28_]; done) | (rw [if_pos c28_]; exact rfl))⟩
          · refine pw_eqI (if_neg c28_) ?_
            have b31_ : 0 ≤ Int32.toInt n3 ∧ Int32.toInt n3 ≤ 9999 := zr_nlt_r 9999 c28_ b27_ (show 9999 ≤ Int32.toInt 9999 ∧ Int32.toInt 9999 ≤ 9999 from (by decide)) (by decide)
            show PW 168 d (31, [some (pvR 0), some (pvR 102), some (pvI n2), some (pvI n3)], [pvI 1], M) _
            refine pw_ifn hT (c := 1 = 0) rfl rfl (fun c32_ => ?_) (fun c32_ => absurd c32_ (by decide))
            refine pw_blk hT 1 (S' := (38, [some (pvR 0), some (pvR 102), some (pvI n2), some (pvI n3)], [pvR 102], M)) rfl ⟨trivial, trivial⟩ ?_
            refine pw_callT hT (as := [pvR 102]) (lo1 := [some (pvR 102)]) (d1 := d) (rest := []) rfl rfl rfl rfl rfl (fun _ => rfl) (Nat.zero_le _) rfl rfl rfl (sf_X6_isFull_102 M hok d) ?_
            have b38_ : 0 ≤ Int32.toInt (M.1 102 0) ∧ Int32.toInt (M.1 102 0) ≤ 6 := pvok_r hok 102 0 rfl
            by_cases c39_ : (M.1 102 0) < (Int32.ofNat 6)
            · refine pw_eqI (if_pos c39_) ?_
              have b40_ : 0 ≤ Int32.toInt (M.1 102 0) ∧ Int32.toInt (M.1 102 0) ≤ 5 := zr_lt_l 5 c39_ b38_ (show 6 ≤ Int32.toInt (Int32.ofNat 6) ∧ Int32.toInt (Int32.ofNat 6) ≤ 6 from (by decide)) (by decide)
              show PW 168 d (41, [some (pvR 0), some (pvR 102), some (pvI n2), some (pvI n3)], [pvI 0], M) _
              refine pw_if hT (c := 0 = 0) rfl rfl (fun c41_ => ?_) (fun c41_ => absurd (by decide) c41_)
              refine pw_blk hT 3 (S' := (50, [some (pvR 0), some (pvR 102), some (pvI n2), some (pvI n3)], [pvI n3, pvI n2, pvR 102], M)) rfl ⟨trivial, trivial, trivial, trivial⟩ ?_
              refine pw_callGd hT (as := [pvR 102, pvI n2, pvI n3]) (lo1 := [some (pvR 102), some (pvI n2), some (pvI n3)]) (d1 := d) (rest := []) rfl rfl rfl rfl rfl (fun _ => rfl) (Nat.zero_le _) rfl rfl rfl (se_X6_append_102_x_x M hok n2 n3 b16_ b31_ d) (fun x43_ M44_ b45_ o46_ g47_ d42_ => ?_)
              have f48_ : pvFr fp_eX9_appendTold_0_102_x_x M M44_ := pvfr_t g47_ pvfr_0 fp_eX9_appendTold_0_102_x_x_fp_eX6_append_102_x_x
              obtain ⟨b49_, d50_⟩ := b45_
              subst d50_
              exact pw_ret hT rfl (r := some (pvI (if (M.1 102 0) < (Int32.ofNat 6) then ((M.1 102 0) + 1) else (M.1 102 0)))) (M' := M44_) ⟨rfl, rfl⟩ ⟨⟨_, rfl, (zr_wide b49_ (by decide) (by decide)), (by rw [if_neg c1_, if_neg c7_, if_neg c12_, if_neg c24_, if_neg c28_, if_pos c39_]; first | done | (rw [if_pos c39_]; done))⟩, o46_, f48_, (by rw [if_neg c1_, if_neg c7_, if_neg c12_, if_neg c24_, if_neg c28_, if_pos c39_]; first | done | exact d42_ | (rw [if_pos c39_]; done) | (rw [if_pos c39_]; exact d42_))⟩
            · refine pw_eqI (if_neg c39_) ?_
              have b51_ : 6 ≤ Int32.toInt (M.1 102 0) ∧ Int32.toInt (M.1 102 0) ≤ 6 := zr_nlt_l 6 c39_ b38_ (show 6 ≤ Int32.toInt (Int32.ofNat 6) ∧ Int32.toInt (Int32.ofNat 6) ≤ 6 from (by decide)) (by decide)
              show PW 168 d (41, [some (pvR 0), some (pvR 102), some (pvI n2), some (pvI n3)], [pvI 1], M) _
              refine pw_if hT (c := 1 = 0) rfl rfl (fun c52_ => absurd c52_ (by decide)) (fun c52_ => ?_)
              refine pw_blk hT 1 (S' := (46, [some (pvR 0), some (pvR 102), some (pvI n2), some (pvI n3)], [pvI (-4)], M)) rfl ⟨trivial, trivial⟩ ?_
              exact pw_ret hT rfl (r := some (pvI (-4))) (M' := M) ⟨rfl, rfl⟩ ⟨⟨_, rfl, (zr_wide (show (-4) ≤ Int32.toInt (-4) ∧ Int32.toInt (-4) ≤ (-4) from (by decide)) (by decide) (by decide)), (by rw [if_neg c1_, if_neg c7_, if_neg c12_, if_neg c24_, if_neg c28_, if_neg c39_]; first | done | (rw [if_neg c39_]; done))⟩, hok, pvfr_0, (by rw [if_neg c1_, if_neg c7_, if_neg c12_, if_neg c24_, if_neg c28_, if_neg c39_]; first | done | exact rfl | (rw [if_neg c39_]; done) | (rw [if_neg c39_]; exact rfl))⟩
  · have b53_ : (-1) ≤ Int32.toInt n2 ∧ Int32.toInt n2 ≤ (-1) := (by have u0 := (zbnd n2); have u1 := (zi_eq _ _).mp c1_; have u2 := (show (-1) ≤ Int32.toInt (-1) ∧ Int32.toInt (-1) ≤ (-1) from (by decide)); omega)
    refine pw_blk hT 1 (S' := (6, [some (pvR 0), some (pvR 102), some (pvI n2), some (pvI n3)], [pvR 102], M)) rfl ⟨trivial, trivial⟩ ?_
    refine pw_callGd hT (as := [pvR 102]) (lo1 := [some (pvR 102)]) (d1 := d) (rest := []) rfl rfl rfl rfl rfl (fun _ => rfl) (Nat.zero_le _) rfl rfl rfl (se_X6_clear_102 M hok d) (fun x55_ M56_ b57_ o58_ g59_ d54_ => ?_)
    have f60_ : pvFr fp_eX9_appendTold_0_102_x_x M M56_ := pvfr_t g59_ pvfr_0 fp_eX9_appendTold_0_102_x_x_fp_eX6_clear_102
    obtain ⟨b61_, d62_⟩ := b57_
    subst d62_
    exact pw_ret hT rfl (r := some (pvI 0)) (M' := M56_) ⟨rfl, rfl⟩ ⟨⟨_, rfl, (zr_wide b61_ (by decide) (by decide)), (by rw [if_pos c1_]; first | done | (rw [if_pos c1_]; done))⟩, o58_, f60_, (by rw [if_pos c1_]; first | done | exact d54_ | (rw [if_pos c1_]; done) | (rw [if_pos c1_]; exact d54_))⟩
def fpL_eX9_see_0_x_x : List (Nat × Nat × Nat) := [(0, 102, 1), (0, 110, 0), (0, 118, 0)]
def fp_eX9_see_0_x_x (q k : Nat) : Bool := pvfp fpL_eX9_see_0_x_x q k
theorem fp_eX9_see_0_x_x_fp_eX9_appendTold_0_102_x_x (a b : Nat) (h : fp_eX9_appendTold_0_102_x_x a b = true) : fp_eX9_see_0_x_x a b = true := pvfp_sub (l1 := fpL_eX9_appendTold_0_102_x_x) (l2 := fpL_eX9_see_0_x_x) (by decide) a b h
set_option maxHeartbeats 4000000 in
set_option maxRecDepth 10000 in
theorem se_X9_see_0_x_x (M : pvM) (hok : pvOk M) (n1 : Int32) (n2 : Int32) (d : Nat) : PW 197 d (0, [some (pvR 0), some (pvI n1), some (pvI n2)], [], M) (fun r X => (∃ x : Int32, r = some (pvI x) ∧ ((-4) ≤ Int32.toInt x ∧ Int32.toInt x ≤ 6) ∧ x = (if n1 = (-1) then 0 else (if n1 < 0 then (-1) else (if (M.1 8 1) ≤ n1 then (-1) else (if n2 < 0 then (-2) else (if 9999 < n2 then (-2) else (if (M.1 102 0) < (Int32.ofNat 6) then (if (M.1 102 0) < (Int32.ofNat 6) then ((M.1 102 0) + 1) else (M.1 102 0)) else (-4)))))))) ∧ pvOk X ∧ pvFr fp_eX9_see_0_x_x M X ∧ X.1 102 0 = (if n1 = (-1) then 0 else (if n1 < 0 then (M.1 102 0) else (if (M.1 8 1) ≤ n1 then (M.1 102 0) else (if n2 < 0 then (M.1 102 0) else (if 9999 < n2 then (M.1 102 0) else (if (M.1 102 0) < (Int32.ofNat 6) then (if (M.1 102 0) < (Int32.ofNat 6) then ((M.1 102 0) + 1) else (M.1 102 0)) else (M.1 102 0)))))))) := by
  have hT : pvdom 197 = pvD_197 := rfl
  refine pw_blk hT 6 (S' := (10, [some (pvR 0), some (pvI n1), some (pvI n2)], [pvI n2, pvI n1, pvR 102, pvR 0], M)) rfl ⟨trivial, trivial, rfl, rfl, trivial, trivial, trivial⟩ ?_
  refine pw_callGd hT (as := [pvR 0, pvR 102, pvI n1, pvI n2]) (lo1 := [some (pvR 0), some (pvR 102), some (pvI n1), some (pvI n2)]) (d1 := d) (rest := []) rfl rfl rfl rfl rfl (fun _ => rfl) (Nat.zero_le _) rfl rfl rfl (se_X9_appendTold_0_102_x_x M hok n1 n2 d) (fun x2_ M3_ b4_ o5_ g6_ d1_ => ?_)
  have f7_ : pvFr fp_eX9_see_0_x_x M M3_ := pvfr_t g6_ pvfr_0 fp_eX9_see_0_x_x_fp_eX9_appendTold_0_102_x_x
  obtain ⟨b8_, d9_⟩ := b4_
  subst d9_
  exact pw_ret hT rfl (r := some (pvI (if n1 = (-1) then 0 else (if n1 < 0 then (-1) else (if (M.1 8 1) ≤ n1 then (-1) else (if n2 < 0 then (-2) else (if 9999 < n2 then (-2) else (if (M.1 102 0) < (Int32.ofNat 6) then (if (M.1 102 0) < (Int32.ofNat 6) then ((M.1 102 0) + 1) else (M.1 102 0)) else (-4))))))))) (M' := M3_) ⟨rfl, rfl⟩ ⟨⟨_, rfl, b8_, rfl⟩, o5_, f7_, d1_⟩
def fpL_eX9_storm_0_x_x : List (Nat × Nat × Nat) := [(0, 8, 3), (0, 8, 4)]
def fp_eX9_storm_0_x_x (q k : Nat) : Bool := pvfp fpL_eX9_storm_0_x_x q k
set_option maxHeartbeats 4000000 in
set_option maxRecDepth 10000 in
theorem se_X9_storm_0_x_x (M : pvM) (hok : pvOk M) (n1 : Int32) (n2 : Int32) (d : Nat) : PW 202 d (0, [some (pvR 0), some (pvI n1), some (pvI n2), none], [], M) (fun r X => (∃ x : Int32, r = some (pvI x) ∧ ((-2) ≤ Int32.toInt x ∧ Int32.toInt x ≤ 99) ∧ x = (if n2 < 0 then (-1) else (if 3 < n2 then (-1) else (if n1 < 0 then (-2) else (if 99 < n1 then (-2) else (M.1 8 2)))))) ∧ pvOk X ∧ pvFr fp_eX9_storm_0_x_x M X ∧ X.1 8 2 = (if n2 < 0 then (M.1 8 2) else (if 3 < n2 then (M.1 8 2) else (if n1 < 0 then (M.1 8 2) else (if 99 < n1 then (M.1 8 2) else n1)))) ∧ X.1 8 3 = (if n2 < 0 then (M.1 8 3) else (if 3 < n2 then (M.1 8 3) else (if n1 < 0 then (M.1 8 3) else (if 99 < n1 then (M.1 8 3) else n2))))) := by
  have hT : pvdom 202 = pvD_202 := rfl
  refine pw_blk hT 3 (S' := (3, [some (pvR 0), some (pvI n1), some (pvI n2), none], [pvI 3, pvI 0, pvI n2], M)) rfl ⟨trivial, trivial, trivial, trivial⟩ ?_
  refine pw_callT hT (as := [pvI n2, pvI 0, pvI 3]) (lo1 := [some (pvI n2), some (pvI 0), some (pvI 3)]) (d1 := d) (rest := []) rfl rfl rfl rfl rfl (fun h => absurd h (by decide)) (Nat.zero_le _) rfl rfl rfl (sf_X9_within_x_x_x M hok n2 0 3 d) ?_
  by_cases c6_ : n2 < 0
  · refine pw_eqI (if_pos c6_) ?_
    have b7_ : (-2147483648) ≤ Int32.toInt n2 ∧ Int32.toInt n2 ≤ (-1) := zr_lt_l (-1) c6_ (zbnd n2) (show 0 ≤ Int32.toInt 0 ∧ Int32.toInt 0 ≤ 0 from (by decide)) (by decide)
    show PW 202 d (6, [some (pvR 0), some (pvI n1), some (pvI n2), none], [pvI 0], M) _
    refine pw_ifn hT (c := 0 = 0) rfl rfl (fun c8_ => absurd (by decide) c8_) (fun c8_ => ?_)
    refine pw_blk hT 1 (S' := (10, [some (pvR 0), some (pvI n1), some (pvI n2), none], [pvI (-1)], M)) rfl ⟨trivial, trivial⟩ ?_
    exact pw_ret hT rfl (r := some (pvI (-1))) (M' := M) ⟨rfl, rfl⟩ ⟨⟨_, rfl, (zr_wide (show (-1) ≤ Int32.toInt (-1) ∧ Int32.toInt (-1) ≤ (-1) from (by decide)) (by decide) (by decide)), (by rw [if_pos c6_]; first | done | (rw [if_pos c6_]; done))⟩, hok, pvfr_0, (by rw [if_pos c6_]; first | done | exact rfl | (rw [if_pos c6_]; done) | (rw [if_pos c6_]; exact rfl)), (by rw [if_pos c6_]; first | done | exact rfl | (rw [if_pos c6_]; done) | (rw [if_pos c6_]; exact rfl))⟩
  · refine pw_eqI (if_neg c6_) ?_
    have b9_ : 0 ≤ Int32.toInt n2 ∧ Int32.toInt n2 ≤ 2147483647 := zr_nlt_l 0 c6_ (zbnd n2) (show 0 ≤ Int32.toInt 0 ∧ Int32.toInt 0 ≤ 0 from (by decide)) (by decide)
    by_cases c10_ : 3 < n2
    · refine pw_eqI (if_pos c10_) ?_
      have b11_ : 4 ≤ Int32.toInt n2 ∧ Int32.toInt n2 ≤ 2147483647 := zr_lt_r 4 c10_ b9_ (show 3 ≤ Int32.toInt 3 ∧ Int32.toInt 3 ≤ 3 from (by decide)) (by decide)
      show PW 202 d (6, [some (pvR 0), some (pvI n1), some (pvI n2), none], [pvI 0], M) _
      refine pw_ifn hT (c := 0 = 0) rfl rfl (fun c12_ => absurd (by decide) c12_) (fun c12_ => ?_)
      refine pw_blk hT 1 (S' := (10, [some (pvR 0), some (pvI n1), some (pvI n2), none], [pvI (-1)], M)) rfl ⟨trivial, trivial⟩ ?_
      exact pw_ret hT rfl (r := some (pvI (-1))) (M' := M) ⟨rfl, rfl⟩ ⟨⟨_, rfl, (zr_wide (show (-1) ≤ Int32.toInt (-1) ∧ Int32.toInt (-1) ≤ (-1) from (by decide)) (by decide) (by decide)), (by rw [if_neg c6_, if_pos c10_]; first | done | (rw [if_pos c10_]; done))⟩, hok, pvfr_0, (by rw [if_neg c6_, if_pos c10_]; first | done | exact rfl | (rw [if_pos c10_]; done) | (rw [if_pos c10_]; exact rfl)), (by rw [if_neg c6_, if_pos c10_]; first | done | exact rfl | (rw [if_pos c10_]; done) | (rw [if_pos c10_]; exact rfl))⟩
    · refine pw_eqI (if_neg c10_) ?_
      have b13_ : 0 ≤ Int32.toInt n2 ∧ Int32.toInt n2 ≤ 3 := zr_nlt_r 3 c10_ b9_ (show 3 ≤ Int32.toInt 3 ∧ Int32.toInt 3 ≤ 3 from (by decide)) (by decide)
      show PW 202 d (6, [some (pvR 0), some (pvI n1), some (pvI n2), none], [pvI 1], M) _
      refine pw_ifn hT (c := 1 = 0) rfl rfl (fun c14_ => ?_) (fun c14_ => absurd c14_ (by decide))
      refine pw_blk hT 3 (S' := (15, [some (pvR 0), some (pvI n1), some (pvI n2), none], [pvI 99, pvI 0, pvI n1], M)) rfl ⟨trivial, trivial, trivial, trivial⟩ ?_
      refine pw_callT hT (as := [pvI n1, pvI 0, pvI 99]) (lo1 := [some (pvI n1), some (pvI 0), some (pvI 99)]) (d1 := d) (rest := []) rfl rfl rfl rfl rfl (fun h => absurd h (by decide)) (Nat.zero_le _) rfl rfl rfl (sf_X9_within_x_x_x M hok n1 0 99 d) ?_
      by_cases c20_ : n1 < 0
      · refine pw_eqI (if_pos c20_) ?_
        have b21_ : (-2147483648) ≤ Int32.toInt n1 ∧ Int32.toInt n1 ≤ (-1) := zr_lt_l (-1) c20_ (zbnd n1) (show 0 ≤ Int32.toInt 0 ∧ Int32.toInt 0 ≤ 0 from (by decide)) (by decide)
        show PW 202 d (18, [some (pvR 0), some (pvI n1), some (pvI n2), none], [pvI 0], M) _
        refine pw_ifn hT (c := 0 = 0) rfl rfl (fun c22_ => absurd (by decide) c22_) (fun c22_ => ?_)
        refine pw_blk hT 1 (S' := (23, [some (pvR 0), some (pvI n1), some (pvI n2), none], [pvI (-2)], M)) rfl ⟨trivial, trivial⟩ ?_
        exact pw_ret hT rfl (r := some (pvI (-2))) (M' := M) ⟨rfl, rfl⟩ ⟨⟨_, rfl, (zr_wide (show (-2) ≤ Int32.toInt (-2) ∧ Int32.toInt (-2) ≤ (-2) from (by decide)) (by decide) (by decide)), (by rw [if_neg c6_, if_neg c10_, if_pos c20_]; first | done | (rw [if_pos c20_]; done))⟩, hok, pvfr_0, (by rw [if_neg c6_, if_neg c10_, if_pos c20_]; first | done | exact rfl | (rw [if_pos c20_]; done) | (rw [if_pos c20_]; exact rfl)), (by rw [if_neg c6_, if_neg c10_, if_pos c20_]; first | done | exact rfl | (rw [if_pos c20_]; done) | (rw [if_pos c20_]; exact rfl))⟩
      · refine pw_eqI (if_neg c20_) ?_
        have b23_ : 0 ≤ Int32.toInt n1 ∧ Int32.toInt n1 ≤ 2147483647 := zr_nlt_l 0 c20_ (zbnd n1) (show 0 ≤ Int32.toInt 0 ∧ Int32.toInt 0 ≤ 0 from (by decide)) (by decide)
        by_cases c24_ : 99 < n1
        · refine pw_eqI (if_pos c24_) ?_
          have b25_ : 100 ≤ Int32.toInt n1 ∧ Int32.toInt n1 ≤ 2147483647 := zr_lt_r 100 c24_ b23_ (show 99 ≤ Int32.toInt 99 ∧ Int32.toInt 99 ≤ 99 from (by decide)) (by decide)
          show PW 202 d (18, [some (pvR 0), some (pvI n1), some (pvI n2), none], [pvI 0], M) _
          refine pw_ifn hT (c := 0 = 0) rfl rfl (fun c26_ => absurd (by decide) c26_) (fun c26_ => ?_)
          refine pw_blk hT 1 (S' := (23, [some (pvR 0), some (pvI n1), some (pvI n2), none], [pvI (-2)], M)) rfl ⟨trivial, trivial⟩ ?_
          exact pw_ret hT rfl (r := some (pvI (-2))) (M' := M) ⟨rfl, rfl⟩ ⟨⟨_, rfl, (zr_wide (show (-2) ≤ Int32.toInt (-2) ∧ Int32.toInt (-2) ≤ (-2) from (by decide)) (by decide) (by decide)), (by rw [if_neg c6_, if_neg c10_, if_neg c20_, if_pos c24_]; first | done | (rw [if_pos c24_]; done))⟩, hok, pvfr_0, (by rw [if_neg c6_, if_neg c10_, if_neg c20_, if_pos c24_]; first | done | exact rfl | (rw [if_pos c24_]; done) | (rw [if_pos c24_]; exact rfl)), (by rw [if_neg c6_, if_neg c10_, if_neg c20_, if_pos c24_]; first | done | exact rfl | (rw [if_pos c24_]; done) | (rw [if_pos c24_]; exact rfl))⟩
        · refine pw_eqI (if_neg c24_) ?_
          have b27_ : 0 ≤ Int32.toInt n1 ∧ Int32.toInt n1 ≤ 99 := zr_nlt_r 99 c24_ b23_ (show 99 ≤ Int32.toInt 99 ∧ Int32.toInt 99 ≤ 99 from (by decide)) (by decide)
          show PW 202 d (18, [some (pvR 0), some (pvI n1), some (pvI n2), none], [pvI 1], M) _
          refine pw_ifn hT (c := 1 = 0) rfl rfl (fun c28_ => ?_) (fun c28_ => absurd c28_ (by decide))
          have b29_ : 0 ≤ Int32.toInt (M.1 8 2) ∧ Int32.toInt (M.1 8 2) ≤ 99 := pvok_r hok 8 2 rfl
          refine pw_blkw hT 8 (pc := 40) (lo := [some (pvR 0), some (pvI n1), some (pvI n2), some (pvI (M.1 8 2))]) (st := []) (M := pvu M 8 2 n1) rfl ⟨trivial, rfl, rfl, trivial, trivial, rfl, trivial, rfl, trivial⟩ (fun M30_ e31_ => ?_)
          have o32_ : pvOk M30_ := pvok_u2 e31_ hok rfl b27_
          have f33_ : pvFr fp_eX9_storm_0_x_x M M30_ := pvfr_u e31_ pvfr_0 rfl
          refine pw_blkw hT 4 (pc := 48) (lo := [some (pvR 0), some (pvI n1), some (pvI n2), some (pvI (M.1 8 2))]) (st := []) (M := pvu M30_ 8 3 n2) rfl ⟨trivial, rfl, trivial, rfl, trivial⟩ (fun M34_ e35_ => ?_)
          have o36_ : pvOk M34_ := pvok_u2 e35_ o32_ rfl b13_
          have f37_ : pvFr fp_eX9_storm_0_x_x M M34_ := pvfr_u e35_ f33_ rfl
          refine pw_blk hT 1 (S' := (49, [some (pvR 0), some (pvI n1), some (pvI n2), some (pvI (M.1 8 2))], [pvI (M.1 8 2)], M34_)) rfl ⟨trivial, trivial⟩ ?_
          exact pw_ret hT rfl (r := some (pvI (M.1 8 2))) (M' := M34_) ⟨rfl, rfl⟩ ⟨⟨_, rfl, (zr_wide b29_ (by decide) (by decide)), (by rw [if_neg c6_, if_neg c10_, if_neg c20_, if_neg c24_]; first | done | (rw [if_neg c24_]; done))⟩, o36_, f37_, (by rw [if_neg c6_, if_neg c10_, if_neg c20_, if_neg c24_]; first | done | exact ((pvu_n e35_ 8 2 (Or.inr (by decide))).trans (pvu_s e31_)) | (rw [if_neg c24_]; done) | (rw [if_neg c24_]; exact ((pvu_n e35_ 8 2 (Or.inr (by decide))).trans (pvu_s e31_)))), (by rw [if_neg c6_, if_neg c10_, if_neg c20_, if_neg c24_]; first | done | exact (pvu_s e35_) | (rw [if_neg c24_]; done) | (rw [if_neg c24_]; exact (pvu_s e35_)))⟩
def fpL_eX9_tape_0_x_x_x : List (Nat × Nat × Nat) := [(1, 7, 1), (1, 7, 2)]
def fp_eX9_tape_0_x_x_x (q k : Nat) : Bool := pvfp fpL_eX9_tape_0_x_x_x q k
theorem fp_eX9_tape_0_x_x_x_fp_X8_become_x_x_x (a b : Nat) (h : fp_X8_become_x_x_x a b = true) : fp_eX9_tape_0_x_x_x a b = true := pvfp_sub (l1 := fpL_X8_become_x_x_x) (l2 := fpL_eX9_tape_0_x_x_x) (by decide) a b h
set_option maxHeartbeats 4000000 in
set_option maxRecDepth 10000 in
theorem se_X9_tape_0_x_x_x (M : pvM) (hok : pvOk M) (n1 : Int32) (n2 : Int32) (n3 : Int32) (d : Nat) : PW 204 d (0, [some (pvR 0), some (pvI n1), some (pvI n2), some (pvI n3)], [], M) (fun r X => (∃ x : Int32, r = some (pvI x) ∧ ((-14) ≤ Int32.toInt x ∧ Int32.toInt x ≤ 1) ∧ x = (if n1 < 0 then (-1) else (if 5 < n1 then (-1) else (if n2 = (-1) then 1 else (if n2 < 0 then (-2) else (if 4 < n2 then (-2) else (if n3 ≤ 60 then (if 0 ≤ n3 then 1 else (-14)) else (-2)))))))) ∧ pvOk X ∧ pvFr fp_eX9_tape_0_x_x_x M X) := by
  have hT : pvdom 204 = pvD_204 := rfl
  refine pw_blk hT 1 (S' := (1, [some (pvR 0), some (pvI n1), some (pvI n2), some (pvI n3)], [pvI n1], M)) rfl ⟨trivial, trivial⟩ ?_
  refine pw_callT hT (as := [pvI n1]) (lo1 := [some (pvI n1)]) (d1 := d) (rest := []) rfl rfl rfl rfl rfl (fun h => absurd h (by decide)) (Nat.zero_le _) rfl rfl rfl (sf_X9_isTape_x M hok n1 d) ?_
  by_cases c6_ : n1 < 0
  · refine pw_eqI (if_pos c6_) ?_
    have b7_ : (-2147483648) ≤ Int32.toInt n1 ∧ Int32.toInt n1 ≤ (-1) := zr_lt_l (-1) c6_ (zbnd n1) (show 0 ≤ Int32.toInt 0 ∧ Int32.toInt 0 ≤ 0 from (by decide)) (by decide)
    show PW 204 d (4, [some (pvR 0), some (pvI n1), some (pvI n2), some (pvI n3)], [pvI 0], M) _
    refine pw_ifn hT (c := 0 = 0) rfl rfl (fun c8_ => absurd (by decide) c8_) (fun c8_ => ?_)
    refine pw_blk hT 1 (S' := (8, [some (pvR 0), some (pvI n1), some (pvI n2), some (pvI n3)], [pvI (-1)], M)) rfl ⟨trivial, trivial⟩ ?_
    exact pw_ret hT rfl (r := some (pvI (-1))) (M' := M) ⟨rfl, rfl⟩ ⟨⟨_, rfl, (zr_wide (show (-1) ≤ Int32.toInt (-1) ∧ Int32.toInt (-1) ≤ (-1) from (by decide)) (by decide) (by decide)), (by rw [if_pos c6_]; first | done | (rw [if_pos c6_]; done))⟩, hok, pvfr_0⟩
  · refine pw_eqI (if_neg c6_) ?_
    have b9_ : 0 ≤ Int32.toInt n1 ∧ Int32.toInt n1 ≤ 2147483647 := zr_nlt_l 0 c6_ (zbnd n1) (show 0 ≤ Int32.toInt 0 ∧ Int32.toInt 0 ≤ 0 from (by decide)) (by decide)
    by_cases c10_ : 5 < n1
    · refine pw_eqI (if_pos c10_) ?_
      have b11_ : 6 ≤ Int32.toInt n1 ∧ Int32.toInt n1 ≤ 2147483647 := zr_lt_r 6 c10_ b9_ (show 5 ≤ Int32.toInt 5 ∧ Int32.toInt 5 ≤ 5 from (by decide)) (by decide)
      show PW 204 d (4, [some (pvR 0), some (pvI n1), some (pvI n2), some (pvI n3)], [pvI 0], M) _
      refine pw_ifn hT (c := 0 = 0) rfl rfl (fun c12_ => absurd (by decide) c12_) (fun c12_ => ?_)
      refine pw_blk hT 1 (S' := (8, [some (pvR 0), some (pvI n1), some (pvI n2), some (pvI n3)], [pvI (-1)], M)) rfl ⟨trivial, trivial⟩ ?_
      exact pw_ret hT rfl (r := some (pvI (-1))) (M' := M) ⟨rfl, rfl⟩ ⟨⟨_, rfl, (zr_wide (show (-1) ≤ Int32.toInt (-1) ∧ Int32.toInt (-1) ≤ (-1) from (by decide)) (by decide) (by decide)), (by rw [if_neg c6_, if_pos c10_]; first | done | (rw [if_pos c10_]; done))⟩, hok, pvfr_0⟩
    · refine pw_eqI (if_neg c10_) ?_
      have b13_ : 0 ≤ Int32.toInt n1 ∧ Int32.toInt n1 ≤ 5 := zr_nlt_r 5 c10_ b9_ (show 5 ≤ Int32.toInt 5 ∧ Int32.toInt 5 ≤ 5 from (by decide)) (by decide)
      show PW 204 d (4, [some (pvR 0), some (pvI n1), some (pvI n2), some (pvI n3)], [pvI 1], M) _
      refine pw_ifn hT (c := 1 = 0) rfl rfl (fun c14_ => ?_) (fun c14_ => absurd c14_ (by decide))
      refine pw_blk hT 2 (S' := (11, [some (pvR 0), some (pvI n1), some (pvI n2), some (pvI n3)], [pvI (-1), pvI n2], M)) rfl ⟨trivial, trivial, trivial⟩ ?_
      refine pw_icn hT (c := n2 = (-1)) rfl rfl (fun c15_ => ?_) (fun c15_ => ?_)
      · refine pw_blk hT 3 (S' := (30, [some (pvR 0), some (pvI n1), some (pvI n2), some (pvI n3)], [pvI 4, pvI 0, pvI n2], M)) rfl ⟨trivial, trivial, trivial, trivial⟩ ?_
        refine pw_callT hT (as := [pvI n2, pvI 0, pvI 4]) (lo1 := [some (pvI n2), some (pvI 0), some (pvI 4)]) (d1 := d) (rest := []) rfl rfl rfl rfl rfl (fun h => absurd h (by decide)) (Nat.zero_le _) rfl rfl rfl (sf_X9_within_x_x_x M hok n2 0 4 d) ?_
        by_cases c21_ : n2 < 0
        · refine pw_eqI (if_pos c21_) ?_
          have b22_ : (-2147483648) ≤ Int32.toInt n2 ∧ Int32.toInt n2 ≤ (-2) := (by have u0 := (zbnd n2); have u9 := (show _ ∧ _ from ⟨(zi_lt _ _).mp c21_, (show 0 ≤ Int32.toInt 0 ∧ Int32.toInt 0 ≤ 0 from (by decide))⟩); have v1 := (not_congr (zi_eq _ _)).mp c15_; have w1 : ((-1) : Int32).toInt = -1 := (by decide); omega)
          show PW 204 d (33, [some (pvR 0), some (pvI n1), some (pvI n2), some (pvI n3)], [pvI 0], M) _
          refine pw_if hT (c := 0 = 0) rfl rfl (fun c23_ => ?_) (fun c23_ => absurd (by decide) c23_)
          refine pw_blk hT 1 (S' := (44, [some (pvR 0), some (pvI n1), some (pvI n2), some (pvI n3)], [pvI (-2)], M)) rfl ⟨trivial, trivial⟩ ?_
          exact pw_ret hT rfl (r := some (pvI (-2))) (M' := M) ⟨rfl, rfl⟩ ⟨⟨_, rfl, (zr_wide (show (-2) ≤ Int32.toInt (-2) ∧ Int32.toInt (-2) ≤ (-2) from (by decide)) (by decide) (by decide)), (by rw [if_neg c6_, if_neg c10_, if_neg c15_, if_pos c21_]; first | done | (rw [if_pos c21_]; done))⟩, hok, pvfr_0⟩
        · refine pw_eqI (if_neg c21_) ?_
          have b24_ : 0 ≤ Int32.toInt n2 ∧ Int32.toInt n2 ≤ 2147483647 := zr_nlt_l 0 c21_ (zbnd n2) (show 0 ≤ Int32.toInt 0 ∧ Int32.toInt 0 ≤ 0 from (by decide)) (by decide)
          by_cases c25_ : 4 < n2
          · refine pw_eqI (if_pos c25_) ?_
            have b26_ : 5 ≤ Int32.toInt n2 ∧ Int32.toInt n2 ≤ 2147483647 := zr_lt_r 5 c25_ b24_ (show 4 ≤ Int32.toInt 4 ∧ Int32.toInt 4 ≤ 4 from (by decide)) (by decide)
            show PW 204 d (33, [some (pvR 0), some (pvI n1), some (pvI n2), some (pvI n3)], [pvI 0], M) _
            refine pw_if hT (c := 0 = 0) rfl rfl (fun c27_ => ?_) (fun c27_ => absurd (by decide) c27_)
            refine pw_blk hT 1 (S' := (44, [some (pvR 0), some (pvI n1), some (pvI n2), some (pvI n3)], [pvI (-2)], M)) rfl ⟨trivial, trivial⟩ ?_
            exact pw_ret hT rfl (r := some (pvI (-2))) (M' := M) ⟨rfl, rfl⟩ ⟨⟨_, rfl, (zr_wide (show (-2) ≤ Int32.toInt (-2) ∧ Int32.toInt (-2) ≤ (-2) from (by decide)) (by decide) (by decide)), (by rw [if_neg c6_, if_neg c10_, if_neg c15_, if_neg c21_, if_pos c25_]; first | done | (rw [if_pos c25_]; done))⟩, hok, pvfr_0⟩
          · refine pw_eqI (if_neg c25_) ?_
            have b28_ : 0 ≤ Int32.toInt n2 ∧ Int32.toInt n2 ≤ 4 := zr_nlt_r 4 c25_ b24_ (show 4 ≤ Int32.toInt 4 ∧ Int32.toInt 4 ≤ 4 from (by decide)) (by decide)
            show PW 204 d (33, [some (pvR 0), some (pvI n1), some (pvI n2), some (pvI n3)], [pvI 1], M) _
            refine pw_if hT (c := 1 = 0) rfl rfl (fun c29_ => absurd c29_ (by decide)) (fun c29_ => ?_)
            refine pw_blk hT 2 (S' := (39, [some (pvR 0), some (pvI n1), some (pvI n2), some (pvI n3)], [pvI 60, pvI n3], M)) rfl ⟨trivial, trivial, trivial⟩ ?_
            refine pw_ic hT (c := n3 ≤ 60) rfl rfl (fun c30_ => ?_) (fun c30_ => ?_)
            · have b31_ : (-2147483648) ≤ Int32.toInt n3 ∧ Int32.toInt n3 ≤ 60 := zr_le_l 60 c30_ (zbnd n3) (show 60 ≤ Int32.toInt 60 ∧ Int32.toInt 60 ≤ 60 from (by decide)) (by decide)
              refine pw_blk hT 1 (S' := (46, [some (pvR 0), some (pvI n1), some (pvI n2), some (pvI n3)], [pvI n3], M)) rfl ⟨trivial, trivial⟩ ?_
              refine pw_if hT (c := 0 ≤ n3) rfl rfl (fun c32_ => ?_) (fun c32_ => ?_)
              · have b33_ : 0 ≤ Int32.toInt n3 ∧ Int32.toInt n3 ≤ 60 := zr_le_r 0 c32_ b31_ (show 0 ≤ Int32.toInt 0 ∧ Int32.toInt 0 ≤ 0 from (by decide)) (by decide)
                refine pw_blkr hT 4 (pc := 58) (lo := [some (pvR 0), some (pvI n1), some (pvI n2), some (pvI n3)]) (st := []) (M := M) (z := (pvbs 2 + Int32.toNatClampNeg n1)) rfl ⟨trivial, rfl, trivial, ⟨rfl, (zr_in (n := 6) b13_ (by decide) (by decide))⟩, trivial⟩ (fun q34_ e36_ => ?_)
                have k35_ : pvkl q34_ = 7 := pvel_2 (zr_in (n := 6) b13_ (by decide) (by decide)) e36_
                refine pw_blk hT 2 (S' := (60, [some (pvR 0), some (pvI n1), some (pvI n2), some (pvI n3)], [pvI n3, pvI n2, pvR q34_], M)) rfl ⟨trivial, trivial, trivial⟩ ?_
                refine pw_callV hT (as := [pvR q34_, pvI n2, pvI n3]) (lo1 := [some (pvR q34_), some (pvI n2), some (pvI n3), none]) (d1 := d) (rest := []) rfl rfl rfl rfl rfl (fun _ => k35_) (Nat.zero_le _) rfl rfl rfl (sf_X8_become_x_x_x M hok q34_ n2 n3 k35_ (zr_wide b28_ (by decide) (by decide)) d) (fun M38_ o40_ g41_ => ?_)
                have f42_ : pvFr fp_eX9_tape_0_x_x_x M M38_ := pvfr_t g41_ pvfr_0 fp_eX9_tape_0_x_x_x_fp_X8_become_x_x_x
                refine pw_blk hT 1 (S' := (64, [some (pvR 0), some (pvI n1), some (pvI n2), some (pvI n3)], [pvI 1], M38_)) rfl ⟨trivial, trivial⟩ ?_
                exact pw_ret hT rfl (r := some (pvI 1)) (M' := M38_) ⟨rfl, rfl⟩ ⟨⟨_, rfl, (zr_wide (show 1 ≤ Int32.toInt 1 ∧ Int32.toInt 1 ≤ 1 from (by decide)) (by decide) (by decide)), (by rw [if_neg c6_, if_neg c10_, if_neg c15_, if_neg c21_, if_neg c25_, if_pos c30_, if_pos c32_]; first | done | (rw [if_pos c32_]; done))⟩, o40_, f42_⟩
              · have b43_ : (-2147483648) ≤ Int32.toInt n3 ∧ Int32.toInt n3 ≤ (-1) := zr_nle_r (-1) c32_ b31_ (show 0 ≤ Int32.toInt 0 ∧ Int32.toInt 0 ≤ 0 from (by decide)) (by decide)
                refine pw_blk hT 1 (S' := (51, [some (pvR 0), some (pvI n1), some (pvI n2), some (pvI n3)], [pvI (-14)], M)) rfl ⟨trivial, trivial⟩ ?_
                exact pw_ret hT rfl (r := some (pvI (-14))) (M' := M) ⟨rfl, rfl⟩ ⟨⟨_, rfl, (zr_wide (show (-14) ≤ Int32.toInt (-14) ∧ Int32.toInt (-14) ≤ (-14) from (by decide)) (by decide) (by decide)), (by rw [if_neg c6_, if_neg c10_, if_neg c15_, if_neg c21_, if_neg c25_, if_pos c30_, if_neg c32_]; first | done | (rw [if_neg c32_]; done))⟩, hok, pvfr_0⟩
            · have b44_ : 61 ≤ Int32.toInt n3 ∧ Int32.toInt n3 ≤ 2147483647 := zr_nle_l 61 c30_ (zbnd n3) (show 60 ≤ Int32.toInt 60 ∧ Int32.toInt 60 ≤ 60 from (by decide)) (by decide)
              refine pw_blk hT 1 (S' := (44, [some (pvR 0), some (pvI n1), some (pvI n2), some (pvI n3)], [pvI (-2)], M)) rfl ⟨trivial, trivial⟩ ?_
              exact pw_ret hT rfl (r := some (pvI (-2))) (M' := M) ⟨rfl, rfl⟩ ⟨⟨_, rfl, (zr_wide (show (-2) ≤ Int32.toInt (-2) ∧ Int32.toInt (-2) ≤ (-2) from (by decide)) (by decide) (by decide)), (by rw [if_neg c6_, if_neg c10_, if_neg c15_, if_neg c21_, if_neg c25_, if_neg c30_]; first | done | (rw [if_neg c30_]; done))⟩, hok, pvfr_0⟩
      · have b45_ : (-1) ≤ Int32.toInt n2 ∧ Int32.toInt n2 ≤ (-1) := (by have u0 := (zbnd n2); have u1 := (zi_eq _ _).mp c15_; have u2 := (show (-1) ≤ Int32.toInt (-1) ∧ Int32.toInt (-1) ≤ (-1) from (by decide)); omega)
        refine pw_blkr hT 4 (pc := 20) (lo := [some (pvR 0), some (pvI n1), some (pvI n2), some (pvI n3)]) (st := []) (M := M) (z := (pvbs 2 + Int32.toNatClampNeg n1)) rfl ⟨trivial, rfl, trivial, ⟨rfl, (zr_in (n := 6) b13_ (by decide) (by decide))⟩, trivial⟩ (fun q46_ e48_ => ?_)
        have k47_ : pvkl q46_ = 7 := pvel_2 (zr_in (n := 6) b13_ (by decide) (by decide)) e48_
        refine pw_blk hT 2 (S' := (22, [some (pvR 0), some (pvI n1), some (pvI n2), some (pvI n3)], [pvI 0, pvI (-1), pvR q46_], M)) rfl ⟨trivial, trivial, trivial⟩ ?_
        refine pw_callV hT (as := [pvR q46_, pvI (-1), pvI 0]) (lo1 := [some (pvR q46_), some (pvI (-1)), some (pvI 0), none]) (d1 := d) (rest := []) rfl rfl rfl rfl rfl (fun _ => k47_) (Nat.zero_le _) rfl rfl rfl (sf_X8_become_x_x_x M hok q46_ (-1) 0 k47_ (zr_wide (show (-1) ≤ Int32.toInt (-1) ∧ Int32.toInt (-1) ≤ (-1) from (by decide)) (by decide) (by decide)) d) (fun M50_ o52_ g53_ => ?_)
        have f54_ : pvFr fp_eX9_tape_0_x_x_x M M50_ := pvfr_t g53_ pvfr_0 fp_eX9_tape_0_x_x_x_fp_X8_become_x_x_x
        refine pw_blk hT 1 (S' := (26, [some (pvR 0), some (pvI n1), some (pvI n2), some (pvI n3)], [pvI 1], M50_)) rfl ⟨trivial, trivial⟩ ?_
        exact pw_ret hT rfl (r := some (pvI 1)) (M' := M50_) ⟨rfl, rfl⟩ ⟨⟨_, rfl, (zr_wide (show 1 ≤ Int32.toInt 1 ∧ Int32.toInt 1 ≤ 1 from (by decide)) (by decide) (by decide)), (by rw [if_neg c6_, if_neg c10_, if_pos c15_]; first | done | (rw [if_pos c15_]; done))⟩, o52_, f54_⟩
def fpL_eX6_becomeAs_100_101 : List (Nat × Nat × Nat) := [(0, 100, 1), (0, 108, 0), (0, 116, 0)]
def fp_eX6_becomeAs_100_101 (q k : Nat) : Bool := pvfp fpL_eX6_becomeAs_100_101 q k
theorem fp_eX6_becomeAs_100_101_fp_eX6_append_100_x_x (a b : Nat) (h : fp_eX6_append_100_x_x a b = true) : fp_eX6_becomeAs_100_101 a b = true := pvfp_sub (l1 := fpL_eX6_append_100_x_x) (l2 := fpL_eX6_becomeAs_100_101) (by decide) a b h
theorem fp_eX6_becomeAs_100_101_fp_eX6_clear_100 (a b : Nat) (h : fp_eX6_clear_100 a b = true) : fp_eX6_becomeAs_100_101 a b = true := pvfp_sub (l1 := fpL_eX6_clear_100) (l2 := fpL_eX6_becomeAs_100_101) (by decide) a b h
set_option maxHeartbeats 4000000 in
set_option maxRecDepth 10000 in
theorem se_X6_becomeAs_100_101 (M : pvM) (hok : pvOk M) (d : Nat) : PW 152 d (0, [some (pvR 100), some (pvR 101), none], [], M) (fun r X => r = none ∧ pvOk X ∧ pvFr fp_eX6_becomeAs_100_101 M X ∧ X.1 100 0 = (M.1 101 0)) := by
  have hT : pvdom 152 = pvD_152 := rfl
  refine pw_blk hT 1 (S' := (1, [some (pvR 100), some (pvR 101), none], [pvR 100], M)) rfl ⟨trivial, trivial⟩ ?_
  refine pw_callGd hT (as := [pvR 100]) (lo1 := [some (pvR 100)]) (d1 := d) (rest := []) rfl rfl rfl rfl rfl (fun _ => rfl) (Nat.zero_le _) rfl rfl rfl (se_X6_clear_100 M hok d) (fun x2_ M3_ b4_ o5_ g6_ d1_ => ?_)
  have f7_ : pvFr fp_eX6_becomeAs_100_101 M M3_ := pvfr_t g6_ pvfr_0 fp_eX6_becomeAs_100_101_fp_eX6_clear_100
  obtain ⟨b8_, d9_⟩ := b4_
  subst d9_
  refine pw_blk hT 3 (S' := (7, [some (pvR 100), some (pvR 101), some (pvI 0)], [], M3_)) rfl ⟨trivial, trivial, trivial, trivial⟩ ?_
  have hlz90_ : ∀ (nz90_ : Nat) (i2z90_ : Int32) (Mz90_ : pvM), (pvOk Mz90_) → (pvFr fp_eX6_becomeAs_100_101 M Mz90_) → (0 ≤ Int32.toInt i2z90_ ∧ Int32.toInt i2z90_ ≤ 7) → (Mz90_.1 100 0 = i2z90_) → (Int32.toInt i2z90_ ≤ Int32.toInt (M.1 101 0)) → (zhide ((8 - Int32.toInt i2z90_).toNat < nz90_)) → PW 152 d (7, [some (pvR 100), some (pvR 101), some (pvI i2z90_)], [], Mz90_) (fun r X => r = none ∧ pvOk X ∧ pvFr fp_eX6_becomeAs_100_101 M X ∧ X.1 100 0 = (M.1 101 0)) := by
    intro nz90_
    induction nz90_ with
    | zero => intro i2z90_ Mz90_ oz90_ fz90_ h2z90_ j0z90_ j1z90_ hmz90_; exact absurd (zshow hmz90_) (Nat.not_lt_zero _)
    | succ nz90_ ihz90_ =>
      intro i2z90_ Mz90_ oz90_ fz90_ h2z90_ j0z90_ j1z90_ hmz90_
      have b91_ : 0 ≤ Int32.toInt (Mz90_.1 101 0) ∧ Int32.toInt (Mz90_.1 101 0) ≤ 7 := pvok_r oz90_ 101 0 rfl
      refine pw_blk hT 3 (S' := (12, [some (pvR 100), some (pvR 101), some (pvI i2z90_)], [pvI (Mz90_.1 101 0), pvI i2z90_], Mz90_)) rfl ⟨trivial, trivial, rfl, trivial⟩ ?_
      refine pw_ic hT (c := (Mz90_.1 101 0) ≤ i2z90_) rfl rfl (fun c92_ => ?_) (fun c92_ => ?_)
      · have d93_ : Int32.toInt (Mz90_.1 101 0) ≤ Int32.toInt i2z90_ := (zi_le _ _).mp c92_
        exact pw_ret hT rfl (r := none) (M' := Mz90_) ⟨rfl, rfl⟩ ⟨rfl, oz90_, fz90_, (Int32.toInt_inj.mp (by have z3 : Mz90_.1 101 0 = M.1 101 0 := fz90_ 101 0 rfl; have z4 := congrArg Int32.toInt z3; have z5 := congrArg Int32.toInt j0z90_; omega))⟩
      · have b94_ : 1 ≤ Int32.toInt (Mz90_.1 101 0) ∧ Int32.toInt (Mz90_.1 101 0) ≤ 7 := zr_nle_l 1 c92_ b91_ h2z90_ (by decide)
        have b95_ : 0 ≤ Int32.toInt i2z90_ ∧ Int32.toInt i2z90_ ≤ 6 := zr_nle_r 6 c92_ h2z90_ b94_ (by decide)
        have d96_ : Int32.toInt (Mz90_.1 101 0) > Int32.toInt i2z90_ := Int.not_le.mp ((not_congr (zi_le _ _)).mp c92_)
        have b97_ : 0 ≤ Int32.toInt (Mz90_.1 109 (Int32.toNatClampNeg i2z90_)) ∧ Int32.toInt (Mz90_.1 109 (Int32.toNatClampNeg i2z90_)) ≤ 6 := pvok_r oz90_ 109 (Int32.toNatClampNeg i2z90_) rfl
        have b98_ : 0 ≤ Int32.toInt (Mz90_.1 117 (Int32.toNatClampNeg i2z90_)) ∧ Int32.toInt (Mz90_.1 117 (Int32.toNatClampNeg i2z90_)) ≤ 9999 := pvok_r oz90_ 117 (Int32.toNatClampNeg i2z90_) rfl
        refine pw_blk hT 9 (S' := (28, [some (pvR 100), some (pvR 101), some (pvI i2z90_)], [pvI (Mz90_.1 117 (Int32.toNatClampNeg i2z90_)), pvI (Mz90_.1 109 (Int32.toNatClampNeg i2z90_)), pvR 100], Mz90_)) rfl ⟨trivial, trivial, rfl, trivial, ⟨rfl, (zr_in (n := 7) b95_ (by decide) (by decide))⟩, trivial, rfl, trivial, ⟨rfl, (zr_in (n := 7) b95_ (by decide) (by decide))⟩, trivial⟩ ?_
        refine pw_callGd hT (as := [pvR 100, pvI (Mz90_.1 109 (Int32.toNatClampNeg i2z90_)), pvI (Mz90_.1 117 (Int32.toNatClampNeg i2z90_))]) (lo1 := [some (pvR 100), some (pvI (Mz90_.1 109 (Int32.toNatClampNeg i2z90_))), some (pvI (Mz90_.1 117 (Int32.toNatClampNeg i2z90_)))]) (d1 := d) (rest := []) rfl rfl rfl rfl rfl (fun _ => rfl) (Nat.zero_le _) rfl rfl rfl (se_X6_append_100_x_x Mz90_ oz90_ (Mz90_.1 109 (Int32.toNatClampNeg i2z90_)) (Mz90_.1 117 (Int32.toNatClampNeg i2z90_)) b97_ b98_ d) (fun x100_ M101_ b102_ o103_ g104_ d99_ => ?_)
        have f105_ : pvFr fp_eX6_becomeAs_100_101 M M101_ := pvfr_t g104_ fz90_ fp_eX6_becomeAs_100_101_fp_eX6_append_100_x_x
        obtain ⟨b106_, d107_⟩ := b102_
        subst d107_
        obtain ⟨q109_, b108_⟩ : (Int32.toInt (i2z90_ + 1) = Int32.toInt i2z90_ + 1) ∧ (1 ≤ Int32.toInt (i2z90_ + 1) ∧ Int32.toInt (i2z90_ + 1) ≤ 7) := zadd_k i2z90_ 1 1 1 7 b95_ (by decide) (by decide) (by decide) (by decide) (by decide)
        refine pw_blk hT 3 (S' := (7, [some (pvR 100), some (pvR 101), some (pvI (i2z90_ + 1))], [], M101_)) rfl ⟨trivial, trivial, trivial, trivial⟩ ?_
        have j110_ : M101_.1 100 0 = (i2z90_ + 1) := (by have z1 : Int32.toInt (Int32.ofNat 7) = 7 := (by decide); have z2 := pvok_r oz90_ 101 0 rfl; have z3 : Mz90_.1 101 0 = M.1 101 0 := fz90_ 101 0 rfl; have z4 := congrArg Int32.toInt z3; rw [d99_, j0z90_, if_pos ((zi_lt _ _).mpr (by omega))])
        have j111_ : Int32.toInt (i2z90_ + 1) ≤ Int32.toInt (M.1 101 0) := (by have z3 : Mz90_.1 101 0 = M.1 101 0 := fz90_ 101 0 rfl; have z4 := congrArg Int32.toInt z3; omega)
        exact ihz90_ (i2z90_ + 1) M101_ o103_ f105_ (zr_wide b108_ (by decide) (by decide)) j110_ j111_ (zhid (pvms_up (zshow hmz90_) h2z90_ q109_ (by decide) (by decide)))
  have u112_ : Int32.toInt 0 = 0 := by decide
  have j113_ : M3_.1 100 0 = 0 := d1_
  have j114_ : Int32.toInt 0 ≤ Int32.toInt (M.1 101 0) := (by have z := pvok_r hok 101 0 rfl; have u : Int32.toInt 0 = 0 := (by decide); omega)
  exact hlz90_ _ 0 M3_ o5_ f7_ (zr_wide (show 0 ≤ Int32.toInt 0 ∧ Int32.toInt 0 ≤ 0 from (by decide)) (by decide) (by decide)) j113_ j114_ (zhid (Nat.lt_succ_self _))
