def fpL_X9_act_0_x_x_x : List (Nat × Nat × Nat) := [(0, 3, 2), (0, 3, 3), (0, 3, 4), (0, 3, 5), (0, 4, 0)]
def fp_X9_act_0_x_x_x (q k : Nat) : Bool := pvfp fpL_X9_act_0_x_x_x q k
theorem fp_X9_act_0_x_x_x_fp_X0_perform_3_x_x_x_x (a b : Nat) (h : fp_X0_perform_3_x_x_x_x a b = true) : fp_X9_act_0_x_x_x a b = true := pvfp_sub (l1 := fpL_X0_perform_3_x_x_x_x) (l2 := fpL_X9_act_0_x_x_x) (by decide) a b h
set_option maxHeartbeats 4000000 in
set_option maxRecDepth 10000 in
theorem sf_X9_act_0_x_x_x (M : pvM) (hok : pvOk M) (n1 : Int32) (n2 : Int32) (n3 : Int32) (d : Nat) (hd : 5 ≤ d) : PW 166 d (0, [some (pvR 0), some (pvI n1), some (pvI n2), some (pvI n3)], [], M) (fun r X => (∃ x : Int32, r = some (pvI x) ∧ True) ∧ pvOk X ∧ pvFr fp_X9_act_0_x_x_x M X) := by
  have hT : pvdom 166 = pvD_166 := rfl
  refine pw_blkw hT 4 (pc := 8) (lo := [some (pvR 0), some (pvI n1), some (pvI n2), some (pvI n3)]) (st := []) (M := pvu M 3 1 0) rfl ⟨trivial, rfl, trivial, rfl, trivial⟩ (fun M1_ e2_ => ?_)
  have o3_ : pvOk M1_ := pvok_u2 e2_ hok rfl (zr_wide (show 0 ≤ Int32.toInt 0 ∧ Int32.toInt 0 ≤ 0 from (by decide)) (by decide) (by decide))
  have f4_ : pvFr fp_X9_act_0_x_x_x M M1_ := pvfr_u e2_ pvfr_0 rfl
  refine pw_blk hT 3 (S' := (13, [some (pvR 0), some (pvI n1), some (pvI n2), some (pvI n3)], [pvI n1, pvR 8], M1_)) rfl ⟨trivial, rfl, trivial, trivial⟩ ?_
  refine pw_callT hT (as := [pvR 8, pvI n1]) (lo1 := [some (pvR 8), some (pvI n1)]) (d1 := d) (rest := []) rfl rfl rfl rfl rfl (fun _ => rfl) (Nat.zero_le _) rfl rfl rfl (sf_X7_has_8_x M1_ o3_ n1 d) ?_
  by_cases c10_ : n1 < 0
  · refine pw_eqI (if_pos c10_) ?_
    have b11_ : (-2147483648) ≤ Int32.toInt n1 ∧ Int32.toInt n1 ≤ (-1) := zr_lt_l (-1) c10_ (zbnd n1) (show 0 ≤ Int32.toInt 0 ∧ Int32.toInt 0 ≤ 0 from (by decide)) (by decide)
    show PW 166 d (16, [some (pvR 0), some (pvI n1), some (pvI n2), some (pvI n3)], [pvI 0], M1_) _
    refine pw_if hT (c := 0 = 0) rfl rfl (fun c12_ => ?_) (fun c12_ => absurd (by decide) c12_)
    refine pw_blk hT 1 (S' := (29, [some (pvR 0), some (pvI n1), some (pvI n2), some (pvI n3)], [pvI 0], M1_)) rfl ⟨trivial, trivial⟩ ?_
    exact pw_ret hT rfl (r := some (pvI 0)) (M' := M1_) ⟨rfl, rfl⟩ ⟨⟨_, rfl, trivial⟩, o3_, f4_⟩
  · refine pw_eqI (if_neg c10_) ?_
    have b13_ : 0 ≤ Int32.toInt n1 ∧ Int32.toInt n1 ≤ 2147483647 := zr_nlt_l 0 c10_ (zbnd n1) (show 0 ≤ Int32.toInt 0 ∧ Int32.toInt 0 ≤ 0 from (by decide)) (by decide)
    have b14_ : 0 ≤ Int32.toInt (M1_.1 8 1) ∧ Int32.toInt (M1_.1 8 1) ≤ 7 := pvok_r o3_ 8 1 rfl
    by_cases c15_ : (M1_.1 8 1) ≤ n1
    · refine pw_eqI (if_pos c15_) ?_
      have d16_ : Int32.toInt (M1_.1 8 1) ≤ Int32.toInt n1 := (zi_le _ _).mp c15_
      show PW 166 d (16, [some (pvR 0), some (pvI n1), some (pvI n2), some (pvI n3)], [pvI 0], M1_) _
      refine pw_if hT (c := 0 = 0) rfl rfl (fun c17_ => ?_) (fun c17_ => absurd (by decide) c17_)
      refine pw_blk hT 1 (S' := (29, [some (pvR 0), some (pvI n1), some (pvI n2), some (pvI n3)], [pvI 0], M1_)) rfl ⟨trivial, trivial⟩ ?_
      exact pw_ret hT rfl (r := some (pvI 0)) (M' := M1_) ⟨rfl, rfl⟩ ⟨⟨_, rfl, trivial⟩, o3_, f4_⟩
    · refine pw_eqI (if_neg c15_) ?_
      have b18_ : 1 ≤ Int32.toInt (M1_.1 8 1) ∧ Int32.toInt (M1_.1 8 1) ≤ 7 := zr_nle_l 1 c15_ b14_ b13_ (by decide)
      have b19_ : 0 ≤ Int32.toInt n1 ∧ Int32.toInt n1 ≤ 6 := zr_nle_r 6 c15_ b13_ b18_ (by decide)
      have d20_ : Int32.toInt (M1_.1 8 1) > Int32.toInt n1 := Int.not_le.mp ((not_congr (zi_le _ _)).mp c15_)
      show PW 166 d (16, [some (pvR 0), some (pvI n1), some (pvI n2), some (pvI n3)], [pvI 1], M1_) _
      refine pw_if hT (c := 1 = 0) rfl rfl (fun c21_ => absurd c21_ (by decide)) (fun c21_ => ?_)
      refine pw_blk hT 3 (S' := (22, [some (pvR 0), some (pvI n1), some (pvI n2), some (pvI n3)], [pvI 2, pvI 0, pvI n2], M1_)) rfl ⟨trivial, trivial, trivial, trivial⟩ ?_
      refine pw_callT hT (as := [pvI n2, pvI 0, pvI 2]) (lo1 := [some (pvI n2), some (pvI 0), some (pvI 2)]) (d1 := d) (rest := []) rfl rfl rfl rfl rfl (fun h => absurd h (by decide)) (Nat.zero_le _) rfl rfl rfl (sf_X9_within_x_x_x M1_ o3_ n2 0 2 d) ?_
      by_cases c27_ : n2 < 0
      · refine pw_eqI (if_pos c27_) ?_
        have b28_ : (-2147483648) ≤ Int32.toInt n2 ∧ Int32.toInt n2 ≤ (-1) := zr_lt_l (-1) c27_ (zbnd n2) (show 0 ≤ Int32.toInt 0 ∧ Int32.toInt 0 ≤ 0 from (by decide)) (by decide)
        show PW 166 d (25, [some (pvR 0), some (pvI n1), some (pvI n2), some (pvI n3)], [pvI 0], M1_) _
        refine pw_ifn hT (c := 0 = 0) rfl rfl (fun c29_ => absurd (by decide) c29_) (fun c29_ => ?_)
        refine pw_blk hT 1 (S' := (29, [some (pvR 0), some (pvI n1), some (pvI n2), some (pvI n3)], [pvI 0], M1_)) rfl ⟨trivial, trivial⟩ ?_
        exact pw_ret hT rfl (r := some (pvI 0)) (M' := M1_) ⟨rfl, rfl⟩ ⟨⟨_, rfl, trivial⟩, o3_, f4_⟩
      · refine pw_eqI (if_neg c27_) ?_
        have b30_ : 0 ≤ Int32.toInt n2 ∧ Int32.toInt n2 ≤ 2147483647 := zr_nlt_l 0 c27_ (zbnd n2) (show 0 ≤ Int32.toInt 0 ∧ Int32.toInt 0 ≤ 0 from (by decide)) (by decide)
        by_cases c31_ : 2 < n2
        · refine pw_eqI (if_pos c31_) ?_
          have b32_ : 3 ≤ Int32.toInt n2 ∧ Int32.toInt n2 ≤ 2147483647 := zr_lt_r 3 c31_ b30_ (show 2 ≤ Int32.toInt 2 ∧ Int32.toInt 2 ≤ 2 from (by decide)) (by decide)
          show PW 166 d (25, [some (pvR 0), some (pvI n1), some (pvI n2), some (pvI n3)], [pvI 0], M1_) _
          refine pw_ifn hT (c := 0 = 0) rfl rfl (fun c33_ => absurd (by decide) c33_) (fun c33_ => ?_)
          refine pw_blk hT 1 (S' := (29, [some (pvR 0), some (pvI n1), some (pvI n2), some (pvI n3)], [pvI 0], M1_)) rfl ⟨trivial, trivial⟩ ?_
          exact pw_ret hT rfl (r := some (pvI 0)) (M' := M1_) ⟨rfl, rfl⟩ ⟨⟨_, rfl, trivial⟩, o3_, f4_⟩
        · refine pw_eqI (if_neg c31_) ?_
          have b34_ : 0 ≤ Int32.toInt n2 ∧ Int32.toInt n2 ≤ 2 := zr_nlt_r 2 c31_ b30_ (show 2 ≤ Int32.toInt 2 ∧ Int32.toInt 2 ≤ 2 from (by decide)) (by decide)
          show PW 166 d (25, [some (pvR 0), some (pvI n1), some (pvI n2), some (pvI n3)], [pvI 1], M1_) _
          refine pw_ifn hT (c := 1 = 0) rfl rfl (fun c35_ => ?_) (fun c35_ => absurd c35_ (by decide))
          refine pw_blkr hT 7 (pc := 43) (lo := [some (pvR 0), some (pvI n1), some (pvI n2), some (pvI n3)]) (st := [pvR 3]) (M := M1_) (z := (pvbs 10 + Int32.toNatClampNeg n1)) rfl ⟨trivial, rfl, trivial, rfl, rfl, trivial, ⟨rfl, (zr_in (n := 7) b19_ (by decide) (by decide))⟩, trivial⟩ (fun q36_ e38_ => ?_)
          have k37_ : pvkl q36_ = 3 := pvel_10 (zr_in (n := 7) b19_ (by decide) (by decide)) e38_
          refine pw_blk hT 3 (S' := (46, [some (pvR 0), some (pvI n1), some (pvI n2), some (pvI n3)], [pvI n3, pvI n2, pvI n1, pvR q36_, pvR 3], M1_)) rfl ⟨trivial, trivial, trivial, trivial⟩ ?_
          refine pw_callG hT (as := [pvR 3, pvR q36_, pvI n1, pvI n2, pvI n3]) (lo1 := [some (pvR 3), some (pvR q36_), some (pvI n1), some (pvI n2), some (pvI n3)]) (d1 := d) (rest := []) rfl rfl rfl rfl rfl (fun _ => rfl) (Nat.zero_le _) rfl rfl rfl (sf_X0_perform_3_x_x_x_x M1_ o3_ q36_ n1 n2 n3 k37_ b19_ b34_ d (Nat.le_trans (by decide) hd)) (fun x39_ M40_ b41_ o42_ g43_ => ?_)
          have f44_ : pvFr fp_X9_act_0_x_x_x M M40_ := pvfr_t g43_ f4_ fp_X9_act_0_x_x_x_fp_X0_perform_3_x_x_x_x
          exact pw_ret hT rfl (r := some (pvI x39_)) (M' := M40_) ⟨rfl, rfl⟩ ⟨⟨_, rfl, trivial⟩, o42_, f44_⟩
set_option maxHeartbeats 4000000 in
set_option maxRecDepth 10000 in
theorem sf_X6_names_100_x (M : pvM) (hok : pvOk M) (n1 : Int32) (d : Nat) : PW 155 d (0, [some (pvR 100), some (pvI n1), none], [], M) (fun r X => (∃ x : Int32, r = some (pvI x) ∧ 0 ≤ Int32.toInt x ∧ Int32.toInt x ≤ 1) ∧ X = M) := by
  have hT : pvdom 155 = pvD_155 := rfl
  refine pw_blk hT 2 (S' := (2, [some (pvR 100), some (pvI n1), some (pvI 0)], [], M)) rfl ⟨trivial, trivial, trivial⟩ ?_
  have hlz40_ : ∀ (nz40_ : Nat) (i2z40_ : Int32), (0 ≤ Int32.toInt i2z40_ ∧ Int32.toInt i2z40_ ≤ 7) → (zhide ((8 - Int32.toInt i2z40_).toNat < nz40_)) → PW 155 d (2, [some (pvR 100), some (pvI n1), some (pvI i2z40_)], [], M) (fun r X => (∃ x : Int32, r = some (pvI x) ∧ 0 ≤ Int32.toInt x ∧ Int32.toInt x ≤ 1) ∧ X = M) := by
    intro nz40_
    induction nz40_ with
    | zero => intro i2z40_ h2z40_ hmz40_; exact absurd (zshow hmz40_) (Nat.not_lt_zero _)
    | succ nz40_ ihz40_ =>
      intro i2z40_ h2z40_ hmz40_
      have b41_ : 0 ≤ Int32.toInt (M.1 100 0) ∧ Int32.toInt (M.1 100 0) ≤ 7 := pvok_r hok 100 0 rfl
      refine pw_blk hT 3 (S' := (7, [some (pvR 100), some (pvI n1), some (pvI i2z40_)], [pvI (M.1 100 0), pvI i2z40_], M)) rfl ⟨trivial, trivial, rfl, trivial⟩ ?_
      refine pw_ic hT (c := (M.1 100 0) ≤ i2z40_) rfl rfl (fun c42_ => ?_) (fun c42_ => ?_)
      · have d43_ : Int32.toInt (M.1 100 0) ≤ Int32.toInt i2z40_ := (zi_le _ _).mp c42_
        refine pw_blk hT 1 (S' := (29, [some (pvR 100), some (pvI n1), some (pvI i2z40_)], [pvI 0], M)) rfl ⟨trivial, trivial⟩ ?_
        exact pw_ret hT rfl (r := some (pvI 0)) (M' := M) ⟨Or.inl rfl, rfl, rfl⟩ ⟨⟨_, rfl, (zr_wide (show 0 ≤ Int32.toInt 0 ∧ Int32.toInt 0 ≤ 0 from (by decide)) (by decide) (by decide))⟩, rfl⟩
      · have b44_ : 1 ≤ Int32.toInt (M.1 100 0) ∧ Int32.toInt (M.1 100 0) ≤ 7 := zr_nle_l 1 c42_ b41_ h2z40_ (by decide)
        have b45_ : 0 ≤ Int32.toInt i2z40_ ∧ Int32.toInt i2z40_ ≤ 6 := zr_nle_r 6 c42_ h2z40_ b44_ (by decide)
        have d46_ : Int32.toInt (M.1 100 0) > Int32.toInt i2z40_ := Int.not_le.mp ((not_congr (zi_le _ _)).mp c42_)
        have b47_ : 0 ≤ Int32.toInt (M.1 108 (Int32.toNatClampNeg i2z40_)) ∧ Int32.toInt (M.1 108 (Int32.toNatClampNeg i2z40_)) ≤ 6 := pvok_r hok 108 (Int32.toNatClampNeg i2z40_) rfl
        refine pw_blk hT 5 (S' := (17, [some (pvR 100), some (pvI n1), some (pvI i2z40_)], [pvI n1, pvI (M.1 108 (Int32.toNatClampNeg i2z40_))], M)) rfl ⟨trivial, rfl, trivial, ⟨rfl, (zr_in (n := 7) b45_ (by decide) (by decide))⟩, trivial, trivial⟩ ?_
        refine pw_icn hT (c := (M.1 108 (Int32.toNatClampNeg i2z40_)) = n1) rfl rfl (fun c48_ => ?_) (fun c48_ => ?_)
        · obtain ⟨q50_, b49_⟩ : (Int32.toInt (i2z40_ + 1) = Int32.toInt i2z40_ + 1) ∧ (1 ≤ Int32.toInt (i2z40_ + 1) ∧ Int32.toInt (i2z40_ + 1) ≤ 7) := zadd_k i2z40_ 1 1 1 7 b45_ (by decide) (by decide) (by decide) (by decide) (by decide)
          refine pw_blk hT 2 (S' := (2, [some (pvR 100), some (pvI n1), some (pvI (i2z40_ + 1))], [], M)) rfl ⟨trivial, trivial, trivial⟩ ?_
          exact ihz40_ (i2z40_ + 1) (zr_wide b49_ (by decide) (by decide)) (zhid (pvms_up (zshow hmz40_) h2z40_ q50_ (by decide) (by decide)))
        · have b51_ : 0 ≤ Int32.toInt n1 ∧ Int32.toInt n1 ≤ 6 := (by have u0 := (zbnd n1); have u1 := (zi_eq _ _).mp c48_; have u2 := b47_; omega)
          have d52_ : Int32.toInt (M.1 108 (Int32.toNatClampNeg i2z40_)) = Int32.toInt n1 := (zi_eq _ _).mp c48_
          refine pw_blk hT 1 (S' := (21, [some (pvR 100), some (pvI n1), some (pvI i2z40_)], [pvI 1], M)) rfl ⟨trivial, trivial⟩ ?_
          exact pw_ret hT rfl (r := some (pvI 1)) (M' := M) ⟨Or.inr rfl, rfl, rfl⟩ ⟨⟨_, rfl, (zr_wide (show 1 ≤ Int32.toInt 1 ∧ Int32.toInt 1 ≤ 1 from (by decide)) (by decide) (by decide))⟩, rfl⟩
  exact hlz40_ _ 0 (zr_wide (show 0 ≤ Int32.toInt 0 ∧ Int32.toInt 0 ≤ 0 from (by decide)) (by decide) (by decide)) (zhid (Nat.lt_succ_self _))
set_option maxHeartbeats 4000000 in
set_option maxRecDepth 10000 in
theorem sf_X6_isFull_100 (M : pvM) (hok : pvOk M) (d : Nat) : PW 154 d (0, [some (pvR 100)], [], M) (fun r X => r = some (pvI ((if (M.1 100 0) < (Int32.ofNat 7) then 0 else 1))) ∧ X = M) := by
  have hT : pvdom 154 = pvD_154 := rfl
  have b1_ : 0 ≤ Int32.toInt (M.1 100 0) ∧ Int32.toInt (M.1 100 0) ≤ 7 := pvok_r hok 100 0 rfl
  refine pw_blk hT 5 (S' := (9, [some (pvR 100)], [pvI (Int32.ofNat 7), pvI (M.1 100 0)], M)) rfl ⟨trivial, rfl, trivial, rfl, rfl, trivial⟩ ?_
  refine pw_ic hT (c := (M.1 100 0) < (Int32.ofNat 7)) rfl rfl (fun c2_ => ?_) (fun c2_ => ?_)
  · have b3_ : 0 ≤ Int32.toInt (M.1 100 0) ∧ Int32.toInt (M.1 100 0) ≤ 6 := zr_lt_l 6 c2_ b1_ (show 7 ≤ Int32.toInt (Int32.ofNat 7) ∧ Int32.toInt (Int32.ofNat 7) ≤ 7 from (by decide)) (by decide)
    refine pw_blk hT 1 (S' := (17, [some (pvR 100)], [pvI 0], M)) rfl ⟨trivial, trivial⟩ ?_
    exact pw_ret hT rfl (r := some (pvI 0)) (M' := M) ⟨Or.inl rfl, rfl, rfl⟩ ⟨(by rw [if_pos c2_]), rfl⟩
  · have b4_ : 7 ≤ Int32.toInt (M.1 100 0) ∧ Int32.toInt (M.1 100 0) ≤ 7 := zr_nlt_l 7 c2_ b1_ (show 7 ≤ Int32.toInt (Int32.ofNat 7) ∧ Int32.toInt (Int32.ofNat 7) ≤ 7 from (by decide)) (by decide)
    refine pw_blk hT 2 (S' := (17, [some (pvR 100)], [pvI 1], M)) rfl ⟨trivial, trivial, trivial⟩ ?_
    exact pw_ret hT rfl (r := some (pvI 1)) (M' := M) ⟨Or.inr rfl, rfl, rfl⟩ ⟨(by rw [if_neg c2_]), rfl⟩
def fpL_X6_append_100_x_x : List (Nat × Nat × Nat) := [(0, 100, 1), (0, 108, 0), (0, 116, 0)]
def fp_X6_append_100_x_x (q k : Nat) : Bool := pvfp fpL_X6_append_100_x_x q k
set_option maxHeartbeats 4000000 in
set_option maxRecDepth 10000 in
theorem sf_X6_append_100_x_x (M : pvM) (hok : pvOk M) (n1 : Int32) (n2 : Int32) (hn1 : 0 ≤ Int32.toInt n1 ∧ Int32.toInt n1 ≤ 6) (hn2 : 0 ≤ Int32.toInt n2 ∧ Int32.toInt n2 ≤ 9999) (d : Nat) : PW 151 d (0, [some (pvR 100), some (pvI n1), some (pvI n2)], [], M) (fun r X => (∃ x : Int32, r = some (pvI x) ∧ 1 ≤ Int32.toInt x ∧ Int32.toInt x ≤ 7) ∧ pvOk X ∧ pvFr fp_X6_append_100_x_x M X) := by
  have hT : pvdom 151 = pvD_151 := rfl
  refine pw_blk hT 1 (S' := (1, [some (pvR 100), some (pvI n1), some (pvI n2)], [pvR 100], M)) rfl ⟨trivial, trivial⟩ ?_
  refine pw_callT hT (as := [pvR 100]) (lo1 := [some (pvR 100)]) (d1 := d) (rest := []) rfl rfl rfl rfl rfl (fun _ => rfl) (Nat.zero_le _) rfl rfl rfl (sf_X6_isFull_100 M hok d) ?_
  have b6_ : 0 ≤ Int32.toInt (M.1 100 0) ∧ Int32.toInt (M.1 100 0) ≤ 7 := pvok_r hok 100 0 rfl
  by_cases c7_ : (M.1 100 0) < (Int32.ofNat 7)
  · refine pw_eqI (if_pos c7_) ?_
    have b8_ : 0 ≤ Int32.toInt (M.1 100 0) ∧ Int32.toInt (M.1 100 0) ≤ 6 := zr_lt_l 6 c7_ b6_ (show 7 ≤ Int32.toInt (Int32.ofNat 7) ∧ Int32.toInt (Int32.ofNat 7) ≤ 7 from (by decide)) (by decide)
    show PW 151 d (4, [some (pvR 100), some (pvI n1), some (pvI n2)], [pvI 0], M) _
    refine pw_if hT (c := 0 = 0) rfl rfl (fun c9_ => ?_) (fun c9_ => absurd (by decide) c9_)
    refine pw_blkw hT 6 (pc := 22) (lo := [some (pvR 100), some (pvI n1), some (pvI n2)]) (st := []) (M := pvu M 108 (Int32.toNatClampNeg (M.1 100 0)) n1) rfl ⟨trivial, rfl, trivial, rfl, trivial, ⟨rfl, (zr_in (n := 7) b8_ (by decide) (by decide))⟩, trivial⟩ (fun M10_ e11_ => ?_)
    have o12_ : pvOk M10_ := pvok_u2 e11_ hok rfl hn1
    have f13_ : pvFr fp_X6_append_100_x_x M M10_ := pvfr_u e11_ pvfr_0 rfl
    have e14_ : (M10_.1 100 0) = (M.1 100 0) := (pvu_n e11_ 100 0 (Or.inl (by decide)))
    have b15_ : 0 ≤ Int32.toInt (M10_.1 100 0) ∧ Int32.toInt (M10_.1 100 0) ≤ 6 := (by rw [e14_]; exact b8_)
    refine pw_blkw hT 6 (pc := 32) (lo := [some (pvR 100), some (pvI n1), some (pvI n2)]) (st := []) (M := pvu M10_ 116 (Int32.toNatClampNeg (M10_.1 100 0)) n2) rfl ⟨trivial, rfl, trivial, rfl, trivial, ⟨rfl, (zr_in (n := 7) b15_ (by decide) (by decide))⟩, trivial⟩ (fun M16_ e17_ => ?_)
    have o18_ : pvOk M16_ := pvok_u2 e17_ o12_ rfl hn2
    have f19_ : pvFr fp_X6_append_100_x_x M M16_ := pvfr_u e17_ f13_ rfl
    have e20_ : (M16_.1 100 0) = (M10_.1 100 0) := (pvu_n e17_ 100 0 (Or.inl (by decide)))
    have b21_ : 0 ≤ Int32.toInt (M16_.1 100 0) ∧ Int32.toInt (M16_.1 100 0) ≤ 6 := (by rw [e20_]; exact b15_)
    obtain ⟨q23_, b22_⟩ : (Int32.toInt ((M16_.1 100 0) + 1) = Int32.toInt (M16_.1 100 0) + 1) ∧ (1 ≤ Int32.toInt ((M16_.1 100 0) + 1) ∧ Int32.toInt ((M16_.1 100 0) + 1) ≤ 7) := zadd_k (M16_.1 100 0) 1 1 1 7 b21_ (by decide) (by decide) (by decide) (by decide) (by decide)
    refine pw_blkw hT 6 (pc := 42) (lo := [some (pvR 100), some (pvI n1), some (pvI n2)]) (st := []) (M := pvu M16_ 100 0 ((M16_.1 100 0) + 1)) rfl ⟨trivial, trivial, rfl, trivial, trivial, rfl, trivial⟩ (fun M24_ e25_ => ?_)
    have o26_ : pvOk M24_ := pvok_u2 e25_ o18_ rfl (zr_wide b22_ (by decide) (by decide))
    have f27_ : pvFr fp_X6_append_100_x_x M M24_ := pvfr_u e25_ f19_ rfl
    have e28_ : (M24_.1 100 0) = ((M16_.1 100 0) + 1) := (pvu_s e25_)
    have b29_ : 1 ≤ Int32.toInt (M24_.1 100 0) ∧ Int32.toInt (M24_.1 100 0) ≤ 7 := (by rw [e28_]; exact b22_)
    refine pw_blk hT 2 (S' := (46, [some (pvR 100), some (pvI n1), some (pvI n2)], [pvI (M24_.1 100 0)], M24_)) rfl ⟨trivial, rfl, trivial⟩ ?_
    exact pw_ret hT rfl (r := some (pvI (M24_.1 100 0))) (M' := M24_) ⟨rfl, rfl⟩ ⟨⟨_, rfl, b29_⟩, o26_, f27_⟩
  · refine pw_eqI (if_neg c7_) ?_
    have b30_ : 7 ≤ Int32.toInt (M.1 100 0) ∧ Int32.toInt (M.1 100 0) ≤ 7 := zr_nlt_l 7 c7_ b6_ (show 7 ≤ Int32.toInt (Int32.ofNat 7) ∧ Int32.toInt (Int32.ofNat 7) ≤ 7 from (by decide)) (by decide)
    show PW 151 d (4, [some (pvR 100), some (pvI n1), some (pvI n2)], [pvI 1], M) _
    refine pw_if hT (c := 1 = 0) rfl rfl (fun c31_ => absurd c31_ (by decide)) (fun c31_ => ?_)
    refine pw_blk hT 2 (S' := (11, [some (pvR 100), some (pvI n1), some (pvI n2)], [pvI (M.1 100 0)], M)) rfl ⟨trivial, rfl, trivial⟩ ?_
    exact pw_ret hT rfl (r := some (pvI (M.1 100 0))) (M' := M) ⟨rfl, rfl⟩ ⟨⟨_, rfl, (zr_wide b30_ (by decide) (by decide))⟩, hok, pvfr_0⟩
def fpL_X6_clear_100 : List (Nat × Nat × Nat) := [(0, 100, 1)]
def fp_X6_clear_100 (q k : Nat) : Bool := pvfp fpL_X6_clear_100 q k
set_option maxHeartbeats 4000000 in
set_option maxRecDepth 10000 in
theorem sf_X6_clear_100 (M : pvM) (hok : pvOk M) (d : Nat) : PW 153 d (0, [some (pvR 100)], [], M) (fun r X => (∃ x : Int32, r = some (pvI x) ∧ 0 ≤ Int32.toInt x ∧ Int32.toInt x ≤ 0) ∧ pvOk X ∧ pvFr fp_X6_clear_100 M X) := by
  have hT : pvdom 153 = pvD_153 := rfl
  refine pw_blkw hT 3 (pc := 5) (lo := [some (pvR 100)]) (st := []) (M := pvu M 100 0 0) rfl ⟨trivial, trivial, rfl, trivial⟩ (fun M1_ e2_ => ?_)
  have o3_ : pvOk M1_ := pvok_u2 e2_ hok rfl (zr_wide (show 0 ≤ Int32.toInt 0 ∧ Int32.toInt 0 ≤ 0 from (by decide)) (by decide) (by decide))
  have f4_ : pvFr fp_X6_clear_100 M M1_ := pvfr_u e2_ pvfr_0 rfl
  refine pw_blk hT 1 (S' := (6, [some (pvR 100)], [pvI 0], M1_)) rfl ⟨trivial, trivial⟩ ?_
  exact pw_ret hT rfl (r := some (pvI 0)) (M' := M1_) ⟨rfl, rfl⟩ ⟨⟨_, rfl, (show 0 ≤ Int32.toInt 0 ∧ Int32.toInt 0 ≤ 0 from (by decide))⟩, o3_, f4_⟩
def fpL_X9_add_0_x : List (Nat × Nat × Nat) := [(0, 100, 1), (0, 108, 0), (0, 116, 0)]
def fp_X9_add_0_x (q k : Nat) : Bool := pvfp fpL_X9_add_0_x q k
theorem fp_X9_add_0_x_fp_X6_append_100_x_x (a b : Nat) (h : fp_X6_append_100_x_x a b = true) : fp_X9_add_0_x a b = true := pvfp_sub (l1 := fpL_X6_append_100_x_x) (l2 := fpL_X9_add_0_x) (by decide) a b h
theorem fp_X9_add_0_x_fp_X6_clear_100 (a b : Nat) (h : fp_X6_clear_100 a b = true) : fp_X9_add_0_x a b = true := pvfp_sub (l1 := fpL_X6_clear_100) (l2 := fpL_X9_add_0_x) (by decide) a b h
set_option maxHeartbeats 4000000 in
set_option maxRecDepth 10000 in
theorem sf_X9_add_0_x (M : pvM) (hok : pvOk M) (n1 : Int32) (d : Nat) : PW 167 d (0, [some (pvR 0), some (pvI n1)], [], M) (fun r X => (∃ x : Int32, r = some (pvI x) ∧ (-4) ≤ Int32.toInt x ∧ Int32.toInt x ≤ 7) ∧ pvOk X ∧ pvFr fp_X9_add_0_x M X) := by
  have hT : pvdom 167 = pvD_167 := rfl
  refine pw_blk hT 2 (S' := (2, [some (pvR 0), some (pvI n1)], [pvI (-1), pvI n1], M)) rfl ⟨trivial, trivial, trivial⟩ ?_
  refine pw_icn hT (c := n1 = (-1)) rfl rfl (fun c1_ => ?_) (fun c1_ => ?_)
  · refine pw_blk hT 3 (S' := (21, [some (pvR 0), some (pvI n1)], [pvI n1, pvR 8], M)) rfl ⟨trivial, rfl, trivial, trivial⟩ ?_
    refine pw_callT hT (as := [pvR 8, pvI n1]) (lo1 := [some (pvR 8), some (pvI n1)]) (d1 := d) (rest := []) rfl rfl rfl rfl rfl (fun _ => rfl) (Nat.zero_le _) rfl rfl rfl (sf_X7_has_8_x M hok n1 d) ?_
    by_cases c7_ : n1 < 0
    · refine pw_eqI (if_pos c7_) ?_
      have b8_ : (-2147483648) ≤ Int32.toInt n1 ∧ Int32.toInt n1 ≤ (-2) := (by have u0 := (zbnd n1); have u9 := (show _ ∧ _ from ⟨(zi_lt _ _).mp c7_, (show 0 ≤ Int32.toInt 0 ∧ Int32.toInt 0 ≤ 0 from (by decide))⟩); have v1 := (not_congr (zi_eq _ _)).mp c1_; have w1 : ((-1) : Int32).toInt = -1 := (by decide); omega)
      show PW 167 d (24, [some (pvR 0), some (pvI n1)], [pvI 0], M) _
      refine pw_ifn hT (c := 0 = 0) rfl rfl (fun c9_ => absurd (by decide) c9_) (fun c9_ => ?_)
      refine pw_blk hT 1 (S' := (28, [some (pvR 0), some (pvI n1)], [pvI (-1)], M)) rfl ⟨trivial, trivial⟩ ?_
      exact pw_ret hT rfl (r := some (pvI (-1))) (M' := M) ⟨rfl, rfl⟩ ⟨⟨_, rfl, (zr_wide (show (-1) ≤ Int32.toInt (-1) ∧ Int32.toInt (-1) ≤ (-1) from (by decide)) (by decide) (by decide))⟩, hok, pvfr_0⟩
    · refine pw_eqI (if_neg c7_) ?_
      have b10_ : 0 ≤ Int32.toInt n1 ∧ Int32.toInt n1 ≤ 2147483647 := zr_nlt_l 0 c7_ (zbnd n1) (show 0 ≤ Int32.toInt 0 ∧ Int32.toInt 0 ≤ 0 from (by decide)) (by decide)
      have b11_ : 0 ≤ Int32.toInt (M.1 8 1) ∧ Int32.toInt (M.1 8 1) ≤ 7 := pvok_r hok 8 1 rfl
      by_cases c12_ : (M.1 8 1) ≤ n1
      · refine pw_eqI (if_pos c12_) ?_
        have d13_ : Int32.toInt (M.1 8 1) ≤ Int32.toInt n1 := (zi_le _ _).mp c12_
        show PW 167 d (24, [some (pvR 0), some (pvI n1)], [pvI 0], M) _
        refine pw_ifn hT (c := 0 = 0) rfl rfl (fun c14_ => absurd (by decide) c14_) (fun c14_ => ?_)
        refine pw_blk hT 1 (S' := (28, [some (pvR 0), some (pvI n1)], [pvI (-1)], M)) rfl ⟨trivial, trivial⟩ ?_
        exact pw_ret hT rfl (r := some (pvI (-1))) (M' := M) ⟨rfl, rfl⟩ ⟨⟨_, rfl, (zr_wide (show (-1) ≤ Int32.toInt (-1) ∧ Int32.toInt (-1) ≤ (-1) from (by decide)) (by decide) (by decide))⟩, hok, pvfr_0⟩
      · refine pw_eqI (if_neg c12_) ?_
        have b15_ : 1 ≤ Int32.toInt (M.1 8 1) ∧ Int32.toInt (M.1 8 1) ≤ 7 := zr_nle_l 1 c12_ b11_ b10_ (by decide)
        have b16_ : 0 ≤ Int32.toInt n1 ∧ Int32.toInt n1 ≤ 6 := zr_nle_r 6 c12_ b10_ b15_ (by decide)
        have d17_ : Int32.toInt (M.1 8 1) > Int32.toInt n1 := Int.not_le.mp ((not_congr (zi_le _ _)).mp c12_)
        show PW 167 d (24, [some (pvR 0), some (pvI n1)], [pvI 1], M) _
        refine pw_ifn hT (c := 1 = 0) rfl rfl (fun c18_ => ?_) (fun c18_ => absurd c18_ (by decide))
        refine pw_blk hT 4 (S' := (37, [some (pvR 0), some (pvI n1)], [pvI n1, pvR 100], M)) rfl ⟨trivial, rfl, rfl, trivial, trivial⟩ ?_
        refine pw_callGp hT (as := [pvR 100, pvI n1]) (lo1 := [some (pvR 100), some (pvI n1), none]) (d1 := d) (rest := []) rfl rfl rfl rfl rfl (fun _ => rfl) (Nat.zero_le _) rfl rfl rfl (sf_X6_names_100_x M hok n1 d) (fun x19_ b21_ => ?_)
        refine pw_if hT (c := x19_ = 0) rfl rfl (fun c24_ => ?_) (fun c24_ => ?_)
        · have b25_ : 0 ≤ Int32.toInt x19_ ∧ Int32.toInt x19_ ≤ 0 := (by have u0 := b21_; have u1 := (zi_eq _ _).mp c24_; have u2 := (show 0 ≤ Int32.toInt 0 ∧ Int32.toInt 0 ≤ 0 from (by decide)); omega)
          refine pw_blk hT 3 (S' := (53, [some (pvR 0), some (pvI n1)], [pvR 100], M)) rfl ⟨trivial, rfl, rfl, trivial⟩ ?_
          refine pw_callT hT (as := [pvR 100]) (lo1 := [some (pvR 100)]) (d1 := d) (rest := []) rfl rfl rfl rfl rfl (fun _ => rfl) (Nat.zero_le _) rfl rfl rfl (sf_X6_isFull_100 M hok d) ?_
          have b31_ : 0 ≤ Int32.toInt (M.1 100 0) ∧ Int32.toInt (M.1 100 0) ≤ 7 := pvok_r hok 100 0 rfl
          by_cases c32_ : (M.1 100 0) < (Int32.ofNat 7)
          · refine pw_eqI (if_pos c32_) ?_
            have b33_ : 0 ≤ Int32.toInt (M.1 100 0) ∧ Int32.toInt (M.1 100 0) ≤ 6 := zr_lt_l 6 c32_ b31_ (show 7 ≤ Int32.toInt (Int32.ofNat 7) ∧ Int32.toInt (Int32.ofNat 7) ≤ 7 from (by decide)) (by decide)
            show PW 167 d (56, [some (pvR 0), some (pvI n1)], [pvI 0], M) _
            refine pw_if hT (c := 0 = 0) rfl rfl (fun c34_ => ?_) (fun c34_ => absurd (by decide) c34_)
            refine pw_blk hT 5 (S' := (71, [some (pvR 0), some (pvI n1)], [pvI 0, pvI n1, pvR 100], M)) rfl ⟨trivial, rfl, rfl, trivial, trivial, trivial⟩ ?_
            refine pw_callG hT (as := [pvR 100, pvI n1, pvI 0]) (lo1 := [some (pvR 100), some (pvI n1), some (pvI 0)]) (d1 := d) (rest := []) rfl rfl rfl rfl rfl (fun _ => rfl) (Nat.zero_le _) rfl rfl rfl (sf_X6_append_100_x_x M hok n1 0 b16_ (zr_wide (show 0 ≤ Int32.toInt 0 ∧ Int32.toInt 0 ≤ 0 from (by decide)) (by decide) (by decide)) d) (fun x35_ M36_ b37_ o38_ g39_ => ?_)
            have f40_ : pvFr fp_X9_add_0_x M M36_ := pvfr_t g39_ pvfr_0 fp_X9_add_0_x_fp_X6_append_100_x_x
            exact pw_ret hT rfl (r := some (pvI x35_)) (M' := M36_) ⟨rfl, rfl⟩ ⟨⟨_, rfl, (zr_wide b37_ (by decide) (by decide))⟩, o38_, f40_⟩
          · refine pw_eqI (if_neg c32_) ?_
            have b41_ : 7 ≤ Int32.toInt (M.1 100 0) ∧ Int32.toInt (M.1 100 0) ≤ 7 := zr_nlt_l 7 c32_ b31_ (show 7 ≤ Int32.toInt (Int32.ofNat 7) ∧ Int32.toInt (Int32.ofNat 7) ≤ 7 from (by decide)) (by decide)
            show PW 167 d (56, [some (pvR 0), some (pvI n1)], [pvI 1], M) _
            refine pw_if hT (c := 1 = 0) rfl rfl (fun c42_ => absurd c42_ (by decide)) (fun c42_ => ?_)
            refine pw_blk hT 1 (S' := (61, [some (pvR 0), some (pvI n1)], [pvI (-4)], M)) rfl ⟨trivial, trivial⟩ ?_
            exact pw_ret hT rfl (r := some (pvI (-4))) (M' := M) ⟨rfl, rfl⟩ ⟨⟨_, rfl, (zr_wide (show (-4) ≤ Int32.toInt (-4) ∧ Int32.toInt (-4) ≤ (-4) from (by decide)) (by decide) (by decide))⟩, hok, pvfr_0⟩
        · have b43_ : 1 ≤ Int32.toInt x19_ ∧ Int32.toInt x19_ ≤ 1 := (by have u0 := b21_; have u1 := (not_congr (zi_eq _ _)).mp c24_; have u2 := (show 0 ≤ Int32.toInt 0 ∧ Int32.toInt 0 ≤ 0 from (by decide)); omega)
          refine pw_blk hT 1 (S' := (45, [some (pvR 0), some (pvI n1)], [pvI (-2)], M)) rfl ⟨trivial, trivial⟩ ?_
          exact pw_ret hT rfl (r := some (pvI (-2))) (M' := M) ⟨rfl, rfl⟩ ⟨⟨_, rfl, (zr_wide (show (-2) ≤ Int32.toInt (-2) ∧ Int32.toInt (-2) ≤ (-2) from (by decide)) (by decide) (by decide))⟩, hok, pvfr_0⟩
  · have b44_ : (-1) ≤ Int32.toInt n1 ∧ Int32.toInt n1 ≤ (-1) := (by have u0 := (zbnd n1); have u1 := (zi_eq _ _).mp c1_; have u2 := (show (-1) ≤ Int32.toInt (-1) ∧ Int32.toInt (-1) ≤ (-1) from (by decide)); omega)
    refine pw_blk hT 3 (S' := (12, [some (pvR 0), some (pvI n1)], [pvR 100], M)) rfl ⟨trivial, rfl, rfl, trivial⟩ ?_
    refine pw_callG hT (as := [pvR 100]) (lo1 := [some (pvR 100)]) (d1 := d) (rest := []) rfl rfl rfl rfl rfl (fun _ => rfl) (Nat.zero_le _) rfl rfl rfl (sf_X6_clear_100 M hok d) (fun x45_ M46_ b47_ o48_ g49_ => ?_)
    have f50_ : pvFr fp_X9_add_0_x M M46_ := pvfr_t g49_ pvfr_0 fp_X9_add_0_x_fp_X6_clear_100
    exact pw_ret hT rfl (r := some (pvI x45_)) (M' := M46_) ⟨rfl, rfl⟩ ⟨⟨_, rfl, (zr_wide b47_ (by decide) (by decide))⟩, o48_, f50_⟩
set_option maxHeartbeats 4000000 in
set_option maxRecDepth 10000 in
theorem sf_X1_sumPlace_5_x_x (M : pvM) (hok : pvOk M) (n1 : Int32) (n2 : Int32) (hn1 : 0 ≤ Int32.toInt n1 ∧ Int32.toInt n1 ≤ 6) (d : Nat) : PW 120 d (0, [some (pvR 5), some (pvI n1), some (pvI n2)], [], M) (fun r X => (∃ x : Int32, r = some (pvI x) ∧ 0 ≤ Int32.toInt x ∧ Int32.toInt x ≤ 2799) ∧ X = M) := by
  have hT : pvdom 120 = pvD_120 := rfl
  have b1_ : 0 ≤ Int32.toInt (M.1 5 1) ∧ Int32.toInt (M.1 5 1) ≤ 3 := pvok_r hok 5 1 rfl
  have q2_ : Int32.toInt ((M.1 5 1) * 7) = 7 * Int32.toInt (M.1 5 1) := by have u0 : Int32.toInt 7 = 7 := (by decide); have u1 := b1_; have u2 := zmul (M.1 5 1) 7 (by rw [u0]; omega) (by rw [u0]; omega); rw [u0] at u2; omega
  have b3_ : 0 ≤ Int32.toInt ((M.1 5 1) * 7) ∧ Int32.toInt ((M.1 5 1) * 7) ≤ 21 := (by have u1 := b1_; omega)
  obtain ⟨q5_, b4_⟩ : (Int32.toInt (((M.1 5 1) * 7) + n1) = Int32.toInt ((M.1 5 1) * 7) + Int32.toInt n1) ∧ (0 ≤ Int32.toInt (((M.1 5 1) * 7) + n1) ∧ Int32.toInt (((M.1 5 1) * 7) + n1) ≤ 27) := zadd_r ((M.1 5 1) * 7) n1 0 27 b3_ hn1 (by decide) (by decide) (by decide) (by decide)
  have q6_ : Int32.toInt ((((M.1 5 1) * 7) + n1) * 100) = 100 * Int32.toInt (((M.1 5 1) * 7) + n1) := by have u0 : Int32.toInt 100 = 100 := (by decide); have u1 := b4_; have u2 := zmul (((M.1 5 1) * 7) + n1) 100 (by rw [u0]; omega) (by rw [u0]; omega); rw [u0] at u2; omega
  have b7_ : 0 ≤ Int32.toInt ((((M.1 5 1) * 7) + n1) * 100) ∧ Int32.toInt ((((M.1 5 1) * 7) + n1) * 100) ≤ 2700 := (by have u1 := b4_; omega)
  have q8_ : Int32.toInt (if 99 < n2 then 99 else n2) = min (Int32.toInt n2) (Int32.toInt 99) := pvmin n2 99
  have b9_ : (-2147483648) ≤ Int32.toInt (if 99 < n2 then 99 else n2) ∧ Int32.toInt (if 99 < n2 then 99 else n2) ≤ 99 := (by have u0 := (zbnd n2); have u1 := (show 99 ≤ Int32.toInt 99 ∧ Int32.toInt 99 ≤ 99 from (by decide)); omega)
  have q10_ : Int32.toInt (if 0 < (if 99 < n2 then 99 else n2) then (if 99 < n2 then 99 else n2) else 0) = max (Int32.toInt 0) (Int32.toInt (if 99 < n2 then 99 else n2)) := pvmax 0 (if 99 < n2 then 99 else n2)
  have b11_ : 0 ≤ Int32.toInt (if 0 < (if 99 < n2 then 99 else n2) then (if 99 < n2 then 99 else n2) else 0) ∧ Int32.toInt (if 0 < (if 99 < n2 then 99 else n2) then (if 99 < n2 then 99 else n2) else 0) ≤ 99 := (by have u0 := (show 0 ≤ Int32.toInt 0 ∧ Int32.toInt 0 ≤ 0 from (by decide)); have u1 := b9_; omega)
  obtain ⟨q13_, b12_⟩ : (Int32.toInt (((((M.1 5 1) * 7) + n1) * 100) + (if 0 < (if 99 < n2 then 99 else n2) then (if 99 < n2 then 99 else n2) else 0)) = Int32.toInt ((((M.1 5 1) * 7) + n1) * 100) + Int32.toInt (if 0 < (if 99 < n2 then 99 else n2) then (if 99 < n2 then 99 else n2) else 0)) ∧ (0 ≤ Int32.toInt (((((M.1 5 1) * 7) + n1) * 100) + (if 0 < (if 99 < n2 then 99 else n2) then (if 99 < n2 then 99 else n2) else 0)) ∧ Int32.toInt (((((M.1 5 1) * 7) + n1) * 100) + (if 0 < (if 99 < n2 then 99 else n2) then (if 99 < n2 then 99 else n2) else 0)) ≤ 2799) := zadd_r ((((M.1 5 1) * 7) + n1) * 100) (if 0 < (if 99 < n2 then 99 else n2) then (if 99 < n2 then 99 else n2) else 0) 0 2799 b7_ b11_ (by decide) (by decide) (by decide) (by decide)
  refine pw_blk hT 14 (S' := (23, [some (pvR 5), some (pvI n1), some (pvI n2)], [pvI (((((M.1 5 1) * 7) + n1) * 100) + (if 0 < (if 99 < n2 then 99 else n2) then (if 99 < n2 then 99 else n2) else 0))], M)) rfl ⟨trivial, rfl, trivial, trivial, trivial, trivial, trivial, trivial, trivial, trivial, trivial, (Nat.le_of_ble_eq_true rfl), (Nat.le_of_ble_eq_true rfl), trivial, trivial⟩ ?_
  exact pw_ret hT rfl (r := some (pvI (((((M.1 5 1) * 7) + n1) * 100) + (if 0 < (if 99 < n2 then 99 else n2) then (if 99 < n2 then 99 else n2) else 0)))) (M' := M) ⟨rfl, rfl⟩ ⟨⟨_, rfl, b12_⟩, rfl⟩
def fpL_X2_learn_x_x_x_x_x : List (Nat × Nat × Nat) := [(1, 112, 0)]
def fp_X2_learn_x_x_x_x_x (q k : Nat) : Bool := pvfp fpL_X2_learn_x_x_x_x_x q k
set_option maxHeartbeats 4000000 in
set_option maxRecDepth 10000 in
theorem sf_X2_learn_x_x_x_x_x (M : pvM) (hok : pvOk M) (q0 : Nat) (q1 : Nat) (n2 : Int32) (n3 : Int32) (n4 : Int32) (hq0 : pvkl q0 = 2) (hq1 : pvkl q1 = 3) (hn2 : 0 ≤ Int32.toInt n2 ∧ Int32.toInt n2 ≤ 6) (hn3 : 0 ≤ Int32.toInt n3 ∧ Int32.toInt n3 ≤ 3) (hn4 : 0 ≤ Int32.toInt n4 ∧ Int32.toInt n4 ≤ 99) (d : Nat) : PW 128 d (0, [some (pvR q0), some (pvR q1), some (pvI n2), some (pvI n3), some (pvI n4)], [], M) (fun r X => r = none ∧ pvOk X ∧ pvFr fp_X2_learn_x_x_x_x_x M X) := by
  have hT : pvdom 128 = pvD_128 := rfl
  refine pw_blkw hT 5 (pc := 7) (lo := [some (pvR q0), some (pvR q1), some (pvI n2), some (pvI n3), some (pvI n4)]) (st := []) (M := pvu M (q0 + 36) (Int32.toNatClampNeg 0) n2) rfl ⟨trivial, hq0, trivial, trivial, ⟨(pvow_2_36 hq0).1, (by rw [(pvow_2_36 hq0).2.1]; exact (zr_in (n := 6) (show 0 ≤ Int32.toInt 0 ∧ Int32.toInt 0 ≤ 0 from (by decide)) (by decide) (by decide)))⟩, trivial⟩ (fun M1_ e2_ => ?_)
  have o3_ : pvOk M1_ := pvok_u2 e2_ hok ((pvrg_a _ (by rw [(pvow_2_36 hq0).1]; decide)).trans (pvow_2_36 hq0).2.2.2) (zbnd n2)
  have f4_ : pvFr fp_X2_learn_x_x_x_x_x M M1_ := pvfr_u e2_ pvfr_0 (pvfp_r (l := fpL_X2_learn_x_x_x_x_x) (pvow_2_36 hq0).2.2.1 (kk := 0) (by decide) (Or.inl rfl))
  have b5_ : 0 ≤ Int32.toInt (M1_.1 q1 0) ∧ Int32.toInt (M1_.1 q1 0) ≤ 6 := pvok_r o3_ q1 0 ((pvrg_o 0 hq1 (by decide) (by decide)).trans rfl)
  refine pw_blkw hT 6 (pc := 17) (lo := [some (pvR q0), some (pvR q1), some (pvI n2), some (pvI n3), some (pvI n4)]) (st := []) (M := pvu M1_ (q0 + 36) (Int32.toNatClampNeg 1) (M1_.1 q1 0)) rfl ⟨trivial, hq0, trivial, trivial, hq1, ⟨(pvow_2_36 hq0).1, (by rw [(pvow_2_36 hq0).2.1]; exact (zr_in (n := 6) (show 1 ≤ Int32.toInt 1 ∧ Int32.toInt 1 ≤ 1 from (by decide)) (by decide) (by decide)))⟩, trivial⟩ (fun M6_ e7_ => ?_)
  have o8_ : pvOk M6_ := pvok_u2 e7_ o3_ ((pvrg_a _ (by rw [(pvow_2_36 hq0).1]; decide)).trans (pvow_2_36 hq0).2.2.2) (zbnd (M1_.1 q1 0))
  have f9_ : pvFr fp_X2_learn_x_x_x_x_x M M6_ := pvfr_u e7_ f4_ (pvfp_r (l := fpL_X2_learn_x_x_x_x_x) (pvow_2_36 hq0).2.2.1 (kk := 0) (by decide) (Or.inl rfl))
  have b10_ : 0 ≤ Int32.toInt (M6_.1 q1 2) ∧ Int32.toInt (M6_.1 q1 2) ≤ 3 := pvok_r o8_ q1 2 ((pvrg_o 2 hq1 (by decide) (by decide)).trans rfl)
  refine pw_blkw hT 6 (pc := 27) (lo := [some (pvR q0), some (pvR q1), some (pvI n2), some (pvI n3), some (pvI n4)]) (st := []) (M := pvu M6_ (q0 + 36) (Int32.toNatClampNeg 2) (M6_.1 q1 2)) rfl ⟨trivial, hq0, trivial, trivial, hq1, ⟨(pvow_2_36 hq0).1, (by rw [(pvow_2_36 hq0).2.1]; exact (zr_in (n := 6) (show 2 ≤ Int32.toInt 2 ∧ Int32.toInt 2 ≤ 2 from (by decide)) (by decide) (by decide)))⟩, trivial⟩ (fun M11_ e12_ => ?_)
  have o13_ : pvOk M11_ := pvok_u2 e12_ o8_ ((pvrg_a _ (by rw [(pvow_2_36 hq0).1]; decide)).trans (pvow_2_36 hq0).2.2.2) (zbnd (M6_.1 q1 2))
  have f14_ : pvFr fp_X2_learn_x_x_x_x_x M M11_ := pvfr_u e12_ f9_ (pvfp_r (l := fpL_X2_learn_x_x_x_x_x) (pvow_2_36 hq0).2.2.1 (kk := 0) (by decide) (Or.inl rfl))
  have b15_ : 0 ≤ Int32.toInt (M11_.1 q1 3) ∧ Int32.toInt (M11_.1 q1 3) ≤ 4 := pvok_r o13_ q1 3 ((pvrg_o 3 hq1 (by decide) (by decide)).trans rfl)
  refine pw_blkw hT 6 (pc := 37) (lo := [some (pvR q0), some (pvR q1), some (pvI n2), some (pvI n3), some (pvI n4)]) (st := []) (M := pvu M11_ (q0 + 36) (Int32.toNatClampNeg 3) (M11_.1 q1 3)) rfl ⟨trivial, hq0, trivial, trivial, hq1, ⟨(pvow_2_36 hq0).1, (by rw [(pvow_2_36 hq0).2.1]; exact (zr_in (n := 6) (show 3 ≤ Int32.toInt 3 ∧ Int32.toInt 3 ≤ 3 from (by decide)) (by decide) (by decide)))⟩, trivial⟩ (fun M16_ e17_ => ?_)
  have o18_ : pvOk M16_ := pvok_u2 e17_ o13_ ((pvrg_a _ (by rw [(pvow_2_36 hq0).1]; decide)).trans (pvow_2_36 hq0).2.2.2) (zbnd (M11_.1 q1 3))
  have f19_ : pvFr fp_X2_learn_x_x_x_x_x M M16_ := pvfr_u e17_ f14_ (pvfp_r (l := fpL_X2_learn_x_x_x_x_x) (pvow_2_36 hq0).2.2.1 (kk := 0) (by decide) (Or.inl rfl))
  refine pw_blkw hT 5 (pc := 44) (lo := [some (pvR q0), some (pvR q1), some (pvI n2), some (pvI n3), some (pvI n4)]) (st := []) (M := pvu M16_ (q0 + 36) (Int32.toNatClampNeg 4) n3) rfl ⟨trivial, hq0, trivial, trivial, ⟨(pvow_2_36 hq0).1, (by rw [(pvow_2_36 hq0).2.1]; exact (zr_in (n := 6) (show 4 ≤ Int32.toInt 4 ∧ Int32.toInt 4 ≤ 4 from (by decide)) (by decide) (by decide)))⟩, trivial⟩ (fun M20_ e21_ => ?_)
  have o22_ : pvOk M20_ := pvok_u2 e21_ o18_ ((pvrg_a _ (by rw [(pvow_2_36 hq0).1]; decide)).trans (pvow_2_36 hq0).2.2.2) (zbnd n3)
  have f23_ : pvFr fp_X2_learn_x_x_x_x_x M M20_ := pvfr_u e21_ f19_ (pvfp_r (l := fpL_X2_learn_x_x_x_x_x) (pvow_2_36 hq0).2.2.1 (kk := 0) (by decide) (Or.inl rfl))
  have q24_ : Int32.toInt (if 99 < n4 then 99 else n4) = min (Int32.toInt n4) (Int32.toInt 99) := pvmin n4 99
  have b25_ : 0 ≤ Int32.toInt (if 99 < n4 then 99 else n4) ∧ Int32.toInt (if 99 < n4 then 99 else n4) ≤ 99 := (by have u0 := hn4; have u1 := (show 99 ≤ Int32.toInt 99 ∧ Int32.toInt 99 ≤ 99 from (by decide)); omega)
  refine pw_blkw hT 7 (pc := 57) (lo := [some (pvR q0), some (pvR q1), some (pvI n2), some (pvI n3), some (pvI n4)]) (st := []) (M := pvu M20_ (q0 + 36) (Int32.toNatClampNeg 5) (if 99 < n4 then 99 else n4)) rfl ⟨trivial, hq0, trivial, trivial, trivial, (Nat.le_of_ble_eq_true rfl), ⟨(pvow_2_36 hq0).1, (by rw [(pvow_2_36 hq0).2.1]; exact (zr_in (n := 6) (show 5 ≤ Int32.toInt 5 ∧ Int32.toInt 5 ≤ 5 from (by decide)) (by decide) (by decide)))⟩, trivial⟩ (fun M26_ e27_ => ?_)
  have o28_ : pvOk M26_ := pvok_u2 e27_ o22_ ((pvrg_a _ (by rw [(pvow_2_36 hq0).1]; decide)).trans (pvow_2_36 hq0).2.2.2) (zbnd (if 99 < n4 then 99 else n4))
  have f29_ : pvFr fp_X2_learn_x_x_x_x_x M M26_ := pvfr_u e27_ f23_ (pvfp_r (l := fpL_X2_learn_x_x_x_x_x) (pvow_2_36 hq0).2.2.1 (kk := 0) (by decide) (Or.inl rfl))
  exact pw_ret hT rfl (r := none) (M' := M26_) ⟨rfl, rfl⟩ ⟨rfl, o28_, f29_⟩
set_option maxHeartbeats 4000000 in
set_option maxRecDepth 10000 in
theorem sf_X2_passes_x_x (M : pvM) (hok : pvOk M) (q0 : Nat) (n1 : Int32) (hq0 : pvkl q0 = 2) (d : Nat) : PW 129 d (0, [some (pvR q0), some (pvI n1), none, none], [], M) (fun r X => (∃ x : Int32, r = some (pvI x) ∧ 0 ≤ Int32.toInt x ∧ Int32.toInt x ≤ 1) ∧ X = M) := by
  have hT : pvdom 129 = pvD_129 := rfl
  refine pw_blk hT 5 (S' := (7, [some (pvR q0), some (pvI n1), some (pvI (n1 / 300)), none], [pvI (n1 / 300)], M)) rfl ⟨trivial, trivial, (by decide), trivial, trivial, trivial⟩ ?_
  refine pw_if hT (c := (n1 / 300) < 0) rfl rfl (fun c1_ => ?_) (fun c1_ => ?_)
  · have b2_ : (-2147483648) ≤ Int32.toInt (n1 / 300) ∧ Int32.toInt (n1 / 300) ≤ (-1) := zr_lt_l (-1) c1_ (zbnd (n1 / 300)) (show 0 ≤ Int32.toInt 0 ∧ Int32.toInt 0 ≤ 0 from (by decide)) (by decide)
    refine pw_blk hT 1 (S' := (20, [some (pvR q0), some (pvI n1), some (pvI (n1 / 300)), none], [pvI 0], M)) rfl ⟨trivial, trivial⟩ ?_
    exact pw_ret hT rfl (r := some (pvI 0)) (M' := M) ⟨Or.inl rfl, rfl, rfl⟩ ⟨⟨_, rfl, (zr_wide (show 0 ≤ Int32.toInt 0 ∧ Int32.toInt 0 ≤ 0 from (by decide)) (by decide) (by decide))⟩, rfl⟩
  · have b3_ : 0 ≤ Int32.toInt (n1 / 300) ∧ Int32.toInt (n1 / 300) ≤ 2147483647 := zr_nlt_l 0 c1_ (zbnd (n1 / 300)) (show 0 ≤ Int32.toInt 0 ∧ Int32.toInt 0 ≤ 0 from (by decide)) (by decide)
    have b4_ : 6 ≤ Int32.toInt (Int32.ofNat (pvln (q0 + 36))) ∧ Int32.toInt (Int32.ofNat (pvln (q0 + 36))) ≤ 6 := (by rw [(pvow_2_36 hq0).2.1]; decide)
    refine pw_blk hT 4 (S' := (16, [some (pvR q0), some (pvI n1), some (pvI (n1 / 300)), none], [pvI (Int32.ofNat (pvln (q0 + 36))), pvI (n1 / 300)], M)) rfl ⟨trivial, trivial, hq0, (pvow_2_36 hq0).1, trivial⟩ ?_
    refine pw_ic hT (c := (n1 / 300) < (Int32.ofNat (pvln (q0 + 36)))) rfl rfl (fun c5_ => ?_) (fun c5_ => ?_)
    · have b6_ : 0 ≤ Int32.toInt (n1 / 300) ∧ Int32.toInt (n1 / 300) ≤ 5 := zr_lt_l 5 c5_ b3_ b4_ (by decide)
      have d7_ : Int32.toInt (n1 / 300) < Int32.toInt (Int32.ofNat (pvln (q0 + 36))) := (zi_lt _ _).mp c5_
      refine pw_blk hT 9 (S' := (32, [some (pvR q0), some (pvI n1), some (pvI (n1 / 300)), some (pvI (n1 - n1 / 100 * 100))], [pvI ((n1 / 100) - (n1 / 100) / 3 * 3)], M)) rfl ⟨trivial, trivial, (by decide), trivial, trivial, trivial, (by decide), trivial, (by decide), trivial⟩ ?_
      refine pw_sw hT rfl rfl ?_
      refine And.intro (fun c8_ => ?_) (fun c8_ => ?_)
      · show PW 129 d (60, [some (pvR q0), some (pvI n1), some (pvI (n1 / 300)), some (pvI (n1 - n1 / 100 * 100))], [], M) _
        have b9_ : 0 ≤ Int32.toInt ((n1 / 100) - (n1 / 100) / 3 * 3) ∧ Int32.toInt ((n1 / 100) - (n1 / 100) / 3 * 3) ≤ 0 := (by have u0 := (zbnd ((n1 / 100) - (n1 / 100) / 3 * 3)); have u1 := (zi_eq _ _).mp c8_; have u2 := (show 0 ≤ Int32.toInt 0 ∧ Int32.toInt 0 ≤ 0 from (by decide)); omega)
        refine pw_blk hT 5 (S' := (67, [some (pvR q0), some (pvI n1), some (pvI (n1 / 300)), some (pvI (n1 - n1 / 100 * 100))], [pvI (n1 - n1 / 100 * 100), pvI (M.1 (q0 + 36) (Int32.toNatClampNeg (n1 / 300)))], M)) rfl ⟨trivial, hq0, trivial, ⟨(pvow_2_36 hq0).1, (by rw [(pvow_2_36 hq0).2.1]; exact (zr_in (n := 6) b6_ (by decide) (by decide)))⟩, trivial, trivial⟩ ?_
        refine pw_ic hT (c := (n1 - n1 / 100 * 100) ≤ (M.1 (q0 + 36) (Int32.toNatClampNeg (n1 / 300)))) rfl rfl (fun c10_ => ?_) (fun c10_ => ?_)
        · have d11_ : Int32.toInt (n1 - n1 / 100 * 100) ≤ Int32.toInt (M.1 (q0 + 36) (Int32.toNatClampNeg (n1 / 300))) := (zi_le _ _).mp c10_
          refine pw_blk hT 1 (S' := (75, [some (pvR q0), some (pvI n1), some (pvI (n1 / 300)), some (pvI (n1 - n1 / 100 * 100))], [pvI 0], M)) rfl ⟨trivial, trivial⟩ ?_
          exact pw_ret hT rfl (r := some (pvI 0)) (M' := M) ⟨Or.inl rfl, rfl, rfl⟩ ⟨⟨_, rfl, (zr_wide (show 0 ≤ Int32.toInt 0 ∧ Int32.toInt 0 ≤ 0 from (by decide)) (by decide) (by decide))⟩, rfl⟩
        · have b12_ : (-2147483647) ≤ Int32.toInt (n1 - n1 / 100 * 100) ∧ Int32.toInt (n1 - n1 / 100 * 100) ≤ 2147483647 := zr_nle_l (-2147483647) c10_ (zbnd (n1 - n1 / 100 * 100)) (zbnd (M.1 (q0 + 36) (Int32.toNatClampNeg (n1 / 300)))) (by decide)
          have b13_ : (-2147483648) ≤ Int32.toInt (M.1 (q0 + 36) (Int32.toNatClampNeg (n1 / 300))) ∧ Int32.toInt (M.1 (q0 + 36) (Int32.toNatClampNeg (n1 / 300))) ≤ 2147483646 := zr_nle_r 2147483646 c10_ (zbnd (M.1 (q0 + 36) (Int32.toNatClampNeg (n1 / 300)))) b12_ (by decide)
          have d14_ : Int32.toInt (n1 - n1 / 100 * 100) > Int32.toInt (M.1 (q0 + 36) (Int32.toNatClampNeg (n1 / 300))) := Int.not_le.mp ((not_congr (zi_le _ _)).mp c10_)
          refine pw_blk hT 2 (S' := (75, [some (pvR q0), some (pvI n1), some (pvI (n1 / 300)), some (pvI (n1 - n1 / 100 * 100))], [pvI 1], M)) rfl ⟨trivial, trivial, trivial⟩ ?_
          exact pw_ret hT rfl (r := some (pvI 1)) (M' := M) ⟨Or.inr rfl, rfl, rfl⟩ ⟨⟨_, rfl, (zr_wide (show 1 ≤ Int32.toInt 1 ∧ Int32.toInt 1 ≤ 1 from (by decide)) (by decide) (by decide))⟩, rfl⟩
      · refine And.intro (fun c15_ => ?_) (fun c15_ => ?_)
        · show PW 129 d (76, [some (pvR q0), some (pvI n1), some (pvI (n1 / 300)), some (pvI (n1 - n1 / 100 * 100))], [], M) _
          have b16_ : 1 ≤ Int32.toInt ((n1 / 100) - (n1 / 100) / 3 * 3) ∧ Int32.toInt ((n1 / 100) - (n1 / 100) / 3 * 3) ≤ 1 := (by have u0 := (zbnd ((n1 / 100) - (n1 / 100) / 3 * 3)); have u1 := (zi_eq _ _).mp c15_; have u2 := (show 1 ≤ Int32.toInt 1 ∧ Int32.toInt 1 ≤ 1 from (by decide)); omega)
          refine pw_blk hT 5 (S' := (83, [some (pvR q0), some (pvI n1), some (pvI (n1 / 300)), some (pvI (n1 - n1 / 100 * 100))], [pvI (n1 - n1 / 100 * 100), pvI (M.1 (q0 + 36) (Int32.toNatClampNeg (n1 / 300)))], M)) rfl ⟨trivial, hq0, trivial, ⟨(pvow_2_36 hq0).1, (by rw [(pvow_2_36 hq0).2.1]; exact (zr_in (n := 6) b6_ (by decide) (by decide)))⟩, trivial, trivial⟩ ?_
          refine pw_icn hT (c := (M.1 (q0 + 36) (Int32.toNatClampNeg (n1 / 300))) = (n1 - n1 / 100 * 100)) rfl rfl (fun c17_ => ?_) (fun c17_ => ?_)
          · refine pw_blk hT 1 (S' := (91, [some (pvR q0), some (pvI n1), some (pvI (n1 / 300)), some (pvI (n1 - n1 / 100 * 100))], [pvI 0], M)) rfl ⟨trivial, trivial⟩ ?_
            exact pw_ret hT rfl (r := some (pvI 0)) (M' := M) ⟨Or.inl rfl, rfl, rfl⟩ ⟨⟨_, rfl, (zr_wide (show 0 ≤ Int32.toInt 0 ∧ Int32.toInt 0 ≤ 0 from (by decide)) (by decide) (by decide))⟩, rfl⟩
          · have d18_ : Int32.toInt (M.1 (q0 + 36) (Int32.toNatClampNeg (n1 / 300))) = Int32.toInt (n1 - n1 / 100 * 100) := (zi_eq _ _).mp c17_
            refine pw_blk hT 2 (S' := (91, [some (pvR q0), some (pvI n1), some (pvI (n1 / 300)), some (pvI (n1 - n1 / 100 * 100))], [pvI 1], M)) rfl ⟨trivial, trivial, trivial⟩ ?_
            exact pw_ret hT rfl (r := some (pvI 1)) (M' := M) ⟨Or.inr rfl, rfl, rfl⟩ ⟨⟨_, rfl, (zr_wide (show 1 ≤ Int32.toInt 1 ∧ Int32.toInt 1 ≤ 1 from (by decide)) (by decide) (by decide))⟩, rfl⟩
        · show PW 129 d (92, [some (pvR q0), some (pvI n1), some (pvI (n1 / 300)), some (pvI (n1 - n1 / 100 * 100))], [], M) _
          refine pw_blk hT 5 (S' := (99, [some (pvR q0), some (pvI n1), some (pvI (n1 / 300)), some (pvI (n1 - n1 / 100 * 100))], [pvI (n1 - n1 / 100 * 100), pvI (M.1 (q0 + 36) (Int32.toNatClampNeg (n1 / 300)))], M)) rfl ⟨trivial, hq0, trivial, ⟨(pvow_2_36 hq0).1, (by rw [(pvow_2_36 hq0).2.1]; exact (zr_in (n := 6) b6_ (by decide) (by decide)))⟩, trivial, trivial⟩ ?_
          refine pw_ic hT (c := (M.1 (q0 + 36) (Int32.toNatClampNeg (n1 / 300))) ≤ (n1 - n1 / 100 * 100)) rfl rfl (fun c19_ => ?_) (fun c19_ => ?_)
          · have d20_ : Int32.toInt (M.1 (q0 + 36) (Int32.toNatClampNeg (n1 / 300))) ≤ Int32.toInt (n1 - n1 / 100 * 100) := (zi_le _ _).mp c19_
            refine pw_blk hT 1 (S' := (107, [some (pvR q0), some (pvI n1), some (pvI (n1 / 300)), some (pvI (n1 - n1 / 100 * 100))], [pvI 0], M)) rfl ⟨trivial, trivial⟩ ?_
            exact pw_ret hT rfl (r := some (pvI 0)) (M' := M) ⟨Or.inl rfl, rfl, rfl⟩ ⟨⟨_, rfl, (zr_wide (show 0 ≤ Int32.toInt 0 ∧ Int32.toInt 0 ≤ 0 from (by decide)) (by decide) (by decide))⟩, rfl⟩
          · have b21_ : (-2147483647) ≤ Int32.toInt (M.1 (q0 + 36) (Int32.toNatClampNeg (n1 / 300))) ∧ Int32.toInt (M.1 (q0 + 36) (Int32.toNatClampNeg (n1 / 300))) ≤ 2147483647 := zr_nle_l (-2147483647) c19_ (zbnd (M.1 (q0 + 36) (Int32.toNatClampNeg (n1 / 300)))) (zbnd (n1 - n1 / 100 * 100)) (by decide)
            have b22_ : (-2147483648) ≤ Int32.toInt (n1 - n1 / 100 * 100) ∧ Int32.toInt (n1 - n1 / 100 * 100) ≤ 2147483646 := zr_nle_r 2147483646 c19_ (zbnd (n1 - n1 / 100 * 100)) b21_ (by decide)
            have d23_ : Int32.toInt (M.1 (q0 + 36) (Int32.toNatClampNeg (n1 / 300))) > Int32.toInt (n1 - n1 / 100 * 100) := Int.not_le.mp ((not_congr (zi_le _ _)).mp c19_)
            refine pw_blk hT 2 (S' := (107, [some (pvR q0), some (pvI n1), some (pvI (n1 / 300)), some (pvI (n1 - n1 / 100 * 100))], [pvI 1], M)) rfl ⟨trivial, trivial, trivial⟩ ?_
            exact pw_ret hT rfl (r := some (pvI 1)) (M' := M) ⟨Or.inr rfl, rfl, rfl⟩ ⟨⟨_, rfl, (zr_wide (show 1 ≤ Int32.toInt 1 ∧ Int32.toInt 1 ≤ 1 from (by decide)) (by decide) (by decide))⟩, rfl⟩
    · have b24_ : 6 ≤ Int32.toInt (n1 / 300) ∧ Int32.toInt (n1 / 300) ≤ 2147483647 := zr_nlt_l 6 c5_ b3_ b4_ (by decide)
      have d25_ : Int32.toInt (n1 / 300) ≥ Int32.toInt (Int32.ofNat (pvln (q0 + 36))) := Int.not_lt.mp ((not_congr (zi_lt _ _)).mp c5_)
      refine pw_blk hT 1 (S' := (20, [some (pvR q0), some (pvI n1), some (pvI (n1 / 300)), none], [pvI 0], M)) rfl ⟨trivial, trivial⟩ ?_
      exact pw_ret hT rfl (r := some (pvI 0)) (M' := M) ⟨Or.inl rfl, rfl, rfl⟩ ⟨⟨_, rfl, (zr_wide (show 0 ≤ Int32.toInt 0 ∧ Int32.toInt 0 ≤ 0 from (by decide)) (by decide) (by decide))⟩, rfl⟩
set_option maxHeartbeats 4000000 in
set_option maxRecDepth 10000 in
theorem sf_X2_isTrue_x_x_x (M : pvM) (hok : pvOk M) (q0 : Nat) (n1 : Int32) (n2 : Int32) (hq0 : pvkl q0 = 2) (hn1 : 0 ≤ Int32.toInt n1 ∧ Int32.toInt n1 ≤ 100) (hn2 : 0 ≤ Int32.toInt n2 ∧ Int32.toInt n2 ≤ 100) (d : Nat) : PW 127 d (0, [some (pvR q0), some (pvI n1), some (pvI n2), none, none, none], [], M) (fun r X => (∃ x : Int32, r = some (pvI x) ∧ 0 ≤ Int32.toInt x ∧ Int32.toInt x ≤ 1) ∧ X = M) := by
  have hT : pvdom 127 = pvD_127 := rfl
  refine pw_blk hT 4 (S' := (5, [some (pvR q0), some (pvI n1), some (pvI n2), some (pvI 0), some (pvI n1), none], [], M)) rfl ⟨trivial, trivial, trivial, trivial, trivial⟩ ?_
  have hlz79_ : ∀ (nz79_ : Nat) (i3z79_ : Int32) (i4z79_ : Int32) (v5z79_ : Option pvV), (0 ≤ Int32.toInt i4z79_ ∧ Int32.toInt i4z79_ ≤ 100) → (zhide ((101 - Int32.toInt i4z79_).toNat < nz79_)) → PW 127 d (5, [some (pvR q0), some (pvI n1), some (pvI n2), some (pvI i3z79_), some (pvI i4z79_), v5z79_], [], M) (fun r X => (∃ x : Int32, r = some (pvI x) ∧ 0 ≤ Int32.toInt x ∧ Int32.toInt x ≤ 1) ∧ X = M) := by
    intro nz79_
    induction nz79_ with
    | zero => intro i3z79_ i4z79_ v5z79_ h4z79_ hmz79_; exact absurd (zshow hmz79_) (Nat.not_lt_zero _)
    | succ nz79_ ihz79_ =>
      intro i3z79_ i4z79_ v5z79_ h4z79_ hmz79_
      refine pw_blk hT 2 (S' := (8, [some (pvR q0), some (pvI n1), some (pvI n2), some (pvI i3z79_), some (pvI i4z79_), v5z79_], [pvI n2, pvI i4z79_], M)) rfl ⟨trivial, trivial, trivial⟩ ?_
      refine pw_ic hT (c := n2 ≤ i4z79_) rfl rfl (fun c80_ => ?_) (fun c80_ => ?_)
      · have d81_ : Int32.toInt n2 ≤ Int32.toInt i4z79_ := (zi_le _ _).mp c80_
        have b82_ : 0 ≤ Int32.toInt (i3z79_ &&& 1) ∧ Int32.toInt (i3z79_ &&& 1) ≤ 1 := (pvand1 i3z79_)
        refine pw_blk hT 4 (S' := (112, [some (pvR q0), some (pvI n1), some (pvI n2), some (pvI i3z79_), some (pvI i4z79_), v5z79_], [pvI 1, pvI (i3z79_ &&& 1)], M)) rfl ⟨trivial, trivial, trivial, trivial, trivial⟩ ?_
        refine pw_icn hT (c := (i3z79_ &&& 1) = 1) rfl rfl (fun c83_ => ?_) (fun c83_ => ?_)
        · have b84_ : 0 ≤ Int32.toInt (i3z79_ &&& 1) ∧ Int32.toInt (i3z79_ &&& 1) ≤ 0 := (by have u0 := b82_; have u1 := (not_congr (zi_eq _ _)).mp c83_; have u2 := (show 1 ≤ Int32.toInt 1 ∧ Int32.toInt 1 ≤ 1 from (by decide)); omega)
          refine pw_blk hT 1 (S' := (120, [some (pvR q0), some (pvI n1), some (pvI n2), some (pvI i3z79_), some (pvI i4z79_), v5z79_], [pvI 0], M)) rfl ⟨trivial, trivial⟩ ?_
          exact pw_ret hT rfl (r := some (pvI 0)) (M' := M) ⟨Or.inl rfl, rfl, rfl⟩ ⟨⟨_, rfl, (zr_wide (show 0 ≤ Int32.toInt 0 ∧ Int32.toInt 0 ≤ 0 from (by decide)) (by decide) (by decide))⟩, rfl⟩
        · have b85_ : 1 ≤ Int32.toInt (i3z79_ &&& 1) ∧ Int32.toInt (i3z79_ &&& 1) ≤ 1 := (by have u0 := b82_; have u1 := (zi_eq _ _).mp c83_; have u2 := (show 1 ≤ Int32.toInt 1 ∧ Int32.toInt 1 ≤ 1 from (by decide)); omega)
          refine pw_blk hT 2 (S' := (120, [some (pvR q0), some (pvI n1), some (pvI n2), some (pvI i3z79_), some (pvI i4z79_), v5z79_], [pvI 1], M)) rfl ⟨trivial, trivial, trivial⟩ ?_
          exact pw_ret hT rfl (r := some (pvI 1)) (M' := M) ⟨Or.inr rfl, rfl, rfl⟩ ⟨⟨_, rfl, (zr_wide (show 1 ≤ Int32.toInt 1 ∧ Int32.toInt 1 ≤ 1 from (by decide)) (by decide) (by decide))⟩, rfl⟩
      · have b86_ : 1 ≤ Int32.toInt n2 ∧ Int32.toInt n2 ≤ 100 := zr_nle_l 1 c80_ hn2 h4z79_ (by decide)
        have b87_ : 0 ≤ Int32.toInt i4z79_ ∧ Int32.toInt i4z79_ ≤ 99 := zr_nle_r 99 c80_ h4z79_ b86_ (by decide)
        have d88_ : Int32.toInt n2 > Int32.toInt i4z79_ := Int.not_le.mp ((not_congr (zi_le _ _)).mp c80_)
        have b89_ : 0 ≤ Int32.toInt (i3z79_ &&& 1) ∧ Int32.toInt (i3z79_ &&& 1) ≤ 1 := (pvand1 i3z79_)
        have b90_ : (-3) ≤ Int32.toInt (M.1 (q0 + 27) (Int32.toNatClampNeg i4z79_)) ∧ Int32.toInt (M.1 (q0 + 27) (Int32.toNatClampNeg i4z79_)) ≤ 2099 := pvok_r hok (q0 + 27) (Int32.toNatClampNeg i4z79_) ((pvrg_a _ (by rw [(pvow_2_27 hq0).1]; decide)).trans (pvow_2_27 hq0).2.2.2)
        refine pw_blk hT 8 (S' := (23, [some (pvR q0), some (pvI n1), some (pvI n2), some (pvI i3z79_), some (pvI i4z79_), some (pvI (i3z79_ &&& 1))], [pvI (M.1 (q0 + 27) (Int32.toNatClampNeg i4z79_))], M)) rfl ⟨trivial, trivial, trivial, trivial, trivial, hq0, trivial, ⟨(pvow_2_27 hq0).1, (by rw [(pvow_2_27 hq0).2.1]; exact (zr_in (n := 100) b87_ (by decide) (by decide)))⟩, trivial⟩ ?_
        refine pw_sw hT rfl rfl ?_
        refine And.intro (fun c91_ => ?_) (fun c91_ => ?_)
        · show PW 127 d (68, [some (pvR q0), some (pvI n1), some (pvI n2), some (pvI i3z79_), some (pvI i4z79_), some (pvI (i3z79_ &&& 1))], [], M) _
          have b92_ : (-3) ≤ Int32.toInt (M.1 (q0 + 27) (Int32.toNatClampNeg i4z79_)) ∧ Int32.toInt (M.1 (q0 + 27) (Int32.toNatClampNeg i4z79_)) ≤ (-3) := (by have u0 := b90_; have u1 := (zi_eq _ _).mp c91_; have u2 := (show (-3) ≤ Int32.toInt (-3) ∧ Int32.toInt (-3) ≤ (-3) from (by decide)); omega)
          obtain ⟨q94_, b93_⟩ : (Int32.toInt (i4z79_ + 1) = Int32.toInt i4z79_ + 1) ∧ (1 ≤ Int32.toInt (i4z79_ + 1) ∧ Int32.toInt (i4z79_ + 1) ≤ 100) := zadd_k i4z79_ 1 1 1 100 b87_ (by decide) (by decide) (by decide) (by decide) (by decide)
          refine pw_blk hT 9 (S' := (5, [some (pvR q0), some (pvI n1), some (pvI n2), some (pvI ((i3z79_ >>> (1 &&& 31)) ||| (i3z79_ &&& 1))), some (pvI (i4z79_ + 1)), some (pvI (i3z79_ &&& 1))], [], M)) rfl ⟨trivial, trivial, trivial, trivial, trivial, trivial, trivial, trivial, trivial, trivial⟩ ?_
          exact ihz79_ ((i3z79_ >>> (1 &&& 31)) ||| (i3z79_ &&& 1)) (i4z79_ + 1) (some (pvI (i3z79_ &&& 1))) (zr_wide b93_ (by decide) (by decide)) (zhid (pvms_up (zshow hmz79_) h4z79_ q94_ (by decide) (by decide)))
        · have b95_ : (-2) ≤ Int32.toInt (M.1 (q0 + 27) (Int32.toNatClampNeg i4z79_)) ∧ Int32.toInt (M.1 (q0 + 27) (Int32.toNatClampNeg i4z79_)) ≤ 2099 := (by have u0 := b90_; have u1 := (not_congr (zi_eq _ _)).mp c91_; have u2 := (show (-3) ≤ Int32.toInt (-3) ∧ Int32.toInt (-3) ≤ (-3) from (by decide)); omega)
          refine And.intro (fun c96_ => ?_) (fun c96_ => ?_)
          · show PW 127 d (55, [some (pvR q0), some (pvI n1), some (pvI n2), some (pvI i3z79_), some (pvI i4z79_), some (pvI (i3z79_ &&& 1))], [], M) _
            have b97_ : (-2) ≤ Int32.toInt (M.1 (q0 + 27) (Int32.toNatClampNeg i4z79_)) ∧ Int32.toInt (M.1 (q0 + 27) (Int32.toNatClampNeg i4z79_)) ≤ (-2) := (by have u0 := b95_; have u1 := (zi_eq _ _).mp c96_; have u2 := (show (-2) ≤ Int32.toInt (-2) ∧ Int32.toInt (-2) ≤ (-2) from (by decide)); omega)
            obtain ⟨q99_, b98_⟩ : (Int32.toInt (i4z79_ + 1) = Int32.toInt i4z79_ + 1) ∧ (1 ≤ Int32.toInt (i4z79_ + 1) ∧ Int32.toInt (i4z79_ + 1) ≤ 100) := zadd_k i4z79_ 1 1 1 100 b87_ (by decide) (by decide) (by decide) (by decide) (by decide)
            refine pw_blk hT 11 (S' := (5, [some (pvR q0), some (pvI n1), some (pvI n2), some (pvI ((i3z79_ >>> (1 &&& 31)) &&& ((i3z79_ &&& 1) ||| (-2)))), some (pvI (i4z79_ + 1)), some (pvI (i3z79_ &&& 1))], [], M)) rfl ⟨trivial, trivial, trivial, trivial, trivial, trivial, trivial, trivial, trivial, trivial, trivial, trivial⟩ ?_
            exact ihz79_ ((i3z79_ >>> (1 &&& 31)) &&& ((i3z79_ &&& 1) ||| (-2))) (i4z79_ + 1) (some (pvI (i3z79_ &&& 1))) (zr_wide b98_ (by decide) (by decide)) (zhid (pvms_up (zshow hmz79_) h4z79_ q99_ (by decide) (by decide)))
          · have b100_ : (-1) ≤ Int32.toInt (M.1 (q0 + 27) (Int32.toNatClampNeg i4z79_)) ∧ Int32.toInt (M.1 (q0 + 27) (Int32.toNatClampNeg i4z79_)) ≤ 2099 := (by have u0 := b95_; have u1 := (not_congr (zi_eq _ _)).mp c96_; have u2 := (show (-2) ≤ Int32.toInt (-2) ∧ Int32.toInt (-2) ≤ (-2) from (by decide)); omega)
            refine And.intro (fun c101_ => ?_) (fun c101_ => ?_)
            · show PW 127 d (48, [some (pvR q0), some (pvI n1), some (pvI n2), some (pvI i3z79_), some (pvI i4z79_), some (pvI (i3z79_ &&& 1))], [], M) _
              have b102_ : (-1) ≤ Int32.toInt (M.1 (q0 + 27) (Int32.toNatClampNeg i4z79_)) ∧ Int32.toInt (M.1 (q0 + 27) (Int32.toNatClampNeg i4z79_)) ≤ (-1) := (by have u0 := b100_; have u1 := (zi_eq _ _).mp c101_; have u2 := (show (-1) ≤ Int32.toInt (-1) ∧ Int32.toInt (-1) ≤ (-1) from (by decide)); omega)
              obtain ⟨q104_, b103_⟩ : (Int32.toInt (i4z79_ + 1) = Int32.toInt i4z79_ + 1) ∧ (1 ≤ Int32.toInt (i4z79_ + 1) ∧ Int32.toInt (i4z79_ + 1) ≤ 100) := zadd_k i4z79_ 1 1 1 100 b87_ (by decide) (by decide) (by decide) (by decide) (by decide)
              refine pw_blk hT 7 (S' := (5, [some (pvR q0), some (pvI n1), some (pvI n2), some (pvI (i3z79_ ^^^ 1)), some (pvI (i4z79_ + 1)), some (pvI (i3z79_ &&& 1))], [], M)) rfl ⟨trivial, trivial, trivial, trivial, trivial, trivial, trivial, trivial⟩ ?_
              exact ihz79_ (i3z79_ ^^^ 1) (i4z79_ + 1) (some (pvI (i3z79_ &&& 1))) (zr_wide b103_ (by decide) (by decide)) (zhid (pvms_up (zshow hmz79_) h4z79_ q104_ (by decide) (by decide)))
            · have b105_ : 0 ≤ Int32.toInt (M.1 (q0 + 27) (Int32.toNatClampNeg i4z79_)) ∧ Int32.toInt (M.1 (q0 + 27) (Int32.toNatClampNeg i4z79_)) ≤ 2099 := (by have u0 := b100_; have u1 := (not_congr (zi_eq _ _)).mp c101_; have u2 := (show (-1) ≤ Int32.toInt (-1) ∧ Int32.toInt (-1) ≤ (-1) from (by decide)); omega)
              show PW 127 d (78, [some (pvR q0), some (pvI n1), some (pvI n2), some (pvI i3z79_), some (pvI i4z79_), some (pvI (i3z79_ &&& 1))], [], M) _
              refine pw_blk hT 8 (S' := (89, [some (pvR q0), some (pvI n1), some (pvI n2), some (pvI i3z79_), some (pvI i4z79_), some (pvI (i3z79_ &&& 1))], [pvI (M.1 (q0 + 27) (Int32.toNatClampNeg i4z79_)), pvR q0, pvI (i3z79_ <<< (1 &&& 31))], M)) rfl ⟨trivial, trivial, trivial, trivial, trivial, hq0, trivial, ⟨(pvow_2_27 hq0).1, (by rw [(pvow_2_27 hq0).2.1]; exact (zr_in (n := 100) b87_ (by decide) (by decide)))⟩, trivial⟩ ?_
              refine pw_callGp hT (as := [pvR q0, pvI (M.1 (q0 + 27) (Int32.toNatClampNeg i4z79_))]) (lo1 := [some (pvR q0), some (pvI (M.1 (q0 + 27) (Int32.toNatClampNeg i4z79_))), none, none]) (d1 := d) (rest := [pvI (i3z79_ <<< (1 &&& 31))]) rfl rfl rfl rfl rfl (fun _ => hq0) (Nat.zero_le _) rfl rfl rfl (sf_X2_passes_x_x M hok q0 (M.1 (q0 + 27) (Int32.toNatClampNeg i4z79_)) hq0 d) (fun x106_ b108_ => ?_)
              refine pw_if hT (c := x106_ = 0) rfl rfl (fun c111_ => ?_) (fun c111_ => ?_)
              · have b112_ : 0 ≤ Int32.toInt x106_ ∧ Int32.toInt x106_ ≤ 0 := (by have u0 := b108_; have u1 := (zi_eq _ _).mp c111_; have u2 := (show 0 ≤ Int32.toInt 0 ∧ Int32.toInt 0 ≤ 0 from (by decide)); omega)
                obtain ⟨q114_, b113_⟩ : (Int32.toInt (i4z79_ + 1) = Int32.toInt i4z79_ + 1) ∧ (1 ≤ Int32.toInt (i4z79_ + 1) ∧ Int32.toInt (i4z79_ + 1) ≤ 100) := zadd_k i4z79_ 1 1 1 100 b87_ (by decide) (by decide) (by decide) (by decide) (by decide)
                refine pw_blk hT 5 (S' := (5, [some (pvR q0), some (pvI n1), some (pvI n2), some (pvI ((i3z79_ <<< (1 &&& 31)) ||| 0)), some (pvI (i4z79_ + 1)), some (pvI (i3z79_ &&& 1))], [], M)) rfl ⟨trivial, trivial, trivial, trivial, trivial, trivial⟩ ?_
                exact ihz79_ ((i3z79_ <<< (1 &&& 31)) ||| 0) (i4z79_ + 1) (some (pvI (i3z79_ &&& 1))) (zr_wide b113_ (by decide) (by decide)) (zhid (pvms_up (zshow hmz79_) h4z79_ q114_ (by decide) (by decide)))
              · have b115_ : 1 ≤ Int32.toInt x106_ ∧ Int32.toInt x106_ ≤ 1 := (by have u0 := b108_; have u1 := (not_congr (zi_eq _ _)).mp c111_; have u2 := (show 0 ≤ Int32.toInt 0 ∧ Int32.toInt 0 ≤ 0 from (by decide)); omega)
                obtain ⟨q117_, b116_⟩ : (Int32.toInt (i4z79_ + 1) = Int32.toInt i4z79_ + 1) ∧ (1 ≤ Int32.toInt (i4z79_ + 1) ∧ Int32.toInt (i4z79_ + 1) ≤ 100) := zadd_k i4z79_ 1 1 1 100 b87_ (by decide) (by decide) (by decide) (by decide) (by decide)
                refine pw_blk hT 6 (S' := (5, [some (pvR q0), some (pvI n1), some (pvI n2), some (pvI ((i3z79_ <<< (1 &&& 31)) ||| 1)), some (pvI (i4z79_ + 1)), some (pvI (i3z79_ &&& 1))], [], M)) rfl ⟨trivial, trivial, trivial, trivial, trivial, trivial, trivial⟩ ?_
                exact ihz79_ ((i3z79_ <<< (1 &&& 31)) ||| 1) (i4z79_ + 1) (some (pvI (i3z79_ &&& 1))) (zr_wide b116_ (by decide) (by decide)) (zhid (pvms_up (zshow hmz79_) h4z79_ q117_ (by decide) (by decide)))
  exact hlz79_ _ 0 n1 none hn1 (zhid (Nat.lt_succ_self _))
def fpL_X2_rainOn_x_x_x_x_x : List (Nat × Nat × Nat) := [(1, 112, 0)]
def fp_X2_rainOn_x_x_x_x_x (q k : Nat) : Bool := pvfp fpL_X2_rainOn_x_x_x_x_x q k
theorem fp_X2_rainOn_x_x_x_x_x_fp_X2_learn_x_x_x_x_x (a b : Nat) (h : fp_X2_learn_x_x_x_x_x a b = true) : fp_X2_rainOn_x_x_x_x_x a b = true := pvfp_sub (l1 := fpL_X2_learn_x_x_x_x_x) (l2 := fpL_X2_rainOn_x_x_x_x_x) (by decide) a b h
set_option maxHeartbeats 4000000 in
set_option maxRecDepth 10000 in
theorem sf_X2_rainOn_x_x_x_x_x (M : pvM) (hok : pvOk M) (q0 : Nat) (q1 : Nat) (n2 : Int32) (n3 : Int32) (n4 : Int32) (hq0 : pvkl q0 = 2) (hq1 : pvkl q1 = 3) (hn2 : 0 ≤ Int32.toInt n2 ∧ Int32.toInt n2 ≤ 6) (hn3 : 0 ≤ Int32.toInt n3 ∧ Int32.toInt n3 ≤ 3) (hn4 : 0 ≤ Int32.toInt n4 ∧ Int32.toInt n4 ≤ 99) (d : Nat) : PW 130 d (0, [some (pvR q0), some (pvR q1), some (pvI n2), some (pvI n3), some (pvI n4), none, none, none], [], M) (fun r X => (∃ x : Int32, r = some (pvI x) ∧ 0 ≤ Int32.toInt x ∧ Int32.toInt x ≤ 1000) ∧ pvOk X ∧ pvFr fp_X2_rainOn_x_x_x_x_x M X) := by
  have hT : pvdom 130 = pvD_130 := rfl
  refine pw_blk hT 5 (S' := (6, [some (pvR q0), some (pvR q1), some (pvI n2), some (pvI n3), some (pvI n4), none, none, none], [pvI n4, pvI n3, pvI n2, pvR q1, pvR q0], M)) rfl ⟨trivial, trivial, trivial, trivial, trivial, trivial⟩ ?_
  refine pw_callV hT (as := [pvR q0, pvR q1, pvI n2, pvI n3, pvI n4]) (lo1 := [some (pvR q0), some (pvR q1), some (pvI n2), some (pvI n3), some (pvI n4)]) (d1 := d) (rest := []) rfl rfl rfl rfl rfl (fun _ => hq0) (Nat.zero_le _) rfl rfl rfl (sf_X2_learn_x_x_x_x_x M hok q0 q1 n2 n3 n4 hq0 hq1 hn2 hn3 hn4 d) (fun M2_ o4_ g5_ => ?_)
  have f6_ : pvFr fp_X2_rainOn_x_x_x_x_x M M2_ := pvfr_t g5_ pvfr_0 fp_X2_rainOn_x_x_x_x_x_fp_X2_learn_x_x_x_x_x
  refine pw_blk hT 6 (S' := (18, [some (pvR q0), some (pvR q1), some (pvI n2), some (pvI n3), some (pvI n4), some (pvI 3), some (pvI 0), some (pvI 0)], [], M2_)) rfl ⟨trivial, trivial, trivial, trivial, trivial, trivial, trivial⟩ ?_
  have hlz80_ : ∀ (nz80_ : Nat) (i5z80_ : Int32) (i6z80_ : Int32) (i7z80_ : Int32), ((-1000) ≤ Int32.toInt i5z80_ ∧ Int32.toInt i5z80_ ≤ 1000) → (0 ≤ Int32.toInt i6z80_ ∧ Int32.toInt i6z80_ ≤ 100) → (0 ≤ Int32.toInt i7z80_ ∧ Int32.toInt i7z80_ ≤ 10) → (Int32.toInt i5z80_ ≤ 3 + 99 * Int32.toInt i7z80_) → (-(99 * Int32.toInt i7z80_) ≤ Int32.toInt i5z80_) → (zhide ((11 - Int32.toInt i7z80_).toNat < nz80_)) → PW 130 d (18, [some (pvR q0), some (pvR q1), some (pvI n2), some (pvI n3), some (pvI n4), some (pvI i5z80_), some (pvI i6z80_), some (pvI i7z80_)], [], M2_) (fun r X => (∃ x : Int32, r = some (pvI x) ∧ 0 ≤ Int32.toInt x ∧ Int32.toInt x ≤ 1000) ∧ pvOk X ∧ pvFr fp_X2_rainOn_x_x_x_x_x M X) := by
    intro nz80_
    induction nz80_ with
    | zero => intro i5z80_ i6z80_ i7z80_ h5z80_ h6z80_ h7z80_ j0z80_ j1z80_ hmz80_; exact absurd (zshow hmz80_) (Nat.not_lt_zero _)
    | succ nz80_ ihz80_ =>
      intro i5z80_ i6z80_ i7z80_ h5z80_ h6z80_ h7z80_ j0z80_ j1z80_ hmz80_
      have b81_ : 0 ≤ Int32.toInt (M2_.1 q0 2) ∧ Int32.toInt (M2_.1 q0 2) ≤ 10 := pvok_r o4_ q0 2 ((pvrg_o 2 hq0 (by decide) (by decide)).trans rfl)
      refine pw_blk hT 3 (S' := (24, [some (pvR q0), some (pvR q1), some (pvI n2), some (pvI n3), some (pvI n4), some (pvI i5z80_), some (pvI i6z80_), some (pvI i7z80_)], [pvI (M2_.1 q0 2), pvI i7z80_], M2_)) rfl ⟨trivial, trivial, hq0, trivial⟩ ?_
      refine pw_ic hT (c := (M2_.1 q0 2) ≤ i7z80_) rfl rfl (fun c82_ => ?_) (fun c82_ => ?_)
      · have d83_ : Int32.toInt (M2_.1 q0 2) ≤ Int32.toInt i7z80_ := (zi_le _ _).mp c82_
        have q84_ : Int32.toInt (if i5z80_ < 0 then 0 else i5z80_) = max (Int32.toInt i5z80_) (Int32.toInt 0) := pvmax i5z80_ 0
        have b85_ : 0 ≤ Int32.toInt (if i5z80_ < 0 then 0 else i5z80_) ∧ Int32.toInt (if i5z80_ < 0 then 0 else i5z80_) ≤ 1000 := (by have u0 := h5z80_; have u1 := (show 0 ≤ Int32.toInt 0 ∧ Int32.toInt 0 ≤ 0 from (by decide)); omega)
        refine pw_blk hT 3 (S' := (76, [some (pvR q0), some (pvR q1), some (pvI n2), some (pvI n3), some (pvI n4), some (pvI i5z80_), some (pvI i6z80_), some (pvI i7z80_)], [pvI (if i5z80_ < 0 then 0 else i5z80_)], M2_)) rfl ⟨trivial, trivial, (Nat.le_of_ble_eq_true rfl), trivial⟩ ?_
        exact pw_ret hT rfl (r := some (pvI (if i5z80_ < 0 then 0 else i5z80_))) (M' := M2_) ⟨rfl, rfl⟩ ⟨⟨_, rfl, b85_⟩, o4_, f6_⟩
      · have b86_ : 1 ≤ Int32.toInt (M2_.1 q0 2) ∧ Int32.toInt (M2_.1 q0 2) ≤ 10 := zr_nle_l 1 c82_ b81_ h7z80_ (by decide)
        have b87_ : 0 ≤ Int32.toInt i7z80_ ∧ Int32.toInt i7z80_ ≤ 9 := zr_nle_r 9 c82_ h7z80_ b86_ (by decide)
        have d88_ : Int32.toInt (M2_.1 q0 2) > Int32.toInt i7z80_ := Int.not_le.mp ((not_congr (zi_le _ _)).mp c82_)
        have b89_ : 0 ≤ Int32.toInt (M2_.1 (q0 + 18) (Int32.toNatClampNeg i7z80_)) ∧ Int32.toInt (M2_.1 (q0 + 18) (Int32.toNatClampNeg i7z80_)) ≤ 100 := pvok_r o4_ (q0 + 18) (Int32.toNatClampNeg i7z80_) ((pvrg_a _ (by rw [(pvow_2_18 hq0).1]; decide)).trans (pvow_2_18 hq0).2.2.2)
        refine pw_blk hT 6 (S' := (37, [some (pvR q0), some (pvR q1), some (pvI n2), some (pvI n3), some (pvI n4), some (pvI i5z80_), some (pvI i6z80_), some (pvI i7z80_)], [pvI (M2_.1 (q0 + 18) (Int32.toNatClampNeg i7z80_)), pvI i6z80_, pvR q0], M2_)) rfl ⟨trivial, trivial, trivial, hq0, trivial, ⟨(pvow_2_18 hq0).1, (by rw [(pvow_2_18 hq0).2.1]; exact (zr_in (n := 10) b87_ (by decide) (by decide)))⟩, trivial⟩ ?_
        refine pw_callGp hT (as := [pvR q0, pvI i6z80_, pvI (M2_.1 (q0 + 18) (Int32.toNatClampNeg i7z80_))]) (lo1 := [some (pvR q0), some (pvI i6z80_), some (pvI (M2_.1 (q0 + 18) (Int32.toNatClampNeg i7z80_))), none, none, none]) (d1 := d) (rest := []) rfl rfl rfl rfl rfl (fun _ => hq0) (Nat.zero_le _) rfl rfl rfl (sf_X2_isTrue_x_x_x M2_ o4_ q0 i6z80_ (M2_.1 (q0 + 18) (Int32.toNatClampNeg i7z80_)) hq0 h6z80_ b89_ d) (fun x90_ b92_ => ?_)
        refine pw_if hT (c := x90_ = 0) rfl rfl (fun c95_ => ?_) (fun c95_ => ?_)
        · have b96_ : 0 ≤ Int32.toInt x90_ ∧ Int32.toInt x90_ ≤ 0 := (by have u0 := b92_; have u1 := (zi_eq _ _).mp c95_; have u2 := (show 0 ≤ Int32.toInt 0 ∧ Int32.toInt 0 ≤ 0 from (by decide)); omega)
          obtain ⟨q98_, b97_⟩ : (Int32.toInt (i7z80_ + 1) = Int32.toInt i7z80_ + 1) ∧ (1 ≤ Int32.toInt (i7z80_ + 1) ∧ Int32.toInt (i7z80_ + 1) ≤ 10) := zadd_k i7z80_ 1 1 1 10 b87_ (by decide) (by decide) (by decide) (by decide) (by decide)
          refine pw_blk hT 7 (S' := (18, [some (pvR q0), some (pvR q1), some (pvI n2), some (pvI n3), some (pvI n4), some (pvI i5z80_), some (pvI (M2_.1 (q0 + 18) (Int32.toNatClampNeg i7z80_))), some (pvI (i7z80_ + 1))], [], M2_)) rfl ⟨trivial, hq0, trivial, ⟨(pvow_2_18 hq0).1, (by rw [(pvow_2_18 hq0).2.1]; exact (zr_in (n := 10) b87_ (by decide) (by decide)))⟩, trivial, trivial, trivial, trivial⟩ ?_
          have j99_ : Int32.toInt i5z80_ ≤ 3 + 99 * Int32.toInt (i7z80_ + 1) := by omega
          have j100_ : -(99 * Int32.toInt (i7z80_ + 1)) ≤ Int32.toInt i5z80_ := by omega
          exact ihz80_ i5z80_ (M2_.1 (q0 + 18) (Int32.toNatClampNeg i7z80_)) (i7z80_ + 1) h5z80_ b89_ (zr_wide b97_ (by decide) (by decide)) j99_ j100_ (zhid (pvms_up (zshow hmz80_) h7z80_ q98_ (by decide) (by decide)))
        · have b101_ : 1 ≤ Int32.toInt x90_ ∧ Int32.toInt x90_ ≤ 1 := (by have u0 := b92_; have u1 := (not_congr (zi_eq _ _)).mp c95_; have u2 := (show 0 ≤ Int32.toInt 0 ∧ Int32.toInt 0 ≤ 0 from (by decide)); omega)
          have b102_ : (-99) ≤ Int32.toInt (M2_.1 (q0 + 9) (Int32.toNatClampNeg i7z80_)) ∧ Int32.toInt (M2_.1 (q0 + 9) (Int32.toNatClampNeg i7z80_)) ≤ 99 := pvok_r o4_ (q0 + 9) (Int32.toNatClampNeg i7z80_) ((pvrg_a _ (by rw [(pvow_2_9 hq0).1]; decide)).trans (pvow_2_9 hq0).2.2.2)
          obtain ⟨q104_, b103_⟩ : (Int32.toInt (i5z80_ + (M2_.1 (q0 + 9) (Int32.toNatClampNeg i7z80_))) = Int32.toInt i5z80_ + Int32.toInt (M2_.1 (q0 + 9) (Int32.toNatClampNeg i7z80_))) ∧ ((-1099) ≤ Int32.toInt (i5z80_ + (M2_.1 (q0 + 9) (Int32.toNatClampNeg i7z80_))) ∧ Int32.toInt (i5z80_ + (M2_.1 (q0 + 9) (Int32.toNatClampNeg i7z80_))) ≤ 1099) := zadd_r i5z80_ (M2_.1 (q0 + 9) (Int32.toNatClampNeg i7z80_)) (-1099) 1099 h5z80_ b102_ (by decide) (by decide) (by decide) (by decide)
          obtain ⟨q106_, b105_⟩ : (Int32.toInt (i7z80_ + 1) = Int32.toInt i7z80_ + 1) ∧ (1 ≤ Int32.toInt (i7z80_ + 1) ∧ Int32.toInt (i7z80_ + 1) ≤ 10) := zadd_k i7z80_ 1 1 1 10 b87_ (by decide) (by decide) (by decide) (by decide) (by decide)
          refine pw_blk hT 14 (S' := (18, [some (pvR q0), some (pvR q1), some (pvI n2), some (pvI n3), some (pvI n4), some (pvI (i5z80_ + (M2_.1 (q0 + 9) (Int32.toNatClampNeg i7z80_)))), some (pvI (M2_.1 (q0 + 18) (Int32.toNatClampNeg i7z80_))), some (pvI (i7z80_ + 1))], [], M2_)) rfl ⟨trivial, trivial, hq0, trivial, ⟨(pvow_2_9 hq0).1, (by rw [(pvow_2_9 hq0).2.1]; exact (zr_in (n := 10) b87_ (by decide) (by decide)))⟩, trivial, trivial, trivial, hq0, trivial, ⟨(pvow_2_18 hq0).1, (by rw [(pvow_2_18 hq0).2.1]; exact (zr_in (n := 10) b87_ (by decide) (by decide)))⟩, trivial, trivial, trivial, trivial⟩ ?_
          have j107_ : Int32.toInt (i5z80_ + (M2_.1 (q0 + 9) (Int32.toNatClampNeg i7z80_))) ≤ 3 + 99 * Int32.toInt (i7z80_ + 1) := by omega
          have j108_ : -(99 * Int32.toInt (i7z80_ + 1)) ≤ Int32.toInt (i5z80_ + (M2_.1 (q0 + 9) (Int32.toNatClampNeg i7z80_))) := by omega
          exact ihz80_ (i5z80_ + (M2_.1 (q0 + 9) (Int32.toNatClampNeg i7z80_))) (M2_.1 (q0 + 18) (Int32.toNatClampNeg i7z80_)) (i7z80_ + 1) (by have u0 := b103_; omega) b89_ (zr_wide b105_ (by decide) (by decide)) j107_ j108_ (zhid (pvms_up (zshow hmz80_) h7z80_ q106_ (by decide) (by decide)))
  have u109_ : Int32.toInt 3 = 3 := by decide
  have u110_ : Int32.toInt 0 = 0 := by decide
  have j111_ : Int32.toInt 3 ≤ 3 + 99 * Int32.toInt 0 := by omega
  have j112_ : -(99 * Int32.toInt 0) ≤ Int32.toInt 3 := by omega
  exact hlz80_ _ 3 0 0 (zr_wide (show 3 ≤ Int32.toInt 3 ∧ Int32.toInt 3 ≤ 3 from (by decide)) (by decide) (by decide)) (zr_wide (show 0 ≤ Int32.toInt 0 ∧ Int32.toInt 0 ≤ 0 from (by decide)) (by decide) (by decide)) (zr_wide (show 0 ≤ Int32.toInt 0 ∧ Int32.toInt 0 ≤ 0 from (by decide)) (by decide) (by decide)) j111_ j112_ (zhid (Nat.lt_succ_self _))
set_option maxHeartbeats 4000000 in
set_option maxRecDepth 10000 in
theorem sf_X4_harmBy_x_x_x (M : pvM) (hok : pvOk M) (q0 : Nat) (n1 : Int32) (n2 : Int32) (hq0 : pvkl q0 = 3) (hn1 : 0 ≤ Int32.toInt n1 ∧ Int32.toInt n1 ≤ 1000) (d : Nat) : PW 135 d (0, [some (pvR q0), some (pvI n1), some (pvI n2)], [], M) (fun r X => (∃ x : Int32, r = some (pvI x) ∧ 0 ≤ Int32.toInt x ∧ Int32.toInt x ≤ 2000) ∧ X = M) := by
  have hT : pvdom 135 = pvD_135 := rfl
  have b1_ : 0 ≤ Int32.toInt (M.1 q0 0) ∧ Int32.toInt (M.1 q0 0) ≤ 6 := pvok_r hok q0 0 ((pvrg_o 0 hq0 (by decide) (by decide)).trans rfl)
  refine pw_blk hT 2 (S' := (4, [some (pvR q0), some (pvI n1), some (pvI n2)], [pvI (M.1 q0 0)], M)) rfl ⟨trivial, hq0, trivial⟩ ?_
  refine pw_sw hT rfl rfl ?_
  refine And.intro (fun c2_ => ?_) (fun c2_ => ?_)
  · show PW 135 d (40, [some (pvR q0), some (pvI n1), some (pvI n2)], [], M) _
    have b3_ : 2 ≤ Int32.toInt (M.1 q0 0) ∧ Int32.toInt (M.1 q0 0) ≤ 2 := (by have u0 := b1_; have u1 := (zi_eq _ _).mp c2_; have u2 := (show 2 ≤ Int32.toInt 2 ∧ Int32.toInt 2 ≤ 2 from (by decide)); omega)
    have q4_ : Int32.toInt (n1 / 2) = Int32.toInt n1 / 2 := by have u0 := hn1; have u := zdiv_p n1 2 (by omega) (by decide) (by decide); have e0 : nI 2 = (2 : Int32) := rfl; rw [e0] at u; omega
    have b5_ : 0 ≤ Int32.toInt (n1 / 2) ∧ Int32.toInt (n1 / 2) ≤ 500 := (by have u0 := hn1; omega)
    refine pw_blk hT 3 (S' := (43, [some (pvR q0), some (pvI n1), some (pvI n2)], [pvI (n1 / 2)], M)) rfl ⟨trivial, trivial, (by decide), trivial⟩ ?_
    exact pw_ret hT rfl (r := some (pvI (n1 / 2))) (M' := M) ⟨rfl, rfl⟩ ⟨⟨_, rfl, (zr_wide b5_ (by decide) (by decide))⟩, rfl⟩
  · refine And.intro (fun c6_ => ?_) (fun c6_ => ?_)
    · show PW 135 d (62, [some (pvR q0), some (pvI n1), some (pvI n2)], [], M) _
      have b7_ : 3 ≤ Int32.toInt (M.1 q0 0) ∧ Int32.toInt (M.1 q0 0) ≤ 3 := (by have u0 := b1_; have u1 := (zi_eq _ _).mp c6_; have u2 := (show 3 ≤ Int32.toInt 3 ∧ Int32.toInt 3 ≤ 3 from (by decide)); omega)
      have q8_ : Int32.toInt (2 * n1) = 2 * Int32.toInt n1 := by have u0 : Int32.toInt 2 = 2 := (by decide); have u1 := hn1; have u2 := zmul 2 n1 (by rw [u0]; omega) (by rw [u0]; omega); rw [u0] at u2; omega
      have b9_ : 0 ≤ Int32.toInt (2 * n1) ∧ Int32.toInt (2 * n1) ≤ 2000 := (by have u1 := hn1; omega)
      refine pw_blk hT 3 (S' := (65, [some (pvR q0), some (pvI n1), some (pvI n2)], [pvI (2 * n1)], M)) rfl ⟨trivial, trivial, trivial, trivial⟩ ?_
      exact pw_ret hT rfl (r := some (pvI (2 * n1))) (M' := M) ⟨rfl, rfl⟩ ⟨⟨_, rfl, b9_⟩, rfl⟩
    · refine And.intro (fun c10_ => ?_) (fun c10_ => ?_)
      · show PW 135 d (66, [some (pvR q0), some (pvI n1), some (pvI n2)], [], M) _
        have b11_ : 4 ≤ Int32.toInt (M.1 q0 0) ∧ Int32.toInt (M.1 q0 0) ≤ 4 := (by have u0 := b1_; have u1 := (zi_eq _ _).mp c10_; have u2 := (show 4 ≤ Int32.toInt 4 ∧ Int32.toInt 4 ≤ 4 from (by decide)); omega)
        refine pw_blk hT 1 (S' := (67, [some (pvR q0), some (pvI n1), some (pvI n2)], [pvI n1], M)) rfl ⟨trivial, trivial⟩ ?_
        exact pw_ret hT rfl (r := some (pvI n1)) (M' := M) ⟨rfl, rfl⟩ ⟨⟨_, rfl, (zr_wide hn1 (by decide) (by decide))⟩, rfl⟩
      · refine And.intro (fun c12_ => ?_) (fun c12_ => ?_)
        · show PW 135 d (44, [some (pvR q0), some (pvI n1), some (pvI n2)], [], M) _
          have b13_ : 5 ≤ Int32.toInt (M.1 q0 0) ∧ Int32.toInt (M.1 q0 0) ≤ 5 := (by have u0 := b1_; have u1 := (zi_eq _ _).mp c12_; have u2 := (show 5 ≤ Int32.toInt 5 ∧ Int32.toInt 5 ≤ 5 from (by decide)); omega)
          have b14_ : 0 ≤ Int32.toInt (M.1 q0 1) ∧ Int32.toInt (M.1 q0 1) ≤ 9 := pvok_r hok q0 1 ((pvrg_o 1 hq0 (by decide) (by decide)).trans rfl)
          have b15_ : 0 ≤ Int32.toInt ((M.1 q0 1) - (M.1 q0 1) / 4 * 4) ∧ Int32.toInt ((M.1 q0 1) - (M.1 q0 1) / 4 * 4) ≤ 3 := (by have u0 := b14_; have u := zrem_p (M.1 q0 1) 4 (by omega) (by decide) (by decide); have e0 : nI 4 = (4 : Int32) := rfl; rw [e0] at u; omega)
          refine pw_blk hT 5 (S' := (51, [some (pvR q0), some (pvI n1), some (pvI n2)], [pvI ((M.1 q0 1) - (M.1 q0 1) / 4 * 4), pvI n2], M)) rfl ⟨trivial, trivial, hq0, trivial, (by decide), trivial⟩ ?_
          refine pw_icn hT (c := n2 = ((M.1 q0 1) - (M.1 q0 1) / 4 * 4)) rfl rfl (fun c16_ => ?_) (fun c16_ => ?_)
          · refine pw_blk hT 1 (S' := (61, [some (pvR q0), some (pvI n1), some (pvI n2)], [pvI 0], M)) rfl ⟨trivial, trivial⟩ ?_
            exact pw_ret hT rfl (r := some (pvI 0)) (M' := M) ⟨rfl, rfl⟩ ⟨⟨_, rfl, (zr_wide (show 0 ≤ Int32.toInt 0 ∧ Int32.toInt 0 ≤ 0 from (by decide)) (by decide) (by decide))⟩, rfl⟩
          · have b17_ : 0 ≤ Int32.toInt n2 ∧ Int32.toInt n2 ≤ 3 := (by have u0 := (zbnd n2); have u1 := (zi_eq _ _).mp c16_; have u2 := b15_; omega)
            have d18_ : Int32.toInt n2 = Int32.toInt ((M.1 q0 1) - (M.1 q0 1) / 4 * 4) := (zi_eq _ _).mp c16_
            have q19_ : Int32.toInt (n1 / 2) = Int32.toInt n1 / 2 := by have u0 := hn1; have u := zdiv_p n1 2 (by omega) (by decide) (by decide); have e0 : nI 2 = (2 : Int32) := rfl; rw [e0] at u; omega
            have b20_ : 0 ≤ Int32.toInt (n1 / 2) ∧ Int32.toInt (n1 / 2) ≤ 500 := (by have u0 := hn1; omega)
            refine pw_blk hT 4 (S' := (61, [some (pvR q0), some (pvI n1), some (pvI n2)], [pvI (n1 / 2)], M)) rfl ⟨trivial, trivial, (by decide), trivial, trivial⟩ ?_
            exact pw_ret hT rfl (r := some (pvI (n1 / 2))) (M' := M) ⟨rfl, rfl⟩ ⟨⟨_, rfl, (zr_wide b20_ (by decide) (by decide))⟩, rfl⟩
        · refine And.intro (fun c21_ => ?_) (fun c21_ => ?_)
          · show PW 135 d (62, [some (pvR q0), some (pvI n1), some (pvI n2)], [], M) _
            have b22_ : 6 ≤ Int32.toInt (M.1 q0 0) ∧ Int32.toInt (M.1 q0 0) ≤ 6 := (by have u0 := b1_; have u1 := (zi_eq _ _).mp c21_; have u2 := (show 6 ≤ Int32.toInt 6 ∧ Int32.toInt 6 ≤ 6 from (by decide)); omega)
            have q23_ : Int32.toInt (2 * n1) = 2 * Int32.toInt n1 := by have u0 : Int32.toInt 2 = 2 := (by decide); have u1 := hn1; have u2 := zmul 2 n1 (by rw [u0]; omega) (by rw [u0]; omega); rw [u0] at u2; omega
            have b24_ : 0 ≤ Int32.toInt (2 * n1) ∧ Int32.toInt (2 * n1) ≤ 2000 := (by have u1 := hn1; omega)
            refine pw_blk hT 3 (S' := (65, [some (pvR q0), some (pvI n1), some (pvI n2)], [pvI (2 * n1)], M)) rfl ⟨trivial, trivial, trivial, trivial⟩ ?_
            exact pw_ret hT rfl (r := some (pvI (2 * n1))) (M' := M) ⟨rfl, rfl⟩ ⟨⟨_, rfl, b24_⟩, rfl⟩
          · have b25_ : 0 ≤ Int32.toInt (M.1 q0 0) ∧ Int32.toInt (M.1 q0 0) ≤ 1 := (by have u0 := b1_; have u9 := (show _ ∧ _ from ⟨(not_congr (zi_eq _ _)).mp c21_, (show 6 ≤ Int32.toInt 6 ∧ Int32.toInt 6 ≤ 6 from (by decide))⟩); have v1 := (not_congr (zi_eq _ _)).mp c12_; have w1 : (5 : Int32).toInt = 5 := (by decide); have v2 := (not_congr (zi_eq _ _)).mp c10_; have w2 : (4 : Int32).toInt = 4 := (by decide); have v3 := (not_congr (zi_eq _ _)).mp c6_; have w3 : (3 : Int32).toInt = 3 := (by decide); have v4 := (not_congr (zi_eq _ _)).mp c2_; have w4 : (2 : Int32).toInt = 2 := (by decide); omega)
            show PW 135 d (66, [some (pvR q0), some (pvI n1), some (pvI n2)], [], M) _
            refine pw_blk hT 1 (S' := (67, [some (pvR q0), some (pvI n1), some (pvI n2)], [pvI n1], M)) rfl ⟨trivial, trivial⟩ ?_
            exact pw_ret hT rfl (r := some (pvI n1)) (M' := M) ⟨rfl, rfl⟩ ⟨⟨_, rfl, (zr_wide hn1 (by decide) (by decide))⟩, rfl⟩
def fpL_X1_sumUp_5_x : List (Nat × Nat × Nat) := [(0, 13, 0), (1, 112, 0)]
def fp_X1_sumUp_5_x (q k : Nat) : Bool := pvfp fpL_X1_sumUp_5_x q k
theorem fp_X1_sumUp_5_x_fp_X2_rainOn_x_x_x_x_x (a b : Nat) (h : fp_X2_rainOn_x_x_x_x_x a b = true) : fp_X1_sumUp_5_x a b = true := pvfp_sub (l1 := fpL_X2_rainOn_x_x_x_x_x) (l2 := fpL_X1_sumUp_5_x) (by decide) a b h
set_option maxHeartbeats 4000000 in
set_option maxRecDepth 10000 in
theorem sf_X1_sumUp_5_x (M : pvM) (hok : pvOk M) (n1 : Int32) (hn1 : 0 ≤ Int32.toInt n1 ∧ Int32.toInt n1 ≤ 6) (d : Nat) : PW 121 d (0, [some (pvR 5), some (pvI n1), none, none, none], [], M) (fun r X => r = none ∧ pvOk X ∧ pvFr fp_X1_sumUp_5_x M X) := by
  have hT : pvdom 121 = pvD_121 := rfl
  refine pw_blkr hT 5 (pc := 9) (lo := [some (pvR 5), some (pvI n1), none, none, none]) (st := []) (M := M) (z := (pvbs 10 + Int32.toNatClampNeg n1)) rfl ⟨trivial, rfl, rfl, trivial, ⟨rfl, (zr_in (n := 7) hn1 (by decide) (by decide))⟩, trivial⟩ (fun q1_ e3_ => ?_)
  have k2_ : pvkl q1_ = 3 := pvel_10 (zr_in (n := 7) hn1 (by decide) (by decide)) e3_
  refine pw_blk hT 5 (S' := (15, [some (pvR 5), some (pvI n1), some (pvR q1_), some (pvI 0), some (pvI 0)], [], M)) rfl ⟨trivial, trivial, trivial, trivial, trivial, trivial⟩ ?_
  have hlz178_ : ∀ (nz178_ : Nat) (i3z178_ : Int32) (i4z178_ : Int32) (Mz178_ : pvM), (pvOk Mz178_) → (pvFr fp_X1_sumUp_5_x M Mz178_) → (0 ≤ Int32.toInt i3z178_ ∧ Int32.toInt i3z178_ ≤ 200000) → (0 ≤ Int32.toInt i4z178_ ∧ Int32.toInt i4z178_ ≤ 100) → (Int32.toInt i3z178_ ≤ 2000 * Int32.toInt i4z178_) → (0 ≤ Int32.toInt i3z178_) → (zhide ((101 - Int32.toInt i4z178_).toNat < nz178_)) → PW 121 d (15, [some (pvR 5), some (pvI n1), some (pvR q1_), some (pvI i3z178_), some (pvI i4z178_)], [], Mz178_) (fun r X => r = none ∧ pvOk X ∧ pvFr fp_X1_sumUp_5_x M X) := by
    intro nz178_
    induction nz178_ with
    | zero => intro i3z178_ i4z178_ Mz178_ oz178_ fz178_ h3z178_ h4z178_ j0z178_ j1z178_ hmz178_; exact absurd (zshow hmz178_) (Nat.not_lt_zero _)
    | succ nz178_ ihz178_ =>
      intro i3z178_ i4z178_ Mz178_ oz178_ fz178_ h3z178_ h4z178_ j0z178_ j1z178_ hmz178_
      refine pw_blk hT 2 (S' := (19, [some (pvR 5), some (pvI n1), some (pvR q1_), some (pvI i3z178_), some (pvI i4z178_)], [pvI 100, pvI i4z178_], Mz178_)) rfl ⟨trivial, trivial, trivial⟩ ?_
      refine pw_ic hT (c := 100 ≤ i4z178_) rfl rfl (fun c179_ => ?_) (fun c179_ => ?_)
      · have b180_ : 100 ≤ Int32.toInt i4z178_ ∧ Int32.toInt i4z178_ ≤ 100 := zr_le_r 100 c179_ h4z178_ (show 100 ≤ Int32.toInt 100 ∧ Int32.toInt 100 ≤ 100 from (by decide)) (by decide)
        exact pw_ret hT rfl (r := none) (M' := Mz178_) ⟨rfl, rfl⟩ ⟨rfl, oz178_, fz178_⟩
      · have b181_ : 0 ≤ Int32.toInt i4z178_ ∧ Int32.toInt i4z178_ ≤ 99 := zr_nle_r 99 c179_ h4z178_ (show 100 ≤ Int32.toInt 100 ∧ Int32.toInt 100 ≤ 100 from (by decide)) (by decide)
        refine pw_blk hT 5 (S' := (30, [some (pvR 5), some (pvI n1), some (pvR q1_), some (pvI i3z178_), some (pvI i4z178_)], [pvI i4z178_, pvI n1, pvR 5, pvR 13], Mz178_)) rfl ⟨trivial, rfl, trivial, trivial, trivial, trivial⟩ ?_
        refine pw_callGp hT (as := [pvR 5, pvI n1, pvI i4z178_]) (lo1 := [some (pvR 5), some (pvI n1), some (pvI i4z178_)]) (d1 := d) (rest := [pvR 13]) rfl rfl rfl rfl rfl (fun _ => rfl) (Nat.zero_le _) rfl rfl rfl (sf_X1_sumPlace_5_x_x Mz178_ oz178_ n1 i4z178_ hn1 d) (fun x182_ b184_ => ?_)
        refine pw_blkw hT 2 (pc := 35) (lo := [some (pvR 5), some (pvI n1), some (pvR q1_), some (pvI i3z178_), some (pvI i4z178_)]) (st := []) (M := pvu Mz178_ 13 (Int32.toNatClampNeg x182_) i3z178_) rfl ⟨trivial, ⟨rfl, (zr_in (n := 2800) b184_ (by decide) (by decide))⟩, trivial⟩ (fun M187_ e188_ => ?_)
        have o189_ : pvOk M187_ := pvok_u2 e188_ oz178_ rfl (zr_wide h3z178_ (by decide) (by decide))
        have f190_ : pvFr fp_X1_sumUp_5_x M M187_ := pvfr_u e188_ fz178_ rfl
        have b191_ : 15 ≤ Int32.toInt (M187_.1 8 8) ∧ Int32.toInt (M187_.1 8 8) ≤ 23 := pvok_r o189_ 8 8 rfl
        refine pw_blkr hT 4 (pc := 44) (lo := [some (pvR 5), some (pvI n1), some (pvR q1_), some (pvI i3z178_), some (pvI i4z178_)]) (st := [pvI i4z178_]) (M := M187_) (z := (pvhp (M187_.1 8 8))) rfl ⟨trivial, trivial, rfl, rfl, trivial⟩ (fun q192_ e194_ => ?_)
        have k193_ : pvkl q192_ = 2 := pvhp_k b191_ e194_
        have b195_ : 0 ≤ Int32.toInt (M187_.1 q192_ 1) ∧ Int32.toInt (M187_.1 q192_ 1) ≤ 99 := pvok_r o189_ q192_ 1 ((pvrg_o 1 k193_ (by decide) (by decide)).trans rfl)
        refine pw_blk hT 1 (S' := (47, [some (pvR 5), some (pvI n1), some (pvR q1_), some (pvI i3z178_), some (pvI i4z178_)], [pvI (M187_.1 q192_ 1), pvI i4z178_], M187_)) rfl ⟨k193_, trivial⟩ ?_
        refine pw_ic hT (c := i4z178_ < (M187_.1 q192_ 1)) rfl rfl (fun c196_ => ?_) (fun c196_ => ?_)
        · have b197_ : 0 ≤ Int32.toInt i4z178_ ∧ Int32.toInt i4z178_ ≤ 98 := zr_lt_l 98 c196_ b181_ b195_ (by decide)
          have b198_ : 1 ≤ Int32.toInt (M187_.1 q192_ 1) ∧ Int32.toInt (M187_.1 q192_ 1) ≤ 99 := zr_lt_r 1 c196_ b195_ b197_ (by decide)
          have d199_ : Int32.toInt i4z178_ < Int32.toInt (M187_.1 q192_ 1) := (zi_lt _ _).mp c196_
          refine pw_blkr hT 5 (pc := 62) (lo := [some (pvR 5), some (pvI n1), some (pvR q1_), some (pvI i3z178_), some (pvI i4z178_)]) (st := [pvR q1_, pvI i3z178_]) (M := M187_) (z := (pvhp (M187_.1 8 8))) rfl ⟨trivial, trivial, trivial, rfl, rfl, trivial⟩ (fun q200_ e202_ => ?_)
          have k201_ : pvkl q200_ = 2 := pvhp_k b191_ e202_
          have b203_ : 0 ≤ Int32.toInt (M187_.1 5 1) ∧ Int32.toInt (M187_.1 5 1) ≤ 3 := pvok_r o189_ 5 1 rfl
          refine pw_blk hT 5 (S' := (70, [some (pvR 5), some (pvI n1), some (pvR q1_), some (pvI i3z178_), some (pvI i4z178_)], [pvI i4z178_, pvI (M187_.1 5 1), pvI n1, pvR q1_, pvR q200_, pvR q1_, pvI i3z178_], M187_)) rfl ⟨trivial, trivial, trivial, rfl, trivial, trivial⟩ ?_
          refine pw_callG hT (as := [pvR q200_, pvR q1_, pvI n1, pvI (M187_.1 5 1), pvI i4z178_]) (lo1 := [some (pvR q200_), some (pvR q1_), some (pvI n1), some (pvI (M187_.1 5 1)), some (pvI i4z178_), none, none, none]) (d1 := d) (rest := [pvR q1_, pvI i3z178_]) rfl rfl rfl rfl rfl (fun _ => k201_) (Nat.zero_le _) rfl rfl rfl (sf_X2_rainOn_x_x_x_x_x M187_ o189_ q200_ q1_ n1 (M187_.1 5 1) i4z178_ k201_ k2_ hn1 b203_ (zr_wide b197_ (by decide) (by decide)) d) (fun x204_ M205_ b206_ o207_ g208_ => ?_)
          have f209_ : pvFr fp_X1_sumUp_5_x M M205_ := pvfr_t g208_ f190_ fp_X1_sumUp_5_x_fp_X2_rainOn_x_x_x_x_x
          have b210_ : 0 ≤ Int32.toInt (M205_.1 5 1) ∧ Int32.toInt (M205_.1 5 1) ≤ 3 := pvok_r o207_ 5 1 rfl
          refine pw_blk hT 2 (S' := (77, [some (pvR 5), some (pvI n1), some (pvR q1_), some (pvI i3z178_), some (pvI i4z178_)], [pvI (M205_.1 5 1), pvI x204_, pvR q1_, pvI i3z178_], M205_)) rfl ⟨trivial, rfl, trivial⟩ ?_
          refine pw_callGp hT (as := [pvR q1_, pvI x204_, pvI (M205_.1 5 1)]) (lo1 := [some (pvR q1_), some (pvI x204_), some (pvI (M205_.1 5 1))]) (d1 := d) (rest := [pvI i3z178_]) rfl rfl rfl rfl rfl (fun _ => k2_) (Nat.zero_le _) rfl rfl rfl (sf_X4_harmBy_x_x_x M205_ o207_ q1_ x204_ (M205_.1 5 1) k2_ b206_ d) (fun x211_ b213_ => ?_)
          obtain ⟨q217_, b216_⟩ : (Int32.toInt (i3z178_ + x211_) = Int32.toInt i3z178_ + Int32.toInt x211_) ∧ (0 ≤ Int32.toInt (i3z178_ + x211_) ∧ Int32.toInt (i3z178_ + x211_) ≤ 202000) := zadd_r i3z178_ x211_ 0 202000 h3z178_ b213_ (by decide) (by decide) (by decide) (by decide)
          obtain ⟨q219_, b218_⟩ : (Int32.toInt (i4z178_ + 1) = Int32.toInt i4z178_ + 1) ∧ (1 ≤ Int32.toInt (i4z178_ + 1) ∧ Int32.toInt (i4z178_ + 1) ≤ 99) := zadd_k i4z178_ 1 1 1 99 b197_ (by decide) (by decide) (by decide) (by decide) (by decide)
          refine pw_blk hT 4 (S' := (15, [some (pvR 5), some (pvI n1), some (pvR q1_), some (pvI (i3z178_ + x211_)), some (pvI (i4z178_ + 1))], [], M205_)) rfl ⟨trivial, trivial, trivial, trivial, trivial⟩ ?_
          have j220_ : Int32.toInt (i3z178_ + x211_) ≤ 2000 * Int32.toInt (i4z178_ + 1) := by omega
          have j221_ : 0 ≤ Int32.toInt (i3z178_ + x211_) := by omega
          exact ihz178_ (i3z178_ + x211_) (i4z178_ + 1) M205_ o207_ f209_ (by have u0 := b216_; omega) (zr_wide b218_ (by decide) (by decide)) j220_ j221_ (zhid (pvms_up (zshow hmz178_) h4z178_ q219_ (by decide) (by decide)))
        · have d222_ : Int32.toInt i4z178_ ≥ Int32.toInt (M187_.1 q192_ 1) := Int.not_lt.mp ((not_congr (zi_lt _ _)).mp c196_)
          obtain ⟨q224_, b223_⟩ : (Int32.toInt (i4z178_ + 1) = Int32.toInt i4z178_ + 1) ∧ (1 ≤ Int32.toInt (i4z178_ + 1) ∧ Int32.toInt (i4z178_ + 1) ≤ 100) := zadd_k i4z178_ 1 1 1 100 b181_ (by decide) (by decide) (by decide) (by decide) (by decide)
          refine pw_blk hT 3 (S' := (15, [some (pvR 5), some (pvI n1), some (pvR q1_), some (pvI i3z178_), some (pvI (i4z178_ + 1))], [], M187_)) rfl ⟨trivial, trivial, trivial, trivial⟩ ?_
          have j225_ : Int32.toInt i3z178_ ≤ 2000 * Int32.toInt (i4z178_ + 1) := by omega
          have j226_ : 0 ≤ Int32.toInt i3z178_ := by omega
          exact ihz178_ i3z178_ (i4z178_ + 1) M187_ o189_ f190_ h3z178_ (zr_wide b223_ (by decide) (by decide)) j225_ j226_ (zhid (pvms_up (zshow hmz178_) h4z178_ q224_ (by decide) (by decide)))
  have u227_ : Int32.toInt 0 = 0 := by decide
  have j228_ : Int32.toInt 0 ≤ 2000 * Int32.toInt 0 := by omega
  have j229_ : 0 ≤ Int32.toInt 0 := by omega
  exact hlz178_ _ 0 0 M hok pvfr_0 (zr_wide (show 0 ≤ Int32.toInt 0 ∧ Int32.toInt 0 ≤ 0 from (by decide)) (by decide) (by decide)) (zr_wide (show 0 ≤ Int32.toInt 0 ∧ Int32.toInt 0 ≤ 0 from (by decide)) (by decide) (by decide)) j228_ j229_ (zhid (Nat.lt_succ_self _))
def fpL_X1_turnTo_5_x : List (Nat × Nat × Nat) := [(0, 13, 0), (0, 14, 0), (0, 5, 2), (1, 112, 0)]
def fp_X1_turnTo_5_x (q k : Nat) : Bool := pvfp fpL_X1_turnTo_5_x q k
theorem fp_X1_turnTo_5_x_fp_X1_sumUp_5_x (a b : Nat) (h : fp_X1_sumUp_5_x a b = true) : fp_X1_turnTo_5_x a b = true := pvfp_sub (l1 := fpL_X1_sumUp_5_x) (l2 := fpL_X1_turnTo_5_x) (by decide) a b h
set_option maxHeartbeats 4000000 in
set_option maxRecDepth 10000 in
theorem sf_X1_turnTo_5_x (M : pvM) (hok : pvOk M) (n1 : Int32) (d : Nat) : PW 122 d (0, [some (pvR 5), some (pvI n1), none], [], M) (fun r X => r = none ∧ pvOk X ∧ pvFr fp_X1_turnTo_5_x M X) := by
  have hT : pvdom 122 = pvD_122 := rfl
  refine pw_blk hT 1 (S' := (1, [some (pvR 5), some (pvI n1), none], [pvI n1], M)) rfl ⟨trivial, trivial⟩ ?_
  refine pw_if hT (c := n1 < 0) rfl rfl (fun c1_ => ?_) (fun c1_ => ?_)
  · have b2_ : (-2147483648) ≤ Int32.toInt n1 ∧ Int32.toInt n1 ≤ (-1) := zr_lt_l (-1) c1_ (zbnd n1) (show 0 ≤ Int32.toInt 0 ∧ Int32.toInt 0 ≤ 0 from (by decide)) (by decide)
    exact pw_ret hT rfl (r := none) (M' := M) ⟨rfl, rfl⟩ ⟨rfl, hok, pvfr_0⟩
  · have b3_ : 0 ≤ Int32.toInt n1 ∧ Int32.toInt n1 ≤ 2147483647 := zr_nlt_l 0 c1_ (zbnd n1) (show 0 ≤ Int32.toInt 0 ∧ Int32.toInt 0 ≤ 0 from (by decide)) (by decide)
    refine pw_blk hT 2 (S' := (6, [some (pvR 5), some (pvI n1), none], [pvI 4, pvI n1], M)) rfl ⟨trivial, trivial, trivial⟩ ?_
    refine pw_ic hT (c := n1 < 4) rfl rfl (fun c4_ => ?_) (fun c4_ => ?_)
    · have b5_ : 0 ≤ Int32.toInt n1 ∧ Int32.toInt n1 ≤ 3 := zr_lt_l 3 c4_ b3_ (show 4 ≤ Int32.toInt 4 ∧ Int32.toInt 4 ≤ 4 from (by decide)) (by decide)
      refine pw_blkw hT 3 (pc := 15) (lo := [some (pvR 5), some (pvI n1), none]) (st := []) (M := pvu M 5 1 n1) rfl ⟨trivial, trivial, rfl, trivial⟩ (fun M6_ e7_ => ?_)
      have o8_ : pvOk M6_ := pvok_u2 e7_ hok rfl b5_
      have f9_ : pvFr fp_X1_turnTo_5_x M M6_ := pvfr_u e7_ pvfr_0 rfl
      have b10_ : 0 ≤ Int32.toInt (M6_.1 5 1) ∧ Int32.toInt (M6_.1 5 1) ≤ 3 := pvok_r o8_ 5 1 rfl
      have b11_ : 0 ≤ Int32.toInt (M6_.1 14 (Int32.toNatClampNeg (M6_.1 5 1))) ∧ Int32.toInt (M6_.1 14 (Int32.toNatClampNeg (M6_.1 5 1))) ≤ 1 := pvok_r o8_ 14 (Int32.toNatClampNeg (M6_.1 5 1)) rfl
      refine pw_blk hT 5 (S' := (24, [some (pvR 5), some (pvI n1), none], [pvI (M6_.1 14 (Int32.toNatClampNeg (M6_.1 5 1)))], M6_)) rfl ⟨trivial, rfl, trivial, rfl, ⟨rfl, (zr_in (n := 4) b10_ (by decide) (by decide))⟩, trivial⟩ ?_
      refine pw_if hT (c := (M6_.1 14 (Int32.toNatClampNeg (M6_.1 5 1))) = 0) rfl rfl (fun c12_ => ?_) (fun c12_ => ?_)
      · have b13_ : 0 ≤ Int32.toInt (M6_.1 14 (Int32.toNatClampNeg (M6_.1 5 1))) ∧ Int32.toInt (M6_.1 14 (Int32.toNatClampNeg (M6_.1 5 1))) ≤ 0 := (by have u0 := b11_; have u1 := (zi_eq _ _).mp c12_; have u2 := (show 0 ≤ Int32.toInt 0 ∧ Int32.toInt 0 ≤ 0 from (by decide)); omega)
        refine pw_blk hT 2 (S' := (30, [some (pvR 5), some (pvI n1), some (pvI 0)], [], M6_)) rfl ⟨trivial, trivial, trivial⟩ ?_
        have hlz93_ : ∀ (nz93_ : Nat) (i2z93_ : Int32) (Mz93_ : pvM), (pvOk Mz93_) → (pvFr fp_X1_turnTo_5_x M Mz93_) → (0 ≤ Int32.toInt i2z93_ ∧ Int32.toInt i2z93_ ≤ 7) → (zhide ((8 - Int32.toInt i2z93_).toNat < nz93_)) → PW 122 d (30, [some (pvR 5), some (pvI n1), some (pvI i2z93_)], [], Mz93_) (fun r X => r = none ∧ pvOk X ∧ pvFr fp_X1_turnTo_5_x M X) := by
          intro nz93_
          induction nz93_ with
          | zero => intro i2z93_ Mz93_ oz93_ fz93_ h2z93_ hmz93_; exact absurd (zshow hmz93_) (Nat.not_lt_zero _)
          | succ nz93_ ihz93_ =>
            intro i2z93_ Mz93_ oz93_ fz93_ h2z93_ hmz93_
            have b94_ : 0 ≤ Int32.toInt (Mz93_.1 8 1) ∧ Int32.toInt (Mz93_.1 8 1) ≤ 7 := pvok_r oz93_ 8 1 rfl
            refine pw_blk hT 4 (S' := (38, [some (pvR 5), some (pvI n1), some (pvI i2z93_)], [pvI (Mz93_.1 8 1), pvI i2z93_], Mz93_)) rfl ⟨trivial, trivial, rfl, rfl, trivial⟩ ?_
            refine pw_ic hT (c := (Mz93_.1 8 1) ≤ i2z93_) rfl rfl (fun c95_ => ?_) (fun c95_ => ?_)
            · have d96_ : Int32.toInt (Mz93_.1 8 1) ≤ Int32.toInt i2z93_ := (zi_le _ _).mp c95_
              have b97_ : 0 ≤ Int32.toInt (Mz93_.1 5 1) ∧ Int32.toInt (Mz93_.1 5 1) ≤ 3 := pvok_r oz93_ 5 1 rfl
              refine pw_blkw hT 6 (pc := 62) (lo := [some (pvR 5), some (pvI n1), some (pvI i2z93_)]) (st := []) (M := pvu Mz93_ 14 (Int32.toNatClampNeg (Mz93_.1 5 1)) (vp_nar .boolean 1)) rfl ⟨trivial, rfl, trivial, rfl, trivial, ⟨rfl, (zr_in (n := 4) b97_ (by decide) (by decide))⟩, trivial⟩ (fun M98_ e99_ => ?_)
              have o100_ : pvOk M98_ := pvok_u2 e99_ oz93_ rfl (zboolr 1)
              have f101_ : pvFr fp_X1_turnTo_5_x M M98_ := pvfr_u e99_ fz93_ rfl
              exact pw_ret hT rfl (r := none) (M' := M98_) ⟨rfl, rfl⟩ ⟨rfl, o100_, f101_⟩
            · have b102_ : 1 ≤ Int32.toInt (Mz93_.1 8 1) ∧ Int32.toInt (Mz93_.1 8 1) ≤ 7 := zr_nle_l 1 c95_ b94_ h2z93_ (by decide)
              have b103_ : 0 ≤ Int32.toInt i2z93_ ∧ Int32.toInt i2z93_ ≤ 6 := zr_nle_r 6 c95_ h2z93_ b102_ (by decide)
              have d104_ : Int32.toInt (Mz93_.1 8 1) > Int32.toInt i2z93_ := Int.not_le.mp ((not_congr (zi_le _ _)).mp c95_)
              refine pw_blk hT 2 (S' := (43, [some (pvR 5), some (pvI n1), some (pvI i2z93_)], [pvI i2z93_, pvR 5], Mz93_)) rfl ⟨trivial, trivial, trivial⟩ ?_
              refine pw_callV hT (as := [pvR 5, pvI i2z93_]) (lo1 := [some (pvR 5), some (pvI i2z93_), none, none, none]) (d1 := d) (rest := []) rfl rfl rfl rfl rfl (fun _ => rfl) (Nat.zero_le _) rfl rfl rfl (sf_X1_sumUp_5_x Mz93_ oz93_ i2z93_ b103_ d) (fun M106_ o108_ g109_ => ?_)
              have f110_ : pvFr fp_X1_turnTo_5_x M M106_ := pvfr_t g109_ fz93_ fp_X1_turnTo_5_x_fp_X1_sumUp_5_x
              obtain ⟨q112_, b111_⟩ : (Int32.toInt (i2z93_ + 1) = Int32.toInt i2z93_ + 1) ∧ (1 ≤ Int32.toInt (i2z93_ + 1) ∧ Int32.toInt (i2z93_ + 1) ≤ 7) := zadd_k i2z93_ 1 1 1 7 b103_ (by decide) (by decide) (by decide) (by decide) (by decide)
              refine pw_blk hT 2 (S' := (30, [some (pvR 5), some (pvI n1), some (pvI (i2z93_ + 1))], [], M106_)) rfl ⟨trivial, trivial, trivial⟩ ?_
              exact ihz93_ (i2z93_ + 1) M106_ o108_ f110_ (zr_wide b111_ (by decide) (by decide)) (zhid (pvms_up (zshow hmz93_) h2z93_ q112_ (by decide) (by decide)))
        exact hlz93_ _ 0 M6_ o8_ f9_ (zr_wide (show 0 ≤ Int32.toInt 0 ∧ Int32.toInt 0 ≤ 0 from (by decide)) (by decide) (by decide)) (zhid (Nat.lt_succ_self _))
      · have b113_ : 1 ≤ Int32.toInt (M6_.1 14 (Int32.toNatClampNeg (M6_.1 5 1))) ∧ Int32.toInt (M6_.1 14 (Int32.toNatClampNeg (M6_.1 5 1))) ≤ 1 := (by have u0 := b11_; have u1 := (not_congr (zi_eq _ _)).mp c12_; have u2 := (show 0 ≤ Int32.toInt 0 ∧ Int32.toInt 0 ≤ 0 from (by decide)); omega)
        exact pw_ret hT rfl (r := none) (M' := M6_) ⟨rfl, rfl⟩ ⟨rfl, o8_, f9_⟩
    · have b114_ : 4 ≤ Int32.toInt n1 ∧ Int32.toInt n1 ≤ 2147483647 := zr_nlt_l 4 c4_ b3_ (show 4 ≤ Int32.toInt 4 ∧ Int32.toInt 4 ≤ 4 from (by decide)) (by decide)
      exact pw_ret hT rfl (r := none) (M' := M) ⟨rfl, rfl⟩ ⟨rfl, hok, pvfr_0⟩
