set_option maxHeartbeats 4000000 in
set_option maxRecDepth 10000 in
theorem sf_X1_shutInTime_5 (M : pvM) (hok : pvOk M) (d : Nat) : PW 118 d (0, [some (pvR 5), none, none], [], M) (fun r X => (∃ x : Int32, r = some (pvI x) ∧ True) ∧ X = M) := by
  have hT : pvdom 118 = pvD_118 := rfl
  refine pw_blk hT 4 (S' := (4, [some (pvR 5), some (pvI 0), some (pvI 0)], [], M)) rfl ⟨trivial, trivial, trivial, trivial, trivial⟩ ?_
  have hlz60_ : ∀ (nz60_ : Nat) (i1z60_ : Int32) (i2z60_ : Int32), (0 ≤ Int32.toInt i2z60_ ∧ Int32.toInt i2z60_ ≤ 7) → (zhide ((8 - Int32.toInt i2z60_).toNat < nz60_)) → PW 118 d (4, [some (pvR 5), some (pvI i1z60_), some (pvI i2z60_)], [], M) (fun r X => (∃ x : Int32, r = some (pvI x) ∧ True) ∧ X = M) := by
    intro nz60_
    induction nz60_ with
    | zero => intro i1z60_ i2z60_ h2z60_ hmz60_; exact absurd (zshow hmz60_) (Nat.not_lt_zero _)
    | succ nz60_ ihz60_ =>
      intro i1z60_ i2z60_ h2z60_ hmz60_
      have b61_ : 0 ≤ Int32.toInt (M.1 100 0) ∧ Int32.toInt (M.1 100 0) ≤ 7 := pvok_r hok 100 0 rfl
      refine pw_blk hT 5 (S' := (15, [some (pvR 5), some (pvI i1z60_), some (pvI i2z60_)], [pvI (M.1 100 0), pvI i2z60_], M)) rfl ⟨trivial, trivial, rfl, rfl, rfl, trivial⟩ ?_
      refine pw_ic hT (c := (M.1 100 0) ≤ i2z60_) rfl rfl (fun c62_ => ?_) (fun c62_ => ?_)
      · have d63_ : Int32.toInt (M.1 100 0) ≤ Int32.toInt i2z60_ := (zi_le _ _).mp c62_
        refine pw_blk hT 1 (S' := (52, [some (pvR 5), some (pvI i1z60_), some (pvI i2z60_)], [pvI i1z60_], M)) rfl ⟨trivial, trivial⟩ ?_
        exact pw_ret hT rfl (r := some (pvI i1z60_)) (M' := M) ⟨rfl, rfl⟩ ⟨⟨_, rfl, trivial⟩, rfl⟩
      · have b64_ : 1 ≤ Int32.toInt (M.1 100 0) ∧ Int32.toInt (M.1 100 0) ≤ 7 := zr_nle_l 1 c62_ b61_ h2z60_ (by decide)
        have b65_ : 0 ≤ Int32.toInt i2z60_ ∧ Int32.toInt i2z60_ ≤ 6 := zr_nle_r 6 c62_ h2z60_ b64_ (by decide)
        have d66_ : Int32.toInt (M.1 100 0) > Int32.toInt i2z60_ := Int.not_le.mp ((not_congr (zi_le _ _)).mp c62_)
        have b67_ : 0 ≤ Int32.toInt (M.1 108 (Int32.toNatClampNeg i2z60_)) ∧ Int32.toInt (M.1 108 (Int32.toNatClampNeg i2z60_)) ≤ 6 := pvok_r hok 108 (Int32.toNatClampNeg i2z60_) rfl
        have b68_ : 0 ≤ Int32.toInt (M.1 12 (Int32.toNatClampNeg (M.1 108 (Int32.toNatClampNeg i2z60_)))) ∧ Int32.toInt (M.1 12 (Int32.toNatClampNeg (M.1 108 (Int32.toNatClampNeg i2z60_)))) ≤ 1000000 := pvok_r hok 12 (Int32.toNatClampNeg (M.1 108 (Int32.toNatClampNeg i2z60_))) rfl
        have b69_ : 0 ≤ Int32.toInt (M.1 5 2) ∧ Int32.toInt (M.1 5 2) ≤ 108 := pvok_r hok 5 2 rfl
        refine pw_blk hT 11 (S' := (39, [some (pvR 5), some (pvI i1z60_), some (pvI i2z60_)], [pvI (M.1 5 2), pvI (M.1 12 (Int32.toNatClampNeg (M.1 108 (Int32.toNatClampNeg i2z60_))))], M)) rfl ⟨trivial, rfl, trivial, rfl, rfl, rfl, trivial, ⟨rfl, (zr_in (n := 7) b65_ (by decide) (by decide))⟩, ⟨rfl, (zr_in (n := 7) b67_ (by decide) (by decide))⟩, trivial, rfl, trivial⟩ ?_
        refine pw_ic hT (c := (M.1 5 2) < (M.1 12 (Int32.toNatClampNeg (M.1 108 (Int32.toNatClampNeg i2z60_))))) rfl rfl (fun c70_ => ?_) (fun c70_ => ?_)
        · have b71_ : 1 ≤ Int32.toInt (M.1 12 (Int32.toNatClampNeg (M.1 108 (Int32.toNatClampNeg i2z60_)))) ∧ Int32.toInt (M.1 12 (Int32.toNatClampNeg (M.1 108 (Int32.toNatClampNeg i2z60_)))) ≤ 1000000 := zr_lt_r 1 c70_ b68_ b69_ (by decide)
          have d72_ : Int32.toInt (M.1 5 2) < Int32.toInt (M.1 12 (Int32.toNatClampNeg (M.1 108 (Int32.toNatClampNeg i2z60_)))) := (zi_lt _ _).mp c70_
          obtain ⟨q74_, b73_⟩ : (Int32.toInt (i2z60_ + 1) = Int32.toInt i2z60_ + 1) ∧ (1 ≤ Int32.toInt (i2z60_ + 1) ∧ Int32.toInt (i2z60_ + 1) ≤ 7) := zadd_k i2z60_ 1 1 1 7 b65_ (by decide) (by decide) (by decide) (by decide) (by decide)
          refine pw_blk hT 2 (S' := (4, [some (pvR 5), some (pvI i1z60_), some (pvI (i2z60_ + 1))], [], M)) rfl ⟨trivial, trivial, trivial⟩ ?_
          exact ihz60_ i1z60_ (i2z60_ + 1) (zr_wide b73_ (by decide) (by decide)) (zhid (pvms_up (zshow hmz60_) h2z60_ q74_ (by decide) (by decide)))
        · have b75_ : 0 ≤ Int32.toInt (M.1 12 (Int32.toNatClampNeg (M.1 108 (Int32.toNatClampNeg i2z60_)))) ∧ Int32.toInt (M.1 12 (Int32.toNatClampNeg (M.1 108 (Int32.toNatClampNeg i2z60_)))) ≤ 108 := zr_nlt_r 108 c70_ b68_ b69_ (by decide)
          have d76_ : Int32.toInt (M.1 5 2) ≥ Int32.toInt (M.1 12 (Int32.toNatClampNeg (M.1 108 (Int32.toNatClampNeg i2z60_)))) := Int.not_lt.mp ((not_congr (zi_lt _ _)).mp c70_)
          obtain ⟨q78_, b77_⟩ : (Int32.toInt (i2z60_ + 1) = Int32.toInt i2z60_ + 1) ∧ (1 ≤ Int32.toInt (i2z60_ + 1) ∧ Int32.toInt (i2z60_ + 1) ≤ 7) := zadd_k i2z60_ 1 1 1 7 b65_ (by decide) (by decide) (by decide) (by decide) (by decide)
          refine pw_blk hT 3 (S' := (4, [some (pvR 5), some (pvI (i1z60_ + 1)), some (pvI (i2z60_ + 1))], [], M)) rfl ⟨trivial, trivial, trivial, trivial⟩ ?_
          exact ihz60_ (i1z60_ + 1) (i2z60_ + 1) (zr_wide b77_ (by decide) (by decide)) (zhid (pvms_up (zshow hmz60_) h2z60_ q78_ (by decide) (by decide)))
  exact hlz60_ _ 0 0 (zr_wide (show 0 ≤ Int32.toInt 0 ∧ Int32.toInt 0 ≤ 0 from (by decide)) (by decide) (by decide)) (zhid (Nat.lt_succ_self _))
def fpL_X9_round_0_x : List (Nat × Nat × Nat) := [(0, 12, 0), (0, 13, 0), (0, 14, 0), (0, 5, 2), (0, 5, 3), (1, 112, 0)]
def fp_X9_round_0_x (q k : Nat) : Bool := pvfp fpL_X9_round_0_x q k
theorem fp_X9_round_0_x_fp_X1_beginFromNow_5 (a b : Nat) (h : fp_X1_beginFromNow_5 a b = true) : fp_X9_round_0_x a b = true := pvfp_sub (l1 := fpL_X1_beginFromNow_5) (l2 := fpL_X9_round_0_x) (by decide) a b h
theorem fp_X9_round_0_x_fp_X1_goRound_5_x (a b : Nat) (h : fp_X1_goRound_5_x a b = true) : fp_X9_round_0_x a b = true := pvfp_sub (l1 := fpL_X1_goRound_5_x) (l2 := fpL_X9_round_0_x) (by decide) a b h
set_option maxHeartbeats 4000000 in
set_option maxRecDepth 10000 in
theorem sf_X9_round_0_x (M : pvM) (hok : pvOk M) (n1 : Int32) (d : Nat) : PW 195 d (0, [some (pvR 0), some (pvI n1), none], [], M) (fun r X => (∃ x : Int32, r = some (pvI x) ∧ True) ∧ pvOk X ∧ pvFr fp_X9_round_0_x M X) := by
  have hT : pvdom 195 = pvD_195 := rfl
  refine pw_blk hT 3 (S' := (3, [some (pvR 0), some (pvI n1), none], [pvI 2, pvI 0, pvI n1], M)) rfl ⟨trivial, trivial, trivial, trivial⟩ ?_
  refine pw_callT hT (as := [pvI n1, pvI 0, pvI 2]) (lo1 := [some (pvI n1), some (pvI 0), some (pvI 2)]) (d1 := d) (rest := []) rfl rfl rfl rfl rfl (fun h => absurd h (by decide)) (Nat.zero_le _) rfl rfl rfl (sf_X9_within_x_x_x M hok n1 0 2 d) ?_
  by_cases c6_ : n1 < 0
  · refine pw_eqI (if_pos c6_) ?_
    have b7_ : (-2147483648) ≤ Int32.toInt n1 ∧ Int32.toInt n1 ≤ (-1) := zr_lt_l (-1) c6_ (zbnd n1) (show 0 ≤ Int32.toInt 0 ∧ Int32.toInt 0 ≤ 0 from (by decide)) (by decide)
    show PW 195 d (6, [some (pvR 0), some (pvI n1), none], [pvI 0], M) _
    refine pw_ifn hT (c := 0 = 0) rfl rfl (fun c8_ => absurd (by decide) c8_) (fun c8_ => ?_)
    refine pw_blk hT 1 (S' := (10, [some (pvR 0), some (pvI n1), none], [pvI (-1)], M)) rfl ⟨trivial, trivial⟩ ?_
    exact pw_ret hT rfl (r := some (pvI (-1))) (M' := M) ⟨rfl, rfl⟩ ⟨⟨_, rfl, trivial⟩, hok, pvfr_0⟩
  · refine pw_eqI (if_neg c6_) ?_
    have b9_ : 0 ≤ Int32.toInt n1 ∧ Int32.toInt n1 ≤ 2147483647 := zr_nlt_l 0 c6_ (zbnd n1) (show 0 ≤ Int32.toInt 0 ∧ Int32.toInt 0 ≤ 0 from (by decide)) (by decide)
    by_cases c10_ : 2 < n1
    · refine pw_eqI (if_pos c10_) ?_
      have b11_ : 3 ≤ Int32.toInt n1 ∧ Int32.toInt n1 ≤ 2147483647 := zr_lt_r 3 c10_ b9_ (show 2 ≤ Int32.toInt 2 ∧ Int32.toInt 2 ≤ 2 from (by decide)) (by decide)
      show PW 195 d (6, [some (pvR 0), some (pvI n1), none], [pvI 0], M) _
      refine pw_ifn hT (c := 0 = 0) rfl rfl (fun c12_ => absurd (by decide) c12_) (fun c12_ => ?_)
      refine pw_blk hT 1 (S' := (10, [some (pvR 0), some (pvI n1), none], [pvI (-1)], M)) rfl ⟨trivial, trivial⟩ ?_
      exact pw_ret hT rfl (r := some (pvI (-1))) (M' := M) ⟨rfl, rfl⟩ ⟨⟨_, rfl, trivial⟩, hok, pvfr_0⟩
    · refine pw_eqI (if_neg c10_) ?_
      have b13_ : 0 ≤ Int32.toInt n1 ∧ Int32.toInt n1 ≤ 2 := zr_nlt_r 2 c10_ b9_ (show 2 ≤ Int32.toInt 2 ∧ Int32.toInt 2 ≤ 2 from (by decide)) (by decide)
      show PW 195 d (6, [some (pvR 0), some (pvI n1), none], [pvI 1], M) _
      refine pw_ifn hT (c := 1 = 0) rfl rfl (fun c14_ => ?_) (fun c14_ => absurd c14_ (by decide))
      refine pw_blk hT 2 (S' := (15, [some (pvR 0), some (pvI n1), none], [pvR 5], M)) rfl ⟨trivial, rfl, trivial⟩ ?_
      refine pw_callV hT (as := [pvR 5]) (lo1 := [some (pvR 5)]) (d1 := d) (rest := []) rfl rfl rfl rfl rfl (fun _ => rfl) (Nat.zero_le _) rfl rfl rfl (sf_X1_beginFromNow_5 M hok d) (fun M16_ o18_ g19_ => ?_)
      have f20_ : pvFr fp_X9_round_0_x M M16_ := pvfr_t g19_ pvfr_0 fp_X9_round_0_x_fp_X1_beginFromNow_5
      refine pw_blk hT 3 (S' := (23, [some (pvR 0), some (pvI n1), none], [pvI 0, pvR 5], M16_)) rfl ⟨trivial, rfl, trivial, trivial⟩ ?_
      refine pw_callG hT (as := [pvR 5, pvI 0]) (lo1 := [some (pvR 5), some (pvI 0)]) (d1 := d) (rest := []) rfl rfl rfl rfl rfl (fun _ => rfl) (Nat.zero_le _) rfl rfl rfl (sf_X1_goRound_5_x M16_ o18_ 0 (zr_wide (show 0 ≤ Int32.toInt 0 ∧ Int32.toInt 0 ≤ 0 from (by decide)) (by decide) (by decide)) d) (fun x21_ M22_ b23_ o24_ g25_ => ?_)
      have f26_ : pvFr fp_X9_round_0_x M M22_ := pvfr_t g25_ f20_ fp_X9_round_0_x_fp_X1_goRound_5_x
      refine pw_blk hT 2 (S' := (28, [some (pvR 0), some (pvI n1), some (pvI x21_)], [pvI n1], M22_)) rfl ⟨trivial, trivial, trivial⟩ ?_
      refine pw_ifn hT (c := n1 = 0) rfl rfl (fun c27_ => ?_) (fun c27_ => ?_)
      · have b28_ : 1 ≤ Int32.toInt n1 ∧ Int32.toInt n1 ≤ 2 := (by have u0 := b13_; have u1 := (not_congr (zi_eq _ _)).mp c27_; have u2 := (show 0 ≤ Int32.toInt 0 ∧ Int32.toInt 0 ≤ 0 from (by decide)); omega)
        refine pw_blk hT 2 (S' := (41, [some (pvR 0), some (pvI n1), some (pvI x21_)], [pvI 1, pvI n1], M22_)) rfl ⟨trivial, trivial, trivial⟩ ?_
        refine pw_icn hT (c := n1 = 1) rfl rfl (fun c29_ => ?_) (fun c29_ => ?_)
        · have b30_ : 2 ≤ Int32.toInt n1 ∧ Int32.toInt n1 ≤ 2 := (by have u0 := b28_; have u1 := (not_congr (zi_eq _ _)).mp c29_; have u2 := (show 1 ≤ Int32.toInt 1 ∧ Int32.toInt 1 ≤ 1 from (by decide)); omega)
          refine pw_blk hT 2 (S' := (52, [some (pvR 0), some (pvI n1), some (pvI x21_)], [pvR 5], M22_)) rfl ⟨trivial, rfl, trivial⟩ ?_
          refine pw_callGp hT (as := [pvR 5]) (lo1 := [some (pvR 5), none, none]) (d1 := d) (rest := []) rfl rfl rfl rfl rfl (fun _ => rfl) (Nat.zero_le _) rfl rfl rfl (sf_X1_shutInTime_5 M22_ o24_ d) (fun x31_ b33_ => ?_)
          exact pw_ret hT rfl (r := some (pvI x31_)) (M' := M22_) ⟨rfl, rfl⟩ ⟨⟨_, rfl, trivial⟩, o24_, f26_⟩
        · have b36_ : 1 ≤ Int32.toInt n1 ∧ Int32.toInt n1 ≤ 1 := (by have u0 := b28_; have u1 := (zi_eq _ _).mp c29_; have u2 := (show 1 ≤ Int32.toInt 1 ∧ Int32.toInt 1 ≤ 1 from (by decide)); omega)
          refine pw_blk hT 2 (S' := (55, [some (pvR 0), some (pvI n1), some (pvI x21_)], [pvI x21_], M22_)) rfl ⟨trivial, trivial, trivial⟩ ?_
          exact pw_ret hT rfl (r := some (pvI x21_)) (M' := M22_) ⟨rfl, rfl⟩ ⟨⟨_, rfl, trivial⟩, o24_, f26_⟩
      · have b37_ : 0 ≤ Int32.toInt n1 ∧ Int32.toInt n1 ≤ 0 := (by have u0 := b13_; have u1 := (zi_eq _ _).mp c27_; have u2 := (show 0 ≤ Int32.toInt 0 ∧ Int32.toInt 0 ≤ 0 from (by decide)); omega)
        refine pw_blk hT 2 (S' := (35, [some (pvR 0), some (pvI n1), some (pvI x21_)], [pvR 5], M22_)) rfl ⟨trivial, rfl, trivial⟩ ?_
        refine pw_callGp hT (as := [pvR 5]) (lo1 := [some (pvR 5)]) (d1 := d) (rest := []) rfl rfl rfl rfl rfl (fun _ => rfl) (Nat.zero_le _) rfl rfl rfl (sf_X1_cost_5 M22_ o24_ d) (fun x38_ b40_ => ?_)
        exact pw_ret hT rfl (r := some (pvI x38_)) (M' := M22_) ⟨rfl, rfl⟩ ⟨⟨_, rfl, trivial⟩, o24_, f26_⟩
def fpL_X9_row_0_x_x_x : List (Nat × Nat × Nat) := [(1, 113, 0)]
def fp_X9_row_0_x_x_x (q k : Nat) : Bool := pvfp fpL_X9_row_0_x_x_x q k
set_option maxHeartbeats 4000000 in
set_option maxRecDepth 10000 in
theorem sf_X9_row_0_x_x_x (M : pvM) (hok : pvOk M) (n1 : Int32) (n2 : Int32) (n3 : Int32) (d : Nat) : PW 196 d (0, [some (pvR 0), some (pvI n1), some (pvI n2), some (pvI n3), none, none], [], M) (fun r X => (∃ x : Int32, r = some (pvI x) ∧ (-3) ≤ Int32.toInt x ∧ Int32.toInt x ≤ 9) ∧ pvOk X ∧ pvFr fp_X9_row_0_x_x_x M X) := by
  have hT : pvdom 196 = pvD_196 := rfl
  refine pw_blk hT 3 (S' := (5, [some (pvR 0), some (pvI n1), some (pvI n2), some (pvI n3), none, none], [pvI n1, pvR 8], M)) rfl ⟨trivial, rfl, trivial, trivial⟩ ?_
  refine pw_callT hT (as := [pvR 8, pvI n1]) (lo1 := [some (pvR 8), some (pvI n1)]) (d1 := d) (rest := []) rfl rfl rfl rfl rfl (fun _ => rfl) (Nat.zero_le _) rfl rfl rfl (sf_X7_has_8_x M hok n1 d) ?_
  by_cases c6_ : n1 < 0
  · refine pw_eqI (if_pos c6_) ?_
    have b7_ : (-2147483648) ≤ Int32.toInt n1 ∧ Int32.toInt n1 ≤ (-1) := zr_lt_l (-1) c6_ (zbnd n1) (show 0 ≤ Int32.toInt 0 ∧ Int32.toInt 0 ≤ 0 from (by decide)) (by decide)
    show PW 196 d (8, [some (pvR 0), some (pvI n1), some (pvI n2), some (pvI n3), none, none], [pvI 0], M) _
    refine pw_if hT (c := 0 = 0) rfl rfl (fun c8_ => ?_) (fun c8_ => absurd (by decide) c8_)
    refine pw_blk hT 1 (S' := (21, [some (pvR 0), some (pvI n1), some (pvI n2), some (pvI n3), none, none], [pvI (-1)], M)) rfl ⟨trivial, trivial⟩ ?_
    exact pw_ret hT rfl (r := some (pvI (-1))) (M' := M) ⟨rfl, rfl⟩ ⟨⟨_, rfl, (zr_wide (show (-1) ≤ Int32.toInt (-1) ∧ Int32.toInt (-1) ≤ (-1) from (by decide)) (by decide) (by decide))⟩, hok, pvfr_0⟩
  · refine pw_eqI (if_neg c6_) ?_
    have b9_ : 0 ≤ Int32.toInt n1 ∧ Int32.toInt n1 ≤ 2147483647 := zr_nlt_l 0 c6_ (zbnd n1) (show 0 ≤ Int32.toInt 0 ∧ Int32.toInt 0 ≤ 0 from (by decide)) (by decide)
    have b10_ : 0 ≤ Int32.toInt (M.1 8 1) ∧ Int32.toInt (M.1 8 1) ≤ 7 := pvok_r hok 8 1 rfl
    by_cases c11_ : (M.1 8 1) ≤ n1
    · refine pw_eqI (if_pos c11_) ?_
      have d12_ : Int32.toInt (M.1 8 1) ≤ Int32.toInt n1 := (zi_le _ _).mp c11_
      show PW 196 d (8, [some (pvR 0), some (pvI n1), some (pvI n2), some (pvI n3), none, none], [pvI 0], M) _
      refine pw_if hT (c := 0 = 0) rfl rfl (fun c13_ => ?_) (fun c13_ => absurd (by decide) c13_)
      refine pw_blk hT 1 (S' := (21, [some (pvR 0), some (pvI n1), some (pvI n2), some (pvI n3), none, none], [pvI (-1)], M)) rfl ⟨trivial, trivial⟩ ?_
      exact pw_ret hT rfl (r := some (pvI (-1))) (M' := M) ⟨rfl, rfl⟩ ⟨⟨_, rfl, (zr_wide (show (-1) ≤ Int32.toInt (-1) ∧ Int32.toInt (-1) ≤ (-1) from (by decide)) (by decide) (by decide))⟩, hok, pvfr_0⟩
    · refine pw_eqI (if_neg c11_) ?_
      have b14_ : 1 ≤ Int32.toInt (M.1 8 1) ∧ Int32.toInt (M.1 8 1) ≤ 7 := zr_nle_l 1 c11_ b10_ b9_ (by decide)
      have b15_ : 0 ≤ Int32.toInt n1 ∧ Int32.toInt n1 ≤ 6 := zr_nle_r 6 c11_ b9_ b14_ (by decide)
      have d16_ : Int32.toInt (M.1 8 1) > Int32.toInt n1 := Int.not_le.mp ((not_congr (zi_le _ _)).mp c11_)
      show PW 196 d (8, [some (pvR 0), some (pvI n1), some (pvI n2), some (pvI n3), none, none], [pvI 1], M) _
      refine pw_if hT (c := 1 = 0) rfl rfl (fun c17_ => absurd c17_ (by decide)) (fun c17_ => ?_)
      refine pw_blk hT 3 (S' := (14, [some (pvR 0), some (pvI n1), some (pvI n2), some (pvI n3), none, none], [pvI 3, pvI 0, pvI n2], M)) rfl ⟨trivial, trivial, trivial, trivial⟩ ?_
      refine pw_callT hT (as := [pvI n2, pvI 0, pvI 3]) (lo1 := [some (pvI n2), some (pvI 0), some (pvI 3)]) (d1 := d) (rest := []) rfl rfl rfl rfl rfl (fun h => absurd h (by decide)) (Nat.zero_le _) rfl rfl rfl (sf_X9_within_x_x_x M hok n2 0 3 d) ?_
      by_cases c23_ : n2 < 0
      · refine pw_eqI (if_pos c23_) ?_
        have b24_ : (-2147483648) ≤ Int32.toInt n2 ∧ Int32.toInt n2 ≤ (-1) := zr_lt_l (-1) c23_ (zbnd n2) (show 0 ≤ Int32.toInt 0 ∧ Int32.toInt 0 ≤ 0 from (by decide)) (by decide)
        show PW 196 d (17, [some (pvR 0), some (pvI n1), some (pvI n2), some (pvI n3), none, none], [pvI 0], M) _
        refine pw_ifn hT (c := 0 = 0) rfl rfl (fun c25_ => absurd (by decide) c25_) (fun c25_ => ?_)
        refine pw_blk hT 1 (S' := (21, [some (pvR 0), some (pvI n1), some (pvI n2), some (pvI n3), none, none], [pvI (-1)], M)) rfl ⟨trivial, trivial⟩ ?_
        exact pw_ret hT rfl (r := some (pvI (-1))) (M' := M) ⟨rfl, rfl⟩ ⟨⟨_, rfl, (zr_wide (show (-1) ≤ Int32.toInt (-1) ∧ Int32.toInt (-1) ≤ (-1) from (by decide)) (by decide) (by decide))⟩, hok, pvfr_0⟩
      · refine pw_eqI (if_neg c23_) ?_
        have b26_ : 0 ≤ Int32.toInt n2 ∧ Int32.toInt n2 ≤ 2147483647 := zr_nlt_l 0 c23_ (zbnd n2) (show 0 ≤ Int32.toInt 0 ∧ Int32.toInt 0 ≤ 0 from (by decide)) (by decide)
        by_cases c27_ : 3 < n2
        · refine pw_eqI (if_pos c27_) ?_
          have b28_ : 4 ≤ Int32.toInt n2 ∧ Int32.toInt n2 ≤ 2147483647 := zr_lt_r 4 c27_ b26_ (show 3 ≤ Int32.toInt 3 ∧ Int32.toInt 3 ≤ 3 from (by decide)) (by decide)
          show PW 196 d (17, [some (pvR 0), some (pvI n1), some (pvI n2), some (pvI n3), none, none], [pvI 0], M) _
          refine pw_ifn hT (c := 0 = 0) rfl rfl (fun c29_ => absurd (by decide) c29_) (fun c29_ => ?_)
          refine pw_blk hT 1 (S' := (21, [some (pvR 0), some (pvI n1), some (pvI n2), some (pvI n3), none, none], [pvI (-1)], M)) rfl ⟨trivial, trivial⟩ ?_
          exact pw_ret hT rfl (r := some (pvI (-1))) (M' := M) ⟨rfl, rfl⟩ ⟨⟨_, rfl, (zr_wide (show (-1) ≤ Int32.toInt (-1) ∧ Int32.toInt (-1) ≤ (-1) from (by decide)) (by decide) (by decide))⟩, hok, pvfr_0⟩
        · refine pw_eqI (if_neg c27_) ?_
          have b30_ : 0 ≤ Int32.toInt n2 ∧ Int32.toInt n2 ≤ 3 := zr_nlt_r 3 c27_ b26_ (show 3 ≤ Int32.toInt 3 ∧ Int32.toInt 3 ≤ 3 from (by decide)) (by decide)
          show PW 196 d (17, [some (pvR 0), some (pvI n1), some (pvI n2), some (pvI n3), none, none], [pvI 1], M) _
          refine pw_ifn hT (c := 1 = 0) rfl rfl (fun c31_ => ?_) (fun c31_ => absurd c31_ (by decide))
          refine pw_blk hT 3 (S' := (26, [some (pvR 0), some (pvI n1), some (pvI n2), some (pvI n3), none, none], [pvI 9, pvI 0, pvI n3], M)) rfl ⟨trivial, trivial, trivial, trivial⟩ ?_
          refine pw_callT hT (as := [pvI n3, pvI 0, pvI 9]) (lo1 := [some (pvI n3), some (pvI 0), some (pvI 9)]) (d1 := d) (rest := []) rfl rfl rfl rfl rfl (fun h => absurd h (by decide)) (Nat.zero_le _) rfl rfl rfl (sf_X9_within_x_x_x M hok n3 0 9 d) ?_
          by_cases c37_ : n3 < 0
          · refine pw_eqI (if_pos c37_) ?_
            have b38_ : (-2147483648) ≤ Int32.toInt n3 ∧ Int32.toInt n3 ≤ (-1) := zr_lt_l (-1) c37_ (zbnd n3) (show 0 ≤ Int32.toInt 0 ∧ Int32.toInt 0 ≤ 0 from (by decide)) (by decide)
            show PW 196 d (29, [some (pvR 0), some (pvI n1), some (pvI n2), some (pvI n3), none, none], [pvI 0], M) _
            refine pw_ifn hT (c := 0 = 0) rfl rfl (fun c39_ => absurd (by decide) c39_) (fun c39_ => ?_)
            refine pw_blk hT 1 (S' := (34, [some (pvR 0), some (pvI n1), some (pvI n2), some (pvI n3), none, none], [pvI (-2)], M)) rfl ⟨trivial, trivial⟩ ?_
            exact pw_ret hT rfl (r := some (pvI (-2))) (M' := M) ⟨rfl, rfl⟩ ⟨⟨_, rfl, (zr_wide (show (-2) ≤ Int32.toInt (-2) ∧ Int32.toInt (-2) ≤ (-2) from (by decide)) (by decide) (by decide))⟩, hok, pvfr_0⟩
          · refine pw_eqI (if_neg c37_) ?_
            have b40_ : 0 ≤ Int32.toInt n3 ∧ Int32.toInt n3 ≤ 2147483647 := zr_nlt_l 0 c37_ (zbnd n3) (show 0 ≤ Int32.toInt 0 ∧ Int32.toInt 0 ≤ 0 from (by decide)) (by decide)
            by_cases c41_ : 9 < n3
            · refine pw_eqI (if_pos c41_) ?_
              have b42_ : 10 ≤ Int32.toInt n3 ∧ Int32.toInt n3 ≤ 2147483647 := zr_lt_r 10 c41_ b40_ (show 9 ≤ Int32.toInt 9 ∧ Int32.toInt 9 ≤ 9 from (by decide)) (by decide)
              show PW 196 d (29, [some (pvR 0), some (pvI n1), some (pvI n2), some (pvI n3), none, none], [pvI 0], M) _
              refine pw_ifn hT (c := 0 = 0) rfl rfl (fun c43_ => absurd (by decide) c43_) (fun c43_ => ?_)
              refine pw_blk hT 1 (S' := (34, [some (pvR 0), some (pvI n1), some (pvI n2), some (pvI n3), none, none], [pvI (-2)], M)) rfl ⟨trivial, trivial⟩ ?_
              exact pw_ret hT rfl (r := some (pvI (-2))) (M' := M) ⟨rfl, rfl⟩ ⟨⟨_, rfl, (zr_wide (show (-2) ≤ Int32.toInt (-2) ∧ Int32.toInt (-2) ≤ (-2) from (by decide)) (by decide) (by decide))⟩, hok, pvfr_0⟩
            · refine pw_eqI (if_neg c41_) ?_
              have b44_ : 0 ≤ Int32.toInt n3 ∧ Int32.toInt n3 ≤ 9 := zr_nlt_r 9 c41_ b40_ (show 9 ≤ Int32.toInt 9 ∧ Int32.toInt 9 ≤ 9 from (by decide)) (by decide)
              show PW 196 d (29, [some (pvR 0), some (pvI n1), some (pvI n2), some (pvI n3), none, none], [pvI 1], M) _
              refine pw_ifn hT (c := 1 = 0) rfl rfl (fun c45_ => ?_) (fun c45_ => absurd c45_ (by decide))
              refine pw_blkr hT 5 (pc := 44) (lo := [some (pvR 0), some (pvI n1), some (pvI n2), some (pvI n3), none, none]) (st := []) (M := M) (z := (pvbs 10 + Int32.toNatClampNeg n1)) rfl ⟨trivial, rfl, rfl, trivial, ⟨rfl, (zr_in (n := 7) b15_ (by decide) (by decide))⟩, trivial⟩ (fun q46_ e48_ => ?_)
              have k47_ : pvkl q46_ = 3 := pvel_10 (zr_in (n := 7) b15_ (by decide) (by decide)) e48_
              have b49_ : 0 ≤ Int32.toInt (M.1 q46_ 0) ∧ Int32.toInt (M.1 q46_ 0) ≤ 6 := pvok_r hok q46_ 0 ((pvrg_o 0 k47_ (by decide) (by decide)).trans rfl)
              refine pw_blk hT 4 (S' := (53, [some (pvR 0), some (pvI n1), some (pvI n2), some (pvI n3), some (pvR q46_), none], [pvI 6, pvI (M.1 q46_ 0)], M)) rfl ⟨trivial, trivial, k47_, trivial, trivial⟩ ?_
              refine pw_ic hT (c := (M.1 q46_ 0) = 6) rfl rfl (fun c50_ => ?_) (fun c50_ => ?_)
              · have b51_ : 6 ≤ Int32.toInt (M.1 q46_ 0) ∧ Int32.toInt (M.1 q46_ 0) ≤ 6 := (by have u0 := b49_; have u1 := (zi_eq _ _).mp c50_; have u2 := (show 6 ≤ Int32.toInt 6 ∧ Int32.toInt 6 ≤ 6 from (by decide)); omega)
                have b52_ : 0 ≤ Int32.toInt (M.1 (q46_ + 7) (Int32.toNatClampNeg n2)) ∧ Int32.toInt (M.1 (q46_ + 7) (Int32.toNatClampNeg n2)) ≤ 9 := pvok_r hok (q46_ + 7) (Int32.toNatClampNeg n2) ((pvrg_a _ (by rw [(pvow_3_7 k47_).1]; decide)).trans (pvow_3_7 k47_).2.2.2)
                refine pw_blkw hT 10 (pc := 76) (lo := [some (pvR 0), some (pvI n1), some (pvI n2), some (pvI n3), some (pvR q46_), some (pvI (M.1 (q46_ + 7) (Int32.toNatClampNeg n2)))]) (st := []) (M := pvu M (q46_ + 7) (Int32.toNatClampNeg n2) n3) rfl ⟨trivial, k47_, trivial, ⟨(pvow_3_7 k47_).1, (by rw [(pvow_3_7 k47_).2.1]; exact (zr_in (n := 4) b30_ (by decide) (by decide)))⟩, trivial, trivial, k47_, trivial, trivial, ⟨(pvow_3_7 k47_).1, (by rw [(pvow_3_7 k47_).2.1]; exact (zr_in (n := 4) b30_ (by decide) (by decide)))⟩, trivial⟩ (fun M53_ e54_ => ?_)
                have o55_ : pvOk M53_ := pvok_u2 e54_ hok ((pvrg_a _ (by rw [(pvow_3_7 k47_).1]; decide)).trans (pvow_3_7 k47_).2.2.2) b44_
                have f56_ : pvFr fp_X9_row_0_x_x_x M M53_ := pvfr_u e54_ pvfr_0 (pvfp_r (l := fpL_X9_row_0_x_x_x) (pvow_3_7 k47_).2.2.1 (kk := 0) (by decide) (Or.inl rfl))
                refine pw_blk hT 1 (S' := (78, [some (pvR 0), some (pvI n1), some (pvI n2), some (pvI n3), some (pvR q46_), some (pvI (M.1 (q46_ + 7) (Int32.toNatClampNeg n2)))], [pvI (M.1 (q46_ + 7) (Int32.toNatClampNeg n2))], M53_)) rfl ⟨trivial, trivial⟩ ?_
                exact pw_ret hT rfl (r := some (pvI (M.1 (q46_ + 7) (Int32.toNatClampNeg n2)))) (M' := M53_) ⟨rfl, rfl⟩ ⟨⟨_, rfl, (zr_wide b52_ (by decide) (by decide))⟩, o55_, f56_⟩
              · have b57_ : 0 ≤ Int32.toInt (M.1 q46_ 0) ∧ Int32.toInt (M.1 q46_ 0) ≤ 5 := (by have u0 := b49_; have u1 := (not_congr (zi_eq _ _)).mp c50_; have u2 := (show 6 ≤ Int32.toInt 6 ∧ Int32.toInt 6 ≤ 6 from (by decide)); omega)
                refine pw_blk hT 1 (S' := (58, [some (pvR 0), some (pvI n1), some (pvI n2), some (pvI n3), some (pvR q46_), none], [pvI (-3)], M)) rfl ⟨trivial, trivial⟩ ?_
                exact pw_ret hT rfl (r := some (pvI (-3))) (M' := M) ⟨rfl, rfl⟩ ⟨⟨_, rfl, (zr_wide (show (-3) ≤ Int32.toInt (-3) ∧ Int32.toInt (-3) ≤ (-3) from (by decide)) (by decide) (by decide))⟩, hok, pvfr_0⟩
set_option maxHeartbeats 4000000 in
set_option maxRecDepth 10000 in
theorem sf_X6_isFull_102 (M : pvM) (hok : pvOk M) (d : Nat) : PW 154 d (0, [some (pvR 102)], [], M) (fun r X => r = some (pvI ((if (M.1 102 0) < (Int32.ofNat 6) then 0 else 1))) ∧ X = M) := by
  have hT : pvdom 154 = pvD_154 := rfl
  have b1_ : 0 ≤ Int32.toInt (M.1 102 0) ∧ Int32.toInt (M.1 102 0) ≤ 6 := pvok_r hok 102 0 rfl
  refine pw_blk hT 5 (S' := (9, [some (pvR 102)], [pvI (Int32.ofNat 6), pvI (M.1 102 0)], M)) rfl ⟨trivial, rfl, trivial, rfl, rfl, trivial⟩ ?_
  refine pw_ic hT (c := (M.1 102 0) < (Int32.ofNat 6)) rfl rfl (fun c2_ => ?_) (fun c2_ => ?_)
  · have b3_ : 0 ≤ Int32.toInt (M.1 102 0) ∧ Int32.toInt (M.1 102 0) ≤ 5 := zr_lt_l 5 c2_ b1_ (show 6 ≤ Int32.toInt (Int32.ofNat 6) ∧ Int32.toInt (Int32.ofNat 6) ≤ 6 from (by decide)) (by decide)
    refine pw_blk hT 1 (S' := (17, [some (pvR 102)], [pvI 0], M)) rfl ⟨trivial, trivial⟩ ?_
    exact pw_ret hT rfl (r := some (pvI 0)) (M' := M) ⟨Or.inl rfl, rfl, rfl⟩ ⟨(by rw [if_pos c2_]), rfl⟩
  · have b4_ : 6 ≤ Int32.toInt (M.1 102 0) ∧ Int32.toInt (M.1 102 0) ≤ 6 := zr_nlt_l 6 c2_ b1_ (show 6 ≤ Int32.toInt (Int32.ofNat 6) ∧ Int32.toInt (Int32.ofNat 6) ≤ 6 from (by decide)) (by decide)
    refine pw_blk hT 2 (S' := (17, [some (pvR 102)], [pvI 1], M)) rfl ⟨trivial, trivial, trivial⟩ ?_
    exact pw_ret hT rfl (r := some (pvI 1)) (M' := M) ⟨Or.inr rfl, rfl, rfl⟩ ⟨(by rw [if_neg c2_]), rfl⟩
def fpL_X6_append_102_x_x : List (Nat × Nat × Nat) := [(0, 102, 1), (0, 110, 0), (0, 118, 0)]
def fp_X6_append_102_x_x (q k : Nat) : Bool := pvfp fpL_X6_append_102_x_x q k
set_option maxHeartbeats 4000000 in
set_option maxRecDepth 10000 in
theorem sf_X6_append_102_x_x (M : pvM) (hok : pvOk M) (n1 : Int32) (n2 : Int32) (hn1 : 0 ≤ Int32.toInt n1 ∧ Int32.toInt n1 ≤ 6) (hn2 : 0 ≤ Int32.toInt n2 ∧ Int32.toInt n2 ≤ 9999) (d : Nat) : PW 151 d (0, [some (pvR 102), some (pvI n1), some (pvI n2)], [], M) (fun r X => (∃ x : Int32, r = some (pvI x) ∧ 1 ≤ Int32.toInt x ∧ Int32.toInt x ≤ 6) ∧ pvOk X ∧ pvFr fp_X6_append_102_x_x M X) := by
  have hT : pvdom 151 = pvD_151 := rfl
  refine pw_blk hT 1 (S' := (1, [some (pvR 102), some (pvI n1), some (pvI n2)], [pvR 102], M)) rfl ⟨trivial, trivial⟩ ?_
  refine pw_callT hT (as := [pvR 102]) (lo1 := [some (pvR 102)]) (d1 := d) (rest := []) rfl rfl rfl rfl rfl (fun _ => rfl) (Nat.zero_le _) rfl rfl rfl (sf_X6_isFull_102 M hok d) ?_
  have b6_ : 0 ≤ Int32.toInt (M.1 102 0) ∧ Int32.toInt (M.1 102 0) ≤ 6 := pvok_r hok 102 0 rfl
  by_cases c7_ : (M.1 102 0) < (Int32.ofNat 6)
  · refine pw_eqI (if_pos c7_) ?_
    have b8_ : 0 ≤ Int32.toInt (M.1 102 0) ∧ Int32.toInt (M.1 102 0) ≤ 5 := zr_lt_l 5 c7_ b6_ (show 6 ≤ Int32.toInt (Int32.ofNat 6) ∧ Int32.toInt (Int32.ofNat 6) ≤ 6 from (by decide)) (by decide)
    show PW 151 d (4, [some (pvR 102), some (pvI n1), some (pvI n2)], [pvI 0], M) _
    refine pw_if hT (c := 0 = 0) rfl rfl (fun c9_ => ?_) (fun c9_ => absurd (by decide) c9_)
    refine pw_blkw hT 6 (pc := 22) (lo := [some (pvR 102), some (pvI n1), some (pvI n2)]) (st := []) (M := pvu M 110 (Int32.toNatClampNeg (M.1 102 0)) n1) rfl ⟨trivial, rfl, trivial, rfl, trivial, ⟨rfl, (zr_in (n := 6) b8_ (by decide) (by decide))⟩, trivial⟩ (fun M10_ e11_ => ?_)
    have o12_ : pvOk M10_ := pvok_u2 e11_ hok rfl hn1
    have f13_ : pvFr fp_X6_append_102_x_x M M10_ := pvfr_u e11_ pvfr_0 rfl
    have e14_ : (M10_.1 102 0) = (M.1 102 0) := (pvu_n e11_ 102 0 (Or.inl (by decide)))
    have b15_ : 0 ≤ Int32.toInt (M10_.1 102 0) ∧ Int32.toInt (M10_.1 102 0) ≤ 5 := (by rw [e14_]; exact b8_)
    refine pw_blkw hT 6 (pc := 32) (lo := [some (pvR 102), some (pvI n1), some (pvI n2)]) (st := []) (M := pvu M10_ 118 (Int32.toNatClampNeg (M10_.1 102 0)) n2) rfl ⟨trivial, rfl, trivial, rfl, trivial, ⟨rfl, (zr_in (n := 6) b15_ (by decide) (by decide))⟩, trivial⟩ (fun M16_ e17_ => ?_)
    have o18_ : pvOk M16_ := pvok_u2 e17_ o12_ rfl hn2
    have f19_ : pvFr fp_X6_append_102_x_x M M16_ := pvfr_u e17_ f13_ rfl
    have e20_ : (M16_.1 102 0) = (M10_.1 102 0) := (pvu_n e17_ 102 0 (Or.inl (by decide)))
    have b21_ : 0 ≤ Int32.toInt (M16_.1 102 0) ∧ Int32.toInt (M16_.1 102 0) ≤ 5 := (by rw [e20_]; exact b15_)
    obtain ⟨q23_, b22_⟩ : (Int32.toInt ((M16_.1 102 0) + 1) = Int32.toInt (M16_.1 102 0) + 1) ∧ (1 ≤ Int32.toInt ((M16_.1 102 0) + 1) ∧ Int32.toInt ((M16_.1 102 0) + 1) ≤ 6) := zadd_k (M16_.1 102 0) 1 1 1 6 b21_ (by decide) (by decide) (by decide) (by decide) (by decide)
    refine pw_blkw hT 6 (pc := 42) (lo := [some (pvR 102), some (pvI n1), some (pvI n2)]) (st := []) (M := pvu M16_ 102 0 ((M16_.1 102 0) + 1)) rfl ⟨trivial, trivial, rfl, trivial, trivial, rfl, trivial⟩ (fun M24_ e25_ => ?_)
    have o26_ : pvOk M24_ := pvok_u2 e25_ o18_ rfl (zr_wide b22_ (by decide) (by decide))
    have f27_ : pvFr fp_X6_append_102_x_x M M24_ := pvfr_u e25_ f19_ rfl
    have e28_ : (M24_.1 102 0) = ((M16_.1 102 0) + 1) := (pvu_s e25_)
    have b29_ : 1 ≤ Int32.toInt (M24_.1 102 0) ∧ Int32.toInt (M24_.1 102 0) ≤ 6 := (by rw [e28_]; exact b22_)
    refine pw_blk hT 2 (S' := (46, [some (pvR 102), some (pvI n1), some (pvI n2)], [pvI (M24_.1 102 0)], M24_)) rfl ⟨trivial, rfl, trivial⟩ ?_
    exact pw_ret hT rfl (r := some (pvI (M24_.1 102 0))) (M' := M24_) ⟨rfl, rfl⟩ ⟨⟨_, rfl, b29_⟩, o26_, f27_⟩
  · refine pw_eqI (if_neg c7_) ?_
    have b30_ : 6 ≤ Int32.toInt (M.1 102 0) ∧ Int32.toInt (M.1 102 0) ≤ 6 := zr_nlt_l 6 c7_ b6_ (show 6 ≤ Int32.toInt (Int32.ofNat 6) ∧ Int32.toInt (Int32.ofNat 6) ≤ 6 from (by decide)) (by decide)
    show PW 151 d (4, [some (pvR 102), some (pvI n1), some (pvI n2)], [pvI 1], M) _
    refine pw_if hT (c := 1 = 0) rfl rfl (fun c31_ => absurd c31_ (by decide)) (fun c31_ => ?_)
    refine pw_blk hT 2 (S' := (11, [some (pvR 102), some (pvI n1), some (pvI n2)], [pvI (M.1 102 0)], M)) rfl ⟨trivial, rfl, trivial⟩ ?_
    exact pw_ret hT rfl (r := some (pvI (M.1 102 0))) (M' := M) ⟨rfl, rfl⟩ ⟨⟨_, rfl, (zr_wide b30_ (by decide) (by decide))⟩, hok, pvfr_0⟩
def fpL_X6_clear_102 : List (Nat × Nat × Nat) := [(0, 102, 1)]
def fp_X6_clear_102 (q k : Nat) : Bool := pvfp fpL_X6_clear_102 q k
set_option maxHeartbeats 4000000 in
set_option maxRecDepth 10000 in
theorem sf_X6_clear_102 (M : pvM) (hok : pvOk M) (d : Nat) : PW 153 d (0, [some (pvR 102)], [], M) (fun r X => (∃ x : Int32, r = some (pvI x) ∧ 0 ≤ Int32.toInt x ∧ Int32.toInt x ≤ 0) ∧ pvOk X ∧ pvFr fp_X6_clear_102 M X) := by
  have hT : pvdom 153 = pvD_153 := rfl
  refine pw_blkw hT 3 (pc := 5) (lo := [some (pvR 102)]) (st := []) (M := pvu M 102 0 0) rfl ⟨trivial, trivial, rfl, trivial⟩ (fun M1_ e2_ => ?_)
  have o3_ : pvOk M1_ := pvok_u2 e2_ hok rfl (zr_wide (show 0 ≤ Int32.toInt 0 ∧ Int32.toInt 0 ≤ 0 from (by decide)) (by decide) (by decide))
  have f4_ : pvFr fp_X6_clear_102 M M1_ := pvfr_u e2_ pvfr_0 rfl
  refine pw_blk hT 1 (S' := (6, [some (pvR 102)], [pvI 0], M1_)) rfl ⟨trivial, trivial⟩ ?_
  exact pw_ret hT rfl (r := some (pvI 0)) (M' := M1_) ⟨rfl, rfl⟩ ⟨⟨_, rfl, (show 0 ≤ Int32.toInt 0 ∧ Int32.toInt 0 ≤ 0 from (by decide))⟩, o3_, f4_⟩
def fpL_X9_appendTold_0_102_x_x : List (Nat × Nat × Nat) := [(0, 102, 1), (0, 110, 0), (0, 118, 0)]
def fp_X9_appendTold_0_102_x_x (q k : Nat) : Bool := pvfp fpL_X9_appendTold_0_102_x_x q k
theorem fp_X9_appendTold_0_102_x_x_fp_X6_append_102_x_x (a b : Nat) (h : fp_X6_append_102_x_x a b = true) : fp_X9_appendTold_0_102_x_x a b = true := pvfp_sub (l1 := fpL_X6_append_102_x_x) (l2 := fpL_X9_appendTold_0_102_x_x) (by decide) a b h
theorem fp_X9_appendTold_0_102_x_x_fp_X6_clear_102 (a b : Nat) (h : fp_X6_clear_102 a b = true) : fp_X9_appendTold_0_102_x_x a b = true := pvfp_sub (l1 := fpL_X6_clear_102) (l2 := fpL_X9_appendTold_0_102_x_x) (by decide) a b h
set_option maxHeartbeats 4000000 in
set_option maxRecDepth 10000 in
theorem sf_X9_appendTold_0_102_x_x (M : pvM) (hok : pvOk M) (n2 : Int32) (n3 : Int32) (d : Nat) : PW 168 d (0, [some (pvR 0), some (pvR 102), some (pvI n2), some (pvI n3)], [], M) (fun r X => (∃ x : Int32, r = some (pvI x) ∧ (-4) ≤ Int32.toInt x ∧ Int32.toInt x ≤ 6) ∧ pvOk X ∧ pvFr fp_X9_appendTold_0_102_x_x M X) := by
  have hT : pvdom 168 = pvD_168 := rfl
  refine pw_blk hT 2 (S' := (2, [some (pvR 0), some (pvR 102), some (pvI n2), some (pvI n3)], [pvI (-1), pvI n2], M)) rfl ⟨trivial, trivial, trivial⟩ ?_
  refine pw_icn hT (c := n2 = (-1)) rfl rfl (fun c1_ => ?_) (fun c1_ => ?_)
  · refine pw_blk hT 3 (S' := (15, [some (pvR 0), some (pvR 102), some (pvI n2), some (pvI n3)], [pvI n2, pvR 8], M)) rfl ⟨trivial, rfl, trivial, trivial⟩ ?_
    refine pw_callT hT (as := [pvR 8, pvI n2]) (lo1 := [some (pvR 8), some (pvI n2)]) (d1 := d) (rest := []) rfl rfl rfl rfl rfl (fun _ => rfl) (Nat.zero_le _) rfl rfl rfl (sf_X7_has_8_x M hok n2 d) ?_
    by_cases c7_ : n2 < 0
    · refine pw_eqI (if_pos c7_) ?_
      have b8_ : (-2147483648) ≤ Int32.toInt n2 ∧ Int32.toInt n2 ≤ (-2) := (by have u0 := (zbnd n2); have u9 := (show _ ∧ _ from ⟨(zi_lt _ _).mp c7_, (show 0 ≤ Int32.toInt 0 ∧ Int32.toInt 0 ≤ 0 from (by decide))⟩); have v1 := (not_congr (zi_eq _ _)).mp c1_; have w1 : ((-1) : Int32).toInt = -1 := (by decide); omega)
      show PW 168 d (18, [some (pvR 0), some (pvR 102), some (pvI n2), some (pvI n3)], [pvI 0], M) _
      refine pw_ifn hT (c := 0 = 0) rfl rfl (fun c9_ => absurd (by decide) c9_) (fun c9_ => ?_)
      refine pw_blk hT 1 (S' := (22, [some (pvR 0), some (pvR 102), some (pvI n2), some (pvI n3)], [pvI (-1)], M)) rfl ⟨trivial, trivial⟩ ?_
      exact pw_ret hT rfl (r := some (pvI (-1))) (M' := M) ⟨rfl, rfl⟩ ⟨⟨_, rfl, (zr_wide (show (-1) ≤ Int32.toInt (-1) ∧ Int32.toInt (-1) ≤ (-1) from (by decide)) (by decide) (by decide))⟩, hok, pvfr_0⟩
    · refine pw_eqI (if_neg c7_) ?_
      have b10_ : 0 ≤ Int32.toInt n2 ∧ Int32.toInt n2 ≤ 2147483647 := zr_nlt_l 0 c7_ (zbnd n2) (show 0 ≤ Int32.toInt 0 ∧ Int32.toInt 0 ≤ 0 from (by decide)) (by decide)
      have b11_ : 0 ≤ Int32.toInt (M.1 8 1) ∧ Int32.toInt (M.1 8 1) ≤ 7 := pvok_r hok 8 1 rfl
      by_cases c12_ : (M.1 8 1) ≤ n2
      · refine pw_eqI (if_pos c12_) ?_
        have d13_ : Int32.toInt (M.1 8 1) ≤ Int32.toInt n2 := (zi_le _ _).mp c12_
        show PW 168 d (18, [some (pvR 0), some (pvR 102), some (pvI n2), some (pvI n3)], [pvI 0], M) _
        refine pw_ifn hT (c := 0 = 0) rfl rfl (fun c14_ => absurd (by decide) c14_) (fun c14_ => ?_)
        refine pw_blk hT 1 (S' := (22, [some (pvR 0), some (pvR 102), some (pvI n2), some (pvI n3)], [pvI (-1)], M)) rfl ⟨trivial, trivial⟩ ?_
        exact pw_ret hT rfl (r := some (pvI (-1))) (M' := M) ⟨rfl, rfl⟩ ⟨⟨_, rfl, (zr_wide (show (-1) ≤ Int32.toInt (-1) ∧ Int32.toInt (-1) ≤ (-1) from (by decide)) (by decide) (by decide))⟩, hok, pvfr_0⟩
      · refine pw_eqI (if_neg c12_) ?_
        have b15_ : 1 ≤ Int32.toInt (M.1 8 1) ∧ Int32.toInt (M.1 8 1) ≤ 7 := zr_nle_l 1 c12_ b11_ b10_ (by decide)
        have b16_ : 0 ≤ Int32.toInt n2 ∧ Int32.toInt n2 ≤ 6 := zr_nle_r 6 c12_ b10_ b15_ (by decide)
        have d17_ : Int32.toInt (M.1 8 1) > Int32.toInt n2 := Int.not_le.mp ((not_congr (zi_le _ _)).mp c12_)
        show PW 168 d (18, [some (pvR 0), some (pvR 102), some (pvI n2), some (pvI n3)], [pvI 1], M) _
        refine pw_ifn hT (c := 1 = 0) rfl rfl (fun c18_ => ?_) (fun c18_ => absurd c18_ (by decide))
        refine pw_blk hT 3 (S' := (28, [some (pvR 0), some (pvR 102), some (pvI n2), some (pvI n3)], [pvI 9999, pvI 0, pvI n3], M)) rfl ⟨trivial, trivial, trivial, trivial⟩ ?_
        refine pw_callT hT (as := [pvI n3, pvI 0, pvI 9999]) (lo1 := [some (pvI n3), some (pvI 0), some (pvI 9999)]) (d1 := d) (rest := []) rfl rfl rfl rfl rfl (fun h => absurd h (by decide)) (Nat.zero_le _) rfl rfl rfl (sf_X9_within_x_x_x M hok n3 0 9999 d) ?_
        by_cases c24_ : n3 < 0
        · refine pw_eqI (if_pos c24_) ?_
          have b25_ : (-2147483648) ≤ Int32.toInt n3 ∧ Int32.toInt n3 ≤ (-1) := zr_lt_l (-1) c24_ (zbnd n3) (show 0 ≤ Int32.toInt 0 ∧ Int32.toInt 0 ≤ 0 from (by decide)) (by decide)
          show PW 168 d (31, [some (pvR 0), some (pvR 102), some (pvI n2), some (pvI n3)], [pvI 0], M) _
          refine pw_ifn hT (c := 0 = 0) rfl rfl (fun c26_ => absurd (by decide) c26_) (fun c26_ => ?_)
          refine pw_blk hT 1 (S' := (36, [some (pvR 0), some (pvR 102), some (pvI n2), some (pvI n3)], [pvI (-2)], M)) rfl ⟨trivial, trivial⟩ ?_
          exact pw_ret hT rfl (r := some (pvI (-2))) (M' := M) ⟨rfl, rfl⟩ ⟨⟨_, rfl, (zr_wide (show (-2) ≤ Int32.toInt (-2) ∧ Int32.toInt (-2) ≤ (-2) from (by decide)) (by decide) (by decide))⟩, hok, pvfr_0⟩
        · refine pw_eqI (if_neg c24_) ?_
          have b27_ : 0 ≤ Int32.toInt n3 ∧ Int32.toInt n3 ≤ 2147483647 := zr_nlt_l 0 c24_ (zbnd n3) (show 0 ≤ Int32.toInt 0 ∧ Int32.toInt 0 ≤ 0 from (by decide)) (by decide)
          by_cases c28_ : 9999 < n3
          · refine pw_eqI (if_pos c28_) ?_
            have b29_ : 10000 ≤ Int32.toInt n3 ∧ Int32.toInt n3 ≤ 2147483647 := zr_lt_r 10000 c28_ b27_ (show 9999 ≤ Int32.toInt 9999 ∧ Int32.toInt 9999 ≤ 9999 from (by decide)) (by decide)
            show PW 168 d (31, [some (pvR 0), some (pvR 102), some (pvI n2), some (pvI n3)], [pvI 0], M) _
            refine pw_ifn hT (c := 0 = 0) rfl rfl (fun c30_ => absurd (by decide) c30_) (fun c30_ => ?_)
            refine pw_blk hT 1 (S' := (36, [some (pvR 0), some (pvR 102), some (pvI n2), some (pvI n3)], [pvI (-2)], M)) rfl ⟨trivial, trivial⟩ ?_
            exact pw_ret hT rfl (r := some (pvI (-2))) (M' := M) ⟨rfl, rfl⟩ ⟨⟨_, rfl, (zr_wide (show (-2) ≤ Int32.toInt (-2) ∧ Int32.toInt (-2) ≤ (-2) from (by decide)) (by decide) (by decide))⟩, hok, pvfr_0⟩
          · refine pw_eqI (if_neg c28_) ?_
            have b31_ : 0 ≤ Int32.toInt n3 ∧ Int32.toInt n3 ≤ 9999 := zr_nlt_r 9999 c28_ b27_ (show 9999 ≤ Int32.toInt 9999 ∧ Int32.toInt 9999 ≤ 9999 from (by decide)) (by decide)
            show PW 168 d (31, [some (pvR 0), some (pvR 102), some (pvI n2), some (pvI n3)], [pvI 1], M) _
            refine pw_ifn hT (c := 1 = 0) rfl rfl (fun c32_ => ?_) (fun c32_ => absurd c32_ (by decide))
            refine pw_blk hT 1 (S' := (38, [some (pvR 0), some (pvR 102), some (pvI n2), some (pvI n3)], [pvR 102], M)) rfl ⟨trivial, trivial⟩ ?_
            refine pw_callT hT (as := [pvR 102]) (lo1 := [some (pvR 102)]) (d1 := d) (rest := []) rfl rfl rfl rfl rfl (fun _ => rfl) (Nat.zero_le _) rfl rfl rfl (sf_X6_isFull_102 M hok d) ?_
            have b38_ : 0 ≤ Int32.toInt (M.1 102 0) ∧ Int32.toInt (M.1 102 0) ≤ 6 := pvok_r hok 102 0 rfl
            by_cases c39_ : (M.1 102 0) < (Int32.ofNat 6)
            · refine pw_eqI (if_pos c39_) ?_
              have b40_ : 0 ≤ Int32.toInt (M.1 102 0) ∧ Int32.toInt (M.1 102 0) ≤ 5 := zr_lt_l 5 c39_ b38_ (show 6 ≤ Int32.toInt (Int32.ofNat 6) ∧ Int32.toInt (Int32.ofNat 6) ≤ 6 from (by decide)) (by decide)
              show PW 168 d (41, [some (pvR 0), some (pvR 102), some (pvI n2), some (pvI n3)], [pvI 0], M) _
              refine pw_if hT (c := 0 = 0) rfl rfl (fun c41_ => ?_) (fun c41_ => absurd (by decide) c41_)
              refine pw_blk hT 3 (S' := (50, [some (pvR 0), some (pvR 102), some (pvI n2), some (pvI n3)], [pvI n3, pvI n2, pvR 102], M)) rfl ⟨trivial, trivial, trivial, trivial⟩ ?_
              refine pw_callG hT (as := [pvR 102, pvI n2, pvI n3]) (lo1 := [some (pvR 102), some (pvI n2), some (pvI n3)]) (d1 := d) (rest := []) rfl rfl rfl rfl rfl (fun _ => rfl) (Nat.zero_le _) rfl rfl rfl (sf_X6_append_102_x_x M hok n2 n3 b16_ b31_ d) (fun x42_ M43_ b44_ o45_ g46_ => ?_)
              have f47_ : pvFr fp_X9_appendTold_0_102_x_x M M43_ := pvfr_t g46_ pvfr_0 fp_X9_appendTold_0_102_x_x_fp_X6_append_102_x_x
              exact pw_ret hT rfl (r := some (pvI x42_)) (M' := M43_) ⟨rfl, rfl⟩ ⟨⟨_, rfl, (zr_wide b44_ (by decide) (by decide))⟩, o45_, f47_⟩
            · refine pw_eqI (if_neg c39_) ?_
              have b48_ : 6 ≤ Int32.toInt (M.1 102 0) ∧ Int32.toInt (M.1 102 0) ≤ 6 := zr_nlt_l 6 c39_ b38_ (show 6 ≤ Int32.toInt (Int32.ofNat 6) ∧ Int32.toInt (Int32.ofNat 6) ≤ 6 from (by decide)) (by decide)
              show PW 168 d (41, [some (pvR 0), some (pvR 102), some (pvI n2), some (pvI n3)], [pvI 1], M) _
              refine pw_if hT (c := 1 = 0) rfl rfl (fun c49_ => absurd c49_ (by decide)) (fun c49_ => ?_)
              refine pw_blk hT 1 (S' := (46, [some (pvR 0), some (pvR 102), some (pvI n2), some (pvI n3)], [pvI (-4)], M)) rfl ⟨trivial, trivial⟩ ?_
              exact pw_ret hT rfl (r := some (pvI (-4))) (M' := M) ⟨rfl, rfl⟩ ⟨⟨_, rfl, (zr_wide (show (-4) ≤ Int32.toInt (-4) ∧ Int32.toInt (-4) ≤ (-4) from (by decide)) (by decide) (by decide))⟩, hok, pvfr_0⟩
  · have b50_ : (-1) ≤ Int32.toInt n2 ∧ Int32.toInt n2 ≤ (-1) := (by have u0 := (zbnd n2); have u1 := (zi_eq _ _).mp c1_; have u2 := (show (-1) ≤ Int32.toInt (-1) ∧ Int32.toInt (-1) ≤ (-1) from (by decide)); omega)
    refine pw_blk hT 1 (S' := (6, [some (pvR 0), some (pvR 102), some (pvI n2), some (pvI n3)], [pvR 102], M)) rfl ⟨trivial, trivial⟩ ?_
    refine pw_callG hT (as := [pvR 102]) (lo1 := [some (pvR 102)]) (d1 := d) (rest := []) rfl rfl rfl rfl rfl (fun _ => rfl) (Nat.zero_le _) rfl rfl rfl (sf_X6_clear_102 M hok d) (fun x51_ M52_ b53_ o54_ g55_ => ?_)
    have f56_ : pvFr fp_X9_appendTold_0_102_x_x M M52_ := pvfr_t g55_ pvfr_0 fp_X9_appendTold_0_102_x_x_fp_X6_clear_102
    exact pw_ret hT rfl (r := some (pvI x51_)) (M' := M52_) ⟨rfl, rfl⟩ ⟨⟨_, rfl, (zr_wide b53_ (by decide) (by decide))⟩, o54_, f56_⟩
def fpL_X9_see_0_x_x : List (Nat × Nat × Nat) := [(0, 102, 1), (0, 110, 0), (0, 118, 0)]
def fp_X9_see_0_x_x (q k : Nat) : Bool := pvfp fpL_X9_see_0_x_x q k
theorem fp_X9_see_0_x_x_fp_X9_appendTold_0_102_x_x (a b : Nat) (h : fp_X9_appendTold_0_102_x_x a b = true) : fp_X9_see_0_x_x a b = true := pvfp_sub (l1 := fpL_X9_appendTold_0_102_x_x) (l2 := fpL_X9_see_0_x_x) (by decide) a b h
set_option maxHeartbeats 4000000 in
set_option maxRecDepth 10000 in
theorem sf_X9_see_0_x_x (M : pvM) (hok : pvOk M) (n1 : Int32) (n2 : Int32) (d : Nat) : PW 197 d (0, [some (pvR 0), some (pvI n1), some (pvI n2)], [], M) (fun r X => (∃ x : Int32, r = some (pvI x) ∧ (-4) ≤ Int32.toInt x ∧ Int32.toInt x ≤ 6) ∧ pvOk X ∧ pvFr fp_X9_see_0_x_x M X) := by
  have hT : pvdom 197 = pvD_197 := rfl
  refine pw_blk hT 6 (S' := (10, [some (pvR 0), some (pvI n1), some (pvI n2)], [pvI n2, pvI n1, pvR 102, pvR 0], M)) rfl ⟨trivial, trivial, rfl, rfl, trivial, trivial, trivial⟩ ?_
  refine pw_callG hT (as := [pvR 0, pvR 102, pvI n1, pvI n2]) (lo1 := [some (pvR 0), some (pvR 102), some (pvI n1), some (pvI n2)]) (d1 := d) (rest := []) rfl rfl rfl rfl rfl (fun _ => rfl) (Nat.zero_le _) rfl rfl rfl (sf_X9_appendTold_0_102_x_x M hok n1 n2 d) (fun x1_ M2_ b3_ o4_ g5_ => ?_)
  have f6_ : pvFr fp_X9_see_0_x_x M M2_ := pvfr_t g5_ pvfr_0 fp_X9_see_0_x_x_fp_X9_appendTold_0_102_x_x
  exact pw_ret hT rfl (r := some (pvI x1_)) (M' := M2_) ⟨rfl, rfl⟩ ⟨⟨_, rfl, b3_⟩, o4_, f6_⟩
set_option maxHeartbeats 4000000 in
set_option maxRecDepth 10000 in
theorem sf_X8_hasSpan_x_x_x (M : pvM) (hok : pvOk M) (q0 : Nat) (n1 : Int32) (n2 : Int32) (hq0 : pvkl q0 = 7) (d : Nat) : PW 164 d (0, [some (pvR q0), some (pvI n1), some (pvI n2)], [], M) (fun r X => r = some (pvI ((if n2 < 0 then 0 else (if n1 < 0 then 0 else (if ((M.1 q0 1) - n2) < n1 then 0 else 1))))) ∧ X = M) := by
  have hT : pvdom 164 = pvD_164 := rfl
  refine pw_blk hT 1 (S' := (1, [some (pvR q0), some (pvI n1), some (pvI n2)], [pvI n2], M)) rfl ⟨trivial, trivial⟩ ?_
  refine pw_if hT (c := n2 < 0) rfl rfl (fun c1_ => ?_) (fun c1_ => ?_)
  · have b2_ : (-2147483648) ≤ Int32.toInt n2 ∧ Int32.toInt n2 ≤ (-1) := zr_lt_l (-1) c1_ (zbnd n2) (show 0 ≤ Int32.toInt 0 ∧ Int32.toInt 0 ≤ 0 from (by decide)) (by decide)
    refine pw_blk hT 1 (S' := (23, [some (pvR q0), some (pvI n1), some (pvI n2)], [pvI 0], M)) rfl ⟨trivial, trivial⟩ ?_
    exact pw_ret hT rfl (r := some (pvI 0)) (M' := M) ⟨Or.inl rfl, rfl, rfl⟩ ⟨(by rw [if_pos c1_]), rfl⟩
  · have b3_ : 0 ≤ Int32.toInt n2 ∧ Int32.toInt n2 ≤ 2147483647 := zr_nlt_l 0 c1_ (zbnd n2) (show 0 ≤ Int32.toInt 0 ∧ Int32.toInt 0 ≤ 0 from (by decide)) (by decide)
    refine pw_blk hT 1 (S' := (5, [some (pvR q0), some (pvI n1), some (pvI n2)], [pvI n1], M)) rfl ⟨trivial, trivial⟩ ?_
    refine pw_if hT (c := n1 < 0) rfl rfl (fun c4_ => ?_) (fun c4_ => ?_)
    · have b5_ : (-2147483648) ≤ Int32.toInt n1 ∧ Int32.toInt n1 ≤ (-1) := zr_lt_l (-1) c4_ (zbnd n1) (show 0 ≤ Int32.toInt 0 ∧ Int32.toInt 0 ≤ 0 from (by decide)) (by decide)
      refine pw_blk hT 1 (S' := (23, [some (pvR q0), some (pvI n1), some (pvI n2)], [pvI 0], M)) rfl ⟨trivial, trivial⟩ ?_
      exact pw_ret hT rfl (r := some (pvI 0)) (M' := M) ⟨Or.inl rfl, rfl, rfl⟩ ⟨(by rw [if_neg c1_, if_pos c4_]), rfl⟩
    · have b6_ : 0 ≤ Int32.toInt n1 ∧ Int32.toInt n1 ≤ 2147483647 := zr_nlt_l 0 c4_ (zbnd n1) (show 0 ≤ Int32.toInt 0 ∧ Int32.toInt 0 ≤ 0 from (by decide)) (by decide)
      have b7_ : 0 ≤ Int32.toInt (M.1 q0 1) ∧ Int32.toInt (M.1 q0 1) ≤ 60 := pvok_r hok q0 1 ((pvrg_o 1 hq0 (by decide) (by decide)).trans rfl)
      obtain ⟨q9_, b8_⟩ : (Int32.toInt ((M.1 q0 1) - n2) = Int32.toInt (M.1 q0 1) - Int32.toInt n2) ∧ ((-2147483647) ≤ Int32.toInt ((M.1 q0 1) - n2) ∧ Int32.toInt ((M.1 q0 1) - n2) ≤ 60) := zsub_r (M.1 q0 1) n2 (-2147483647) 60 b7_ b3_ (by decide) (by decide) (by decide) (by decide)
      refine pw_blk hT 5 (S' := (15, [some (pvR q0), some (pvI n1), some (pvI n2)], [pvI ((M.1 q0 1) - n2), pvI n1], M)) rfl ⟨trivial, trivial, hq0, trivial, trivial, trivial⟩ ?_
      refine pw_ic hT (c := ((M.1 q0 1) - n2) < n1) rfl rfl (fun c10_ => ?_) (fun c10_ => ?_)
      · have d11_ : Int32.toInt ((M.1 q0 1) - n2) < Int32.toInt n1 := (zi_lt _ _).mp c10_
        refine pw_blk hT 1 (S' := (23, [some (pvR q0), some (pvI n1), some (pvI n2)], [pvI 0], M)) rfl ⟨trivial, trivial⟩ ?_
        exact pw_ret hT rfl (r := some (pvI 0)) (M' := M) ⟨Or.inl rfl, rfl, rfl⟩ ⟨(by rw [if_neg c1_, if_neg c4_, if_pos c10_]), rfl⟩
      · have b12_ : 0 ≤ Int32.toInt ((M.1 q0 1) - n2) ∧ Int32.toInt ((M.1 q0 1) - n2) ≤ 60 := zr_nlt_l 0 c10_ b8_ b6_ (by decide)
        have b13_ : 0 ≤ Int32.toInt n1 ∧ Int32.toInt n1 ≤ 60 := zr_nlt_r 60 c10_ b6_ b12_ (by decide)
        have d14_ : Int32.toInt ((M.1 q0 1) - n2) ≥ Int32.toInt n1 := Int.not_lt.mp ((not_congr (zi_lt _ _)).mp c10_)
        refine pw_blk hT 2 (S' := (23, [some (pvR q0), some (pvI n1), some (pvI n2)], [pvI 1], M)) rfl ⟨trivial, trivial, trivial⟩ ?_
        exact pw_ret hT rfl (r := some (pvI 1)) (M' := M) ⟨Or.inr rfl, rfl, rfl⟩ ⟨(by rw [if_neg c1_, if_neg c4_, if_neg c10_]), rfl⟩
def fpL_X9_shift_0_x_x_x_x_x : List (Nat × Nat × Nat) := []
def fp_X9_shift_0_x_x_x_x_x (q k : Nat) : Bool := pvfp fpL_X9_shift_0_x_x_x_x_x q k
set_option maxHeartbeats 4000000 in
set_option maxRecDepth 10000 in
theorem sf_X9_shift_0_x_x_x_x_x (M : pvM) (hok : pvOk M) (n1 : Int32) (n2 : Int32) (n3 : Int32) (n4 : Int32) (n5 : Int32) (d : Nat) : PW 198 d (0, [some (pvR 0), some (pvI n1), some (pvI n2), some (pvI n3), some (pvI n4), some (pvI n5), none, none], [], M) (fun r X => (∃ x : Int32, r = some (pvI x) ∧ (-13) ≤ Int32.toInt x ∧ Int32.toInt x ≤ 2147483647) ∧ pvOk X ∧ pvFr fp_X9_shift_0_x_x_x_x_x M X) := by
  have hT : pvdom 198 = pvD_198 := rfl
  refine pw_blk hT 1 (S' := (1, [some (pvR 0), some (pvI n1), some (pvI n2), some (pvI n3), some (pvI n4), some (pvI n5), none, none], [pvI n1], M)) rfl ⟨trivial, trivial⟩ ?_
  refine pw_callT hT (as := [pvI n1]) (lo1 := [some (pvI n1)]) (d1 := d) (rest := []) rfl rfl rfl rfl rfl (fun h => absurd h (by decide)) (Nat.zero_le _) rfl rfl rfl (sf_X9_isTape_x M hok n1 d) ?_
  by_cases c6_ : n1 < 0
  · refine pw_eqI (if_pos c6_) ?_
    have b7_ : (-2147483648) ≤ Int32.toInt n1 ∧ Int32.toInt n1 ≤ (-1) := zr_lt_l (-1) c6_ (zbnd n1) (show 0 ≤ Int32.toInt 0 ∧ Int32.toInt 0 ≤ 0 from (by decide)) (by decide)
    show PW 198 d (4, [some (pvR 0), some (pvI n1), some (pvI n2), some (pvI n3), some (pvI n4), some (pvI n5), none, none], [pvI 0], M) _
    refine pw_if hT (c := 0 = 0) rfl rfl (fun c8_ => ?_) (fun c8_ => absurd (by decide) c8_)
    refine pw_blk hT 1 (S' := (15, [some (pvR 0), some (pvI n1), some (pvI n2), some (pvI n3), some (pvI n4), some (pvI n5), none, none], [pvI (-1)], M)) rfl ⟨trivial, trivial⟩ ?_
    exact pw_ret hT rfl (r := some (pvI (-1))) (M' := M) ⟨rfl, rfl⟩ ⟨⟨_, rfl, (zr_wide (show (-1) ≤ Int32.toInt (-1) ∧ Int32.toInt (-1) ≤ (-1) from (by decide)) (by decide) (by decide))⟩, hok, pvfr_0⟩
  · refine pw_eqI (if_neg c6_) ?_
    have b9_ : 0 ≤ Int32.toInt n1 ∧ Int32.toInt n1 ≤ 2147483647 := zr_nlt_l 0 c6_ (zbnd n1) (show 0 ≤ Int32.toInt 0 ∧ Int32.toInt 0 ≤ 0 from (by decide)) (by decide)
    by_cases c10_ : 5 < n1
    · refine pw_eqI (if_pos c10_) ?_
      have b11_ : 6 ≤ Int32.toInt n1 ∧ Int32.toInt n1 ≤ 2147483647 := zr_lt_r 6 c10_ b9_ (show 5 ≤ Int32.toInt 5 ∧ Int32.toInt 5 ≤ 5 from (by decide)) (by decide)
      show PW 198 d (4, [some (pvR 0), some (pvI n1), some (pvI n2), some (pvI n3), some (pvI n4), some (pvI n5), none, none], [pvI 0], M) _
      refine pw_if hT (c := 0 = 0) rfl rfl (fun c12_ => ?_) (fun c12_ => absurd (by decide) c12_)
      refine pw_blk hT 1 (S' := (15, [some (pvR 0), some (pvI n1), some (pvI n2), some (pvI n3), some (pvI n4), some (pvI n5), none, none], [pvI (-1)], M)) rfl ⟨trivial, trivial⟩ ?_
      exact pw_ret hT rfl (r := some (pvI (-1))) (M' := M) ⟨rfl, rfl⟩ ⟨⟨_, rfl, (zr_wide (show (-1) ≤ Int32.toInt (-1) ∧ Int32.toInt (-1) ≤ (-1) from (by decide)) (by decide) (by decide))⟩, hok, pvfr_0⟩
    · refine pw_eqI (if_neg c10_) ?_
      have b13_ : 0 ≤ Int32.toInt n1 ∧ Int32.toInt n1 ≤ 5 := zr_nlt_r 5 c10_ b9_ (show 5 ≤ Int32.toInt 5 ∧ Int32.toInt 5 ≤ 5 from (by decide)) (by decide)
      show PW 198 d (4, [some (pvR 0), some (pvI n1), some (pvI n2), some (pvI n3), some (pvI n4), some (pvI n5), none, none], [pvI 1], M) _
      refine pw_if hT (c := 1 = 0) rfl rfl (fun c14_ => absurd c14_ (by decide)) (fun c14_ => ?_)
      refine pw_blk hT 1 (S' := (8, [some (pvR 0), some (pvI n1), some (pvI n2), some (pvI n3), some (pvI n4), some (pvI n5), none, none], [pvI n3], M)) rfl ⟨trivial, trivial⟩ ?_
      refine pw_callT hT (as := [pvI n3]) (lo1 := [some (pvI n3)]) (d1 := d) (rest := []) rfl rfl rfl rfl rfl (fun h => absurd h (by decide)) (Nat.zero_le _) rfl rfl rfl (sf_X9_isTape_x M hok n3 d) ?_
      by_cases c20_ : n3 < 0
      · refine pw_eqI (if_pos c20_) ?_
        have b21_ : (-2147483648) ≤ Int32.toInt n3 ∧ Int32.toInt n3 ≤ (-1) := zr_lt_l (-1) c20_ (zbnd n3) (show 0 ≤ Int32.toInt 0 ∧ Int32.toInt 0 ≤ 0 from (by decide)) (by decide)
        show PW 198 d (11, [some (pvR 0), some (pvI n1), some (pvI n2), some (pvI n3), some (pvI n4), some (pvI n5), none, none], [pvI 0], M) _
        refine pw_ifn hT (c := 0 = 0) rfl rfl (fun c22_ => absurd (by decide) c22_) (fun c22_ => ?_)
        refine pw_blk hT 1 (S' := (15, [some (pvR 0), some (pvI n1), some (pvI n2), some (pvI n3), some (pvI n4), some (pvI n5), none, none], [pvI (-1)], M)) rfl ⟨trivial, trivial⟩ ?_
        exact pw_ret hT rfl (r := some (pvI (-1))) (M' := M) ⟨rfl, rfl⟩ ⟨⟨_, rfl, (zr_wide (show (-1) ≤ Int32.toInt (-1) ∧ Int32.toInt (-1) ≤ (-1) from (by decide)) (by decide) (by decide))⟩, hok, pvfr_0⟩
      · refine pw_eqI (if_neg c20_) ?_
        have b23_ : 0 ≤ Int32.toInt n3 ∧ Int32.toInt n3 ≤ 2147483647 := zr_nlt_l 0 c20_ (zbnd n3) (show 0 ≤ Int32.toInt 0 ∧ Int32.toInt 0 ≤ 0 from (by decide)) (by decide)
        by_cases c24_ : 5 < n3
        · refine pw_eqI (if_pos c24_) ?_
          have b25_ : 6 ≤ Int32.toInt n3 ∧ Int32.toInt n3 ≤ 2147483647 := zr_lt_r 6 c24_ b23_ (show 5 ≤ Int32.toInt 5 ∧ Int32.toInt 5 ≤ 5 from (by decide)) (by decide)
          show PW 198 d (11, [some (pvR 0), some (pvI n1), some (pvI n2), some (pvI n3), some (pvI n4), some (pvI n5), none, none], [pvI 0], M) _
          refine pw_ifn hT (c := 0 = 0) rfl rfl (fun c26_ => absurd (by decide) c26_) (fun c26_ => ?_)
          refine pw_blk hT 1 (S' := (15, [some (pvR 0), some (pvI n1), some (pvI n2), some (pvI n3), some (pvI n4), some (pvI n5), none, none], [pvI (-1)], M)) rfl ⟨trivial, trivial⟩ ?_
          exact pw_ret hT rfl (r := some (pvI (-1))) (M' := M) ⟨rfl, rfl⟩ ⟨⟨_, rfl, (zr_wide (show (-1) ≤ Int32.toInt (-1) ∧ Int32.toInt (-1) ≤ (-1) from (by decide)) (by decide) (by decide))⟩, hok, pvfr_0⟩
        · refine pw_eqI (if_neg c24_) ?_
          have b27_ : 0 ≤ Int32.toInt n3 ∧ Int32.toInt n3 ≤ 5 := zr_nlt_r 5 c24_ b23_ (show 5 ≤ Int32.toInt 5 ∧ Int32.toInt 5 ≤ 5 from (by decide)) (by decide)
          show PW 198 d (11, [some (pvR 0), some (pvI n1), some (pvI n2), some (pvI n3), some (pvI n4), some (pvI n5), none, none], [pvI 1], M) _
          refine pw_ifn hT (c := 1 = 0) rfl rfl (fun c28_ => ?_) (fun c28_ => absurd c28_ (by decide))
          refine pw_blkr hT 4 (pc := 22) (lo := [some (pvR 0), some (pvI n1), some (pvI n2), some (pvI n3), some (pvI n4), some (pvI n5), none, none]) (st := []) (M := M) (z := (pvbs 2 + Int32.toNatClampNeg n1)) rfl ⟨trivial, rfl, trivial, ⟨rfl, (zr_in (n := 6) b13_ (by decide) (by decide))⟩, trivial⟩ (fun q29_ e31_ => ?_)
          have k30_ : pvkl q29_ = 7 := pvel_2 (zr_in (n := 6) b13_ (by decide) (by decide)) e31_
          refine pw_blkr hT 5 (pc := 30) (lo := [some (pvR 0), some (pvI n1), some (pvI n2), some (pvI n3), some (pvI n4), some (pvI n5), some (pvR q29_), none]) (st := []) (M := M) (z := (pvbs 2 + Int32.toNatClampNeg n3)) rfl ⟨trivial, trivial, rfl, trivial, ⟨rfl, (zr_in (n := 6) b27_ (by decide) (by decide))⟩, trivial⟩ (fun q32_ e34_ => ?_)
          have k33_ : pvkl q32_ = 7 := pvel_2 (zr_in (n := 6) b27_ (by decide) (by decide)) e34_
          refine pw_blk hT 2 (S' := (34, [some (pvR 0), some (pvI n1), some (pvI n2), some (pvI n3), some (pvI n4), some (pvI n5), some (pvR q29_), some (pvR q32_)], [pvR q29_], M)) rfl ⟨trivial, trivial, trivial⟩ ?_
          refine pw_callT hT (as := [pvR q29_]) (lo1 := [some (pvR q29_)]) (d1 := d) (rest := []) rfl rfl rfl rfl rfl (fun _ => k30_) (Nat.zero_le _) rfl rfl rfl (sf_X8_isNothing_x M hok q29_ k30_ d) ?_
          have b40_ : (-1) ≤ Int32.toInt (M.1 q29_ 0) ∧ Int32.toInt (M.1 q29_ 0) ≤ 4 := pvok_r hok q29_ 0 ((pvrg_o 0 k30_ (by decide) (by decide)).trans rfl)
          by_cases c41_ : (M.1 q29_ 0) = (-1)
          · refine pw_eqI (if_pos c41_) ?_
            have b42_ : (-1) ≤ Int32.toInt (M.1 q29_ 0) ∧ Int32.toInt (M.1 q29_ 0) ≤ (-1) := (by have u0 := b40_; have u1 := (zi_eq _ _).mp c41_; have u2 := (show (-1) ≤ Int32.toInt (-1) ∧ Int32.toInt (-1) ≤ (-1) from (by decide)); omega)
            show PW 198 d (37, [some (pvR 0), some (pvI n1), some (pvI n2), some (pvI n3), some (pvI n4), some (pvI n5), some (pvR q29_), some (pvR q32_)], [pvI 1], M) _
            refine pw_ifn hT (c := 1 = 0) rfl rfl (fun c43_ => ?_) (fun c43_ => absurd c43_ (by decide))
            refine pw_blk hT 1 (S' := (50, [some (pvR 0), some (pvI n1), some (pvI n2), some (pvI n3), some (pvI n4), some (pvI n5), some (pvR q29_), some (pvR q32_)], [pvI (-11)], M)) rfl ⟨trivial, trivial⟩ ?_
            exact pw_ret hT rfl (r := some (pvI (-11))) (M' := M) ⟨rfl, rfl⟩ ⟨⟨_, rfl, (zr_wide (show (-11) ≤ Int32.toInt (-11) ∧ Int32.toInt (-11) ≤ (-11) from (by decide)) (by decide) (by decide))⟩, hok, pvfr_0⟩
          · refine pw_eqI (if_neg c41_) ?_
            have b44_ : 0 ≤ Int32.toInt (M.1 q29_ 0) ∧ Int32.toInt (M.1 q29_ 0) ≤ 4 := (by have u0 := b40_; have u1 := (not_congr (zi_eq _ _)).mp c41_; have u2 := (show (-1) ≤ Int32.toInt (-1) ∧ Int32.toInt (-1) ≤ (-1) from (by decide)); omega)
            show PW 198 d (37, [some (pvR 0), some (pvI n1), some (pvI n2), some (pvI n3), some (pvI n4), some (pvI n5), some (pvR q29_), some (pvR q32_)], [pvI 0], M) _
            refine pw_ifn hT (c := 0 = 0) rfl rfl (fun c45_ => absurd (by decide) c45_) (fun c45_ => ?_)
            refine pw_blk hT 1 (S' := (42, [some (pvR 0), some (pvI n1), some (pvI n2), some (pvI n3), some (pvI n4), some (pvI n5), some (pvR q29_), some (pvR q32_)], [pvR q32_], M)) rfl ⟨trivial, trivial⟩ ?_
            refine pw_callT hT (as := [pvR q32_]) (lo1 := [some (pvR q32_)]) (d1 := d) (rest := []) rfl rfl rfl rfl rfl (fun _ => k33_) (Nat.zero_le _) rfl rfl rfl (sf_X8_isNothing_x M hok q32_ k33_ d) ?_
            have b51_ : (-1) ≤ Int32.toInt (M.1 q32_ 0) ∧ Int32.toInt (M.1 q32_ 0) ≤ 4 := pvok_r hok q32_ 0 ((pvrg_o 0 k33_ (by decide) (by decide)).trans rfl)
            by_cases c52_ : (M.1 q32_ 0) = (-1)
            · refine pw_eqI (if_pos c52_) ?_
              have b53_ : (-1) ≤ Int32.toInt (M.1 q32_ 0) ∧ Int32.toInt (M.1 q32_ 0) ≤ (-1) := (by have u0 := b51_; have u1 := (zi_eq _ _).mp c52_; have u2 := (show (-1) ≤ Int32.toInt (-1) ∧ Int32.toInt (-1) ≤ (-1) from (by decide)); omega)
              show PW 198 d (45, [some (pvR 0), some (pvI n1), some (pvI n2), some (pvI n3), some (pvI n4), some (pvI n5), some (pvR q29_), some (pvR q32_)], [pvI 1], M) _
              refine pw_if hT (c := 1 = 0) rfl rfl (fun c54_ => absurd c54_ (by decide)) (fun c54_ => ?_)
              refine pw_blk hT 1 (S' := (50, [some (pvR 0), some (pvI n1), some (pvI n2), some (pvI n3), some (pvI n4), some (pvI n5), some (pvR q29_), some (pvR q32_)], [pvI (-11)], M)) rfl ⟨trivial, trivial⟩ ?_
              exact pw_ret hT rfl (r := some (pvI (-11))) (M' := M) ⟨rfl, rfl⟩ ⟨⟨_, rfl, (zr_wide (show (-11) ≤ Int32.toInt (-11) ∧ Int32.toInt (-11) ≤ (-11) from (by decide)) (by decide) (by decide))⟩, hok, pvfr_0⟩
            · refine pw_eqI (if_neg c52_) ?_
              have b55_ : 0 ≤ Int32.toInt (M.1 q32_ 0) ∧ Int32.toInt (M.1 q32_ 0) ≤ 4 := (by have u0 := b51_; have u1 := (not_congr (zi_eq _ _)).mp c52_; have u2 := (show (-1) ≤ Int32.toInt (-1) ∧ Int32.toInt (-1) ≤ (-1) from (by decide)); omega)
              show PW 198 d (45, [some (pvR 0), some (pvI n1), some (pvI n2), some (pvI n3), some (pvI n4), some (pvI n5), some (pvR q29_), some (pvR q32_)], [pvI 0], M) _
              refine pw_if hT (c := 0 = 0) rfl rfl (fun c56_ => ?_) (fun c56_ => absurd (by decide) c56_)
              refine pw_blk hT 4 (S' := (61, [some (pvR 0), some (pvI n1), some (pvI n2), some (pvI n3), some (pvI n4), some (pvI n5), some (pvR q29_), some (pvR q32_)], [pvI (M.1 q32_ 0), pvI (M.1 q29_ 0)], M)) rfl ⟨trivial, k30_, trivial, k33_, trivial⟩ ?_
              refine pw_ic hT (c := (M.1 q29_ 0) = (M.1 q32_ 0)) rfl rfl (fun c57_ => ?_) (fun c57_ => ?_)
              · have d58_ : Int32.toInt (M.1 q29_ 0) = Int32.toInt (M.1 q32_ 0) := (zi_eq _ _).mp c57_
                refine pw_blk hT 3 (S' := (72, [some (pvR 0), some (pvI n1), some (pvI n2), some (pvI n3), some (pvI n4), some (pvI n5), some (pvR q29_), some (pvR q32_)], [pvI n5, pvI n2, pvR q29_], M)) rfl ⟨trivial, trivial, trivial, trivial⟩ ?_
                refine pw_callT hT (as := [pvR q29_, pvI n2, pvI n5]) (lo1 := [some (pvR q29_), some (pvI n2), some (pvI n5)]) (d1 := d) (rest := []) rfl rfl rfl rfl rfl (fun _ => k30_) (Nat.zero_le _) rfl rfl rfl (sf_X8_hasSpan_x_x_x M hok q29_ n2 n5 k30_ d) ?_
                by_cases c64_ : n5 < 0
                · refine pw_eqI (if_pos c64_) ?_
                  have b65_ : (-2147483648) ≤ Int32.toInt n5 ∧ Int32.toInt n5 ≤ (-1) := zr_lt_l (-1) c64_ (zbnd n5) (show 0 ≤ Int32.toInt 0 ∧ Int32.toInt 0 ≤ 0 from (by decide)) (by decide)
                  show PW 198 d (75, [some (pvR 0), some (pvI n1), some (pvI n2), some (pvI n3), some (pvI n4), some (pvI n5), some (pvR q29_), some (pvR q32_)], [pvI 0], M) _
                  refine pw_if hT (c := 0 = 0) rfl rfl (fun c66_ => ?_) (fun c66_ => absurd (by decide) c66_)
                  refine pw_blk hT 1 (S' := (92, [some (pvR 0), some (pvI n1), some (pvI n2), some (pvI n3), some (pvI n4), some (pvI n5), some (pvR q29_), some (pvR q32_)], [pvI (-13)], M)) rfl ⟨trivial, trivial⟩ ?_
                  exact pw_ret hT rfl (r := some (pvI (-13))) (M' := M) ⟨rfl, rfl⟩ ⟨⟨_, rfl, (zr_wide (show (-13) ≤ Int32.toInt (-13) ∧ Int32.toInt (-13) ≤ (-13) from (by decide)) (by decide) (by decide))⟩, hok, pvfr_0⟩
                · refine pw_eqI (if_neg c64_) ?_
                  have b67_ : 0 ≤ Int32.toInt n5 ∧ Int32.toInt n5 ≤ 2147483647 := zr_nlt_l 0 c64_ (zbnd n5) (show 0 ≤ Int32.toInt 0 ∧ Int32.toInt 0 ≤ 0 from (by decide)) (by decide)
                  by_cases c68_ : n2 < 0
                  · refine pw_eqI (if_pos c68_) ?_
                    have b69_ : (-2147483648) ≤ Int32.toInt n2 ∧ Int32.toInt n2 ≤ (-1) := zr_lt_l (-1) c68_ (zbnd n2) (show 0 ≤ Int32.toInt 0 ∧ Int32.toInt 0 ≤ 0 from (by decide)) (by decide)
                    show PW 198 d (75, [some (pvR 0), some (pvI n1), some (pvI n2), some (pvI n3), some (pvI n4), some (pvI n5), some (pvR q29_), some (pvR q32_)], [pvI 0], M) _
                    refine pw_if hT (c := 0 = 0) rfl rfl (fun c70_ => ?_) (fun c70_ => absurd (by decide) c70_)
                    refine pw_blk hT 1 (S' := (92, [some (pvR 0), some (pvI n1), some (pvI n2), some (pvI n3), some (pvI n4), some (pvI n5), some (pvR q29_), some (pvR q32_)], [pvI (-13)], M)) rfl ⟨trivial, trivial⟩ ?_
                    exact pw_ret hT rfl (r := some (pvI (-13))) (M' := M) ⟨rfl, rfl⟩ ⟨⟨_, rfl, (zr_wide (show (-13) ≤ Int32.toInt (-13) ∧ Int32.toInt (-13) ≤ (-13) from (by decide)) (by decide) (by decide))⟩, hok, pvfr_0⟩
                  · refine pw_eqI (if_neg c68_) ?_
                    have b71_ : 0 ≤ Int32.toInt n2 ∧ Int32.toInt n2 ≤ 2147483647 := zr_nlt_l 0 c68_ (zbnd n2) (show 0 ≤ Int32.toInt 0 ∧ Int32.toInt 0 ≤ 0 from (by decide)) (by decide)
                    have b72_ : 0 ≤ Int32.toInt (M.1 q29_ 1) ∧ Int32.toInt (M.1 q29_ 1) ≤ 60 := pvok_r hok q29_ 1 ((pvrg_o 1 k30_ (by decide) (by decide)).trans rfl)
                    obtain ⟨q74_, b73_⟩ : (Int32.toInt ((M.1 q29_ 1) - n5) = Int32.toInt (M.1 q29_ 1) - Int32.toInt n5) ∧ ((-2147483647) ≤ Int32.toInt ((M.1 q29_ 1) - n5) ∧ Int32.toInt ((M.1 q29_ 1) - n5) ≤ 60) := zsub_r (M.1 q29_ 1) n5 (-2147483647) 60 b72_ b67_ (by decide) (by decide) (by decide) (by decide)
                    by_cases c75_ : ((M.1 q29_ 1) - n5) < n2
                    · refine pw_eqI (if_pos c75_) ?_
                      have d76_ : Int32.toInt ((M.1 q29_ 1) - n5) < Int32.toInt n2 := (zi_lt _ _).mp c75_
                      show PW 198 d (75, [some (pvR 0), some (pvI n1), some (pvI n2), some (pvI n3), some (pvI n4), some (pvI n5), some (pvR q29_), some (pvR q32_)], [pvI 0], M) _
                      refine pw_if hT (c := 0 = 0) rfl rfl (fun c77_ => ?_) (fun c77_ => absurd (by decide) c77_)
                      refine pw_blk hT 1 (S' := (92, [some (pvR 0), some (pvI n1), some (pvI n2), some (pvI n3), some (pvI n4), some (pvI n5), some (pvR q29_), some (pvR q32_)], [pvI (-13)], M)) rfl ⟨trivial, trivial⟩ ?_
                      exact pw_ret hT rfl (r := some (pvI (-13))) (M' := M) ⟨rfl, rfl⟩ ⟨⟨_, rfl, (zr_wide (show (-13) ≤ Int32.toInt (-13) ∧ Int32.toInt (-13) ≤ (-13) from (by decide)) (by decide) (by decide))⟩, hok, pvfr_0⟩
                    · refine pw_eqI (if_neg c75_) ?_
                      have b78_ : 0 ≤ Int32.toInt ((M.1 q29_ 1) - n5) ∧ Int32.toInt ((M.1 q29_ 1) - n5) ≤ 60 := zr_nlt_l 0 c75_ b73_ b71_ (by decide)
                      have b79_ : 0 ≤ Int32.toInt n2 ∧ Int32.toInt n2 ≤ 60 := zr_nlt_r 60 c75_ b71_ b78_ (by decide)
                      have d80_ : Int32.toInt ((M.1 q29_ 1) - n5) ≥ Int32.toInt n2 := Int.not_lt.mp ((not_congr (zi_lt _ _)).mp c75_)
                      show PW 198 d (75, [some (pvR 0), some (pvI n1), some (pvI n2), some (pvI n3), some (pvI n4), some (pvI n5), some (pvR q29_), some (pvR q32_)], [pvI 1], M) _
                      refine pw_if hT (c := 1 = 0) rfl rfl (fun c81_ => absurd c81_ (by decide)) (fun c81_ => ?_)
                      refine pw_blk hT 3 (S' := (84, [some (pvR 0), some (pvI n1), some (pvI n2), some (pvI n3), some (pvI n4), some (pvI n5), some (pvR q29_), some (pvR q32_)], [pvI n5, pvI n4, pvR q32_], M)) rfl ⟨trivial, trivial, trivial, trivial⟩ ?_
                      refine pw_callT hT (as := [pvR q32_, pvI n4, pvI n5]) (lo1 := [some (pvR q32_), some (pvI n4), some (pvI n5)]) (d1 := d) (rest := []) rfl rfl rfl rfl rfl (fun _ => k33_) (Nat.zero_le _) rfl rfl rfl (sf_X8_hasSpan_x_x_x M hok q32_ n4 n5 k33_ d) ?_
                      refine pw_eqI (if_neg c64_) ?_
                      by_cases c87_ : n4 < 0
                      · refine pw_eqI (if_pos c87_) ?_
                        have b88_ : (-2147483648) ≤ Int32.toInt n4 ∧ Int32.toInt n4 ≤ (-1) := zr_lt_l (-1) c87_ (zbnd n4) (show 0 ≤ Int32.toInt 0 ∧ Int32.toInt 0 ≤ 0 from (by decide)) (by decide)
                        show PW 198 d (87, [some (pvR 0), some (pvI n1), some (pvI n2), some (pvI n3), some (pvI n4), some (pvI n5), some (pvR q29_), some (pvR q32_)], [pvI 0], M) _
                        refine pw_ifn hT (c := 0 = 0) rfl rfl (fun c89_ => absurd (by decide) c89_) (fun c89_ => ?_)
                        refine pw_blk hT 1 (S' := (92, [some (pvR 0), some (pvI n1), some (pvI n2), some (pvI n3), some (pvI n4), some (pvI n5), some (pvR q29_), some (pvR q32_)], [pvI (-13)], M)) rfl ⟨trivial, trivial⟩ ?_
                        exact pw_ret hT rfl (r := some (pvI (-13))) (M' := M) ⟨rfl, rfl⟩ ⟨⟨_, rfl, (zr_wide (show (-13) ≤ Int32.toInt (-13) ∧ Int32.toInt (-13) ≤ (-13) from (by decide)) (by decide) (by decide))⟩, hok, pvfr_0⟩
                      · refine pw_eqI (if_neg c87_) ?_
                        have b90_ : 0 ≤ Int32.toInt n4 ∧ Int32.toInt n4 ≤ 2147483647 := zr_nlt_l 0 c87_ (zbnd n4) (show 0 ≤ Int32.toInt 0 ∧ Int32.toInt 0 ≤ 0 from (by decide)) (by decide)
                        have b91_ : 0 ≤ Int32.toInt (M.1 q32_ 1) ∧ Int32.toInt (M.1 q32_ 1) ≤ 60 := pvok_r hok q32_ 1 ((pvrg_o 1 k33_ (by decide) (by decide)).trans rfl)
                        obtain ⟨q93_, b92_⟩ : (Int32.toInt ((M.1 q32_ 1) - n5) = Int32.toInt (M.1 q32_ 1) - Int32.toInt n5) ∧ ((-2147483647) ≤ Int32.toInt ((M.1 q32_ 1) - n5) ∧ Int32.toInt ((M.1 q32_ 1) - n5) ≤ 60) := zsub_r (M.1 q32_ 1) n5 (-2147483647) 60 b91_ b67_ (by decide) (by decide) (by decide) (by decide)
                        by_cases c94_ : ((M.1 q32_ 1) - n5) < n4
                        · refine pw_eqI (if_pos c94_) ?_
                          have d95_ : Int32.toInt ((M.1 q32_ 1) - n5) < Int32.toInt n4 := (zi_lt _ _).mp c94_
                          show PW 198 d (87, [some (pvR 0), some (pvI n1), some (pvI n2), some (pvI n3), some (pvI n4), some (pvI n5), some (pvR q29_), some (pvR q32_)], [pvI 0], M) _
                          refine pw_ifn hT (c := 0 = 0) rfl rfl (fun c96_ => absurd (by decide) c96_) (fun c96_ => ?_)
                          refine pw_blk hT 1 (S' := (92, [some (pvR 0), some (pvI n1), some (pvI n2), some (pvI n3), some (pvI n4), some (pvI n5), some (pvR q29_), some (pvR q32_)], [pvI (-13)], M)) rfl ⟨trivial, trivial⟩ ?_
                          exact pw_ret hT rfl (r := some (pvI (-13))) (M' := M) ⟨rfl, rfl⟩ ⟨⟨_, rfl, (zr_wide (show (-13) ≤ Int32.toInt (-13) ∧ Int32.toInt (-13) ≤ (-13) from (by decide)) (by decide) (by decide))⟩, hok, pvfr_0⟩
                        · refine pw_eqI (if_neg c94_) ?_
                          have b97_ : 0 ≤ Int32.toInt ((M.1 q32_ 1) - n5) ∧ Int32.toInt ((M.1 q32_ 1) - n5) ≤ 60 := zr_nlt_l 0 c94_ b92_ b90_ (by decide)
                          have b98_ : 0 ≤ Int32.toInt n4 ∧ Int32.toInt n4 ≤ 60 := zr_nlt_r 60 c94_ b90_ b97_ (by decide)
                          have d99_ : Int32.toInt ((M.1 q32_ 1) - n5) ≥ Int32.toInt n4 := Int.not_lt.mp ((not_congr (zi_lt _ _)).mp c94_)
                          show PW 198 d (87, [some (pvR 0), some (pvI n1), some (pvI n2), some (pvI n3), some (pvI n4), some (pvI n5), some (pvR q29_), some (pvR q32_)], [pvI 1], M) _
                          refine pw_ifn hT (c := 1 = 0) rfl rfl (fun c100_ => ?_) (fun c100_ => absurd c100_ (by decide))
                          refine pw_blkw hT 8 (pc := 111) (lo := [some (pvR 0), some (pvI n1), some (pvI n2), some (pvI n3), some (pvI n4), some (pvI n5), some (pvR q29_), some (pvR q32_)]) (st := []) (M := pvrL M (q32_ + 6) (va_cpy (M.2 (q29_ + 6)) (M.2 (q32_ + 6)) (Int32.toNatClampNeg n2) (Int32.toNatClampNeg n4) (Int32.toNatClampNeg n5))) rfl ⟨trivial, k30_, trivial, trivial, k33_, trivial, trivial, ⟨(pvow_7_6 k30_).1, (pvow_7_6 k33_).1, (pvnneg (b := 60) b79_), (pvnneg (b := 60) b98_), (pvnneg (b := 2147483647) b67_), (by have u0 := b79_; have u1 := b67_; have u2 := ztn n2 (by omega); have u3 := ztn n5 (by omega); rw [(pvow_7_6 k30_).2.1]; omega), (by have u0 := b98_; have u1 := b67_; have u2 := ztn n4 (by omega); have u3 := ztn n5 (by omega); rw [(pvow_7_6 k33_).2.1]; omega), Nat.le_of_ble_eq_true rfl⟩, trivial⟩ (fun M101_ e102_ => ?_)
                          have o103_ : pvOk M101_ := pvok_rL e102_ hok
                          have f104_ : pvFr fp_X9_shift_0_x_x_x_x_x M M101_ := pvfr_rL e102_ pvfr_0
                          refine pw_blk hT 1 (S' := (113, [some (pvR 0), some (pvI n1), some (pvI n2), some (pvI n3), some (pvI n4), some (pvI n5), some (pvR q29_), some (pvR q32_)], [pvI n5], M101_)) rfl ⟨trivial, trivial⟩ ?_
                          exact pw_ret hT rfl (r := some (pvI n5)) (M' := M101_) ⟨rfl, rfl⟩ ⟨⟨_, rfl, (zr_wide b67_ (by decide) (by decide))⟩, o103_, f104_⟩
              · refine pw_blk hT 1 (S' := (66, [some (pvR 0), some (pvI n1), some (pvI n2), some (pvI n3), some (pvI n4), some (pvI n5), some (pvR q29_), some (pvR q32_)], [pvI (-12)], M)) rfl ⟨trivial, trivial⟩ ?_
                exact pw_ret hT rfl (r := some (pvI (-12))) (M' := M) ⟨rfl, rfl⟩ ⟨⟨_, rfl, (zr_wide (show (-12) ≤ Int32.toInt (-12) ∧ Int32.toInt (-12) ≤ (-12) from (by decide)) (by decide) (by decide))⟩, hok, pvfr_0⟩
def fpL_X9_shut_0_x : List (Nat × Nat × Nat) := [(0, 12, 0), (0, 13, 0), (0, 14, 0), (0, 5, 2), (0, 5, 3), (0, 8, 5), (0, 8, 6), (0, 8, 7), (0, 8, 8), (1, 112, 0), (1, 3, 6)]
def fp_X9_shut_0_x (q k : Nat) : Bool := pvfp fpL_X9_shut_0_x q k
theorem fp_X9_shut_0_x_fp_X1_beginFromNow_5 (a b : Nat) (h : fp_X1_beginFromNow_5 a b = true) : fp_X9_shut_0_x a b = true := pvfp_sub (l1 := fpL_X1_beginFromNow_5) (l2 := fpL_X9_shut_0_x) (by decide) a b h
theorem fp_X9_shut_0_x_fp_X9_go_0_x (a b : Nat) (h : fp_X9_go_0_x a b = true) : fp_X9_shut_0_x a b = true := pvfp_sub (l1 := fpL_X9_go_0_x) (l2 := fpL_X9_shut_0_x) (by decide) a b h
set_option maxHeartbeats 4000000 in
set_option maxRecDepth 10000 in
theorem sf_X9_shut_0_x (M : pvM) (hok : pvOk M) (n1 : Int32) (d : Nat) : PW 199 d (0, [some (pvR 0), some (pvI n1), none, none], [], M) (fun r X => (∃ x : Int32, r = some (pvI x) ∧ (-3) ≤ Int32.toInt x ∧ Int32.toInt x ≤ 319) ∧ pvOk X ∧ pvFr fp_X9_shut_0_x M X) := by
  have hT : pvdom 199 = pvD_199 := rfl
  have b1_ : 0 ≤ Int32.toInt (M.1 8 4) ∧ Int32.toInt (M.1 8 4) ≤ 9999 := pvok_r hok 8 4 rfl
  refine pw_blk hT 3 (S' := (5, [some (pvR 0), some (pvI n1), none, none], [pvI n1, pvR 8], M)) rfl ⟨trivial, rfl, trivial, trivial⟩ ?_
  refine pw_callT hT (as := [pvR 8, pvI n1]) (lo1 := [some (pvR 8), some (pvI n1)]) (d1 := d) (rest := []) rfl rfl rfl rfl rfl (fun _ => rfl) (Nat.zero_le _) rfl rfl rfl (sf_X7_has_8_x M hok n1 d) ?_
  by_cases c7_ : n1 < 0
  · refine pw_eqI (if_pos c7_) ?_
    have b8_ : (-2147483648) ≤ Int32.toInt n1 ∧ Int32.toInt n1 ≤ (-1) := zr_lt_l (-1) c7_ (zbnd n1) (show 0 ≤ Int32.toInt 0 ∧ Int32.toInt 0 ≤ 0 from (by decide)) (by decide)
    show PW 199 d (8, [some (pvR 0), some (pvI n1), none, none], [pvI 0], M) _
    refine pw_ifn hT (c := 0 = 0) rfl rfl (fun c9_ => absurd (by decide) c9_) (fun c9_ => ?_)
    refine pw_blk hT 1 (S' := (12, [some (pvR 0), some (pvI n1), none, none], [pvI (-1)], M)) rfl ⟨trivial, trivial⟩ ?_
    exact pw_ret hT rfl (r := some (pvI (-1))) (M' := M) ⟨rfl, rfl⟩ ⟨⟨_, rfl, (zr_wide (show (-1) ≤ Int32.toInt (-1) ∧ Int32.toInt (-1) ≤ (-1) from (by decide)) (by decide) (by decide))⟩, hok, pvfr_0⟩
  · refine pw_eqI (if_neg c7_) ?_
    have b10_ : 0 ≤ Int32.toInt n1 ∧ Int32.toInt n1 ≤ 2147483647 := zr_nlt_l 0 c7_ (zbnd n1) (show 0 ≤ Int32.toInt 0 ∧ Int32.toInt 0 ≤ 0 from (by decide)) (by decide)
    have b11_ : 0 ≤ Int32.toInt (M.1 8 1) ∧ Int32.toInt (M.1 8 1) ≤ 7 := pvok_r hok 8 1 rfl
    by_cases c12_ : (M.1 8 1) ≤ n1
    · refine pw_eqI (if_pos c12_) ?_
      have d13_ : Int32.toInt (M.1 8 1) ≤ Int32.toInt n1 := (zi_le _ _).mp c12_
      show PW 199 d (8, [some (pvR 0), some (pvI n1), none, none], [pvI 0], M) _
      refine pw_ifn hT (c := 0 = 0) rfl rfl (fun c14_ => absurd (by decide) c14_) (fun c14_ => ?_)
      refine pw_blk hT 1 (S' := (12, [some (pvR 0), some (pvI n1), none, none], [pvI (-1)], M)) rfl ⟨trivial, trivial⟩ ?_
      exact pw_ret hT rfl (r := some (pvI (-1))) (M' := M) ⟨rfl, rfl⟩ ⟨⟨_, rfl, (zr_wide (show (-1) ≤ Int32.toInt (-1) ∧ Int32.toInt (-1) ≤ (-1) from (by decide)) (by decide) (by decide))⟩, hok, pvfr_0⟩
    · refine pw_eqI (if_neg c12_) ?_
      have b15_ : 1 ≤ Int32.toInt (M.1 8 1) ∧ Int32.toInt (M.1 8 1) ≤ 7 := zr_nle_l 1 c12_ b11_ b10_ (by decide)
      have b16_ : 0 ≤ Int32.toInt n1 ∧ Int32.toInt n1 ≤ 6 := zr_nle_r 6 c12_ b10_ b15_ (by decide)
      have d17_ : Int32.toInt (M.1 8 1) > Int32.toInt n1 := Int.not_le.mp ((not_congr (zi_le _ _)).mp c12_)
      show PW 199 d (8, [some (pvR 0), some (pvI n1), none, none], [pvI 1], M) _
      refine pw_ifn hT (c := 1 = 0) rfl rfl (fun c18_ => ?_) (fun c18_ => absurd c18_ (by decide))
      refine pw_blkr hT 5 (pc := 22) (lo := [some (pvR 0), some (pvI n1), none, none]) (st := []) (M := M) (z := (pvbs 10 + Int32.toNatClampNeg n1)) rfl ⟨trivial, rfl, rfl, trivial, ⟨rfl, (zr_in (n := 7) b16_ (by decide) (by decide))⟩, trivial⟩ (fun q19_ e21_ => ?_)
      have k20_ : pvkl q19_ = 3 := pvel_10 (zr_in (n := 7) b16_ (by decide) (by decide)) e21_
      have b22_ : 0 ≤ Int32.toInt (M.1 8 6) ∧ Int32.toInt (M.1 8 6) ≤ 3 := pvok_r hok 8 6 rfl
      have b23_ : 0 ≤ Int32.toInt (M.1 8 7) ∧ Int32.toInt (M.1 8 7) ≤ 4 := pvok_r hok 8 7 rfl
      have b24_ : 15 ≤ Int32.toInt (M.1 8 8) ∧ Int32.toInt (M.1 8 8) ≤ 23 := pvok_r hok 8 8 rfl
      refine pw_blkr hT 11 (pc := 45) (lo := [some (pvR 0), some (pvI n1), some (pvR q19_), none]) (st := [pvI (M.1 8 7), pvI (M.1 8 6), pvR q19_]) (M := M) (z := (pvhp (M.1 8 8))) rfl ⟨trivial, trivial, trivial, rfl, rfl, trivial, rfl, rfl, trivial, rfl, rfl, trivial⟩ (fun q25_ e27_ => ?_)
      have k26_ : pvkl q25_ = 2 := pvhp_k b24_ e27_
      have b28_ : 0 ≤ Int32.toInt (M.1 q25_ 0) ∧ Int32.toInt (M.1 q25_ 0) ≤ 99 := pvok_r hok q25_ 0 ((pvrg_o 0 k26_ (by decide) (by decide)).trans rfl)
      refine pw_blk hT 1 (S' := (48, [some (pvR 0), some (pvI n1), some (pvR q19_), none], [pvI (M.1 q25_ 0), pvI (M.1 8 7), pvI (M.1 8 6), pvR q19_], M)) rfl ⟨k26_, trivial⟩ ?_
      refine pw_callGp hT (as := [pvR q19_, pvI (M.1 8 6), pvI (M.1 8 7), pvI (M.1 q25_ 0)]) (lo1 := [some (pvR q19_), some (pvI (M.1 8 6)), some (pvI (M.1 8 7)), some (pvI (M.1 q25_ 0)), none]) (d1 := d) (rest := []) rfl rfl rfl rfl rfl (fun _ => k20_) (Nat.zero_le _) rfl rfl rfl (sf_X4_minutesFrom_x_x_x_x M hok q19_ (M.1 8 6) (M.1 8 7) (M.1 q25_ 0) k20_ b22_ b23_ b28_ d) (fun x29_ b31_ => ?_)
      have b34_ : 0 ≤ Int32.toInt (M.1 q19_ 5) ∧ Int32.toInt (M.1 q19_ 5) ≤ 1 := pvok_r hok q19_ 5 ((pvrg_o 5 k20_ (by decide) (by decide)).trans rfl)
      refine pw_blk hT 3 (S' := (56, [some (pvR 0), some (pvI n1), some (pvR q19_), some (pvI x29_)], [pvI (M.1 q19_ 5)], M)) rfl ⟨trivial, trivial, k20_, trivial⟩ ?_
      refine pw_ifn hT (c := (M.1 q19_ 5) = 0) rfl rfl (fun c35_ => ?_) (fun c35_ => ?_)
      · have b36_ : 1 ≤ Int32.toInt (M.1 q19_ 5) ∧ Int32.toInt (M.1 q19_ 5) ≤ 1 := (by have u0 := b34_; have u1 := (not_congr (zi_eq _ _)).mp c35_; have u2 := (show 0 ≤ Int32.toInt 0 ∧ Int32.toInt 0 ≤ 0 from (by decide)); omega)
        refine pw_blk hT 1 (S' := (76, [some (pvR 0), some (pvI n1), some (pvR q19_), some (pvI x29_)], [pvI (-3)], M)) rfl ⟨trivial, trivial⟩ ?_
        exact pw_ret hT rfl (r := some (pvI (-3))) (M' := M) ⟨rfl, rfl⟩ ⟨⟨_, rfl, (zr_wide (show (-3) ≤ Int32.toInt (-3) ∧ Int32.toInt (-3) ≤ (-3) from (by decide)) (by decide) (by decide))⟩, hok, pvfr_0⟩
      · have b37_ : 0 ≤ Int32.toInt (M.1 q19_ 5) ∧ Int32.toInt (M.1 q19_ 5) ≤ 0 := (by have u0 := b34_; have u1 := (zi_eq _ _).mp c35_; have u2 := (show 0 ≤ Int32.toInt 0 ∧ Int32.toInt 0 ≤ 0 from (by decide)); omega)
        obtain ⟨q39_, b38_⟩ : (Int32.toInt ((M.1 8 4) + x29_) = Int32.toInt (M.1 8 4) + Int32.toInt x29_) ∧ (0 ≤ Int32.toInt ((M.1 8 4) + x29_) ∧ Int32.toInt ((M.1 8 4) + x29_) ≤ 10318) := zadd_r (M.1 8 4) x29_ 0 10318 b1_ b31_ (by decide) (by decide) (by decide) (by decide)
        refine pw_blk hT 6 (S' := (71, [some (pvR 0), some (pvI n1), some (pvR q19_), some (pvI x29_)], [pvI 9999, pvI ((M.1 8 4) + x29_)], M)) rfl ⟨trivial, rfl, rfl, trivial, trivial, trivial, trivial⟩ ?_
        refine pw_ic hT (c := ((M.1 8 4) + x29_) ≤ 9999) rfl rfl (fun c40_ => ?_) (fun c40_ => ?_)
        · have b41_ : 0 ≤ Int32.toInt ((M.1 8 4) + x29_) ∧ Int32.toInt ((M.1 8 4) + x29_) ≤ 9999 := zr_le_l 9999 c40_ b38_ (show 9999 ≤ Int32.toInt 9999 ∧ Int32.toInt 9999 ≤ 9999 from (by decide)) (by decide)
          refine pw_blk hT 2 (S' := (81, [some (pvR 0), some (pvI n1), some (pvR q19_), some (pvI x29_)], [pvR 5], M)) rfl ⟨trivial, rfl, trivial⟩ ?_
          refine pw_callV hT (as := [pvR 5]) (lo1 := [some (pvR 5)]) (d1 := d) (rest := []) rfl rfl rfl rfl rfl (fun _ => rfl) (Nat.zero_le _) rfl rfl rfl (sf_X1_beginFromNow_5 M hok d) (fun M43_ o45_ g46_ => ?_)
          have f47_ : pvFr fp_X9_shut_0_x M M43_ := pvfr_t g46_ pvfr_0 fp_X9_shut_0_x_fp_X1_beginFromNow_5
          refine pw_blk hT 2 (S' := (86, [some (pvR 0), some (pvI n1), some (pvR q19_), some (pvI x29_)], [pvI x29_, pvR 0], M43_)) rfl ⟨trivial, trivial, trivial⟩ ?_
          have e48_ : (M43_.1 8 4) = (M.1 8 4) := (g46_ 8 4 rfl)
          have b49_ : 0 ≤ Int32.toInt (M43_.1 8 4) ∧ Int32.toInt (M43_.1 8 4) ≤ 9999 := pvok_r o45_ 8 4 rfl
          have d50_ : Int32.toInt (M43_.1 8 4) = Int32.toInt (M.1 8 4) := congrArg Int32.toInt e48_
          refine pw_callG hT (as := [pvR 0, pvI x29_]) (lo1 := [some (pvR 0), some (pvI x29_), none]) (d1 := d) (rest := []) rfl rfl rfl rfl rfl (fun _ => rfl) (Nat.zero_le _) rfl rfl rfl (sf_X9_go_0_x M43_ o45_ x29_ (zr_wide b31_ (by decide) (by decide)) (show Int32.toInt (M43_.1 8 4) + Int32.toInt x29_ ≤ 9999 from (by omega)) d) (fun x51_ M52_ b53_ o54_ g55_ => ?_)
          have f56_ : pvFr fp_X9_shut_0_x M M52_ := pvfr_t g55_ f47_ fp_X9_shut_0_x_fp_X9_go_0_x
          refine pw_blkw hT 4 (pc := 95) (lo := [some (pvR 0), some (pvI n1), some (pvR q19_), some (pvI x29_)]) (st := []) (M := pvu M52_ q19_ 5 1) rfl ⟨trivial, trivial, trivial, ⟨k20_, Or.inr rfl⟩, trivial⟩ (fun M57_ e58_ => ?_)
          have o59_ : pvOk M57_ := pvok_u2 e58_ o54_ ((pvrg_o 5 k20_ (by decide) (by decide)).trans rfl) (zr_wide (show 1 ≤ Int32.toInt 1 ∧ Int32.toInt 1 ≤ 1 from (by decide)) (by decide) (by decide))
          have f60_ : pvFr fp_X9_shut_0_x M M57_ := pvfr_u e58_ f56_ (pvfp_r (l := fpL_X9_shut_0_x) (pvowr_3 k20_) (kk := 6) (by decide) (Or.inr rfl))
          have b61_ : 0 ≤ Int32.toInt (M57_.1 q19_ 2) ∧ Int32.toInt (M57_.1 q19_ 2) ≤ 3 := pvok_r o59_ q19_ 2 ((pvrg_o 2 k20_ (by decide) (by decide)).trans rfl)
          refine pw_blkw hT 5 (pc := 106) (lo := [some (pvR 0), some (pvI n1), some (pvR q19_), some (pvI x29_)]) (st := []) (M := pvu M57_ 8 6 (M57_.1 q19_ 2)) rfl ⟨trivial, rfl, trivial, k20_, rfl, trivial⟩ (fun M62_ e63_ => ?_)
          have o64_ : pvOk M62_ := pvok_u2 e63_ o59_ rfl b61_
          have f65_ : pvFr fp_X9_shut_0_x M M62_ := pvfr_u e63_ f60_ rfl
          have b66_ : 0 ≤ Int32.toInt (M62_.1 q19_ 3) ∧ Int32.toInt (M62_.1 q19_ 3) ≤ 4 := pvok_r o64_ q19_ 3 ((pvrg_o 3 k20_ (by decide) (by decide)).trans rfl)
          refine pw_blkw hT 5 (pc := 117) (lo := [some (pvR 0), some (pvI n1), some (pvR q19_), some (pvI x29_)]) (st := []) (M := pvu M62_ 8 7 (M62_.1 q19_ 3)) rfl ⟨trivial, rfl, trivial, k20_, rfl, trivial⟩ (fun M67_ e68_ => ?_)
          have o69_ : pvOk M67_ := pvok_u2 e68_ o64_ rfl b66_
          have f70_ : pvFr fp_X9_shut_0_x M M67_ := pvfr_u e68_ f65_ rfl
          refine pw_blk hT 1 (S' := (118, [some (pvR 0), some (pvI n1), some (pvR q19_), some (pvI x29_)], [pvI x29_], M67_)) rfl ⟨trivial, trivial⟩ ?_
          exact pw_ret hT rfl (r := some (pvI x29_)) (M' := M67_) ⟨rfl, rfl⟩ ⟨⟨_, rfl, (zr_wide b31_ (by decide) (by decide))⟩, o69_, f70_⟩
        · have b71_ : 10000 ≤ Int32.toInt ((M.1 8 4) + x29_) ∧ Int32.toInt ((M.1 8 4) + x29_) ≤ 10318 := zr_nle_l 10000 c40_ b38_ (show 9999 ≤ Int32.toInt 9999 ∧ Int32.toInt 9999 ≤ 9999 from (by decide)) (by decide)
          refine pw_blk hT 1 (S' := (76, [some (pvR 0), some (pvI n1), some (pvR q19_), some (pvI x29_)], [pvI (-3)], M)) rfl ⟨trivial, trivial⟩ ?_
          exact pw_ret hT rfl (r := some (pvI (-3))) (M' := M) ⟨rfl, rfl⟩ ⟨⟨_, rfl, (zr_wide (show (-3) ≤ Int32.toInt (-3) ∧ Int32.toInt (-3) ≤ (-3) from (by decide)) (by decide) (by decide))⟩, hok, pvfr_0⟩
def fpL_X9_sides_0_x : List (Nat × Nat × Nat) := [(0, 12, 0), (0, 13, 0), (0, 14, 0), (0, 5, 2), (0, 5, 3), (1, 112, 0)]
def fp_X9_sides_0_x (q k : Nat) : Bool := pvfp fpL_X9_sides_0_x q k
theorem fp_X9_sides_0_x_fp_X1_beginFromNow_5 (a b : Nat) (h : fp_X1_beginFromNow_5 a b = true) : fp_X9_sides_0_x a b = true := pvfp_sub (l1 := fpL_X1_beginFromNow_5) (l2 := fpL_X9_sides_0_x) (by decide) a b h
theorem fp_X9_sides_0_x_fp_X1_turnTo_5_x (a b : Nat) (h : fp_X1_turnTo_5_x a b = true) : fp_X9_sides_0_x a b = true := pvfp_sub (l1 := fpL_X1_turnTo_5_x) (l2 := fpL_X9_sides_0_x) (by decide) a b h
set_option maxHeartbeats 4000000 in
set_option maxRecDepth 10000 in
theorem sf_X9_sides_0_x (M : pvM) (hok : pvOk M) (n1 : Int32) (d : Nat) : PW 200 d (0, [some (pvR 0), some (pvI n1), none, none, none, none], [], M) (fun r X => (∃ x : Int32, r = some (pvI x) ∧ (-1) ≤ Int32.toInt x ∧ Int32.toInt x ≤ 2147483647) ∧ pvOk X ∧ pvFr fp_X9_sides_0_x M X) := by
  have hT : pvdom 200 = pvD_200 := rfl
  refine pw_blk hT 3 (S' := (3, [some (pvR 0), some (pvI n1), none, none, none, none], [pvI 1, pvI 0, pvI n1], M)) rfl ⟨trivial, trivial, trivial, trivial⟩ ?_
  refine pw_callT hT (as := [pvI n1, pvI 0, pvI 1]) (lo1 := [some (pvI n1), some (pvI 0), some (pvI 1)]) (d1 := d) (rest := []) rfl rfl rfl rfl rfl (fun h => absurd h (by decide)) (Nat.zero_le _) rfl rfl rfl (sf_X9_within_x_x_x M hok n1 0 1 d) ?_
  by_cases c6_ : n1 < 0
  · refine pw_eqI (if_pos c6_) ?_
    have b7_ : (-2147483648) ≤ Int32.toInt n1 ∧ Int32.toInt n1 ≤ (-1) := zr_lt_l (-1) c6_ (zbnd n1) (show 0 ≤ Int32.toInt 0 ∧ Int32.toInt 0 ≤ 0 from (by decide)) (by decide)
    show PW 200 d (6, [some (pvR 0), some (pvI n1), none, none, none, none], [pvI 0], M) _
    refine pw_ifn hT (c := 0 = 0) rfl rfl (fun c8_ => absurd (by decide) c8_) (fun c8_ => ?_)
    refine pw_blk hT 1 (S' := (10, [some (pvR 0), some (pvI n1), none, none, none, none], [pvI (-1)], M)) rfl ⟨trivial, trivial⟩ ?_
    exact pw_ret hT rfl (r := some (pvI (-1))) (M' := M) ⟨rfl, rfl⟩ ⟨⟨_, rfl, (zr_wide (show (-1) ≤ Int32.toInt (-1) ∧ Int32.toInt (-1) ≤ (-1) from (by decide)) (by decide) (by decide))⟩, hok, pvfr_0⟩
  · refine pw_eqI (if_neg c6_) ?_
    have b9_ : 0 ≤ Int32.toInt n1 ∧ Int32.toInt n1 ≤ 2147483647 := zr_nlt_l 0 c6_ (zbnd n1) (show 0 ≤ Int32.toInt 0 ∧ Int32.toInt 0 ≤ 0 from (by decide)) (by decide)
    by_cases c10_ : 1 < n1
    · refine pw_eqI (if_pos c10_) ?_
      have b11_ : 2 ≤ Int32.toInt n1 ∧ Int32.toInt n1 ≤ 2147483647 := zr_lt_r 2 c10_ b9_ (show 1 ≤ Int32.toInt 1 ∧ Int32.toInt 1 ≤ 1 from (by decide)) (by decide)
      show PW 200 d (6, [some (pvR 0), some (pvI n1), none, none, none, none], [pvI 0], M) _
      refine pw_ifn hT (c := 0 = 0) rfl rfl (fun c12_ => absurd (by decide) c12_) (fun c12_ => ?_)
      refine pw_blk hT 1 (S' := (10, [some (pvR 0), some (pvI n1), none, none, none, none], [pvI (-1)], M)) rfl ⟨trivial, trivial⟩ ?_
      exact pw_ret hT rfl (r := some (pvI (-1))) (M' := M) ⟨rfl, rfl⟩ ⟨⟨_, rfl, (zr_wide (show (-1) ≤ Int32.toInt (-1) ∧ Int32.toInt (-1) ≤ (-1) from (by decide)) (by decide) (by decide))⟩, hok, pvfr_0⟩
    · refine pw_eqI (if_neg c10_) ?_
      have b13_ : 0 ≤ Int32.toInt n1 ∧ Int32.toInt n1 ≤ 1 := zr_nlt_r 1 c10_ b9_ (show 1 ≤ Int32.toInt 1 ∧ Int32.toInt 1 ≤ 1 from (by decide)) (by decide)
      show PW 200 d (6, [some (pvR 0), some (pvI n1), none, none, none, none], [pvI 1], M) _
      refine pw_ifn hT (c := 1 = 0) rfl rfl (fun c14_ => ?_) (fun c14_ => absurd c14_ (by decide))
      refine pw_blk hT 2 (S' := (15, [some (pvR 0), some (pvI n1), none, none, none, none], [pvR 5], M)) rfl ⟨trivial, rfl, trivial⟩ ?_
      refine pw_callV hT (as := [pvR 5]) (lo1 := [some (pvR 5)]) (d1 := d) (rest := []) rfl rfl rfl rfl rfl (fun _ => rfl) (Nat.zero_le _) rfl rfl rfl (sf_X1_beginFromNow_5 M hok d) (fun M16_ o18_ g19_ => ?_)
      have f20_ : pvFr fp_X9_sides_0_x M M16_ := pvfr_t g19_ pvfr_0 fp_X9_sides_0_x_fp_X1_beginFromNow_5
      refine pw_blk hT 6 (S' := (25, [some (pvR 0), some (pvI n1), some (pvI 0), some (pvI (-1)), some (pvI 0), none], [], M16_)) rfl ⟨trivial, trivial, trivial, trivial, trivial, trivial, trivial⟩ ?_
      have hlz124_ : ∀ (nz124_ : Nat) (i2z124_ : Int32) (i3z124_ : Int32) (i4z124_ : Int32) (v5z124_ : Option pvV) (Mz124_ : pvM), (pvOk Mz124_) → (pvFr fp_X9_sides_0_x M Mz124_) → (0 ≤ Int32.toInt i2z124_ ∧ Int32.toInt i2z124_ ≤ 2147483647) → ((-1) ≤ Int32.toInt i3z124_ ∧ Int32.toInt i3z124_ ≤ 2147483647) → (0 ≤ Int32.toInt i4z124_ ∧ Int32.toInt i4z124_ ≤ 4) → (zhide ((5 - Int32.toInt i4z124_).toNat < nz124_)) → PW 200 d (25, [some (pvR 0), some (pvI n1), some (pvI i2z124_), some (pvI i3z124_), some (pvI i4z124_), v5z124_], [], Mz124_) (fun r X => (∃ x : Int32, r = some (pvI x) ∧ (-1) ≤ Int32.toInt x ∧ Int32.toInt x ≤ 2147483647) ∧ pvOk X ∧ pvFr fp_X9_sides_0_x M X) := by
        intro nz124_
        induction nz124_ with
        | zero => intro i2z124_ i3z124_ i4z124_ v5z124_ Mz124_ oz124_ fz124_ h2z124_ h3z124_ h4z124_ hmz124_; exact absurd (zshow hmz124_) (Nat.not_lt_zero _)
        | succ nz124_ ihz124_ =>
          intro i2z124_ i3z124_ i4z124_ v5z124_ Mz124_ oz124_ fz124_ h2z124_ h3z124_ h4z124_ hmz124_
          refine pw_blk hT 2 (S' := (28, [some (pvR 0), some (pvI n1), some (pvI i2z124_), some (pvI i3z124_), some (pvI i4z124_), v5z124_], [pvI 4, pvI i4z124_], Mz124_)) rfl ⟨trivial, trivial, trivial⟩ ?_
          refine pw_ic hT (c := 4 ≤ i4z124_) rfl rfl (fun c125_ => ?_) (fun c125_ => ?_)
          · have b126_ : 4 ≤ Int32.toInt i4z124_ ∧ Int32.toInt i4z124_ ≤ 4 := zr_le_r 4 c125_ h4z124_ (show 4 ≤ Int32.toInt 4 ∧ Int32.toInt 4 ≤ 4 from (by decide)) (by decide)
            refine pw_blk hT 1 (S' := (68, [some (pvR 0), some (pvI n1), some (pvI i2z124_), some (pvI i3z124_), some (pvI i4z124_), v5z124_], [pvI n1], Mz124_)) rfl ⟨trivial, trivial⟩ ?_
            refine pw_ifn hT (c := n1 = 0) rfl rfl (fun c127_ => ?_) (fun c127_ => ?_)
            · have b128_ : 1 ≤ Int32.toInt n1 ∧ Int32.toInt n1 ≤ 1 := (by have u0 := b13_; have u1 := (not_congr (zi_eq _ _)).mp c127_; have u2 := (show 0 ≤ Int32.toInt 0 ∧ Int32.toInt 0 ≤ 0 from (by decide)); omega)
              refine pw_blk hT 1 (S' := (76, [some (pvR 0), some (pvI n1), some (pvI i2z124_), some (pvI i3z124_), some (pvI i4z124_), v5z124_], [pvI i3z124_], Mz124_)) rfl ⟨trivial, trivial⟩ ?_
              exact pw_ret hT rfl (r := some (pvI i3z124_)) (M' := Mz124_) ⟨rfl, rfl⟩ ⟨⟨_, rfl, h3z124_⟩, oz124_, fz124_⟩
            · have b129_ : 0 ≤ Int32.toInt n1 ∧ Int32.toInt n1 ≤ 0 := (by have u0 := b13_; have u1 := (zi_eq _ _).mp c127_; have u2 := (show 0 ≤ Int32.toInt 0 ∧ Int32.toInt 0 ≤ 0 from (by decide)); omega)
              refine pw_blk hT 2 (S' := (76, [some (pvR 0), some (pvI n1), some (pvI i2z124_), some (pvI i3z124_), some (pvI i4z124_), v5z124_], [pvI i2z124_], Mz124_)) rfl ⟨trivial, trivial, trivial⟩ ?_
              exact pw_ret hT rfl (r := some (pvI i2z124_)) (M' := Mz124_) ⟨rfl, rfl⟩ ⟨⟨_, rfl, (zr_wide h2z124_ (by decide) (by decide))⟩, oz124_, fz124_⟩
          · have b130_ : 0 ≤ Int32.toInt i4z124_ ∧ Int32.toInt i4z124_ ≤ 3 := zr_nle_r 3 c125_ h4z124_ (show 4 ≤ Int32.toInt 4 ∧ Int32.toInt 4 ≤ 4 from (by decide)) (by decide)
            refine pw_blk hT 3 (S' := (37, [some (pvR 0), some (pvI n1), some (pvI i2z124_), some (pvI i3z124_), some (pvI i4z124_), v5z124_], [pvI i4z124_, pvR 5], Mz124_)) rfl ⟨trivial, rfl, trivial, trivial⟩ ?_
            refine pw_callV hT (as := [pvR 5, pvI i4z124_]) (lo1 := [some (pvR 5), some (pvI i4z124_), none]) (d1 := d) (rest := []) rfl rfl rfl rfl rfl (fun _ => rfl) (Nat.zero_le _) rfl rfl rfl (sf_X1_turnTo_5_x Mz124_ oz124_ i4z124_ d) (fun M132_ o134_ g135_ => ?_)
            have f136_ : pvFr fp_X9_sides_0_x M M132_ := pvfr_t g135_ fz124_ fp_X9_sides_0_x_fp_X1_turnTo_5_x
            refine pw_blk hT 2 (S' := (44, [some (pvR 0), some (pvI n1), some (pvI i2z124_), some (pvI i3z124_), some (pvI i4z124_), v5z124_], [pvR 5], M132_)) rfl ⟨trivial, rfl, trivial⟩ ?_
            refine pw_callGp hT (as := [pvR 5]) (lo1 := [some (pvR 5)]) (d1 := d) (rest := []) rfl rfl rfl rfl rfl (fun _ => rfl) (Nat.zero_le _) rfl rfl rfl (sf_X1_cost_5 M132_ o134_ d) (fun x137_ b139_ => ?_)
            refine pw_blk hT 3 (S' := (52, [some (pvR 0), some (pvI n1), some (pvI i2z124_), some (pvI i3z124_), some (pvI i4z124_), some (pvI x137_)], [pvI i3z124_, pvI x137_], M132_)) rfl ⟨trivial, trivial, trivial, trivial⟩ ?_
            refine pw_ic hT (c := x137_ ≤ i3z124_) rfl rfl (fun c142_ => ?_) (fun c142_ => ?_)
            · have d143_ : Int32.toInt x137_ ≤ Int32.toInt i3z124_ := (zi_le _ _).mp c142_
              obtain ⟨q145_, b144_⟩ : (Int32.toInt (i4z124_ + 1) = Int32.toInt i4z124_ + 1) ∧ (1 ≤ Int32.toInt (i4z124_ + 1) ∧ Int32.toInt (i4z124_ + 1) ≤ 4) := zadd_k i4z124_ 1 1 1 4 b130_ (by decide) (by decide) (by decide) (by decide) (by decide)
              refine pw_blk hT 2 (S' := (25, [some (pvR 0), some (pvI n1), some (pvI i2z124_), some (pvI i3z124_), some (pvI (i4z124_ + 1)), some (pvI x137_)], [], M132_)) rfl ⟨trivial, trivial, trivial⟩ ?_
              exact ihz124_ i2z124_ i3z124_ (i4z124_ + 1) (some (pvI x137_)) M132_ o134_ f136_ h2z124_ h3z124_ (zr_wide b144_ (by decide) (by decide)) (zhid (pvms_up (zshow hmz124_) h4z124_ q145_ (by decide) (by decide)))
            · have b146_ : 0 ≤ Int32.toInt x137_ ∧ Int32.toInt x137_ ≤ 2147483647 := zr_nle_l 0 c142_ (zbnd x137_) h3z124_ (by decide)
              have b147_ : (-1) ≤ Int32.toInt i3z124_ ∧ Int32.toInt i3z124_ ≤ 2147483646 := zr_nle_r 2147483646 c142_ h3z124_ b146_ (by decide)
              have d148_ : Int32.toInt x137_ > Int32.toInt i3z124_ := Int.not_le.mp ((not_congr (zi_le _ _)).mp c142_)
              obtain ⟨q150_, b149_⟩ : (Int32.toInt (i4z124_ + 1) = Int32.toInt i4z124_ + 1) ∧ (1 ≤ Int32.toInt (i4z124_ + 1) ∧ Int32.toInt (i4z124_ + 1) ≤ 4) := zadd_k i4z124_ 1 1 1 4 b130_ (by decide) (by decide) (by decide) (by decide) (by decide)
              refine pw_blk hT 6 (S' := (25, [some (pvR 0), some (pvI n1), some (pvI i4z124_), some (pvI x137_), some (pvI (i4z124_ + 1)), some (pvI x137_)], [], M132_)) rfl ⟨trivial, trivial, trivial, trivial, trivial, trivial, trivial⟩ ?_
              exact ihz124_ i4z124_ x137_ (i4z124_ + 1) (some (pvI x137_)) M132_ o134_ f136_ (zr_wide b130_ (by decide) (by decide)) (zr_wide b146_ (by decide) (by decide)) (zr_wide b149_ (by decide) (by decide)) (zhid (pvms_up (zshow hmz124_) h4z124_ q150_ (by decide) (by decide)))
      exact hlz124_ _ 0 (-1) 0 none M16_ o18_ f20_ (zr_wide (show 0 ≤ Int32.toInt 0 ∧ Int32.toInt 0 ≤ 0 from (by decide)) (by decide) (by decide)) (zr_wide (show (-1) ≤ Int32.toInt (-1) ∧ Int32.toInt (-1) ≤ (-1) from (by decide)) (by decide) (by decide)) (zr_wide (show 0 ≤ Int32.toInt 0 ∧ Int32.toInt 0 ≤ 0 from (by decide)) (by decide) (by decide)) (zhid (Nat.lt_succ_self _))
