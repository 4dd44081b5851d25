def fpL_X10_next_124 : List (Nat × Nat × Nat) := [(0, 124, 33), (0, 124, 36), (0, 141, 0), (0, 142, 0), (0, 143, 0), (0, 144, 0)]
def fp_X10_next_124 (q k : Nat) : Bool := pvfp fpL_X10_next_124 q k
theorem fp_X10_next_124_fp_X10_costOfPath_124_x (a b : Nat) (h : fp_X10_costOfPath_124_x a b = true) : fp_X10_next_124 a b = true := pvfp_sub (l1 := fpL_X10_costOfPath_124_x) (l2 := fpL_X10_next_124) (by decide) a b h
theorem fp_X10_next_124_fp_X10_layRain_124 (a b : Nat) (h : fp_X10_layRain_124 a b = true) : fp_X10_next_124 a b = true := pvfp_sub (l1 := fpL_X10_layRain_124) (l2 := fpL_X10_next_124) (by decide) a b h
set_option maxHeartbeats 4000000 in
set_option maxRecDepth 10000 in
theorem sf_X10_next_124 (M : pvM) (hok : pvOk M) (d : Nat) : PW 57 d (0, [some (pvR 124), none, none, none, none], [], M) (fun r X => (∃ x : Int32, r = some (pvI x) ∧ (-5) ≤ Int32.toInt x ∧ Int32.toInt x ≤ 2147483647) ∧ pvOk X ∧ pvFr fp_X10_next_124 M X) := by
  have hT : pvdom 57 = pvD_57 := rfl
  refine pw_blk hT 1 (S' := (1, [some (pvR 124), none, none, none, none], [pvR 124], M)) rfl ⟨trivial, trivial⟩ ?_
  refine pw_callV hT (as := [pvR 124]) (lo1 := [some (pvR 124), none, none]) (d1 := d) (rest := []) rfl rfl rfl rfl rfl (fun _ => rfl) (Nat.zero_le _) rfl rfl rfl (sf_X10_layRain_124 M hok d) (fun M2_ o4_ g5_ => ?_)
  have f6_ : pvFr fp_X10_next_124 M M2_ := pvfr_t g5_ pvfr_0 fp_X10_next_124_fp_X10_layRain_124
  refine pw_blk hT 6 (S' := (11, [some (pvR 124), some (pvI (-5)), some (pvI 0), some (pvI 0), none], [], M2_)) rfl ⟨trivial, trivial, trivial, trivial, trivial, trivial, trivial⟩ ?_
  have hlz149_ : ∀ (nz149_ : Nat) (i1z149_ : Int32) (i2z149_ : Int32) (i3z149_ : Int32) (v4z149_ : Option pvV) (Mz149_ : pvM), (pvOk Mz149_) → (pvFr fp_X10_next_124 M Mz149_) → ((-5) ≤ Int32.toInt i1z149_ ∧ Int32.toInt i1z149_ ≤ 2147483647) → (0 ≤ Int32.toInt i2z149_ ∧ Int32.toInt i2z149_ ≤ 2147483647) → (0 ≤ Int32.toInt i3z149_ ∧ Int32.toInt i3z149_ ≤ 7) → (zhide ((8 - Int32.toInt i3z149_).toNat < nz149_)) → PW 57 d (11, [some (pvR 124), some (pvI i1z149_), some (pvI i2z149_), some (pvI i3z149_), v4z149_], [], Mz149_) (fun r X => (∃ x : Int32, r = some (pvI x) ∧ (-5) ≤ Int32.toInt x ∧ Int32.toInt x ≤ 2147483647) ∧ pvOk X ∧ pvFr fp_X10_next_124 M X) := by
    intro nz149_
    induction nz149_ with
    | zero => intro i1z149_ i2z149_ i3z149_ v4z149_ Mz149_ oz149_ fz149_ h1z149_ h2z149_ h3z149_ hmz149_; exact absurd (zshow hmz149_) (Nat.not_lt_zero _)
    | succ nz149_ ihz149_ =>
      intro i1z149_ i2z149_ i3z149_ v4z149_ Mz149_ oz149_ fz149_ h1z149_ h2z149_ h3z149_ hmz149_
      have b150_ : 0 ≤ Int32.toInt (Mz149_.1 124 0) ∧ Int32.toInt (Mz149_.1 124 0) ≤ 7 := pvok_r oz149_ 124 0 rfl
      refine pw_blk hT 3 (S' := (16, [some (pvR 124), some (pvI i1z149_), some (pvI i2z149_), some (pvI i3z149_), v4z149_], [pvI (Mz149_.1 124 0), pvI i3z149_], Mz149_)) rfl ⟨trivial, trivial, rfl, trivial⟩ ?_
      refine pw_ic hT (c := (Mz149_.1 124 0) ≤ i3z149_) rfl rfl (fun c151_ => ?_) (fun c151_ => ?_)
      · have d152_ : Int32.toInt (Mz149_.1 124 0) ≤ Int32.toInt i3z149_ := (zi_le _ _).mp c151_
        refine pw_blk hT 1 (S' := (75, [some (pvR 124), some (pvI i1z149_), some (pvI i2z149_), some (pvI i3z149_), v4z149_], [pvI i1z149_], Mz149_)) rfl ⟨trivial, trivial⟩ ?_
        exact pw_ret hT rfl (r := some (pvI i1z149_)) (M' := Mz149_) ⟨rfl, rfl⟩ ⟨⟨_, rfl, h1z149_⟩, oz149_, fz149_⟩
      · have b153_ : 1 ≤ Int32.toInt (Mz149_.1 124 0) ∧ Int32.toInt (Mz149_.1 124 0) ≤ 7 := zr_nle_l 1 c151_ b150_ h3z149_ (by decide)
        have b154_ : 0 ≤ Int32.toInt i3z149_ ∧ Int32.toInt i3z149_ ≤ 6 := zr_nle_r 6 c151_ h3z149_ b153_ (by decide)
        have d155_ : Int32.toInt (Mz149_.1 124 0) > Int32.toInt i3z149_ := Int.not_le.mp ((not_congr (zi_le _ _)).mp c151_)
        have b156_ : 0 ≤ Int32.toInt (Mz149_.1 131 (Int32.toNatClampNeg i3z149_)) ∧ Int32.toInt (Mz149_.1 131 (Int32.toNatClampNeg i3z149_)) ≤ 1 := pvok_r oz149_ 131 (Int32.toNatClampNeg i3z149_) rfl
        refine pw_blk hT 4 (S' := (25, [some (pvR 124), some (pvI i1z149_), some (pvI i2z149_), some (pvI i3z149_), v4z149_], [pvI (Mz149_.1 131 (Int32.toNatClampNeg i3z149_))], Mz149_)) rfl ⟨trivial, rfl, trivial, ⟨rfl, (zr_in (n := 7) b154_ (by decide) (by decide))⟩, trivial⟩ ?_
        refine pw_if hT (c := (Mz149_.1 131 (Int32.toNatClampNeg i3z149_)) = 0) rfl rfl (fun c157_ => ?_) (fun c157_ => ?_)
        · have b158_ : 0 ≤ Int32.toInt (Mz149_.1 131 (Int32.toNatClampNeg i3z149_)) ∧ Int32.toInt (Mz149_.1 131 (Int32.toNatClampNeg i3z149_)) ≤ 0 := (by have u0 := b156_; have u1 := (zi_eq _ _).mp c157_; have u2 := (show 0 ≤ Int32.toInt 0 ∧ Int32.toInt 0 ≤ 0 from (by decide)); omega)
          refine pw_blkw hT 3 (pc := 36) (lo := [some (pvR 124), some (pvI i1z149_), some (pvI i2z149_), some (pvI i3z149_), v4z149_]) (st := []) (M := pvu Mz149_ 124 35 1) rfl ⟨trivial, trivial, rfl, trivial⟩ (fun M159_ e160_ => ?_)
          have o161_ : pvOk M159_ := pvok_u2 e160_ oz149_ rfl (zr_wide (show 1 ≤ Int32.toInt 1 ∧ Int32.toInt 1 ≤ 1 from (by decide)) (by decide) (by decide))
          have f162_ : pvFr fp_X10_next_124 M M159_ := pvfr_u e160_ fz149_ rfl
          refine pw_blkw hT 5 (pc := 43) (lo := [some (pvR 124), some (pvI i1z149_), some (pvI i2z149_), some (pvI i3z149_), v4z149_]) (st := []) (M := pvu M159_ 144 (Int32.toNatClampNeg 0) i3z149_) rfl ⟨trivial, rfl, trivial, trivial, ⟨rfl, (zr_in (n := 7) (show 0 ≤ Int32.toInt 0 ∧ Int32.toInt 0 ≤ 0 from (by decide)) (by decide) (by decide))⟩, trivial⟩ (fun M163_ e164_ => ?_)
          have o165_ : pvOk M163_ := pvok_u2 e164_ o161_ rfl b154_
          have f166_ : pvFr fp_X10_next_124 M M163_ := pvfr_u e164_ f162_ rfl
          refine pw_blk hT 2 (S' := (45, [some (pvR 124), some (pvI i1z149_), some (pvI i2z149_), some (pvI i3z149_), v4z149_], [pvI 0, pvR 124], M163_)) rfl ⟨trivial, trivial, trivial⟩ ?_
          refine pw_callG hT (as := [pvR 124, pvI 0]) (lo1 := [some (pvR 124), some (pvI 0), none]) (d1 := d) (rest := []) rfl rfl rfl rfl rfl (fun _ => rfl) (Nat.zero_le _) rfl rfl rfl (sf_X10_costOfPath_124_x M163_ o165_ 0 (zr_wide (show 0 ≤ Int32.toInt 0 ∧ Int32.toInt 0 ≤ 0 from (by decide)) (by decide) (by decide)) d) (fun x167_ M168_ b169_ o170_ g171_ => ?_)
          have f172_ : pvFr fp_X10_next_124 M M168_ := pvfr_t g171_ f166_ fp_X10_next_124_fp_X10_costOfPath_124_x
          refine pw_blk hT 2 (S' := (51, [some (pvR 124), some (pvI i1z149_), some (pvI i2z149_), some (pvI i3z149_), some (pvI x167_)], [pvI i1z149_], M168_)) rfl ⟨trivial, trivial, trivial⟩ ?_
          refine pw_if hT (c := i1z149_ < 0) rfl rfl (fun c173_ => ?_) (fun c173_ => ?_)
          · have b174_ : (-5) ≤ Int32.toInt i1z149_ ∧ Int32.toInt i1z149_ ≤ (-1) := zr_lt_l (-1) c173_ h1z149_ (show 0 ≤ Int32.toInt 0 ∧ Int32.toInt 0 ≤ 0 from (by decide)) (by decide)
            obtain ⟨q176_, b175_⟩ : (Int32.toInt (i3z149_ + 1) = Int32.toInt i3z149_ + 1) ∧ (1 ≤ Int32.toInt (i3z149_ + 1) ∧ Int32.toInt (i3z149_ + 1) ≤ 7) := zadd_k i3z149_ 1 1 1 7 b154_ (by decide) (by decide) (by decide) (by decide) (by decide)
            refine pw_blk hT 6 (S' := (11, [some (pvR 124), some (pvI i3z149_), some (pvI x167_), some (pvI (i3z149_ + 1)), some (pvI x167_)], [], M168_)) rfl ⟨trivial, trivial, trivial, trivial, trivial, trivial, trivial⟩ ?_
            exact ihz149_ i3z149_ x167_ (i3z149_ + 1) (some (pvI x167_)) M168_ o170_ f172_ (zr_wide b154_ (by decide) (by decide)) (zr_wide b169_ (by decide) (by decide)) (zr_wide b175_ (by decide) (by decide)) (zhid (pvms_up (zshow hmz149_) h3z149_ q176_ (by decide) (by decide)))
          · have b177_ : 0 ≤ Int32.toInt i1z149_ ∧ Int32.toInt i1z149_ ≤ 2147483647 := zr_nlt_l 0 c173_ h1z149_ (show 0 ≤ Int32.toInt 0 ∧ Int32.toInt 0 ≤ 0 from (by decide)) (by decide)
            refine pw_blk hT 2 (S' := (57, [some (pvR 124), some (pvI i1z149_), some (pvI i2z149_), some (pvI i3z149_), some (pvI x167_)], [pvI i2z149_, pvI x167_], M168_)) rfl ⟨trivial, trivial, trivial⟩ ?_
            refine pw_ic hT (c := x167_ < i2z149_) rfl rfl (fun c178_ => ?_) (fun c178_ => ?_)
            · have b179_ : 1 ≤ Int32.toInt i2z149_ ∧ Int32.toInt i2z149_ ≤ 2147483647 := zr_lt_r 1 c178_ h2z149_ b169_ (by decide)
              have d180_ : Int32.toInt x167_ < Int32.toInt i2z149_ := (zi_lt _ _).mp c178_
              obtain ⟨q182_, b181_⟩ : (Int32.toInt (i3z149_ + 1) = Int32.toInt i3z149_ + 1) ∧ (1 ≤ Int32.toInt (i3z149_ + 1) ∧ Int32.toInt (i3z149_ + 1) ≤ 7) := zadd_k i3z149_ 1 1 1 7 b154_ (by decide) (by decide) (by decide) (by decide) (by decide)
              refine pw_blk hT 6 (S' := (11, [some (pvR 124), some (pvI i3z149_), some (pvI x167_), some (pvI (i3z149_ + 1)), some (pvI x167_)], [], M168_)) rfl ⟨trivial, trivial, trivial, trivial, trivial, trivial, trivial⟩ ?_
              exact ihz149_ i3z149_ x167_ (i3z149_ + 1) (some (pvI x167_)) M168_ o170_ f172_ (zr_wide b154_ (by decide) (by decide)) (zr_wide b169_ (by decide) (by decide)) (zr_wide b181_ (by decide) (by decide)) (zhid (pvms_up (zshow hmz149_) h3z149_ q182_ (by decide) (by decide)))
            · have b183_ : 0 ≤ Int32.toInt i2z149_ ∧ Int32.toInt i2z149_ ≤ 9000000 := zr_nlt_r 9000000 c178_ h2z149_ b169_ (by decide)
              have d184_ : Int32.toInt x167_ ≥ Int32.toInt i2z149_ := Int.not_lt.mp ((not_congr (zi_lt _ _)).mp c178_)
              obtain ⟨q186_, b185_⟩ : (Int32.toInt (i3z149_ + 1) = Int32.toInt i3z149_ + 1) ∧ (1 ≤ Int32.toInt (i3z149_ + 1) ∧ Int32.toInt (i3z149_ + 1) ≤ 7) := zadd_k i3z149_ 1 1 1 7 b154_ (by decide) (by decide) (by decide) (by decide) (by decide)
              refine pw_blk hT 3 (S' := (11, [some (pvR 124), some (pvI i1z149_), some (pvI i2z149_), some (pvI (i3z149_ + 1)), some (pvI x167_)], [], M168_)) rfl ⟨trivial, trivial, trivial, trivial⟩ ?_
              exact ihz149_ i1z149_ i2z149_ (i3z149_ + 1) (some (pvI x167_)) M168_ o170_ f172_ (zr_wide b177_ (by decide) (by decide)) (zr_wide b183_ (by decide) (by decide)) (zr_wide b185_ (by decide) (by decide)) (zhid (pvms_up (zshow hmz149_) h3z149_ q186_ (by decide) (by decide)))
        · have b187_ : 1 ≤ Int32.toInt (Mz149_.1 131 (Int32.toNatClampNeg i3z149_)) ∧ Int32.toInt (Mz149_.1 131 (Int32.toNatClampNeg i3z149_)) ≤ 1 := (by have u0 := b156_; have u1 := (not_congr (zi_eq _ _)).mp c157_; have u2 := (show 0 ≤ Int32.toInt 0 ∧ Int32.toInt 0 ≤ 0 from (by decide)); omega)
          obtain ⟨q189_, b188_⟩ : (Int32.toInt (i3z149_ + 1) = Int32.toInt i3z149_ + 1) ∧ (1 ≤ Int32.toInt (i3z149_ + 1) ∧ Int32.toInt (i3z149_ + 1) ≤ 7) := zadd_k i3z149_ 1 1 1 7 b154_ (by decide) (by decide) (by decide) (by decide) (by decide)
          refine pw_blk hT 3 (S' := (11, [some (pvR 124), some (pvI i1z149_), some (pvI i2z149_), some (pvI (i3z149_ + 1)), v4z149_], [], Mz149_)) rfl ⟨trivial, trivial, trivial, trivial⟩ ?_
          exact ihz149_ i1z149_ i2z149_ (i3z149_ + 1) v4z149_ Mz149_ oz149_ fz149_ h1z149_ h2z149_ (zr_wide b188_ (by decide) (by decide)) (zhid (pvms_up (zshow hmz149_) h3z149_ q189_ (by decide) (by decide)))
  exact hlz149_ _ (-5) 0 0 none M2_ o4_ f6_ (zr_wide (show (-5) ≤ Int32.toInt (-5) ∧ Int32.toInt (-5) ≤ (-5) from (by decide)) (by decide) (by decide)) (zr_wide (show 0 ≤ Int32.toInt 0 ∧ Int32.toInt 0 ≤ 0 from (by decide)) (by decide) (by decide)) (zr_wide (show 0 ≤ Int32.toInt 0 ∧ Int32.toInt 0 ≤ 0 from (by decide)) (by decide) (by decide)) (zhid (Nat.lt_succ_self _))
def fpL_X10_odds_124_x_x : List (Nat × Nat × Nat) := [(0, 124, 33), (0, 124, 36), (0, 124, 5), (0, 141, 0), (0, 142, 0), (0, 143, 0), (0, 144, 0)]
def fp_X10_odds_124_x_x (q k : Nat) : Bool := pvfp fpL_X10_odds_124_x_x q k
theorem fp_X10_odds_124_x_x_fp_X10_costOfRound_124_x (a b : Nat) (h : fp_X10_costOfRound_124_x a b = true) : fp_X10_odds_124_x_x a b = true := pvfp_sub (l1 := fpL_X10_costOfRound_124_x) (l2 := fpL_X10_odds_124_x_x) (by decide) a b h
set_option maxHeartbeats 4000000 in
set_option maxRecDepth 10000 in
theorem sf_X10_odds_124_x_x (M : pvM) (hok : pvOk M) (n1 : Int32) (n2 : Int32) (d : Nat) : PW 58 d (0, [some (pvR 124), some (pvI n1), some (pvI n2), none, none], [], M) (fun r X => (∃ x : Int64, r = some (pvJ x)) ∧ pvOk X ∧ pvFr fp_X10_odds_124_x_x M X) := by
  have hT : pvdom 58 = pvD_58 := rfl
  refine pw_blk hT 2 (S' := (2, [some (pvR 124), some (pvI n1), some (pvI n2), none, none], [pvI n1, pvR 124], M)) rfl ⟨trivial, trivial, trivial⟩ ?_
  refine pw_callT hT (as := [pvR 124, pvI n1]) (lo1 := [some (pvR 124), some (pvI n1)]) (d1 := d) (rest := []) rfl rfl rfl rfl rfl (fun _ => rfl) (Nat.zero_le _) rfl rfl rfl (sf_X10_isLimit_124_x M hok n1 d) ?_
  by_cases c6_ : n1 < 0
  · refine pw_eqI (if_pos c6_) ?_
    have b7_ : (-2147483648) ≤ Int32.toInt n1 ∧ Int32.toInt n1 ≤ (-1) := zr_lt_l (-1) c6_ (zbnd n1) (show 0 ≤ Int32.toInt 0 ∧ Int32.toInt 0 ≤ 0 from (by decide)) (by decide)
    show PW 58 d (5, [some (pvR 124), some (pvI n1), some (pvI n2), none, none], [pvI 0], M) _
    refine pw_if hT (c := 0 = 0) rfl rfl (fun c8_ => ?_) (fun c8_ => absurd (by decide) c8_)
    refine pw_blk hT 1 (S' := (21, [some (pvR 124), some (pvI n1), some (pvI n2), none, none], [pvJ (-9223372036854775808)], M)) rfl ⟨trivial, trivial⟩ ?_
    exact pw_ret hT rfl (r := some (pvJ (-9223372036854775808))) (M' := M) ⟨rfl, rfl⟩ ⟨⟨_, rfl⟩, hok, pvfr_0⟩
  · refine pw_eqI (if_neg c6_) ?_
    have b9_ : 0 ≤ Int32.toInt n1 ∧ Int32.toInt n1 ≤ 2147483647 := zr_nlt_l 0 c6_ (zbnd n1) (show 0 ≤ Int32.toInt 0 ∧ Int32.toInt 0 ≤ 0 from (by decide)) (by decide)
    by_cases c10_ : 99999 < n1
    · refine pw_eqI (if_pos c10_) ?_
      have b11_ : 100000 ≤ Int32.toInt n1 ∧ Int32.toInt n1 ≤ 2147483647 := zr_lt_r 100000 c10_ b9_ (show 99999 ≤ Int32.toInt 99999 ∧ Int32.toInt 99999 ≤ 99999 from (by decide)) (by decide)
      show PW 58 d (5, [some (pvR 124), some (pvI n1), some (pvI n2), none, none], [pvI 0], M) _
      refine pw_if hT (c := 0 = 0) rfl rfl (fun c12_ => ?_) (fun c12_ => absurd (by decide) c12_)
      refine pw_blk hT 1 (S' := (21, [some (pvR 124), some (pvI n1), some (pvI n2), none, none], [pvJ (-9223372036854775808)], M)) rfl ⟨trivial, trivial⟩ ?_
      exact pw_ret hT rfl (r := some (pvJ (-9223372036854775808))) (M' := M) ⟨rfl, rfl⟩ ⟨⟨_, rfl⟩, hok, pvfr_0⟩
    · refine pw_eqI (if_neg c10_) ?_
      have b13_ : 0 ≤ Int32.toInt n1 ∧ Int32.toInt n1 ≤ 99999 := zr_nlt_r 99999 c10_ b9_ (show 99999 ≤ Int32.toInt 99999 ∧ Int32.toInt 99999 ≤ 99999 from (by decide)) (by decide)
      show PW 58 d (5, [some (pvR 124), some (pvI n1), some (pvI n2), none, none], [pvI 1], M) _
      refine pw_if hT (c := 1 = 0) rfl rfl (fun c14_ => absurd c14_ (by decide)) (fun c14_ => ?_)
      refine pw_blk hT 4 (S' := (12, [some (pvR 124), some (pvI n1), some (pvI n2), none, none], [pvI 1, pvI 0, pvI n2, pvR 124], M)) rfl ⟨trivial, trivial, trivial, trivial, trivial⟩ ?_
      refine pw_callT hT (as := [pvR 124, pvI n2, pvI 0, pvI 1]) (lo1 := [some (pvR 124), some (pvI n2), some (pvI 0), some (pvI 1)]) (d1 := d) (rest := []) rfl rfl rfl rfl rfl (fun _ => rfl) (Nat.zero_le _) rfl rfl rfl (sf_X10_in_124_x_x_x M hok n2 0 1 d) ?_
      by_cases c20_ : n2 < 0
      · refine pw_eqI (if_pos c20_) ?_
        have b21_ : (-2147483648) ≤ Int32.toInt n2 ∧ Int32.toInt n2 ≤ (-1) := zr_lt_l (-1) c20_ (zbnd n2) (show 0 ≤ Int32.toInt 0 ∧ Int32.toInt 0 ≤ 0 from (by decide)) (by decide)
        show PW 58 d (15, [some (pvR 124), some (pvI n1), some (pvI n2), none, none], [pvI 0], M) _
        refine pw_ifn hT (c := 0 = 0) rfl rfl (fun c22_ => absurd (by decide) c22_) (fun c22_ => ?_)
        refine pw_blk hT 1 (S' := (21, [some (pvR 124), some (pvI n1), some (pvI n2), none, none], [pvJ (-9223372036854775808)], M)) rfl ⟨trivial, trivial⟩ ?_
        exact pw_ret hT rfl (r := some (pvJ (-9223372036854775808))) (M' := M) ⟨rfl, rfl⟩ ⟨⟨_, rfl⟩, hok, pvfr_0⟩
      · refine pw_eqI (if_neg c20_) ?_
        have b23_ : 0 ≤ Int32.toInt n2 ∧ Int32.toInt n2 ≤ 2147483647 := zr_nlt_l 0 c20_ (zbnd n2) (show 0 ≤ Int32.toInt 0 ∧ Int32.toInt 0 ≤ 0 from (by decide)) (by decide)
        by_cases c24_ : 1 < n2
        · refine pw_eqI (if_pos c24_) ?_
          have b25_ : 2 ≤ Int32.toInt n2 ∧ Int32.toInt n2 ≤ 2147483647 := zr_lt_r 2 c24_ b23_ (show 1 ≤ Int32.toInt 1 ∧ Int32.toInt 1 ≤ 1 from (by decide)) (by decide)
          show PW 58 d (15, [some (pvR 124), some (pvI n1), some (pvI n2), none, none], [pvI 0], M) _
          refine pw_ifn hT (c := 0 = 0) rfl rfl (fun c26_ => absurd (by decide) c26_) (fun c26_ => ?_)
          refine pw_blk hT 1 (S' := (21, [some (pvR 124), some (pvI n1), some (pvI n2), none, none], [pvJ (-9223372036854775808)], M)) rfl ⟨trivial, trivial⟩ ?_
          exact pw_ret hT rfl (r := some (pvJ (-9223372036854775808))) (M' := M) ⟨rfl, rfl⟩ ⟨⟨_, rfl⟩, hok, pvfr_0⟩
        · refine pw_eqI (if_neg c24_) ?_
          have b27_ : 0 ≤ Int32.toInt n2 ∧ Int32.toInt n2 ≤ 1 := zr_nlt_r 1 c24_ b23_ (show 1 ≤ Int32.toInt 1 ∧ Int32.toInt 1 ≤ 1 from (by decide)) (by decide)
          show PW 58 d (15, [some (pvR 124), some (pvI n1), some (pvI n2), none, none], [pvI 1], M) _
          refine pw_ifn hT (c := 1 = 0) rfl rfl (fun c28_ => ?_) (fun c28_ => absurd c28_ (by decide))
          have b29_ : 0 ≤ Int32.toInt (M.1 124 4) ∧ Int32.toInt (M.1 124 4) ≤ 4 := pvok_r hok 124 4 rfl
          refine pw_blkw hT 8 (pc := 35) (lo := [some (pvR 124), some (pvI n1), some (pvI n2), some (pvI (M.1 124 4)), some (pvI 0)]) (st := []) (M := pvu M 124 4 0) rfl ⟨trivial, rfl, trivial, trivial, trivial, trivial, trivial, rfl, trivial⟩ (fun M30_ e31_ => ?_)
          have o32_ : pvOk M30_ := pvok_u2 e31_ hok rfl (zr_wide (show 0 ≤ Int32.toInt 0 ∧ Int32.toInt 0 ≤ 0 from (by decide)) (by decide) (by decide))
          have f33_ : pvFr fp_X10_odds_124_x_x M M30_ := pvfr_u e31_ pvfr_0 rfl
          have hlz202_ : ∀ (nz202_ : Nat) (i4z202_ : Int32) (Mz202_ : pvM), (pvOk Mz202_) → (pvFr fp_X10_odds_124_x_x M Mz202_) → (0 ≤ Int32.toInt i4z202_ ∧ Int32.toInt i4z202_ ≤ 4) → (Int32.toInt i4z202_ ≤ Int32.toInt (Mz202_.1 124 4)) → (zhide ((5 - Int32.toInt (Mz202_.1 124 4)).toNat < nz202_)) → PW 58 d (35, [some (pvR 124), some (pvI n1), some (pvI n2), some (pvI (M.1 124 4)), some (pvI i4z202_)], [], Mz202_) (fun r X => (∃ x : Int64, r = some (pvJ x)) ∧ pvOk X ∧ pvFr fp_X10_odds_124_x_x M X) := by
            intro nz202_
            induction nz202_ with
            | zero => intro i4z202_ Mz202_ oz202_ fz202_ h4z202_ j0z202_ hmz202_; exact absurd (zshow hmz202_) (Nat.not_lt_zero _)
            | succ nz202_ ihz202_ =>
              intro i4z202_ Mz202_ oz202_ fz202_ h4z202_ j0z202_ hmz202_
              have b203_ : 0 ≤ Int32.toInt (Mz202_.1 124 4) ∧ Int32.toInt (Mz202_.1 124 4) ≤ 4 := pvok_r oz202_ 124 4 rfl
              refine pw_blk hT 3 (S' := (40, [some (pvR 124), some (pvI n1), some (pvI n2), some (pvI (M.1 124 4)), some (pvI i4z202_)], [pvI 4, pvI (Mz202_.1 124 4)], Mz202_)) rfl ⟨trivial, rfl, trivial, trivial⟩ ?_
              refine pw_ic hT (c := 4 ≤ (Mz202_.1 124 4)) rfl rfl (fun c204_ => ?_) (fun c204_ => ?_)
              · have b205_ : 4 ≤ Int32.toInt (Mz202_.1 124 4) ∧ Int32.toInt (Mz202_.1 124 4) ≤ 4 := zr_le_r 4 c204_ b203_ (show 4 ≤ Int32.toInt 4 ∧ Int32.toInt 4 ≤ 4 from (by decide)) (by decide)
                refine pw_blkw hT 3 (pc := 80) (lo := [some (pvR 124), some (pvI n1), some (pvI n2), some (pvI (M.1 124 4)), some (pvI i4z202_)]) (st := []) (M := pvu Mz202_ 124 4 (M.1 124 4)) rfl ⟨trivial, trivial, rfl, trivial⟩ (fun M206_ e207_ => ?_)
                have o208_ : pvOk M206_ := pvok_u2 e207_ oz202_ rfl b29_
                have f209_ : pvFr fp_X10_odds_124_x_x M M206_ := pvfr_u e207_ fz202_ rfl
                refine pw_blk hT 4 (S' := (85, [some (pvR 124), some (pvI n1), some (pvI n2), some (pvI (M.1 124 4)), some (pvI i4z202_)], [pvI n2, pvI 4, pvI i4z202_, pvR 124], M206_)) rfl ⟨trivial, trivial, trivial, trivial, trivial⟩ ?_
                refine pw_callJp hT (as := [pvR 124, pvI i4z202_, pvI 4, pvI n2]) (lo1 := [some (pvR 124), some (pvI i4z202_), some (pvI 4), some (pvI n2), none]) (d1 := d) (rest := []) rfl rfl rfl rfl rfl (fun _ => rfl) (Nat.zero_le _) rfl rfl rfl (sf_X10_lowest_124_x_x_x M206_ o208_ i4z202_ 4 n2 (zr_wide h4z202_ (by decide) (by decide)) (zr_wide (show 4 ≤ Int32.toInt 4 ∧ Int32.toInt 4 ≤ 4 from (by decide)) (by decide) (by decide)) d) (fun x210_ b212_ => ?_)
                exact pw_ret hT rfl (r := some (pvJ x210_)) (M' := M206_) ⟨rfl, rfl⟩ ⟨⟨_, rfl⟩, o208_, f209_⟩
              · have b215_ : 0 ≤ Int32.toInt (Mz202_.1 124 4) ∧ Int32.toInt (Mz202_.1 124 4) ≤ 3 := zr_nle_r 3 c204_ b203_ (show 4 ≤ Int32.toInt 4 ∧ Int32.toInt 4 ≤ 4 from (by decide)) (by decide)
                refine pw_blk hT 3 (S' := (47, [some (pvR 124), some (pvI n1), some (pvI n2), some (pvI (M.1 124 4)), some (pvI i4z202_)], [pvI 0, pvR 124, pvI i4z202_], Mz202_)) rfl ⟨trivial, trivial, trivial, trivial⟩ ?_
                refine pw_callG hT (as := [pvR 124, pvI 0]) (lo1 := [some (pvR 124), some (pvI 0)]) (d1 := d) (rest := [pvI i4z202_]) rfl rfl rfl rfl rfl (fun _ => rfl) (Nat.zero_le _) rfl rfl rfl (sf_X10_costOfRound_124_x Mz202_ oz202_ 0 (zr_wide (show 0 ≤ Int32.toInt 0 ∧ Int32.toInt 0 ≤ 0 from (by decide)) (by decide) (by decide)) d) (fun x216_ M217_ b218_ o219_ g220_ => ?_)
                have f221_ : pvFr fp_X10_odds_124_x_x M M217_ := pvfr_t g220_ fz202_ fp_X10_odds_124_x_x_fp_X10_costOfRound_124_x
                refine pw_blk hT 1 (S' := (51, [some (pvR 124), some (pvI n1), some (pvI n2), some (pvI (M.1 124 4)), some (pvI i4z202_)], [pvI n1, pvI x216_, pvI i4z202_], M217_)) rfl ⟨trivial, trivial⟩ ?_
                refine pw_ic hT (c := n1 < x216_) rfl rfl (fun c222_ => ?_) (fun c222_ => ?_)
                · have b223_ : 1 ≤ Int32.toInt x216_ ∧ Int32.toInt x216_ ≤ 9000000 := zr_lt_r 1 c222_ b218_ b13_ (by decide)
                  have d224_ : Int32.toInt n1 < Int32.toInt x216_ := (zi_lt _ _).mp c222_
                  obtain ⟨q226_, b225_⟩ : (Int32.toInt (i4z202_ + 0) = Int32.toInt i4z202_ + 0) ∧ (0 ≤ Int32.toInt (i4z202_ + 0) ∧ Int32.toInt (i4z202_ + 0) ≤ 4) := zadd_k i4z202_ 0 0 0 4 h4z202_ (by decide) (by decide) (by decide) (by decide) (by decide)
                  have e227_ : (M217_.1 124 4) = (Mz202_.1 124 4) := (g220_ 124 4 rfl)
                  have b228_ : 0 ≤ Int32.toInt (M217_.1 124 4) ∧ Int32.toInt (M217_.1 124 4) ≤ 3 := (by rw [e227_]; exact b215_)
                  have d229_ : Int32.toInt (M217_.1 124 4) = Int32.toInt (Mz202_.1 124 4) := congrArg Int32.toInt e227_
                  obtain ⟨q231_, b230_⟩ : (Int32.toInt ((M217_.1 124 4) + 1) = Int32.toInt (M217_.1 124 4) + 1) ∧ (1 ≤ Int32.toInt ((M217_.1 124 4) + 1) ∧ Int32.toInt ((M217_.1 124 4) + 1) ≤ 4) := zadd_k (M217_.1 124 4) 1 1 1 4 b228_ (by decide) (by decide) (by decide) (by decide) (by decide)
                  refine pw_blkw hT 9 (pc := 72) (lo := [some (pvR 124), some (pvI n1), some (pvI n2), some (pvI (M.1 124 4)), some (pvI (i4z202_ + 0))]) (st := []) (M := pvu M217_ 124 4 ((M217_.1 124 4) + 1)) rfl ⟨trivial, trivial, trivial, trivial, trivial, rfl, trivial, trivial, rfl, trivial⟩ (fun M232_ e233_ => ?_)
                  have o234_ : pvOk M232_ := pvok_u2 e233_ o219_ rfl (zr_wide b230_ (by decide) (by decide))
                  have f235_ : pvFr fp_X10_odds_124_x_x M M232_ := pvfr_u e233_ f221_ rfl
                  refine pw_blk hT 1 (S' := (35, [some (pvR 124), some (pvI n1), some (pvI n2), some (pvI (M.1 124 4)), some (pvI (i4z202_ + 0))], [], M232_)) rfl ⟨trivial, trivial⟩ ?_
                  have j236_ : Int32.toInt (i4z202_ + 0) ≤ Int32.toInt (M232_.1 124 4) := by have z1 : Int32.toInt (M232_.1 124 4) = Int32.toInt ((M217_.1 124 4) + 1) := congrArg Int32.toInt (pvu_s e233_); have z2 : Int32.toInt (M217_.1 124 4) = Int32.toInt (Mz202_.1 124 4) := congrArg Int32.toInt (g220_ 124 4 rfl); have y01 : Int32.toInt (M232_.1 124 4) = Int32.toInt ((M217_.1 124 4) + 1) := congrArg Int32.toInt (pvu_s e233_); have y02 : Int32.toInt (M217_.1 124 4) = Int32.toInt (Mz202_.1 124 4) := congrArg Int32.toInt (g220_ 124 4 rfl); omega
                  exact ihz202_ (i4z202_ + 0) M232_ o234_ f235_ b225_ j236_ (zhid (by have hm0 := zshow hmz202_; have z1 : Int32.toInt (M232_.1 124 4) = Int32.toInt ((M217_.1 124 4) + 1) := congrArg Int32.toInt (pvu_s e233_); have z2 : Int32.toInt (M217_.1 124 4) = Int32.toInt (Mz202_.1 124 4) := congrArg Int32.toInt (g220_ 124 4 rfl); have y01 : Int32.toInt (M232_.1 124 4) = Int32.toInt ((M217_.1 124 4) + 1) := congrArg Int32.toInt (pvu_s e233_); have y02 : Int32.toInt (M217_.1 124 4) = Int32.toInt (Mz202_.1 124 4) := congrArg Int32.toInt (g220_ 124 4 rfl); omega))
                · have b237_ : 0 ≤ Int32.toInt x216_ ∧ Int32.toInt x216_ ≤ 99999 := zr_nlt_r 99999 c222_ b218_ b13_ (by decide)
                  have d238_ : Int32.toInt n1 ≥ Int32.toInt x216_ := Int.not_lt.mp ((not_congr (zi_lt _ _)).mp c222_)
                  obtain ⟨q240_, b239_⟩ : (Int32.toInt (i4z202_ + 1) = Int32.toInt i4z202_ + 1) ∧ (1 ≤ Int32.toInt (i4z202_ + 1) ∧ Int32.toInt (i4z202_ + 1) ≤ 5) := zadd_k i4z202_ 1 1 1 5 h4z202_ (by decide) (by decide) (by decide) (by decide) (by decide)
                  have e241_ : (M217_.1 124 4) = (Mz202_.1 124 4) := (g220_ 124 4 rfl)
                  have b242_ : 0 ≤ Int32.toInt (M217_.1 124 4) ∧ Int32.toInt (M217_.1 124 4) ≤ 3 := (by rw [e241_]; exact b215_)
                  have d243_ : Int32.toInt (M217_.1 124 4) = Int32.toInt (Mz202_.1 124 4) := congrArg Int32.toInt e241_
                  obtain ⟨q245_, b244_⟩ : (Int32.toInt ((M217_.1 124 4) + 1) = Int32.toInt (M217_.1 124 4) + 1) ∧ (1 ≤ Int32.toInt ((M217_.1 124 4) + 1) ∧ Int32.toInt ((M217_.1 124 4) + 1) ≤ 4) := zadd_k (M217_.1 124 4) 1 1 1 4 b242_ (by decide) (by decide) (by decide) (by decide) (by decide)
                  refine pw_blkw hT 10 (pc := 72) (lo := [some (pvR 124), some (pvI n1), some (pvI n2), some (pvI (M.1 124 4)), some (pvI (i4z202_ + 1))]) (st := []) (M := pvu M217_ 124 4 ((M217_.1 124 4) + 1)) rfl ⟨trivial, trivial, trivial, trivial, trivial, trivial, rfl, trivial, trivial, rfl, trivial⟩ (fun M246_ e247_ => ?_)
                  have o248_ : pvOk M246_ := pvok_u2 e247_ o219_ rfl (zr_wide b244_ (by decide) (by decide))
                  have f249_ : pvFr fp_X10_odds_124_x_x M M246_ := pvfr_u e247_ f221_ rfl
                  refine pw_blk hT 1 (S' := (35, [some (pvR 124), some (pvI n1), some (pvI n2), some (pvI (M.1 124 4)), some (pvI (i4z202_ + 1))], [], M246_)) rfl ⟨trivial, trivial⟩ ?_
                  have j250_ : Int32.toInt (i4z202_ + 1) ≤ Int32.toInt (M246_.1 124 4) := by have z1 : Int32.toInt (M246_.1 124 4) = Int32.toInt ((M217_.1 124 4) + 1) := congrArg Int32.toInt (pvu_s e247_); have z2 : Int32.toInt (M217_.1 124 4) = Int32.toInt (Mz202_.1 124 4) := congrArg Int32.toInt (g220_ 124 4 rfl); have y01 : Int32.toInt (M246_.1 124 4) = Int32.toInt ((M217_.1 124 4) + 1) := congrArg Int32.toInt (pvu_s e247_); have y02 : Int32.toInt (M217_.1 124 4) = Int32.toInt (Mz202_.1 124 4) := congrArg Int32.toInt (g220_ 124 4 rfl); omega
                  exact ihz202_ (i4z202_ + 1) M246_ o248_ f249_ (by have u0 := b239_; omega) j250_ (zhid (by have hm0 := zshow hmz202_; have z1 : Int32.toInt (M246_.1 124 4) = Int32.toInt ((M217_.1 124 4) + 1) := congrArg Int32.toInt (pvu_s e247_); have z2 : Int32.toInt (M217_.1 124 4) = Int32.toInt (Mz202_.1 124 4) := congrArg Int32.toInt (g220_ 124 4 rfl); have y01 : Int32.toInt (M246_.1 124 4) = Int32.toInt ((M217_.1 124 4) + 1) := congrArg Int32.toInt (pvu_s e247_); have y02 : Int32.toInt (M217_.1 124 4) = Int32.toInt (Mz202_.1 124 4) := congrArg Int32.toInt (g220_ 124 4 rfl); omega))
          have u251_ : Int32.toInt 0 = 0 := by decide
          have j252_ : Int32.toInt 0 ≤ Int32.toInt (M30_.1 124 4) := by have y01 : Int32.toInt (M30_.1 124 4) = Int32.toInt 0 := congrArg Int32.toInt (pvu_s e31_); have y03 : Int32.toInt 0 = 0 := (by decide); omega
          exact hlz202_ _ 0 M30_ o32_ f33_ (zr_wide (show 0 ≤ Int32.toInt 0 ∧ Int32.toInt 0 ≤ 0 from (by decide)) (by decide) (by decide)) j252_ (zhid (Nat.lt_succ_self _))
def fpL_X10_of_124_x_x : List (Nat × Nat × Nat) := [(0, 124, 33), (0, 141, 0), (0, 142, 0), (0, 143, 0)]
def fp_X10_of_124_x_x (q k : Nat) : Bool := pvfp fpL_X10_of_124_x_x q k
theorem fp_X10_of_124_x_x_fp_X10_layOpen_124 (a b : Nat) (h : fp_X10_layOpen_124 a b = true) : fp_X10_of_124_x_x a b = true := pvfp_sub (l1 := fpL_X10_layOpen_124) (l2 := fpL_X10_of_124_x_x) (by decide) a b h
theorem fp_X10_of_124_x_x_fp_X10_layRain_124 (a b : Nat) (h : fp_X10_layRain_124 a b = true) : fp_X10_of_124_x_x a b = true := pvfp_sub (l1 := fpL_X10_layRain_124) (l2 := fpL_X10_of_124_x_x) (by decide) a b h
set_option maxHeartbeats 4000000 in
set_option maxRecDepth 10000 in
theorem sf_X10_of_124_x_x (M : pvM) (hok : pvOk M) (n1 : Int32) (n2 : Int32) (d : Nat) : PW 59 d (0, [some (pvR 124), some (pvI n1), some (pvI n2)], [], M) (fun r X => (∃ x : Int32, r = some (pvI x) ∧ (-1) ≤ Int32.toInt x ∧ Int32.toInt x ≤ 12009) ∧ pvOk X ∧ pvFr fp_X10_of_124_x_x M X) := by
  have hT : pvdom 59 = pvD_59 := rfl
  refine pw_blk hT 2 (S' := (2, [some (pvR 124), some (pvI n1), some (pvI n2)], [pvI n1, pvR 124], M)) rfl ⟨trivial, trivial, trivial⟩ ?_
  refine pw_callT hT (as := [pvR 124, pvI n1]) (lo1 := [some (pvR 124), some (pvI n1)]) (d1 := d) (rest := []) rfl rfl rfl rfl rfl (fun _ => rfl) (Nat.zero_le _) rfl rfl rfl (sf_X10_isWindow_124_x M hok n1 d) ?_
  by_cases c6_ : n1 < 0
  · refine pw_eqI (if_pos c6_) ?_
    have b7_ : (-2147483648) ≤ Int32.toInt n1 ∧ Int32.toInt n1 ≤ (-1) := zr_lt_l (-1) c6_ (zbnd n1) (show 0 ≤ Int32.toInt 0 ∧ Int32.toInt 0 ≤ 0 from (by decide)) (by decide)
    show PW 59 d (5, [some (pvR 124), some (pvI n1), some (pvI n2)], [pvI 0], M) _
    refine pw_ifn hT (c := 0 = 0) rfl rfl (fun c8_ => absurd (by decide) c8_) (fun c8_ => ?_)
    refine pw_blk hT 1 (S' := (9, [some (pvR 124), some (pvI n1), some (pvI n2)], [pvI (-1)], M)) rfl ⟨trivial, trivial⟩ ?_
    exact pw_ret hT rfl (r := some (pvI (-1))) (M' := M) ⟨rfl, rfl⟩ ⟨⟨_, rfl, (zr_wide (show (-1) ≤ Int32.toInt (-1) ∧ Int32.toInt (-1) ≤ (-1) from (by decide)) (by decide) (by decide))⟩, hok, pvfr_0⟩
  · refine pw_eqI (if_neg c6_) ?_
    have b9_ : 0 ≤ Int32.toInt n1 ∧ Int32.toInt n1 ≤ 2147483647 := zr_nlt_l 0 c6_ (zbnd n1) (show 0 ≤ Int32.toInt 0 ∧ Int32.toInt 0 ≤ 0 from (by decide)) (by decide)
    have b10_ : 0 ≤ Int32.toInt (M.1 124 0) ∧ Int32.toInt (M.1 124 0) ≤ 7 := pvok_r hok 124 0 rfl
    obtain ⟨q12_, b11_⟩ : (Int32.toInt ((M.1 124 0) - 1) = Int32.toInt (M.1 124 0) - 1) ∧ ((-1) ≤ Int32.toInt ((M.1 124 0) - 1) ∧ Int32.toInt ((M.1 124 0) - 1) ≤ 6) := zsub_k (M.1 124 0) 1 1 (-1) 6 b10_ (by decide) (by decide) (by decide) (by decide) (by decide)
    by_cases c13_ : ((M.1 124 0) - 1) < n1
    · refine pw_eqI (if_pos c13_) ?_
      have d14_ : Int32.toInt ((M.1 124 0) - 1) < Int32.toInt n1 := (zi_lt _ _).mp c13_
      show PW 59 d (5, [some (pvR 124), some (pvI n1), some (pvI n2)], [pvI 0], M) _
      refine pw_ifn hT (c := 0 = 0) rfl rfl (fun c15_ => absurd (by decide) c15_) (fun c15_ => ?_)
      refine pw_blk hT 1 (S' := (9, [some (pvR 124), some (pvI n1), some (pvI n2)], [pvI (-1)], M)) rfl ⟨trivial, trivial⟩ ?_
      exact pw_ret hT rfl (r := some (pvI (-1))) (M' := M) ⟨rfl, rfl⟩ ⟨⟨_, rfl, (zr_wide (show (-1) ≤ Int32.toInt (-1) ∧ Int32.toInt (-1) ≤ (-1) from (by decide)) (by decide) (by decide))⟩, hok, pvfr_0⟩
    · refine pw_eqI (if_neg c13_) ?_
      have b16_ : 0 ≤ Int32.toInt ((M.1 124 0) - 1) ∧ Int32.toInt ((M.1 124 0) - 1) ≤ 6 := zr_nlt_l 0 c13_ b11_ b9_ (by decide)
      have b17_ : 0 ≤ Int32.toInt n1 ∧ Int32.toInt n1 ≤ 6 := zr_nlt_r 6 c13_ b9_ b16_ (by decide)
      have d18_ : Int32.toInt ((M.1 124 0) - 1) ≥ Int32.toInt n1 := Int.not_lt.mp ((not_congr (zi_lt _ _)).mp c13_)
      show PW 59 d (5, [some (pvR 124), some (pvI n1), some (pvI n2)], [pvI 1], M) _
      refine pw_ifn hT (c := 1 = 0) rfl rfl (fun c19_ => ?_) (fun c19_ => absurd c19_ (by decide))
      refine pw_blk hT 1 (S' := (11, [some (pvR 124), some (pvI n1), some (pvI n2)], [pvI n2], M)) rfl ⟨trivial, trivial⟩ ?_
      refine pw_sw hT rfl rfl ?_
      refine And.intro (fun c20_ => ?_) (fun c20_ => ?_)
      · show PW 59 d (56, [some (pvR 124), some (pvI n1), some (pvI n2)], [], M) _
        have b21_ : 0 ≤ Int32.toInt n2 ∧ Int32.toInt n2 ≤ 0 := (by have u0 := (zbnd n2); have u1 := (zi_eq _ _).mp c20_; have u2 := (show 0 ≤ Int32.toInt 0 ∧ Int32.toInt 0 ≤ 0 from (by decide)); omega)
        have b22_ : 0 ≤ Int32.toInt (M.1 125 (Int32.toNatClampNeg n1)) ∧ Int32.toInt (M.1 125 (Int32.toNatClampNeg n1)) ≤ 6 := pvok_r hok 125 (Int32.toNatClampNeg n1) rfl
        refine pw_blk hT 4 (S' := (62, [some (pvR 124), some (pvI n1), some (pvI n2)], [pvI (M.1 125 (Int32.toNatClampNeg n1))], M)) rfl ⟨trivial, rfl, trivial, ⟨rfl, (zr_in (n := 7) b17_ (by decide) (by decide))⟩, trivial⟩ ?_
        exact pw_ret hT rfl (r := some (pvI (M.1 125 (Int32.toNatClampNeg n1)))) (M' := M) ⟨rfl, rfl⟩ ⟨⟨_, rfl, (zr_wide b22_ (by decide) (by decide))⟩, hok, pvfr_0⟩
      · refine And.intro (fun c23_ => ?_) (fun c23_ => ?_)
        · show PW 59 d (63, [some (pvR 124), some (pvI n1), some (pvI n2)], [], M) _
          have b24_ : 1 ≤ Int32.toInt n2 ∧ Int32.toInt n2 ≤ 1 := (by have u0 := (zbnd n2); have u1 := (zi_eq _ _).mp c23_; have u2 := (show 1 ≤ Int32.toInt 1 ∧ Int32.toInt 1 ≤ 1 from (by decide)); omega)
          have b25_ : 0 ≤ Int32.toInt (M.1 126 (Int32.toNatClampNeg n1)) ∧ Int32.toInt (M.1 126 (Int32.toNatClampNeg n1)) ≤ 9 := pvok_r hok 126 (Int32.toNatClampNeg n1) rfl
          refine pw_blk hT 4 (S' := (69, [some (pvR 124), some (pvI n1), some (pvI n2)], [pvI (M.1 126 (Int32.toNatClampNeg n1))], M)) rfl ⟨trivial, rfl, trivial, ⟨rfl, (zr_in (n := 7) b17_ (by decide) (by decide))⟩, trivial⟩ ?_
          exact pw_ret hT rfl (r := some (pvI (M.1 126 (Int32.toNatClampNeg n1)))) (M' := M) ⟨rfl, rfl⟩ ⟨⟨_, rfl, (zr_wide b25_ (by decide) (by decide))⟩, hok, pvfr_0⟩
        · refine And.intro (fun c26_ => ?_) (fun c26_ => ?_)
          · show PW 59 d (70, [some (pvR 124), some (pvI n1), some (pvI n2)], [], M) _
            have b27_ : 2 ≤ Int32.toInt n2 ∧ Int32.toInt n2 ≤ 2 := (by have u0 := (zbnd n2); have u1 := (zi_eq _ _).mp c26_; have u2 := (show 2 ≤ Int32.toInt 2 ∧ Int32.toInt 2 ≤ 2 from (by decide)); omega)
            have b28_ : 0 ≤ Int32.toInt (M.1 127 (Int32.toNatClampNeg n1)) ∧ Int32.toInt (M.1 127 (Int32.toNatClampNeg n1)) ≤ 3 := pvok_r hok 127 (Int32.toNatClampNeg n1) rfl
            refine pw_blk hT 4 (S' := (76, [some (pvR 124), some (pvI n1), some (pvI n2)], [pvI (M.1 127 (Int32.toNatClampNeg n1))], M)) rfl ⟨trivial, rfl, trivial, ⟨rfl, (zr_in (n := 7) b17_ (by decide) (by decide))⟩, trivial⟩ ?_
            exact pw_ret hT rfl (r := some (pvI (M.1 127 (Int32.toNatClampNeg n1)))) (M' := M) ⟨rfl, rfl⟩ ⟨⟨_, rfl, (zr_wide b28_ (by decide) (by decide))⟩, hok, pvfr_0⟩
          · refine And.intro (fun c29_ => ?_) (fun c29_ => ?_)
            · show PW 59 d (77, [some (pvR 124), some (pvI n1), some (pvI n2)], [], M) _
              have b30_ : 3 ≤ Int32.toInt n2 ∧ Int32.toInt n2 ≤ 3 := (by have u0 := (zbnd n2); have u1 := (zi_eq _ _).mp c29_; have u2 := (show 3 ≤ Int32.toInt 3 ∧ Int32.toInt 3 ≤ 3 from (by decide)); omega)
              have b31_ : 0 ≤ Int32.toInt (M.1 128 (Int32.toNatClampNeg n1)) ∧ Int32.toInt (M.1 128 (Int32.toNatClampNeg n1)) ≤ 4 := pvok_r hok 128 (Int32.toNatClampNeg n1) rfl
              refine pw_blk hT 4 (S' := (83, [some (pvR 124), some (pvI n1), some (pvI n2)], [pvI (M.1 128 (Int32.toNatClampNeg n1))], M)) rfl ⟨trivial, rfl, trivial, ⟨rfl, (zr_in (n := 7) b17_ (by decide) (by decide))⟩, trivial⟩ ?_
              exact pw_ret hT rfl (r := some (pvI (M.1 128 (Int32.toNatClampNeg n1)))) (M' := M) ⟨rfl, rfl⟩ ⟨⟨_, rfl, (zr_wide b31_ (by decide) (by decide))⟩, hok, pvfr_0⟩
            · refine And.intro (fun c32_ => ?_) (fun c32_ => ?_)
              · show PW 59 d (84, [some (pvR 124), some (pvI n1), some (pvI n2)], [], M) _
                have b33_ : 4 ≤ Int32.toInt n2 ∧ Int32.toInt n2 ≤ 4 := (by have u0 := (zbnd n2); have u1 := (zi_eq _ _).mp c32_; have u2 := (show 4 ≤ Int32.toInt 4 ∧ Int32.toInt 4 ≤ 4 from (by decide)); omega)
                have b34_ : 0 ≤ Int32.toInt (M.1 129 (Int32.toNatClampNeg n1)) ∧ Int32.toInt (M.1 129 (Int32.toNatClampNeg n1)) ≤ 9 := pvok_r hok 129 (Int32.toNatClampNeg n1) rfl
                refine pw_blk hT 4 (S' := (90, [some (pvR 124), some (pvI n1), some (pvI n2)], [pvI (M.1 129 (Int32.toNatClampNeg n1))], M)) rfl ⟨trivial, rfl, trivial, ⟨rfl, (zr_in (n := 7) b17_ (by decide) (by decide))⟩, trivial⟩ ?_
                exact pw_ret hT rfl (r := some (pvI (M.1 129 (Int32.toNatClampNeg n1)))) (M' := M) ⟨rfl, rfl⟩ ⟨⟨_, rfl, (zr_wide b34_ (by decide) (by decide))⟩, hok, pvfr_0⟩
              · refine And.intro (fun c35_ => ?_) (fun c35_ => ?_)
                · show PW 59 d (91, [some (pvR 124), some (pvI n1), some (pvI n2)], [], M) _
                  have b36_ : 5 ≤ Int32.toInt n2 ∧ Int32.toInt n2 ≤ 5 := (by have u0 := (zbnd n2); have u1 := (zi_eq _ _).mp c35_; have u2 := (show 5 ≤ Int32.toInt 5 ∧ Int32.toInt 5 ≤ 5 from (by decide)); omega)
                  have b37_ : 0 ≤ Int32.toInt (M.1 131 (Int32.toNatClampNeg n1)) ∧ Int32.toInt (M.1 131 (Int32.toNatClampNeg n1)) ≤ 1 := pvok_r hok 131 (Int32.toNatClampNeg n1) rfl
                  refine pw_blk hT 4 (S' := (97, [some (pvR 124), some (pvI n1), some (pvI n2)], [pvI (M.1 131 (Int32.toNatClampNeg n1))], M)) rfl ⟨trivial, rfl, trivial, ⟨rfl, (zr_in (n := 7) b17_ (by decide) (by decide))⟩, trivial⟩ ?_
                  refine pw_if hT (c := (M.1 131 (Int32.toNatClampNeg n1)) = 0) rfl rfl (fun c38_ => ?_) (fun c38_ => ?_)
                  · have b39_ : 0 ≤ Int32.toInt (M.1 131 (Int32.toNatClampNeg n1)) ∧ Int32.toInt (M.1 131 (Int32.toNatClampNeg n1)) ≤ 0 := (by have u0 := b37_; have u1 := (zi_eq _ _).mp c38_; have u2 := (show 0 ≤ Int32.toInt 0 ∧ Int32.toInt 0 ≤ 0 from (by decide)); omega)
                    refine pw_blk hT 1 (S' := (105, [some (pvR 124), some (pvI n1), some (pvI n2)], [pvI 0], M)) rfl ⟨trivial, trivial⟩ ?_
                    exact pw_ret hT rfl (r := some (pvI 0)) (M' := M) ⟨rfl, rfl⟩ ⟨⟨_, rfl, (zr_wide (show 0 ≤ Int32.toInt 0 ∧ Int32.toInt 0 ≤ 0 from (by decide)) (by decide) (by decide))⟩, hok, pvfr_0⟩
                  · have b40_ : 1 ≤ Int32.toInt (M.1 131 (Int32.toNatClampNeg n1)) ∧ Int32.toInt (M.1 131 (Int32.toNatClampNeg n1)) ≤ 1 := (by have u0 := b37_; have u1 := (not_congr (zi_eq _ _)).mp c38_; have u2 := (show 0 ≤ Int32.toInt 0 ∧ Int32.toInt 0 ≤ 0 from (by decide)); omega)
                    refine pw_blk hT 2 (S' := (105, [some (pvR 124), some (pvI n1), some (pvI n2)], [pvI 1], M)) rfl ⟨trivial, trivial, trivial⟩ ?_
                    exact pw_ret hT rfl (r := some (pvI 1)) (M' := M) ⟨rfl, rfl⟩ ⟨⟨_, rfl, (zr_wide (show 1 ≤ Int32.toInt 1 ∧ Int32.toInt 1 ≤ 1 from (by decide)) (by decide) (by decide))⟩, hok, pvfr_0⟩
                · refine And.intro (fun c41_ => ?_) (fun c41_ => ?_)
                  · show PW 59 d (106, [some (pvR 124), some (pvI n1), some (pvI n2)], [], M) _
                    have b42_ : 6 ≤ Int32.toInt n2 ∧ Int32.toInt n2 ≤ 6 := (by have u0 := (zbnd n2); have u1 := (zi_eq _ _).mp c41_; have u2 := (show 6 ≤ Int32.toInt 6 ∧ Int32.toInt 6 ≤ 6 from (by decide)); omega)
                    have b43_ : 0 ≤ Int32.toInt (M.1 124 5) ∧ Int32.toInt (M.1 124 5) ≤ 3 := pvok_r hok 124 5 rfl
                    have b44_ : 0 ≤ Int32.toInt (M.1 124 6) ∧ Int32.toInt (M.1 124 6) ≤ 4 := pvok_r hok 124 6 rfl
                    refine pw_blk hT 6 (S' := (116, [some (pvR 124), some (pvI n1), some (pvI n2)], [pvI n1, pvI (M.1 124 6), pvI (M.1 124 5), pvR 124], M)) rfl ⟨trivial, trivial, rfl, trivial, rfl, trivial, trivial⟩ ?_
                    refine pw_callGp hT (as := [pvR 124, pvI (M.1 124 5), pvI (M.1 124 6), pvI n1]) (lo1 := [some (pvR 124), some (pvI (M.1 124 5)), some (pvI (M.1 124 6)), some (pvI n1)]) (d1 := d) (rest := []) rfl rfl rfl rfl rfl (fun _ => rfl) (Nat.zero_le _) rfl rfl rfl (sf_X10_way_124_x_x_x M hok (M.1 124 5) (M.1 124 6) n1 b43_ b44_ b17_ d) (fun x45_ b47_ => ?_)
                    exact pw_ret hT rfl (r := some (pvI x45_)) (M' := M) ⟨rfl, rfl⟩ ⟨⟨_, rfl, (zr_wide b47_ (by decide) (by decide))⟩, hok, pvfr_0⟩
                  · refine And.intro (fun c50_ => ?_) (fun c50_ => ?_)
                    · show PW 59 d (120, [some (pvR 124), some (pvI n1), some (pvI n2)], [], M) _
                      have b51_ : 7 ≤ Int32.toInt n2 ∧ Int32.toInt n2 ≤ 7 := (by have u0 := (zbnd n2); have u1 := (zi_eq _ _).mp c50_; have u2 := (show 7 ≤ Int32.toInt 7 ∧ Int32.toInt 7 ≤ 7 from (by decide)); omega)
                      refine pw_blk hT 1 (S' := (121, [some (pvR 124), some (pvI n1), some (pvI n2)], [pvR 124], M)) rfl ⟨trivial, trivial⟩ ?_
                      refine pw_callV hT (as := [pvR 124]) (lo1 := [some (pvR 124), none, none]) (d1 := d) (rest := []) rfl rfl rfl rfl rfl (fun _ => rfl) (Nat.zero_le _) rfl rfl rfl (sf_X10_layRain_124 M hok d) (fun M53_ o55_ g56_ => ?_)
                      have f57_ : pvFr fp_X10_of_124_x_x M M53_ := pvfr_t g56_ pvfr_0 fp_X10_of_124_x_x_fp_X10_layRain_124
                      refine pw_blk hT 1 (S' := (125, [some (pvR 124), some (pvI n1), some (pvI n2)], [pvR 124], M53_)) rfl ⟨trivial, trivial⟩ ?_
                      refine pw_callV hT (as := [pvR 124]) (lo1 := [some (pvR 124), none]) (d1 := d) (rest := []) rfl rfl rfl rfl rfl (fun _ => rfl) (Nat.zero_le _) rfl rfl rfl (sf_X10_layOpen_124 M53_ o55_ d) (fun M59_ o61_ g62_ => ?_)
                      have f63_ : pvFr fp_X10_of_124_x_x M M59_ := pvfr_t g62_ f57_ fp_X10_of_124_x_x_fp_X10_layOpen_124
                      have b64_ : 0 ≤ Int32.toInt (M59_.1 124 1) ∧ Int32.toInt (M59_.1 124 1) ≤ 9999 := pvok_r o61_ 124 1 rfl
                      refine pw_blk hT 4 (S' := (134, [some (pvR 124), some (pvI n1), some (pvI n2)], [pvI (M59_.1 124 1), pvI n1, pvR 124], M59_)) rfl ⟨trivial, trivial, trivial, rfl, trivial⟩ ?_
                      refine pw_callGp hT (as := [pvR 124, pvI n1, pvI (M59_.1 124 1)]) (lo1 := [some (pvR 124), some (pvI n1), some (pvI (M59_.1 124 1)), none, none]) (d1 := d) (rest := []) rfl rfl rfl rfl rfl (fun _ => rfl) (Nat.zero_le _) rfl rfl rfl (sf_X10_harm_124_x_x M59_ o61_ n1 (M59_.1 124 1) b17_ (zr_wide b64_ (by decide) (by decide)) d) (fun x65_ b67_ => ?_)
                      exact pw_ret hT rfl (r := some (pvI x65_)) (M' := M59_) ⟨rfl, rfl⟩ ⟨⟨_, rfl, (zr_wide b67_ (by decide) (by decide))⟩, o61_, f63_⟩
                    · show PW 59 d (138, [some (pvR 124), some (pvI n1), some (pvI n2)], [], M) _
                      refine pw_blk hT 1 (S' := (139, [some (pvR 124), some (pvI n1), some (pvI n2)], [pvI (-1)], M)) rfl ⟨trivial, trivial⟩ ?_
                      exact pw_ret hT rfl (r := some (pvI (-1))) (M' := M) ⟨rfl, rfl⟩ ⟨⟨_, rfl, (zr_wide (show (-1) ≤ Int32.toInt (-1) ∧ Int32.toInt (-1) ≤ (-1) from (by decide)) (by decide) (by decide))⟩, hok, pvfr_0⟩
def fpL_X10_on_124_x : List (Nat × Nat × Nat) := [(0, 124, 33), (0, 141, 0), (0, 142, 0), (0, 143, 0)]
def fp_X10_on_124_x (q k : Nat) : Bool := pvfp fpL_X10_on_124_x q k
theorem fp_X10_on_124_x_fp_X10_layOpen_124 (a b : Nat) (h : fp_X10_layOpen_124 a b = true) : fp_X10_on_124_x a b = true := pvfp_sub (l1 := fpL_X10_layOpen_124) (l2 := fpL_X10_on_124_x) (by decide) a b h
theorem fp_X10_on_124_x_fp_X10_layRain_124 (a b : Nat) (h : fp_X10_layRain_124 a b = true) : fp_X10_on_124_x a b = true := pvfp_sub (l1 := fpL_X10_layRain_124) (l2 := fpL_X10_on_124_x) (by decide) a b h
set_option maxHeartbeats 4000000 in
set_option maxRecDepth 10000 in
theorem sf_X10_on_124_x (M : pvM) (hok : pvOk M) (n1 : Int32) (d : Nat) : PW 60 d (0, [some (pvR 124), some (pvI n1)], [], M) (fun r X => (∃ x : Int32, r = some (pvI x) ∧ (-2) ≤ Int32.toInt x ∧ Int32.toInt x ≤ 9000000) ∧ pvOk X ∧ pvFr fp_X10_on_124_x M X) := by
  have hT : pvdom 60 = pvD_60 := rfl
  refine pw_blk hT 4 (S' := (5, [some (pvR 124), some (pvI n1)], [pvI 99, pvI 0, pvI n1, pvR 124], M)) rfl ⟨trivial, trivial, trivial, trivial, trivial⟩ ?_
  refine pw_callT hT (as := [pvR 124, pvI n1, pvI 0, pvI 99]) (lo1 := [some (pvR 124), some (pvI n1), some (pvI 0), some (pvI 99)]) (d1 := d) (rest := []) rfl rfl rfl rfl rfl (fun _ => rfl) (Nat.zero_le _) rfl rfl rfl (sf_X10_in_124_x_x_x M hok n1 0 99 d) ?_
  by_cases c6_ : n1 < 0
  · refine pw_eqI (if_pos c6_) ?_
    have b7_ : (-2147483648) ≤ Int32.toInt n1 ∧ Int32.toInt n1 ≤ (-1) := zr_lt_l (-1) c6_ (zbnd n1) (show 0 ≤ Int32.toInt 0 ∧ Int32.toInt 0 ≤ 0 from (by decide)) (by decide)
    show PW 60 d (8, [some (pvR 124), some (pvI n1)], [pvI 0], M) _
    refine pw_ifn hT (c := 0 = 0) rfl rfl (fun c8_ => absurd (by decide) c8_) (fun c8_ => ?_)
    refine pw_blk hT 1 (S' := (13, [some (pvR 124), some (pvI n1)], [pvI (-2)], M)) rfl ⟨trivial, trivial⟩ ?_
    exact pw_ret hT rfl (r := some (pvI (-2))) (M' := M) ⟨rfl, rfl⟩ ⟨⟨_, rfl, (zr_wide (show (-2) ≤ Int32.toInt (-2) ∧ Int32.toInt (-2) ≤ (-2) from (by decide)) (by decide) (by decide))⟩, hok, pvfr_0⟩
  · refine pw_eqI (if_neg c6_) ?_
    have b9_ : 0 ≤ Int32.toInt n1 ∧ Int32.toInt n1 ≤ 2147483647 := zr_nlt_l 0 c6_ (zbnd n1) (show 0 ≤ Int32.toInt 0 ∧ Int32.toInt 0 ≤ 0 from (by decide)) (by decide)
    by_cases c10_ : 99 < n1
    · refine pw_eqI (if_pos c10_) ?_
      have b11_ : 100 ≤ Int32.toInt n1 ∧ Int32.toInt n1 ≤ 2147483647 := zr_lt_r 100 c10_ b9_ (show 99 ≤ Int32.toInt 99 ∧ Int32.toInt 99 ≤ 99 from (by decide)) (by decide)
      show PW 60 d (8, [some (pvR 124), some (pvI n1)], [pvI 0], M) _
      refine pw_ifn hT (c := 0 = 0) rfl rfl (fun c12_ => absurd (by decide) c12_) (fun c12_ => ?_)
      refine pw_blk hT 1 (S' := (13, [some (pvR 124), some (pvI n1)], [pvI (-2)], M)) rfl ⟨trivial, trivial⟩ ?_
      exact pw_ret hT rfl (r := some (pvI (-2))) (M' := M) ⟨rfl, rfl⟩ ⟨⟨_, rfl, (zr_wide (show (-2) ≤ Int32.toInt (-2) ∧ Int32.toInt (-2) ≤ (-2) from (by decide)) (by decide) (by decide))⟩, hok, pvfr_0⟩
    · refine pw_eqI (if_neg c10_) ?_
      have b13_ : 0 ≤ Int32.toInt n1 ∧ Int32.toInt n1 ≤ 99 := zr_nlt_r 99 c10_ b9_ (show 99 ≤ Int32.toInt 99 ∧ Int32.toInt 99 ≤ 99 from (by decide)) (by decide)
      show PW 60 d (8, [some (pvR 124), some (pvI n1)], [pvI 1], M) _
      refine pw_ifn hT (c := 1 = 0) rfl rfl (fun c14_ => ?_) (fun c14_ => absurd c14_ (by decide))
      refine pw_blk hT 1 (S' := (15, [some (pvR 124), some (pvI n1)], [pvR 124], M)) rfl ⟨trivial, trivial⟩ ?_
      refine pw_callV hT (as := [pvR 124]) (lo1 := [some (pvR 124), none, none]) (d1 := d) (rest := []) rfl rfl rfl rfl rfl (fun _ => rfl) (Nat.zero_le _) rfl rfl rfl (sf_X10_layRain_124 M hok d) (fun M16_ o18_ g19_ => ?_)
      have f20_ : pvFr fp_X10_on_124_x M M16_ := pvfr_t g19_ pvfr_0 fp_X10_on_124_x_fp_X10_layRain_124
      refine pw_blk hT 1 (S' := (19, [some (pvR 124), some (pvI n1)], [pvR 124], M16_)) rfl ⟨trivial, trivial⟩ ?_
      refine pw_callV hT (as := [pvR 124]) (lo1 := [some (pvR 124), none]) (d1 := d) (rest := []) rfl rfl rfl rfl rfl (fun _ => rfl) (Nat.zero_le _) rfl rfl rfl (sf_X10_layOpen_124 M16_ o18_ d) (fun M22_ o24_ g25_ => ?_)
      have f26_ : pvFr fp_X10_on_124_x M M22_ := pvfr_t g25_ f20_ fp_X10_on_124_x_fp_X10_layOpen_124
      have b27_ : 0 ≤ Int32.toInt (M22_.1 124 1) ∧ Int32.toInt (M22_.1 124 1) ≤ 9999 := pvok_r o24_ 124 1 rfl
      obtain ⟨q29_, b28_⟩ : (Int32.toInt ((M22_.1 124 1) + n1) = Int32.toInt (M22_.1 124 1) + Int32.toInt n1) ∧ (0 ≤ Int32.toInt ((M22_.1 124 1) + n1) ∧ Int32.toInt ((M22_.1 124 1) + n1) ≤ 10098) := zadd_r (M22_.1 124 1) n1 0 10098 b27_ b13_ (by decide) (by decide) (by decide) (by decide)
      refine pw_blk hT 7 (S' := (33, [some (pvR 124), some (pvI n1)], [pvI ((M22_.1 124 1) + n1), pvI (M22_.1 124 1), pvR 124], M22_)) rfl ⟨trivial, trivial, rfl, trivial, rfl, trivial, trivial, trivial⟩ ?_
      refine pw_callGp hT (as := [pvR 124, pvI (M22_.1 124 1), pvI ((M22_.1 124 1) + n1)]) (lo1 := [some (pvR 124), some (pvI (M22_.1 124 1)), some (pvI ((M22_.1 124 1) + n1)), none, none]) (d1 := d) (rest := []) rfl rfl rfl rfl rfl (fun _ => rfl) (Nat.zero_le _) rfl rfl rfl (sf_X10_harmFrom_124_x_x M22_ o24_ (M22_.1 124 1) ((M22_.1 124 1) + n1) (zr_wide b27_ (by decide) (by decide)) (zr_wide b28_ (by decide) (by decide)) d) (fun x30_ b32_ => ?_)
      exact pw_ret hT rfl (r := some (pvI x30_)) (M' := M22_) ⟨rfl, rfl⟩ ⟨⟨_, rfl, (zr_wide b32_ (by decide) (by decide))⟩, o24_, f26_⟩
def fpL_X10_pass_124_x : List (Nat × Nat × Nat) := [(0, 124, 2), (0, 124, 3), (0, 124, 33), (0, 141, 0), (0, 142, 0), (0, 143, 0)]
def fp_X10_pass_124_x (q k : Nat) : Bool := pvfp fpL_X10_pass_124_x q k
theorem fp_X10_pass_124_x_fp_X10_goMinutes_124_x (a b : Nat) (h : fp_X10_goMinutes_124_x a b = true) : fp_X10_pass_124_x a b = true := pvfp_sub (l1 := fpL_X10_goMinutes_124_x) (l2 := fpL_X10_pass_124_x) (by decide) a b h
set_option maxHeartbeats 4000000 in
set_option maxRecDepth 10000 in
theorem sf_X10_pass_124_x (M : pvM) (hok : pvOk M) (n1 : Int32) (d : Nat) : PW 63 d (0, [some (pvR 124), some (pvI n1)], [], M) (fun r X => (∃ x : Int32, r = some (pvI x) ∧ (-3) ≤ Int32.toInt x ∧ Int32.toInt x ≤ 9000000) ∧ pvOk X ∧ pvFr fp_X10_pass_124_x M X) := by
  have hT : pvdom 63 = pvD_63 := rfl
  refine pw_blk hT 4 (S' := (5, [some (pvR 124), some (pvI n1)], [pvI 99, pvI 0, pvI n1, pvR 124], M)) rfl ⟨trivial, trivial, trivial, trivial, trivial⟩ ?_
  refine pw_callT hT (as := [pvR 124, pvI n1, pvI 0, pvI 99]) (lo1 := [some (pvR 124), some (pvI n1), some (pvI 0), some (pvI 99)]) (d1 := d) (rest := []) rfl rfl rfl rfl rfl (fun _ => rfl) (Nat.zero_le _) rfl rfl rfl (sf_X10_in_124_x_x_x M hok n1 0 99 d) ?_
  by_cases c6_ : n1 < 0
  · refine pw_eqI (if_pos c6_) ?_
    have b7_ : (-2147483648) ≤ Int32.toInt n1 ∧ Int32.toInt n1 ≤ (-1) := zr_lt_l (-1) c6_ (zbnd n1) (show 0 ≤ Int32.toInt 0 ∧ Int32.toInt 0 ≤ 0 from (by decide)) (by decide)
    show PW 63 d (8, [some (pvR 124), some (pvI n1)], [pvI 0], M) _
    refine pw_ifn hT (c := 0 = 0) rfl rfl (fun c8_ => absurd (by decide) c8_) (fun c8_ => ?_)
    refine pw_blk hT 1 (S' := (13, [some (pvR 124), some (pvI n1)], [pvI (-2)], M)) rfl ⟨trivial, trivial⟩ ?_
    exact pw_ret hT rfl (r := some (pvI (-2))) (M' := M) ⟨rfl, rfl⟩ ⟨⟨_, rfl, (zr_wide (show (-2) ≤ Int32.toInt (-2) ∧ Int32.toInt (-2) ≤ (-2) from (by decide)) (by decide) (by decide))⟩, hok, pvfr_0⟩
  · refine pw_eqI (if_neg c6_) ?_
    have b9_ : 0 ≤ Int32.toInt n1 ∧ Int32.toInt n1 ≤ 2147483647 := zr_nlt_l 0 c6_ (zbnd n1) (show 0 ≤ Int32.toInt 0 ∧ Int32.toInt 0 ≤ 0 from (by decide)) (by decide)
    by_cases c10_ : 99 < n1
    · refine pw_eqI (if_pos c10_) ?_
      have b11_ : 100 ≤ Int32.toInt n1 ∧ Int32.toInt n1 ≤ 2147483647 := zr_lt_r 100 c10_ b9_ (show 99 ≤ Int32.toInt 99 ∧ Int32.toInt 99 ≤ 99 from (by decide)) (by decide)
      show PW 63 d (8, [some (pvR 124), some (pvI n1)], [pvI 0], M) _
      refine pw_ifn hT (c := 0 = 0) rfl rfl (fun c12_ => absurd (by decide) c12_) (fun c12_ => ?_)
      refine pw_blk hT 1 (S' := (13, [some (pvR 124), some (pvI n1)], [pvI (-2)], M)) rfl ⟨trivial, trivial⟩ ?_
      exact pw_ret hT rfl (r := some (pvI (-2))) (M' := M) ⟨rfl, rfl⟩ ⟨⟨_, rfl, (zr_wide (show (-2) ≤ Int32.toInt (-2) ∧ Int32.toInt (-2) ≤ (-2) from (by decide)) (by decide) (by decide))⟩, hok, pvfr_0⟩
    · refine pw_eqI (if_neg c10_) ?_
      have b13_ : 0 ≤ Int32.toInt n1 ∧ Int32.toInt n1 ≤ 99 := zr_nlt_r 99 c10_ b9_ (show 99 ≤ Int32.toInt 99 ∧ Int32.toInt 99 ≤ 99 from (by decide)) (by decide)
      show PW 63 d (8, [some (pvR 124), some (pvI n1)], [pvI 1], M) _
      refine pw_ifn hT (c := 1 = 0) rfl rfl (fun c14_ => ?_) (fun c14_ => absurd c14_ (by decide))
      have b15_ : 0 ≤ Int32.toInt (M.1 124 1) ∧ Int32.toInt (M.1 124 1) ≤ 9999 := pvok_r hok 124 1 rfl
      obtain ⟨q17_, b16_⟩ : (Int32.toInt ((M.1 124 1) + n1) = Int32.toInt (M.1 124 1) + Int32.toInt n1) ∧ (0 ≤ Int32.toInt ((M.1 124 1) + n1) ∧ Int32.toInt ((M.1 124 1) + n1) ≤ 10098) := zadd_r (M.1 124 1) n1 0 10098 b15_ b13_ (by decide) (by decide) (by decide) (by decide)
      refine pw_blk hT 5 (S' := (23, [some (pvR 124), some (pvI n1)], [pvI 9999, pvI ((M.1 124 1) + n1)], M)) rfl ⟨trivial, rfl, trivial, trivial, trivial, trivial⟩ ?_
      refine pw_ic hT (c := ((M.1 124 1) + n1) ≤ 9999) rfl rfl (fun c18_ => ?_) (fun c18_ => ?_)
      · have b19_ : 0 ≤ Int32.toInt ((M.1 124 1) + n1) ∧ Int32.toInt ((M.1 124 1) + n1) ≤ 9999 := zr_le_l 9999 c18_ b16_ (show 9999 ≤ Int32.toInt 9999 ∧ Int32.toInt 9999 ≤ 9999 from (by decide)) (by decide)
        refine pw_blk hT 2 (S' := (33, [some (pvR 124), some (pvI n1)], [pvI n1, pvR 124], M)) rfl ⟨trivial, trivial, trivial⟩ ?_
        refine pw_callG hT (as := [pvR 124, pvI n1]) (lo1 := [some (pvR 124), some (pvI n1), none]) (d1 := d) (rest := []) rfl rfl rfl rfl rfl (fun _ => rfl) (Nat.zero_le _) rfl rfl rfl (sf_X10_goMinutes_124_x M hok n1 (zr_wide b13_ (by decide) (by decide)) (show Int32.toInt (M.1 124 1) + Int32.toInt n1 ≤ 9999 from (by omega)) d) (fun x20_ M21_ b22_ o23_ g24_ => ?_)
        have f25_ : pvFr fp_X10_pass_124_x M M21_ := pvfr_t g24_ pvfr_0 fp_X10_pass_124_x_fp_X10_goMinutes_124_x
        exact pw_ret hT rfl (r := some (pvI x20_)) (M' := M21_) ⟨rfl, rfl⟩ ⟨⟨_, rfl, (zr_wide b22_ (by decide) (by decide))⟩, o23_, f25_⟩
      · have b26_ : 10000 ≤ Int32.toInt ((M.1 124 1) + n1) ∧ Int32.toInt ((M.1 124 1) + n1) ≤ 10098 := zr_nle_l 10000 c18_ b16_ (show 9999 ≤ Int32.toInt 9999 ∧ Int32.toInt 9999 ≤ 9999 from (by decide)) (by decide)
        refine pw_blk hT 2 (S' := (36, [some (pvR 124), some (pvI n1)], [pvI (-3)], M)) rfl ⟨trivial, trivial, trivial⟩ ?_
        exact pw_ret hT rfl (r := some (pvI (-3))) (M' := M) ⟨rfl, rfl⟩ ⟨⟨_, rfl, (zr_wide (show (-3) ≤ Int32.toInt (-3) ∧ Int32.toInt (-3) ≤ (-3) from (by decide)) (by decide) (by decide))⟩, hok, pvfr_0⟩
set_option maxHeartbeats 4000000 in
set_option maxRecDepth 10000 in
theorem sf_X10_place_124_x (M : pvM) (hok : pvOk M) (n1 : Int32) (d : Nat) : PW 65 d (0, [some (pvR 124), some (pvI n1)], [], M) (fun r X => (∃ x : Int32, r = some (pvI x) ∧ (-1) ≤ Int32.toInt x ∧ Int32.toInt x ≤ 5) ∧ X = M) := by
  have hT : pvdom 65 = pvD_65 := rfl
  refine pw_blk hT 1 (S' := (1, [some (pvR 124), some (pvI n1)], [pvI n1], M)) rfl ⟨trivial, trivial⟩ ?_
  refine pw_sw hT rfl rfl ?_
  refine And.intro (fun c1_ => ?_) (fun c1_ => ?_)
  · show PW 65 d (92, [some (pvR 124), some (pvI n1)], [], M) _
    have b2_ : 102 ≤ Int32.toInt n1 ∧ Int32.toInt n1 ≤ 102 := (by have u0 := (zbnd n1); have u1 := (zi_eq _ _).mp c1_; have u2 := (show 102 ≤ Int32.toInt 102 ∧ Int32.toInt 102 ≤ 102 from (by decide)); omega)
    refine pw_blk hT 1 (S' := (93, [some (pvR 124), some (pvI n1)], [pvI 2], M)) rfl ⟨trivial, trivial⟩ ?_
    exact pw_ret hT rfl (r := some (pvI 2)) (M' := M) ⟨rfl, rfl⟩ ⟨⟨_, rfl, (zr_wide (show 2 ≤ Int32.toInt 2 ∧ Int32.toInt 2 ≤ 2 from (by decide)) (by decide) (by decide))⟩, rfl⟩
  · refine And.intro (fun c3_ => ?_) (fun c3_ => ?_)
    · show PW 65 d (100, [some (pvR 124), some (pvI n1)], [], M) _
      have b4_ : 103 ≤ Int32.toInt n1 ∧ Int32.toInt n1 ≤ 103 := (by have u0 := (zbnd n1); have u1 := (zi_eq _ _).mp c3_; have u2 := (show 103 ≤ Int32.toInt 103 ∧ Int32.toInt 103 ≤ 103 from (by decide)); omega)
      refine pw_blk hT 1 (S' := (101, [some (pvR 124), some (pvI n1)], [pvI (-1)], M)) rfl ⟨trivial, trivial⟩ ?_
      exact pw_ret hT rfl (r := some (pvI (-1))) (M' := M) ⟨rfl, rfl⟩ ⟨⟨_, rfl, (zr_wide (show (-1) ≤ Int32.toInt (-1) ∧ Int32.toInt (-1) ≤ (-1) from (by decide)) (by decide) (by decide))⟩, rfl⟩
    · refine And.intro (fun c5_ => ?_) (fun c5_ => ?_)
      · show PW 65 d (100, [some (pvR 124), some (pvI n1)], [], M) _
        have b6_ : 104 ≤ Int32.toInt n1 ∧ Int32.toInt n1 ≤ 104 := (by have u0 := (zbnd n1); have u1 := (zi_eq _ _).mp c5_; have u2 := (show 104 ≤ Int32.toInt 104 ∧ Int32.toInt 104 ≤ 104 from (by decide)); omega)
        refine pw_blk hT 1 (S' := (101, [some (pvR 124), some (pvI n1)], [pvI (-1)], M)) rfl ⟨trivial, trivial⟩ ?_
        exact pw_ret hT rfl (r := some (pvI (-1))) (M' := M) ⟨rfl, rfl⟩ ⟨⟨_, rfl, (zr_wide (show (-1) ≤ Int32.toInt (-1) ∧ Int32.toInt (-1) ≤ (-1) from (by decide)) (by decide) (by decide))⟩, rfl⟩
      · refine And.intro (fun c7_ => ?_) (fun c7_ => ?_)
        · show PW 65 d (100, [some (pvR 124), some (pvI n1)], [], M) _
          have b8_ : 105 ≤ Int32.toInt n1 ∧ Int32.toInt n1 ≤ 105 := (by have u0 := (zbnd n1); have u1 := (zi_eq _ _).mp c7_; have u2 := (show 105 ≤ Int32.toInt 105 ∧ Int32.toInt 105 ≤ 105 from (by decide)); omega)
          refine pw_blk hT 1 (S' := (101, [some (pvR 124), some (pvI n1)], [pvI (-1)], M)) rfl ⟨trivial, trivial⟩ ?_
          exact pw_ret hT rfl (r := some (pvI (-1))) (M' := M) ⟨rfl, rfl⟩ ⟨⟨_, rfl, (zr_wide (show (-1) ≤ Int32.toInt (-1) ∧ Int32.toInt (-1) ≤ (-1) from (by decide)) (by decide) (by decide))⟩, rfl⟩
        · refine And.intro (fun c9_ => ?_) (fun c9_ => ?_)
          · show PW 65 d (100, [some (pvR 124), some (pvI n1)], [], M) _
            have b10_ : 106 ≤ Int32.toInt n1 ∧ Int32.toInt n1 ≤ 106 := (by have u0 := (zbnd n1); have u1 := (zi_eq _ _).mp c9_; have u2 := (show 106 ≤ Int32.toInt 106 ∧ Int32.toInt 106 ≤ 106 from (by decide)); omega)
            refine pw_blk hT 1 (S' := (101, [some (pvR 124), some (pvI n1)], [pvI (-1)], M)) rfl ⟨trivial, trivial⟩ ?_
            exact pw_ret hT rfl (r := some (pvI (-1))) (M' := M) ⟨rfl, rfl⟩ ⟨⟨_, rfl, (zr_wide (show (-1) ≤ Int32.toInt (-1) ∧ Int32.toInt (-1) ≤ (-1) from (by decide)) (by decide) (by decide))⟩, rfl⟩
          · refine And.intro (fun c11_ => ?_) (fun c11_ => ?_)
            · show PW 65 d (90, [some (pvR 124), some (pvI n1)], [], M) _
              have b12_ : 107 ≤ Int32.toInt n1 ∧ Int32.toInt n1 ≤ 107 := (by have u0 := (zbnd n1); have u1 := (zi_eq _ _).mp c11_; have u2 := (show 107 ≤ Int32.toInt 107 ∧ Int32.toInt 107 ≤ 107 from (by decide)); omega)
              refine pw_blk hT 1 (S' := (91, [some (pvR 124), some (pvI n1)], [pvI 1], M)) rfl ⟨trivial, trivial⟩ ?_
              exact pw_ret hT rfl (r := some (pvI 1)) (M' := M) ⟨rfl, rfl⟩ ⟨⟨_, rfl, (zr_wide (show 1 ≤ Int32.toInt 1 ∧ Int32.toInt 1 ≤ 1 from (by decide)) (by decide) (by decide))⟩, rfl⟩
            · refine And.intro (fun c13_ => ?_) (fun c13_ => ?_)
              · show PW 65 d (100, [some (pvR 124), some (pvI n1)], [], M) _
                have b14_ : 108 ≤ Int32.toInt n1 ∧ Int32.toInt n1 ≤ 108 := (by have u0 := (zbnd n1); have u1 := (zi_eq _ _).mp c13_; have u2 := (show 108 ≤ Int32.toInt 108 ∧ Int32.toInt 108 ≤ 108 from (by decide)); omega)
                refine pw_blk hT 1 (S' := (101, [some (pvR 124), some (pvI n1)], [pvI (-1)], M)) rfl ⟨trivial, trivial⟩ ?_
                exact pw_ret hT rfl (r := some (pvI (-1))) (M' := M) ⟨rfl, rfl⟩ ⟨⟨_, rfl, (zr_wide (show (-1) ≤ Int32.toInt (-1) ∧ Int32.toInt (-1) ≤ (-1) from (by decide)) (by decide) (by decide))⟩, rfl⟩
              · refine And.intro (fun c15_ => ?_) (fun c15_ => ?_)
                · show PW 65 d (100, [some (pvR 124), some (pvI n1)], [], M) _
                  have b16_ : 109 ≤ Int32.toInt n1 ∧ Int32.toInt n1 ≤ 109 := (by have u0 := (zbnd n1); have u1 := (zi_eq _ _).mp c15_; have u2 := (show 109 ≤ Int32.toInt 109 ∧ Int32.toInt 109 ≤ 109 from (by decide)); omega)
                  refine pw_blk hT 1 (S' := (101, [some (pvR 124), some (pvI n1)], [pvI (-1)], M)) rfl ⟨trivial, trivial⟩ ?_
                  exact pw_ret hT rfl (r := some (pvI (-1))) (M' := M) ⟨rfl, rfl⟩ ⟨⟨_, rfl, (zr_wide (show (-1) ≤ Int32.toInt (-1) ∧ Int32.toInt (-1) ≤ (-1) from (by decide)) (by decide) (by decide))⟩, rfl⟩
                · refine And.intro (fun c17_ => ?_) (fun c17_ => ?_)
                  · show PW 65 d (100, [some (pvR 124), some (pvI n1)], [], M) _
                    have b18_ : 110 ≤ Int32.toInt n1 ∧ Int32.toInt n1 ≤ 110 := (by have u0 := (zbnd n1); have u1 := (zi_eq _ _).mp c17_; have u2 := (show 110 ≤ Int32.toInt 110 ∧ Int32.toInt 110 ≤ 110 from (by decide)); omega)
                    refine pw_blk hT 1 (S' := (101, [some (pvR 124), some (pvI n1)], [pvI (-1)], M)) rfl ⟨trivial, trivial⟩ ?_
                    exact pw_ret hT rfl (r := some (pvI (-1))) (M' := M) ⟨rfl, rfl⟩ ⟨⟨_, rfl, (zr_wide (show (-1) ≤ Int32.toInt (-1) ∧ Int32.toInt (-1) ≤ (-1) from (by decide)) (by decide) (by decide))⟩, rfl⟩
                  · refine And.intro (fun c19_ => ?_) (fun c19_ => ?_)
                    · show PW 65 d (100, [some (pvR 124), some (pvI n1)], [], M) _
                      have b20_ : 111 ≤ Int32.toInt n1 ∧ Int32.toInt n1 ≤ 111 := (by have u0 := (zbnd n1); have u1 := (zi_eq _ _).mp c19_; have u2 := (show 111 ≤ Int32.toInt 111 ∧ Int32.toInt 111 ≤ 111 from (by decide)); omega)
                      refine pw_blk hT 1 (S' := (101, [some (pvR 124), some (pvI n1)], [pvI (-1)], M)) rfl ⟨trivial, trivial⟩ ?_
                      exact pw_ret hT rfl (r := some (pvI (-1))) (M' := M) ⟨rfl, rfl⟩ ⟨⟨_, rfl, (zr_wide (show (-1) ≤ Int32.toInt (-1) ∧ Int32.toInt (-1) ≤ (-1) from (by decide)) (by decide) (by decide))⟩, rfl⟩
                    · refine And.intro (fun c21_ => ?_) (fun c21_ => ?_)
                      · show PW 65 d (100, [some (pvR 124), some (pvI n1)], [], M) _
                        have b22_ : 112 ≤ Int32.toInt n1 ∧ Int32.toInt n1 ≤ 112 := (by have u0 := (zbnd n1); have u1 := (zi_eq _ _).mp c21_; have u2 := (show 112 ≤ Int32.toInt 112 ∧ Int32.toInt 112 ≤ 112 from (by decide)); omega)
                        refine pw_blk hT 1 (S' := (101, [some (pvR 124), some (pvI n1)], [pvI (-1)], M)) rfl ⟨trivial, trivial⟩ ?_
                        exact pw_ret hT rfl (r := some (pvI (-1))) (M' := M) ⟨rfl, rfl⟩ ⟨⟨_, rfl, (zr_wide (show (-1) ≤ Int32.toInt (-1) ∧ Int32.toInt (-1) ≤ (-1) from (by decide)) (by decide) (by decide))⟩, rfl⟩
                      · refine And.intro (fun c23_ => ?_) (fun c23_ => ?_)
                        · show PW 65 d (100, [some (pvR 124), some (pvI n1)], [], M) _
                          have b24_ : 113 ≤ Int32.toInt n1 ∧ Int32.toInt n1 ≤ 113 := (by have u0 := (zbnd n1); have u1 := (zi_eq _ _).mp c23_; have u2 := (show 113 ≤ Int32.toInt 113 ∧ Int32.toInt 113 ≤ 113 from (by decide)); omega)
                          refine pw_blk hT 1 (S' := (101, [some (pvR 124), some (pvI n1)], [pvI (-1)], M)) rfl ⟨trivial, trivial⟩ ?_
                          exact pw_ret hT rfl (r := some (pvI (-1))) (M' := M) ⟨rfl, rfl⟩ ⟨⟨_, rfl, (zr_wide (show (-1) ≤ Int32.toInt (-1) ∧ Int32.toInt (-1) ≤ (-1) from (by decide)) (by decide) (by decide))⟩, rfl⟩
                        · refine And.intro (fun c25_ => ?_) (fun c25_ => ?_)
                          · show PW 65 d (94, [some (pvR 124), some (pvI n1)], [], M) _
                            have b26_ : 114 ≤ Int32.toInt n1 ∧ Int32.toInt n1 ≤ 114 := (by have u0 := (zbnd n1); have u1 := (zi_eq _ _).mp c25_; have u2 := (show 114 ≤ Int32.toInt 114 ∧ Int32.toInt 114 ≤ 114 from (by decide)); omega)
                            refine pw_blk hT 1 (S' := (95, [some (pvR 124), some (pvI n1)], [pvI 3], M)) rfl ⟨trivial, trivial⟩ ?_
                            exact pw_ret hT rfl (r := some (pvI 3)) (M' := M) ⟨rfl, rfl⟩ ⟨⟨_, rfl, (zr_wide (show 3 ≤ Int32.toInt 3 ∧ Int32.toInt 3 ≤ 3 from (by decide)) (by decide) (by decide))⟩, rfl⟩
                          · refine And.intro (fun c27_ => ?_) (fun c27_ => ?_)
                            · show PW 65 d (96, [some (pvR 124), some (pvI n1)], [], M) _
                              have b28_ : 115 ≤ Int32.toInt n1 ∧ Int32.toInt n1 ≤ 115 := (by have u0 := (zbnd n1); have u1 := (zi_eq _ _).mp c27_; have u2 := (show 115 ≤ Int32.toInt 115 ∧ Int32.toInt 115 ≤ 115 from (by decide)); omega)
                              refine pw_blk hT 1 (S' := (97, [some (pvR 124), some (pvI n1)], [pvI 4], M)) rfl ⟨trivial, trivial⟩ ?_
                              exact pw_ret hT rfl (r := some (pvI 4)) (M' := M) ⟨rfl, rfl⟩ ⟨⟨_, rfl, (zr_wide (show 4 ≤ Int32.toInt 4 ∧ Int32.toInt 4 ≤ 4 from (by decide)) (by decide) (by decide))⟩, rfl⟩
                            · refine And.intro (fun c29_ => ?_) (fun c29_ => ?_)
                              · show PW 65 d (98, [some (pvR 124), some (pvI n1)], [], M) _
                                have b30_ : 116 ≤ Int32.toInt n1 ∧ Int32.toInt n1 ≤ 116 := (by have u0 := (zbnd n1); have u1 := (zi_eq _ _).mp c29_; have u2 := (show 116 ≤ Int32.toInt 116 ∧ Int32.toInt 116 ≤ 116 from (by decide)); omega)
                                refine pw_blk hT 1 (S' := (99, [some (pvR 124), some (pvI n1)], [pvI 5], M)) rfl ⟨trivial, trivial⟩ ?_
                                exact pw_ret hT rfl (r := some (pvI 5)) (M' := M) ⟨rfl, rfl⟩ ⟨⟨_, rfl, (zr_wide (show 5 ≤ Int32.toInt 5 ∧ Int32.toInt 5 ≤ 5 from (by decide)) (by decide) (by decide))⟩, rfl⟩
                              · refine And.intro (fun c31_ => ?_) (fun c31_ => ?_)
                                · show PW 65 d (100, [some (pvR 124), some (pvI n1)], [], M) _
                                  have b32_ : 117 ≤ Int32.toInt n1 ∧ Int32.toInt n1 ≤ 117 := (by have u0 := (zbnd n1); have u1 := (zi_eq _ _).mp c31_; have u2 := (show 117 ≤ Int32.toInt 117 ∧ Int32.toInt 117 ≤ 117 from (by decide)); omega)
                                  refine pw_blk hT 1 (S' := (101, [some (pvR 124), some (pvI n1)], [pvI (-1)], M)) rfl ⟨trivial, trivial⟩ ?_
                                  exact pw_ret hT rfl (r := some (pvI (-1))) (M' := M) ⟨rfl, rfl⟩ ⟨⟨_, rfl, (zr_wide (show (-1) ≤ Int32.toInt (-1) ∧ Int32.toInt (-1) ≤ (-1) from (by decide)) (by decide) (by decide))⟩, rfl⟩
                                · refine And.intro (fun c33_ => ?_) (fun c33_ => ?_)
                                  · show PW 65 d (100, [some (pvR 124), some (pvI n1)], [], M) _
                                    have b34_ : 118 ≤ Int32.toInt n1 ∧ Int32.toInt n1 ≤ 118 := (by have u0 := (zbnd n1); have u1 := (zi_eq _ _).mp c33_; have u2 := (show 118 ≤ Int32.toInt 118 ∧ Int32.toInt 118 ≤ 118 from (by decide)); omega)
                                    refine pw_blk hT 1 (S' := (101, [some (pvR 124), some (pvI n1)], [pvI (-1)], M)) rfl ⟨trivial, trivial⟩ ?_
                                    exact pw_ret hT rfl (r := some (pvI (-1))) (M' := M) ⟨rfl, rfl⟩ ⟨⟨_, rfl, (zr_wide (show (-1) ≤ Int32.toInt (-1) ∧ Int32.toInt (-1) ≤ (-1) from (by decide)) (by decide) (by decide))⟩, rfl⟩
                                  · refine And.intro (fun c35_ => ?_) (fun c35_ => ?_)
                                    · show PW 65 d (88, [some (pvR 124), some (pvI n1)], [], M) _
                                      have b36_ : 119 ≤ Int32.toInt n1 ∧ Int32.toInt n1 ≤ 119 := (by have u0 := (zbnd n1); have u1 := (zi_eq _ _).mp c35_; have u2 := (show 119 ≤ Int32.toInt 119 ∧ Int32.toInt 119 ≤ 119 from (by decide)); omega)
                                      refine pw_blk hT 1 (S' := (89, [some (pvR 124), some (pvI n1)], [pvI 0], M)) rfl ⟨trivial, trivial⟩ ?_
                                      exact pw_ret hT rfl (r := some (pvI 0)) (M' := M) ⟨rfl, rfl⟩ ⟨⟨_, rfl, (zr_wide (show 0 ≤ Int32.toInt 0 ∧ Int32.toInt 0 ≤ 0 from (by decide)) (by decide) (by decide))⟩, rfl⟩
                                    · show PW 65 d (100, [some (pvR 124), some (pvI n1)], [], M) _
                                      refine pw_blk hT 1 (S' := (101, [some (pvR 124), some (pvI n1)], [pvI (-1)], M)) rfl ⟨trivial, trivial⟩ ?_
                                      exact pw_ret hT rfl (r := some (pvI (-1))) (M' := M) ⟨rfl, rfl⟩ ⟨⟨_, rfl, (zr_wide (show (-1) ≤ Int32.toInt (-1) ∧ Int32.toInt (-1) ≤ (-1) from (by decide)) (by decide) (by decide))⟩, rfl⟩
def fpL_X10_put_124_x_x : List (Nat × Nat × Nat) := [(0, 131, 0)]
def fp_X10_put_124_x_x (q k : Nat) : Bool := pvfp fpL_X10_put_124_x_x q k
set_option maxHeartbeats 4000000 in
set_option maxRecDepth 10000 in
theorem sf_X10_put_124_x_x (M : pvM) (hok : pvOk M) (n1 : Int32) (n2 : Int32) (hn2 : 0 ≤ Int32.toInt n2 ∧ Int32.toInt n2 ≤ 1) (d : Nat) : PW 66 d (0, [some (pvR 124), some (pvI n1), some (pvI n2), none], [], M) (fun r X => (∃ x : Int32, r = some (pvI x) ∧ (-1) ≤ Int32.toInt x ∧ Int32.toInt x ≤ 1) ∧ pvOk X ∧ pvFr fp_X10_put_124_x_x M X) := by
  have hT : pvdom 66 = pvD_66 := rfl
  refine pw_blk hT 2 (S' := (2, [some (pvR 124), some (pvI n1), some (pvI n2), none], [pvI n1, pvR 124], M)) rfl ⟨trivial, trivial, trivial⟩ ?_
  refine pw_callT hT (as := [pvR 124, pvI n1]) (lo1 := [some (pvR 124), some (pvI n1)]) (d1 := d) (rest := []) rfl rfl rfl rfl rfl (fun _ => rfl) (Nat.zero_le _) rfl rfl rfl (sf_X10_isWindow_124_x M hok n1 d) ?_
  by_cases c6_ : n1 < 0
  · refine pw_eqI (if_pos c6_) ?_
    have b7_ : (-2147483648) ≤ Int32.toInt n1 ∧ Int32.toInt n1 ≤ (-1) := zr_lt_l (-1) c6_ (zbnd n1) (show 0 ≤ Int32.toInt 0 ∧ Int32.toInt 0 ≤ 0 from (by decide)) (by decide)
    show PW 66 d (5, [some (pvR 124), some (pvI n1), some (pvI n2), none], [pvI 0], M) _
    refine pw_ifn hT (c := 0 = 0) rfl rfl (fun c8_ => absurd (by decide) c8_) (fun c8_ => ?_)
    refine pw_blk hT 1 (S' := (9, [some (pvR 124), some (pvI n1), some (pvI n2), none], [pvI (-1)], M)) rfl ⟨trivial, trivial⟩ ?_
    exact pw_ret hT rfl (r := some (pvI (-1))) (M' := M) ⟨rfl, rfl⟩ ⟨⟨_, rfl, (zr_wide (show (-1) ≤ Int32.toInt (-1) ∧ Int32.toInt (-1) ≤ (-1) from (by decide)) (by decide) (by decide))⟩, hok, pvfr_0⟩
  · refine pw_eqI (if_neg c6_) ?_
    have b9_ : 0 ≤ Int32.toInt n1 ∧ Int32.toInt n1 ≤ 2147483647 := zr_nlt_l 0 c6_ (zbnd n1) (show 0 ≤ Int32.toInt 0 ∧ Int32.toInt 0 ≤ 0 from (by decide)) (by decide)
    have b10_ : 0 ≤ Int32.toInt (M.1 124 0) ∧ Int32.toInt (M.1 124 0) ≤ 7 := pvok_r hok 124 0 rfl
    obtain ⟨q12_, b11_⟩ : (Int32.toInt ((M.1 124 0) - 1) = Int32.toInt (M.1 124 0) - 1) ∧ ((-1) ≤ Int32.toInt ((M.1 124 0) - 1) ∧ Int32.toInt ((M.1 124 0) - 1) ≤ 6) := zsub_k (M.1 124 0) 1 1 (-1) 6 b10_ (by decide) (by decide) (by decide) (by decide) (by decide)
    by_cases c13_ : ((M.1 124 0) - 1) < n1
    · refine pw_eqI (if_pos c13_) ?_
      have d14_ : Int32.toInt ((M.1 124 0) - 1) < Int32.toInt n1 := (zi_lt _ _).mp c13_
      show PW 66 d (5, [some (pvR 124), some (pvI n1), some (pvI n2), none], [pvI 0], M) _
      refine pw_ifn hT (c := 0 = 0) rfl rfl (fun c15_ => absurd (by decide) c15_) (fun c15_ => ?_)
      refine pw_blk hT 1 (S' := (9, [some (pvR 124), some (pvI n1), some (pvI n2), none], [pvI (-1)], M)) rfl ⟨trivial, trivial⟩ ?_
      exact pw_ret hT rfl (r := some (pvI (-1))) (M' := M) ⟨rfl, rfl⟩ ⟨⟨_, rfl, (zr_wide (show (-1) ≤ Int32.toInt (-1) ∧ Int32.toInt (-1) ≤ (-1) from (by decide)) (by decide) (by decide))⟩, hok, pvfr_0⟩
    · refine pw_eqI (if_neg c13_) ?_
      have b16_ : 0 ≤ Int32.toInt ((M.1 124 0) - 1) ∧ Int32.toInt ((M.1 124 0) - 1) ≤ 6 := zr_nlt_l 0 c13_ b11_ b9_ (by decide)
      have b17_ : 0 ≤ Int32.toInt n1 ∧ Int32.toInt n1 ≤ 6 := zr_nlt_r 6 c13_ b9_ b16_ (by decide)
      have d18_ : Int32.toInt ((M.1 124 0) - 1) ≥ Int32.toInt n1 := Int.not_lt.mp ((not_congr (zi_lt _ _)).mp c13_)
      show PW 66 d (5, [some (pvR 124), some (pvI n1), some (pvI n2), none], [pvI 1], M) _
      refine pw_ifn hT (c := 1 = 0) rfl rfl (fun c19_ => ?_) (fun c19_ => absurd c19_ (by decide))
      have b20_ : 0 ≤ Int32.toInt (M.1 131 (Int32.toNatClampNeg n1)) ∧ Int32.toInt (M.1 131 (Int32.toNatClampNeg n1)) ≤ 1 := pvok_r hok 131 (Int32.toNatClampNeg n1) rfl
      refine pw_blk hT 4 (S' := (16, [some (pvR 124), some (pvI n1), some (pvI n2), none], [pvI (M.1 131 (Int32.toNatClampNeg n1))], M)) rfl ⟨trivial, rfl, trivial, ⟨rfl, (zr_in (n := 7) b17_ (by decide) (by decide))⟩, trivial⟩ ?_
      refine pw_if hT (c := (M.1 131 (Int32.toNatClampNeg n1)) = 0) rfl rfl (fun c21_ => ?_) (fun c21_ => ?_)
      · have b22_ : 0 ≤ Int32.toInt (M.1 131 (Int32.toNatClampNeg n1)) ∧ Int32.toInt (M.1 131 (Int32.toNatClampNeg n1)) ≤ 0 := (by have u0 := b20_; have u1 := (zi_eq _ _).mp c21_; have u2 := (show 0 ≤ Int32.toInt 0 ∧ Int32.toInt 0 ≤ 0 from (by decide)); omega)
        refine pw_blkw hT 7 (pc := 32) (lo := [some (pvR 124), some (pvI n1), some (pvI n2), some (pvI 0)]) (st := []) (M := pvu M 131 (Int32.toNatClampNeg n1) (vp_nar .boolean n2)) rfl ⟨trivial, trivial, trivial, rfl, trivial, trivial, ⟨rfl, (zr_in (n := 7) b17_ (by decide) (by decide))⟩, trivial⟩ (fun M23_ e24_ => ?_)
        have o25_ : pvOk M23_ := pvok_u2 e24_ hok rfl (zboolr n2)
        have f26_ : pvFr fp_X10_put_124_x_x M M23_ := pvfr_u e24_ pvfr_0 rfl
        refine pw_blk hT 1 (S' := (33, [some (pvR 124), some (pvI n1), some (pvI n2), some (pvI 0)], [pvI 0], M23_)) rfl ⟨trivial, trivial⟩ ?_
        exact pw_ret hT rfl (r := some (pvI 0)) (M' := M23_) ⟨rfl, rfl⟩ ⟨⟨_, rfl, (zr_wide (show 0 ≤ Int32.toInt 0 ∧ Int32.toInt 0 ≤ 0 from (by decide)) (by decide) (by decide))⟩, o25_, f26_⟩
      · have b27_ : 1 ≤ Int32.toInt (M.1 131 (Int32.toNatClampNeg n1)) ∧ Int32.toInt (M.1 131 (Int32.toNatClampNeg n1)) ≤ 1 := (by have u0 := b20_; have u1 := (not_congr (zi_eq _ _)).mp c21_; have u2 := (show 0 ≤ Int32.toInt 0 ∧ Int32.toInt 0 ≤ 0 from (by decide)); omega)
        refine pw_blkw hT 8 (pc := 32) (lo := [some (pvR 124), some (pvI n1), some (pvI n2), some (pvI 1)]) (st := []) (M := pvu M 131 (Int32.toNatClampNeg n1) (vp_nar .boolean n2)) rfl ⟨trivial, trivial, trivial, trivial, rfl, trivial, trivial, ⟨rfl, (zr_in (n := 7) b17_ (by decide) (by decide))⟩, trivial⟩ (fun M28_ e29_ => ?_)
        have o30_ : pvOk M28_ := pvok_u2 e29_ hok rfl (zboolr n2)
        have f31_ : pvFr fp_X10_put_124_x_x M M28_ := pvfr_u e29_ pvfr_0 rfl
        refine pw_blk hT 1 (S' := (33, [some (pvR 124), some (pvI n1), some (pvI n2), some (pvI 1)], [pvI 1], M28_)) rfl ⟨trivial, trivial⟩ ?_
        exact pw_ret hT rfl (r := some (pvI 1)) (M' := M28_) ⟨rfl, rfl⟩ ⟨⟨_, rfl, (zr_wide (show 1 ≤ Int32.toInt 1 ∧ Int32.toInt 1 ≤ 1 from (by decide)) (by decide) (by decide))⟩, o30_, f31_⟩
set_option maxHeartbeats 4000000 in
set_option maxRecDepth 10000 in
theorem sf_X10_read_124_x_x (M : pvM) (hok : pvOk M) (n1 : Int32) (n2 : Int32) (d : Nat) : PW 68 d (0, [some (pvR 124), some (pvI n1), some (pvI n2)], [], M) (fun r X => (∃ x : Int64, r = some (pvJ x)) ∧ X = M) := by
  have hT : pvdom 68 = pvD_68 := rfl
  refine pw_blk hT 2 (S' := (2, [some (pvR 124), some (pvI n1), some (pvI n2)], [pvI n1, pvR 124], M)) rfl ⟨trivial, trivial, trivial⟩ ?_
  refine pw_callT hT (as := [pvR 124, pvI n1]) (lo1 := [some (pvR 124), some (pvI n1)]) (d1 := d) (rest := []) rfl rfl rfl rfl rfl (fun _ => rfl) (Nat.zero_le _) rfl rfl rfl (sf_X10_isTape_124_x M hok n1 d) ?_
  by_cases c6_ : n1 < 0
  · refine pw_eqI (if_pos c6_) ?_
    have b7_ : (-2147483648) ≤ Int32.toInt n1 ∧ Int32.toInt n1 ≤ (-1) := zr_lt_l (-1) c6_ (zbnd n1) (show 0 ≤ Int32.toInt 0 ∧ Int32.toInt 0 ≤ 0 from (by decide)) (by decide)
    show PW 68 d (5, [some (pvR 124), some (pvI n1), some (pvI n2)], [pvI 0], M) _
    refine pw_if hT (c := 0 = 0) rfl rfl (fun c8_ => ?_) (fun c8_ => absurd (by decide) c8_)
    refine pw_blk hT 2 (S' := (51, [some (pvR 124), some (pvI n1), some (pvI n2)], [pvJ (-9223372036854775808)], M)) rfl ⟨trivial, trivial, trivial⟩ ?_
    exact pw_ret hT rfl (r := some (pvJ (-9223372036854775808))) (M' := M) ⟨rfl, rfl⟩ ⟨⟨_, rfl⟩, rfl⟩
  · refine pw_eqI (if_neg c6_) ?_
    have b9_ : 0 ≤ Int32.toInt n1 ∧ Int32.toInt n1 ≤ 2147483647 := zr_nlt_l 0 c6_ (zbnd n1) (show 0 ≤ Int32.toInt 0 ∧ Int32.toInt 0 ≤ 0 from (by decide)) (by decide)
    by_cases c10_ : 5 < n1
    · refine pw_eqI (if_pos c10_) ?_
      have b11_ : 6 ≤ Int32.toInt n1 ∧ Int32.toInt n1 ≤ 2147483647 := zr_lt_r 6 c10_ b9_ (show 5 ≤ Int32.toInt 5 ∧ Int32.toInt 5 ≤ 5 from (by decide)) (by decide)
      show PW 68 d (5, [some (pvR 124), some (pvI n1), some (pvI n2)], [pvI 0], M) _
      refine pw_if hT (c := 0 = 0) rfl rfl (fun c12_ => ?_) (fun c12_ => absurd (by decide) c12_)
      refine pw_blk hT 2 (S' := (51, [some (pvR 124), some (pvI n1), some (pvI n2)], [pvJ (-9223372036854775808)], M)) rfl ⟨trivial, trivial, trivial⟩ ?_
      exact pw_ret hT rfl (r := some (pvJ (-9223372036854775808))) (M' := M) ⟨rfl, rfl⟩ ⟨⟨_, rfl⟩, rfl⟩
    · refine pw_eqI (if_neg c10_) ?_
      have b13_ : 0 ≤ Int32.toInt n1 ∧ Int32.toInt n1 ≤ 5 := zr_nlt_r 5 c10_ b9_ (show 5 ≤ Int32.toInt 5 ∧ Int32.toInt 5 ≤ 5 from (by decide)) (by decide)
      show PW 68 d (5, [some (pvR 124), some (pvI n1), some (pvI n2)], [pvI 1], M) _
      refine pw_if hT (c := 1 = 0) rfl rfl (fun c14_ => absurd c14_ (by decide)) (fun c14_ => ?_)
      have b15_ : (-1) ≤ Int32.toInt (M.1 164 (Int32.toNatClampNeg n1)) ∧ Int32.toInt (M.1 164 (Int32.toNatClampNeg n1)) ≤ 4 := pvok_r hok 164 (Int32.toNatClampNeg n1) rfl
      refine pw_blk hT 4 (S' := (14, [some (pvR 124), some (pvI n1), some (pvI n2)], [pvI (M.1 164 (Int32.toNatClampNeg n1))], M)) rfl ⟨trivial, rfl, trivial, ⟨rfl, (zr_in (n := 6) b13_ (by decide) (by decide))⟩, trivial⟩ ?_
      refine pw_if hT (c := (M.1 164 (Int32.toNatClampNeg n1)) < 0) rfl rfl (fun c16_ => ?_) (fun c16_ => ?_)
      · have b17_ : (-1) ≤ Int32.toInt (M.1 164 (Int32.toNatClampNeg n1)) ∧ Int32.toInt (M.1 164 (Int32.toNatClampNeg n1)) ≤ (-1) := zr_lt_l (-1) c16_ b15_ (show 0 ≤ Int32.toInt 0 ∧ Int32.toInt 0 ≤ 0 from (by decide)) (by decide)
        refine pw_blk hT 2 (S' := (51, [some (pvR 124), some (pvI n1), some (pvI n2)], [pvJ (-9223372036854775808)], M)) rfl ⟨trivial, trivial, trivial⟩ ?_
        exact pw_ret hT rfl (r := some (pvJ (-9223372036854775808))) (M' := M) ⟨rfl, rfl⟩ ⟨⟨_, rfl⟩, rfl⟩
      · have b18_ : 0 ≤ Int32.toInt (M.1 164 (Int32.toNatClampNeg n1)) ∧ Int32.toInt (M.1 164 (Int32.toNatClampNeg n1)) ≤ 4 := zr_nlt_l 0 c16_ b15_ (show 0 ≤ Int32.toInt 0 ∧ Int32.toInt 0 ≤ 0 from (by decide)) (by decide)
        have b19_ : 0 ≤ Int32.toInt (M.1 165 (Int32.toNatClampNeg n1)) ∧ Int32.toInt (M.1 165 (Int32.toNatClampNeg n1)) ≤ 60 := pvok_r hok 165 (Int32.toNatClampNeg n1) rfl
        obtain ⟨q21_, b20_⟩ : (Int32.toInt ((M.1 165 (Int32.toNatClampNeg n1)) - 1) = Int32.toInt (M.1 165 (Int32.toNatClampNeg n1)) - 1) ∧ ((-1) ≤ Int32.toInt ((M.1 165 (Int32.toNatClampNeg n1)) - 1) ∧ Int32.toInt ((M.1 165 (Int32.toNatClampNeg n1)) - 1) ≤ 59) := zsub_k (M.1 165 (Int32.toNatClampNeg n1)) 1 1 (-1) 59 b19_ (by decide) (by decide) (by decide) (by decide) (by decide)
        refine pw_blk hT 9 (S' := (28, [some (pvR 124), some (pvI n1), some (pvI n2)], [pvI ((M.1 165 (Int32.toNatClampNeg n1)) - 1), pvI 0, pvI n2, pvR 124], M)) rfl ⟨trivial, trivial, trivial, trivial, rfl, trivial, ⟨rfl, (zr_in (n := 6) b13_ (by decide) (by decide))⟩, trivial, trivial, trivial⟩ ?_
        refine pw_callT hT (as := [pvR 124, pvI n2, pvI 0, pvI ((M.1 165 (Int32.toNatClampNeg n1)) - 1)]) (lo1 := [some (pvR 124), some (pvI n2), some (pvI 0), some (pvI ((M.1 165 (Int32.toNatClampNeg n1)) - 1))]) (d1 := d) (rest := []) rfl rfl rfl rfl rfl (fun _ => rfl) (Nat.zero_le _) rfl rfl rfl (sf_X10_in_124_x_x_x M hok n2 0 ((M.1 165 (Int32.toNatClampNeg n1)) - 1) d) ?_
        by_cases c27_ : n2 < 0
        · refine pw_eqI (if_pos c27_) ?_
          have b28_ : (-2147483648) ≤ Int32.toInt n2 ∧ Int32.toInt n2 ≤ (-1) := zr_lt_l (-1) c27_ (zbnd n2) (show 0 ≤ Int32.toInt 0 ∧ Int32.toInt 0 ≤ 0 from (by decide)) (by decide)
          show PW 68 d (31, [some (pvR 124), some (pvI n1), some (pvI n2)], [pvI 0], M) _
          refine pw_ifn hT (c := 0 = 0) rfl rfl (fun c29_ => absurd (by decide) c29_) (fun c29_ => ?_)
          refine pw_blk hT 2 (S' := (51, [some (pvR 124), some (pvI n1), some (pvI n2)], [pvJ (-9223372036854775808)], M)) rfl ⟨trivial, trivial, trivial⟩ ?_
          exact pw_ret hT rfl (r := some (pvJ (-9223372036854775808))) (M' := M) ⟨rfl, rfl⟩ ⟨⟨_, rfl⟩, rfl⟩
        · refine pw_eqI (if_neg c27_) ?_
          have b30_ : 0 ≤ Int32.toInt n2 ∧ Int32.toInt n2 ≤ 2147483647 := zr_nlt_l 0 c27_ (zbnd n2) (show 0 ≤ Int32.toInt 0 ∧ Int32.toInt 0 ≤ 0 from (by decide)) (by decide)
          by_cases c31_ : ((M.1 165 (Int32.toNatClampNeg n1)) - 1) < n2
          · refine pw_eqI (if_pos c31_) ?_
            have d32_ : Int32.toInt ((M.1 165 (Int32.toNatClampNeg n1)) - 1) < Int32.toInt n2 := (zi_lt _ _).mp c31_
            show PW 68 d (31, [some (pvR 124), some (pvI n1), some (pvI n2)], [pvI 0], M) _
            refine pw_ifn hT (c := 0 = 0) rfl rfl (fun c33_ => absurd (by decide) c33_) (fun c33_ => ?_)
            refine pw_blk hT 2 (S' := (51, [some (pvR 124), some (pvI n1), some (pvI n2)], [pvJ (-9223372036854775808)], M)) rfl ⟨trivial, trivial, trivial⟩ ?_
            exact pw_ret hT rfl (r := some (pvJ (-9223372036854775808))) (M' := M) ⟨rfl, rfl⟩ ⟨⟨_, rfl⟩, rfl⟩
          · refine pw_eqI (if_neg c31_) ?_
            have b34_ : 0 ≤ Int32.toInt ((M.1 165 (Int32.toNatClampNeg n1)) - 1) ∧ Int32.toInt ((M.1 165 (Int32.toNatClampNeg n1)) - 1) ≤ 59 := zr_nlt_l 0 c31_ b20_ b30_ (by decide)
            have b35_ : 0 ≤ Int32.toInt n2 ∧ Int32.toInt n2 ≤ 59 := zr_nlt_r 59 c31_ b30_ b34_ (by decide)
            have d36_ : Int32.toInt ((M.1 165 (Int32.toNatClampNeg n1)) - 1) ≥ Int32.toInt n2 := Int.not_lt.mp ((not_congr (zi_lt _ _)).mp c31_)
            show PW 68 d (31, [some (pvR 124), some (pvI n1), some (pvI n2)], [pvI 1], M) _
            refine pw_ifn hT (c := 1 = 0) rfl rfl (fun c37_ => ?_) (fun c37_ => absurd c37_ (by decide))
            have q38_ : Int32.toInt (60 * n1) = 60 * Int32.toInt n1 := by have u0 : Int32.toInt 60 = 60 := (by decide); have u1 := b13_; have u2 := zmul 60 n1 (by rw [u0]; omega) (by rw [u0]; omega); rw [u0] at u2; omega
            have b39_ : 0 ≤ Int32.toInt (60 * n1) ∧ Int32.toInt (60 * n1) ≤ 300 := (by have u1 := b13_; omega)
            obtain ⟨q41_, b40_⟩ : (Int32.toInt ((60 * n1) + n2) = Int32.toInt (60 * n1) + Int32.toInt n2) ∧ (0 ≤ Int32.toInt ((60 * n1) + n2) ∧ Int32.toInt ((60 * n1) + n2) ≤ 359) := zadd_r (60 * n1) n2 0 359 b39_ b35_ (by decide) (by decide) (by decide) (by decide)
            refine pw_blk hT 8 (S' := (51, [some (pvR 124), some (pvI n1), some (pvI n2)], [pvJ (M.2 166 (Int32.toNatClampNeg ((60 * n1) + n2)))], M)) rfl ⟨trivial, rfl, trivial, trivial, trivial, trivial, trivial, ⟨rfl, (zr_in (n := 360) b40_ (by decide) (by decide))⟩, trivial⟩ ?_
            exact pw_ret hT rfl (r := some (pvJ (M.2 166 (Int32.toNatClampNeg ((60 * n1) + n2))))) (M' := M) ⟨rfl, rfl⟩ ⟨⟨_, rfl⟩, rfl⟩
def fpL_X10_round_124_x : List (Nat × Nat × Nat) := [(0, 124, 33), (0, 124, 36), (0, 141, 0), (0, 142, 0), (0, 143, 0), (0, 144, 0)]
def fp_X10_round_124_x (q k : Nat) : Bool := pvfp fpL_X10_round_124_x q k
theorem fp_X10_round_124_x_fp_X10_costOfRound_124_x (a b : Nat) (h : fp_X10_costOfRound_124_x a b = true) : fp_X10_round_124_x a b = true := pvfp_sub (l1 := fpL_X10_costOfRound_124_x) (l2 := fpL_X10_round_124_x) (by decide) a b h
theorem fp_X10_round_124_x_fp_X10_goes_124_x_x_x (a b : Nat) (h : fp_X10_goes_124_x_x_x a b = true) : fp_X10_round_124_x a b = true := pvfp_sub (l1 := fpL_X10_goes_124_x_x_x) (l2 := fpL_X10_round_124_x) (by decide) a b h
theorem fp_X10_round_124_x_fp_X10_layOpen_124 (a b : Nat) (h : fp_X10_layOpen_124 a b = true) : fp_X10_round_124_x a b = true := pvfp_sub (l1 := fpL_X10_layOpen_124) (l2 := fpL_X10_round_124_x) (by decide) a b h
theorem fp_X10_round_124_x_fp_X10_layRound_124 (a b : Nat) (h : fp_X10_layRound_124 a b = true) : fp_X10_round_124_x a b = true := pvfp_sub (l1 := fpL_X10_layRound_124) (l2 := fpL_X10_round_124_x) (by decide) a b h
set_option maxHeartbeats 4000000 in
set_option maxRecDepth 10000 in
theorem sf_X10_round_124_x (M : pvM) (hok : pvOk M) (n1 : Int32) (d : Nat) : PW 69 d (0, [some (pvR 124), some (pvI n1), none, none, none], [], M) (fun r X => (∃ x : Int32, r = some (pvI x) ∧ True) ∧ pvOk X ∧ pvFr fp_X10_round_124_x M X) := by
  have hT : pvdom 69 = pvD_69 := rfl
  refine pw_blk hT 4 (S' := (4, [some (pvR 124), some (pvI n1), none, none, none], [pvI 2, pvI 0, pvI n1, pvR 124], M)) rfl ⟨trivial, trivial, trivial, trivial, trivial⟩ ?_
  refine pw_callT hT (as := [pvR 124, pvI n1, pvI 0, pvI 2]) (lo1 := [some (pvR 124), some (pvI n1), some (pvI 0), some (pvI 2)]) (d1 := d) (rest := []) rfl rfl rfl rfl rfl (fun _ => rfl) (Nat.zero_le _) rfl rfl rfl (sf_X10_in_124_x_x_x M hok n1 0 2 d) ?_
  by_cases c6_ : n1 < 0
  · refine pw_eqI (if_pos c6_) ?_
    have b7_ : (-2147483648) ≤ Int32.toInt n1 ∧ Int32.toInt n1 ≤ (-1) := zr_lt_l (-1) c6_ (zbnd n1) (show 0 ≤ Int32.toInt 0 ∧ Int32.toInt 0 ≤ 0 from (by decide)) (by decide)
    show PW 69 d (7, [some (pvR 124), some (pvI n1), none, none, none], [pvI 0], M) _
    refine pw_ifn hT (c := 0 = 0) rfl rfl (fun c8_ => absurd (by decide) c8_) (fun c8_ => ?_)
    refine pw_blk hT 1 (S' := (11, [some (pvR 124), some (pvI n1), none, none, none], [pvI (-1)], M)) rfl ⟨trivial, trivial⟩ ?_
    exact pw_ret hT rfl (r := some (pvI (-1))) (M' := M) ⟨rfl, rfl⟩ ⟨⟨_, rfl, trivial⟩, hok, pvfr_0⟩
  · refine pw_eqI (if_neg c6_) ?_
    have b9_ : 0 ≤ Int32.toInt n1 ∧ Int32.toInt n1 ≤ 2147483647 := zr_nlt_l 0 c6_ (zbnd n1) (show 0 ≤ Int32.toInt 0 ∧ Int32.toInt 0 ≤ 0 from (by decide)) (by decide)
    by_cases c10_ : 2 < n1
    · refine pw_eqI (if_pos c10_) ?_
      have b11_ : 3 ≤ Int32.toInt n1 ∧ Int32.toInt n1 ≤ 2147483647 := zr_lt_r 3 c10_ b9_ (show 2 ≤ Int32.toInt 2 ∧ Int32.toInt 2 ≤ 2 from (by decide)) (by decide)
      show PW 69 d (7, [some (pvR 124), some (pvI n1), none, none, none], [pvI 0], M) _
      refine pw_ifn hT (c := 0 = 0) rfl rfl (fun c12_ => absurd (by decide) c12_) (fun c12_ => ?_)
      refine pw_blk hT 1 (S' := (11, [some (pvR 124), some (pvI n1), none, none, none], [pvI (-1)], M)) rfl ⟨trivial, trivial⟩ ?_
      exact pw_ret hT rfl (r := some (pvI (-1))) (M' := M) ⟨rfl, rfl⟩ ⟨⟨_, rfl, trivial⟩, hok, pvfr_0⟩
    · refine pw_eqI (if_neg c10_) ?_
      have b13_ : 0 ≤ Int32.toInt n1 ∧ Int32.toInt n1 ≤ 2 := zr_nlt_r 2 c10_ b9_ (show 2 ≤ Int32.toInt 2 ∧ Int32.toInt 2 ≤ 2 from (by decide)) (by decide)
      show PW 69 d (7, [some (pvR 124), some (pvI n1), none, none, none], [pvI 1], M) _
      refine pw_ifn hT (c := 1 = 0) rfl rfl (fun c14_ => ?_) (fun c14_ => absurd c14_ (by decide))
      refine pw_blk hT 1 (S' := (13, [some (pvR 124), some (pvI n1), none, none, none], [pvI n1], M)) rfl ⟨trivial, trivial⟩ ?_
      refine pw_ifn hT (c := n1 = 0) rfl rfl (fun c15_ => ?_) (fun c15_ => ?_)
      · have b16_ : 1 ≤ Int32.toInt n1 ∧ Int32.toInt n1 ≤ 2 := (by have u0 := b13_; have u1 := (not_congr (zi_eq _ _)).mp c15_; have u2 := (show 0 ≤ Int32.toInt 0 ∧ Int32.toInt 0 ≤ 0 from (by decide)); omega)
        refine pw_blk hT 1 (S' := (23, [some (pvR 124), some (pvI n1), none, none, none], [pvR 124], M)) rfl ⟨trivial, trivial⟩ ?_
        refine pw_callV hT (as := [pvR 124]) (lo1 := [some (pvR 124), none]) (d1 := d) (rest := []) rfl rfl rfl rfl rfl (fun _ => rfl) (Nat.zero_le _) rfl rfl rfl (sf_X10_layRound_124 M hok d) (fun M18_ o20_ g21_ => ?_)
        have f22_ : pvFr fp_X10_round_124_x M M18_ := pvfr_t g21_ pvfr_0 fp_X10_round_124_x_fp_X10_layRound_124
        refine pw_blk hT 1 (S' := (27, [some (pvR 124), some (pvI n1), none, none, none], [pvR 124], M18_)) rfl ⟨trivial, trivial⟩ ?_
        refine pw_callV hT (as := [pvR 124]) (lo1 := [some (pvR 124), none]) (d1 := d) (rest := []) rfl rfl rfl rfl rfl (fun _ => rfl) (Nat.zero_le _) rfl rfl rfl (sf_X10_layOpen_124 M18_ o20_ d) (fun M24_ o26_ g27_ => ?_)
        have f28_ : pvFr fp_X10_round_124_x M M24_ := pvfr_t g27_ f22_ fp_X10_round_124_x_fp_X10_layOpen_124
        have b29_ : 0 ≤ Int32.toInt (M24_.1 124 35) ∧ Int32.toInt (M24_.1 124 35) ≤ 7 := pvok_r o26_ 124 35 rfl
        have b30_ : 0 ≤ Int32.toInt (M24_.1 124 1) ∧ Int32.toInt (M24_.1 124 1) ≤ 9999 := pvok_r o26_ 124 1 rfl
        refine pw_blk hT 6 (S' := (40, [some (pvR 124), some (pvI n1), none, none, none], [pvI (M24_.1 124 1), pvI (M24_.1 124 35), pvI 0, pvR 124], M24_)) rfl ⟨trivial, trivial, trivial, rfl, trivial, rfl, trivial⟩ ?_
        refine pw_callG hT (as := [pvR 124, pvI 0, pvI (M24_.1 124 35), pvI (M24_.1 124 1)]) (lo1 := [some (pvR 124), some (pvI 0), some (pvI (M24_.1 124 35)), some (pvI (M24_.1 124 1)), none, none, none, none, none]) (d1 := d) (rest := []) rfl rfl rfl rfl rfl (fun _ => rfl) (Nat.zero_le _) rfl rfl rfl (sf_X10_goes_124_x_x_x M24_ o26_ 0 (M24_.1 124 35) (M24_.1 124 1) (zr_wide (show 0 ≤ Int32.toInt 0 ∧ Int32.toInt 0 ≤ 0 from (by decide)) (by decide) (by decide)) b29_ (zr_wide b30_ (by decide) (by decide)) d) (fun x31_ M32_ b33_ o34_ g35_ => ?_)
        have f36_ : pvFr fp_X10_round_124_x M M32_ := pvfr_t g35_ f28_ fp_X10_round_124_x_fp_X10_goes_124_x_x_x
        refine pw_blk hT 3 (S' := (46, [some (pvR 124), some (pvI n1), some (pvI x31_), none, none], [pvI 1, pvI n1], M32_)) rfl ⟨trivial, trivial, trivial, trivial⟩ ?_
        refine pw_icn hT (c := n1 = 1) rfl rfl (fun c37_ => ?_) (fun c37_ => ?_)
        · have b38_ : 2 ≤ Int32.toInt n1 ∧ Int32.toInt n1 ≤ 2 := (by have u0 := b16_; have u1 := (not_congr (zi_eq _ _)).mp c37_; have u2 := (show 1 ≤ Int32.toInt 1 ∧ Int32.toInt 1 ≤ 1 from (by decide)); omega)
          refine pw_blk hT 4 (S' := (56, [some (pvR 124), some (pvI n1), some (pvI x31_), some (pvI 0), some (pvI 0)], [], M32_)) rfl ⟨trivial, trivial, trivial, trivial, trivial⟩ ?_
          have hlz104_ : ∀ (nz104_ : Nat) (i3z104_ : Int32) (i4z104_ : Int32), (0 ≤ Int32.toInt i4z104_ ∧ Int32.toInt i4z104_ ≤ 7) → (zhide ((8 - Int32.toInt i4z104_).toNat < nz104_)) → PW 69 d (56, [some (pvR 124), some (pvI n1), some (pvI x31_), some (pvI i3z104_), some (pvI i4z104_)], [], M32_) (fun r X => (∃ x : Int32, r = some (pvI x) ∧ True) ∧ pvOk X ∧ pvFr fp_X10_round_124_x M X) := by
            intro nz104_
            induction nz104_ with
            | zero => intro i3z104_ i4z104_ h4z104_ hmz104_; exact absurd (zshow hmz104_) (Nat.not_lt_zero _)
            | succ nz104_ ihz104_ =>
              intro i3z104_ i4z104_ h4z104_ hmz104_
              have b105_ : 0 ≤ Int32.toInt (M32_.1 124 37) ∧ Int32.toInt (M32_.1 124 37) ≤ 7 := pvok_r o34_ 124 37 rfl
              refine pw_blk hT 3 (S' := (62, [some (pvR 124), some (pvI n1), some (pvI x31_), some (pvI i3z104_), some (pvI i4z104_)], [pvI (M32_.1 124 37), pvI i4z104_], M32_)) rfl ⟨trivial, trivial, rfl, trivial⟩ ?_
              refine pw_ic hT (c := (M32_.1 124 37) ≤ i4z104_) rfl rfl (fun c106_ => ?_) (fun c106_ => ?_)
              · have d107_ : Int32.toInt (M32_.1 124 37) ≤ Int32.toInt i4z104_ := (zi_le _ _).mp c106_
                refine pw_blk hT 1 (S' := (99, [some (pvR 124), some (pvI n1), some (pvI x31_), some (pvI i3z104_), some (pvI i4z104_)], [pvI i3z104_], M32_)) rfl ⟨trivial, trivial⟩ ?_
                exact pw_ret hT rfl (r := some (pvI i3z104_)) (M' := M32_) ⟨rfl, rfl⟩ ⟨⟨_, rfl, trivial⟩, o34_, f36_⟩
              · have b108_ : 1 ≤ Int32.toInt (M32_.1 124 37) ∧ Int32.toInt (M32_.1 124 37) ≤ 7 := zr_nle_l 1 c106_ b105_ h4z104_ (by decide)
                have b109_ : 0 ≤ Int32.toInt i4z104_ ∧ Int32.toInt i4z104_ ≤ 6 := zr_nle_r 6 c106_ h4z104_ b108_ (by decide)
                have d110_ : Int32.toInt (M32_.1 124 37) > Int32.toInt i4z104_ := Int.not_le.mp ((not_congr (zi_le _ _)).mp c106_)
                have b111_ : 0 ≤ Int32.toInt (M32_.1 145 (Int32.toNatClampNeg i4z104_)) ∧ Int32.toInt (M32_.1 145 (Int32.toNatClampNeg i4z104_)) ≤ 6 := pvok_r o34_ 145 (Int32.toNatClampNeg i4z104_) rfl
                have b112_ : (-1) ≤ Int32.toInt (M32_.1 143 (Int32.toNatClampNeg (M32_.1 145 (Int32.toNatClampNeg i4z104_)))) ∧ Int32.toInt (M32_.1 143 (Int32.toNatClampNeg (M32_.1 145 (Int32.toNatClampNeg i4z104_)))) ≤ 99999 := pvok_r o34_ 143 (Int32.toNatClampNeg (M32_.1 145 (Int32.toNatClampNeg i4z104_))) rfl
                have b113_ : 0 ≤ Int32.toInt (M32_.1 124 3) ∧ Int32.toInt (M32_.1 124 3) ≤ 108 := pvok_r o34_ 124 3 rfl
                refine pw_blk hT 10 (S' := (82, [some (pvR 124), some (pvI n1), some (pvI x31_), some (pvI i3z104_), some (pvI i4z104_)], [pvI (M32_.1 124 3), pvI (M32_.1 143 (Int32.toNatClampNeg (M32_.1 145 (Int32.toNatClampNeg i4z104_)))), pvI i3z104_], M32_)) rfl ⟨trivial, trivial, rfl, trivial, rfl, trivial, ⟨rfl, (zr_in (n := 7) b109_ (by decide) (by decide))⟩, ⟨rfl, (zr_in (n := 7) b111_ (by decide) (by decide))⟩, trivial, rfl, trivial⟩ ?_
                refine pw_ic hT (c := (M32_.1 124 3) < (M32_.1 143 (Int32.toNatClampNeg (M32_.1 145 (Int32.toNatClampNeg i4z104_))))) rfl rfl (fun c114_ => ?_) (fun c114_ => ?_)
                · have b115_ : 1 ≤ Int32.toInt (M32_.1 143 (Int32.toNatClampNeg (M32_.1 145 (Int32.toNatClampNeg i4z104_)))) ∧ Int32.toInt (M32_.1 143 (Int32.toNatClampNeg (M32_.1 145 (Int32.toNatClampNeg i4z104_)))) ≤ 99999 := zr_lt_r 1 c114_ b112_ b113_ (by decide)
                  have d116_ : Int32.toInt (M32_.1 124 3) < Int32.toInt (M32_.1 143 (Int32.toNatClampNeg (M32_.1 145 (Int32.toNatClampNeg i4z104_)))) := (zi_lt _ _).mp c114_
                  obtain ⟨q118_, b117_⟩ : (Int32.toInt (i3z104_ + 0) = Int32.toInt i3z104_ + 0) ∧ ((-2147483648) ≤ Int32.toInt (i3z104_ + 0) ∧ Int32.toInt (i3z104_ + 0) ≤ 2147483647) := zadd_k i3z104_ 0 0 (-2147483648) 2147483647 (zbnd i3z104_) (by decide) (by decide) (by decide) (by decide) (by decide)
                  obtain ⟨q120_, b119_⟩ : (Int32.toInt (i4z104_ + 1) = Int32.toInt i4z104_ + 1) ∧ (1 ≤ Int32.toInt (i4z104_ + 1) ∧ Int32.toInt (i4z104_ + 1) ≤ 7) := zadd_k i4z104_ 1 1 1 7 b109_ (by decide) (by decide) (by decide) (by decide) (by decide)
                  refine pw_blk hT 5 (S' := (56, [some (pvR 124), some (pvI n1), some (pvI x31_), some (pvI (i3z104_ + 0)), some (pvI (i4z104_ + 1))], [], M32_)) rfl ⟨trivial, trivial, trivial, trivial, trivial, trivial⟩ ?_
                  exact ihz104_ (i3z104_ + 0) (i4z104_ + 1) (zr_wide b119_ (by decide) (by decide)) (zhid (pvms_up (zshow hmz104_) h4z104_ q120_ (by decide) (by decide)))
                · have b121_ : (-1) ≤ Int32.toInt (M32_.1 143 (Int32.toNatClampNeg (M32_.1 145 (Int32.toNatClampNeg i4z104_)))) ∧ Int32.toInt (M32_.1 143 (Int32.toNatClampNeg (M32_.1 145 (Int32.toNatClampNeg i4z104_)))) ≤ 108 := zr_nlt_r 108 c114_ b112_ b113_ (by decide)
                  have d122_ : Int32.toInt (M32_.1 124 3) ≥ Int32.toInt (M32_.1 143 (Int32.toNatClampNeg (M32_.1 145 (Int32.toNatClampNeg i4z104_)))) := Int.not_lt.mp ((not_congr (zi_lt _ _)).mp c114_)
                  obtain ⟨q124_, b123_⟩ : (Int32.toInt (i4z104_ + 1) = Int32.toInt i4z104_ + 1) ∧ (1 ≤ Int32.toInt (i4z104_ + 1) ∧ Int32.toInt (i4z104_ + 1) ≤ 7) := zadd_k i4z104_ 1 1 1 7 b109_ (by decide) (by decide) (by decide) (by decide) (by decide)
                  refine pw_blk hT 6 (S' := (56, [some (pvR 124), some (pvI n1), some (pvI x31_), some (pvI (i3z104_ + 1)), some (pvI (i4z104_ + 1))], [], M32_)) rfl ⟨trivial, trivial, trivial, trivial, trivial, trivial, trivial⟩ ?_
                  exact ihz104_ (i3z104_ + 1) (i4z104_ + 1) (zr_wide b123_ (by decide) (by decide)) (zhid (pvms_up (zshow hmz104_) h4z104_ q124_ (by decide) (by decide)))
          exact hlz104_ _ 0 0 (zr_wide (show 0 ≤ Int32.toInt 0 ∧ Int32.toInt 0 ≤ 0 from (by decide)) (by decide) (by decide)) (zhid (Nat.lt_succ_self _))
        · have b125_ : 1 ≤ Int32.toInt n1 ∧ Int32.toInt n1 ≤ 1 := (by have u0 := b16_; have u1 := (zi_eq _ _).mp c37_; have u2 := (show 1 ≤ Int32.toInt 1 ∧ Int32.toInt 1 ≤ 1 from (by decide)); omega)
          refine pw_blk hT 1 (S' := (50, [some (pvR 124), some (pvI n1), some (pvI x31_), none, none], [pvI x31_], M32_)) rfl ⟨trivial, trivial⟩ ?_
          exact pw_ret hT rfl (r := some (pvI x31_)) (M' := M32_) ⟨rfl, rfl⟩ ⟨⟨_, rfl, trivial⟩, o34_, f36_⟩
      · have b126_ : 0 ≤ Int32.toInt n1 ∧ Int32.toInt n1 ≤ 0 := (by have u0 := b13_; have u1 := (zi_eq _ _).mp c15_; have u2 := (show 0 ≤ Int32.toInt 0 ∧ Int32.toInt 0 ≤ 0 from (by decide)); omega)
        refine pw_blk hT 2 (S' := (18, [some (pvR 124), some (pvI n1), none, none, none], [pvI 0, pvR 124], M)) rfl ⟨trivial, trivial, trivial⟩ ?_
        refine pw_callG hT (as := [pvR 124, pvI 0]) (lo1 := [some (pvR 124), some (pvI 0)]) (d1 := d) (rest := []) rfl rfl rfl rfl rfl (fun _ => rfl) (Nat.zero_le _) rfl rfl rfl (sf_X10_costOfRound_124_x M hok 0 (zr_wide (show 0 ≤ Int32.toInt 0 ∧ Int32.toInt 0 ≤ 0 from (by decide)) (by decide) (by decide)) d) (fun x127_ M128_ b129_ o130_ g131_ => ?_)
        have f132_ : pvFr fp_X10_round_124_x M M128_ := pvfr_t g131_ pvfr_0 fp_X10_round_124_x_fp_X10_costOfRound_124_x
        exact pw_ret hT rfl (r := some (pvI x127_)) (M' := M128_) ⟨rfl, rfl⟩ ⟨⟨_, rfl, trivial⟩, o130_, f132_⟩
