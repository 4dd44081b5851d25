def fpL_eX10_mean_124_x : List (Nat × Nat × Nat) := [(0, 124, 4), (0, 124, 33), (0, 124, 36), (0, 141, 0), (0, 142, 0), (0, 143, 0), (0, 144, 0)]
def fp_eX10_mean_124_x (q k : Nat) : Bool := pvfp fpL_eX10_mean_124_x q k
theorem fp_eX10_mean_124_x_fp_X10_costOfRound_124_x (a b : Nat) (h : fp_X10_costOfRound_124_x a b = true) : fp_eX10_mean_124_x a b = true := pvfp_sub (l1 := fpL_X10_costOfRound_124_x) (l2 := fpL_eX10_mean_124_x) (by decide) a b h
set_option maxHeartbeats 4000000 in
set_option maxRecDepth 10000 in
theorem se_X10_mean_124_x (M : pvM) (hok : pvOk M) (n1 : Int32) (hz : pvWF M) (hx0 : Int32.toInt (M.1 124 3) ≤ 99) (d : Nat) : PW 55 d (0, [some (pvR 124), some (pvI n1), none, none, none], [], M) (fun r X => (∃ x : Int64, r = some (pvJ x)) ∧ pvOk X ∧ pvFr fp_eX10_mean_124_x M X ∧ X.1 124 3 = M.1 124 3) := by
  have hT : pvdom 55 = pvD_55 := rfl
  refine pw_blk hT 4 (S' := (4, [some (pvR 124), some (pvI n1), none, none, none], [pvI 1, pvI 0, pvI n1, pvR 124], M)) rfl ⟨trivial, trivial, trivial, trivial, trivial⟩ ?_
  refine pw_callT hT (as := [pvR 124, pvI n1, pvI 0, pvI 1]) (lo1 := [some (pvR 124), some (pvI n1), some (pvI 0), some (pvI 1)]) (d1 := d) (rest := []) rfl rfl rfl rfl rfl (fun _ => rfl) (Nat.zero_le _) rfl rfl rfl (sf_X10_in_124_x_x_x M hok n1 0 1 d) ?_
  by_cases c6_ : n1 < 0
  · refine pw_eqI (if_pos c6_) ?_
    have b7_ : (-2147483648) ≤ Int32.toInt n1 ∧ Int32.toInt n1 ≤ (-1) := zr_lt_l (-1) c6_ (zbnd n1) (show 0 ≤ Int32.toInt 0 ∧ Int32.toInt 0 ≤ 0 from (by decide)) (by decide)
    show PW 55 d (7, [some (pvR 124), some (pvI n1), none, none, none], [pvI 0], M) _
    refine pw_ifn hT (c := 0 = 0) rfl rfl (fun c8_ => absurd (by decide) c8_) (fun c8_ => ?_)
    refine pw_blk hT 1 (S' := (13, [some (pvR 124), some (pvI n1), none, none, none], [pvJ (-9223372036854775808)], M)) rfl ⟨trivial, trivial⟩ ?_
    exact pw_ret hT rfl (r := some (pvJ (-9223372036854775808))) (M' := M) ⟨rfl, rfl⟩ ⟨⟨_, rfl⟩, hok, pvfr_0, rfl⟩
  · refine pw_eqI (if_neg c6_) ?_
    have b9_ : 0 ≤ Int32.toInt n1 ∧ Int32.toInt n1 ≤ 2147483647 := zr_nlt_l 0 c6_ (zbnd n1) (show 0 ≤ Int32.toInt 0 ∧ Int32.toInt 0 ≤ 0 from (by decide)) (by decide)
    by_cases c10_ : 1 < n1
    · refine pw_eqI (if_pos c10_) ?_
      have b11_ : 2 ≤ Int32.toInt n1 ∧ Int32.toInt n1 ≤ 2147483647 := zr_lt_r 2 c10_ b9_ (show 1 ≤ Int32.toInt 1 ∧ Int32.toInt 1 ≤ 1 from (by decide)) (by decide)
      show PW 55 d (7, [some (pvR 124), some (pvI n1), none, none, none], [pvI 0], M) _
      refine pw_ifn hT (c := 0 = 0) rfl rfl (fun c12_ => absurd (by decide) c12_) (fun c12_ => ?_)
      refine pw_blk hT 1 (S' := (13, [some (pvR 124), some (pvI n1), none, none, none], [pvJ (-9223372036854775808)], M)) rfl ⟨trivial, trivial⟩ ?_
      exact pw_ret hT rfl (r := some (pvJ (-9223372036854775808))) (M' := M) ⟨rfl, rfl⟩ ⟨⟨_, rfl⟩, hok, pvfr_0, rfl⟩
    · refine pw_eqI (if_neg c10_) ?_
      have b13_ : 0 ≤ Int32.toInt n1 ∧ Int32.toInt n1 ≤ 1 := zr_nlt_r 1 c10_ b9_ (show 1 ≤ Int32.toInt 1 ∧ Int32.toInt 1 ≤ 1 from (by decide)) (by decide)
      show PW 55 d (7, [some (pvR 124), some (pvI n1), none, none, none], [pvI 1], M) _
      refine pw_ifn hT (c := 1 = 0) rfl rfl (fun c14_ => ?_) (fun c14_ => absurd c14_ (by decide))
      have b15_ : 0 ≤ Int32.toInt (M.1 124 3) ∧ Int32.toInt (M.1 124 3) ≤ 108 := pvok_r hok 124 3 rfl
      refine pw_blk hT 7 (S' := (24, [some (pvR 124), some (pvI n1), some (pvI (M.1 124 3)), some (pvI 0), some (pvI 0)], [], M)) rfl ⟨trivial, rfl, trivial, trivial, trivial, trivial, trivial, trivial⟩ ?_
      have hlz121_ : ∀ (nz121_ : Nat) (i3z121_ : Int32) (i4z121_ : Int32) (Mz121_ : pvM), (pvOk Mz121_) → (pvFr fp_eX10_mean_124_x M Mz121_) → (0 ≤ Int32.toInt i3z121_ ∧ Int32.toInt i3z121_ ≤ 90000000) → (0 ≤ Int32.toInt i4z121_ ∧ Int32.toInt i4z121_ ≤ 10) → (Int32.toInt i3z121_ ≤ 9000000 * Int32.toInt i4z121_) → (zhide ((11 - Int32.toInt i4z121_).toNat < nz121_)) → PW 55 d (24, [some (pvR 124), some (pvI n1), some (pvI (M.1 124 3)), some (pvI i3z121_), some (pvI i4z121_)], [], Mz121_) (fun r X => (∃ x : Int64, r = some (pvJ x)) ∧ pvOk X ∧ pvFr fp_eX10_mean_124_x M X ∧ X.1 124 3 = M.1 124 3) := by
        intro nz121_
        induction nz121_ with
        | zero => intro i3z121_ i4z121_ Mz121_ oz121_ fz121_ h3z121_ h4z121_ j0z121_ hmz121_; exact absurd (zshow hmz121_) (Nat.not_lt_zero _)
        | succ nz121_ ihz121_ =>
          intro i3z121_ i4z121_ Mz121_ oz121_ fz121_ h3z121_ h4z121_ j0z121_ hmz121_
          refine pw_blk hT 2 (S' := (28, [some (pvR 124), some (pvI n1), some (pvI (M.1 124 3)), some (pvI i3z121_), some (pvI i4z121_)], [pvI 10, pvI i4z121_], Mz121_)) rfl ⟨trivial, trivial, trivial⟩ ?_
          refine pw_ic hT (c := 10 ≤ i4z121_) rfl rfl (fun c122_ => ?_) (fun c122_ => ?_)
          · have b123_ : 10 ≤ Int32.toInt i4z121_ ∧ Int32.toInt i4z121_ ≤ 10 := zr_le_r 10 c122_ h4z121_ (show 10 ≤ Int32.toInt 10 ∧ Int32.toInt 10 ≤ 10 from (by decide)) (by decide)
            refine pw_blkw hT 3 (pc := 58) (lo := [some (pvR 124), some (pvI n1), some (pvI (M.1 124 3)), some (pvI i3z121_), some (pvI i4z121_)]) (st := []) (M := pvu Mz121_ 124 3 (M.1 124 3)) rfl ⟨trivial, trivial, rfl, trivial⟩ (fun M124_ e125_ => ?_)
            have o126_ : pvOk M124_ := pvok_u2 e125_ oz121_ rfl b15_
            have f127_ : pvFr fp_eX10_mean_124_x M M124_ := pvfr_u e125_ fz121_ rfl
            refine pw_blk hT 4 (S' := (63, [some (pvR 124), some (pvI n1), some (pvI (M.1 124 3)), some (pvI i3z121_), some (pvI i4z121_)], [pvI n1, pvI 10, pvI i3z121_, pvR 124], M124_)) rfl ⟨trivial, trivial, trivial, trivial, trivial⟩ ?_
            refine pw_callJp hT (as := [pvR 124, pvI i3z121_, pvI 10, pvI n1]) (lo1 := [some (pvR 124), some (pvI i3z121_), some (pvI 10), some (pvI n1), none]) (d1 := d) (rest := []) rfl rfl rfl rfl rfl (fun _ => rfl) (Nat.zero_le _) rfl rfl rfl (sf_X10_lowest_124_x_x_x M124_ o126_ i3z121_ 10 n1 h3z121_ (zr_wide (show 10 ≤ Int32.toInt 10 ∧ Int32.toInt 10 ≤ 10 from (by decide)) (by decide) (by decide)) d) (fun x128_ b130_ => ?_)
            exact pw_ret hT rfl (r := some (pvJ x128_)) (M' := M124_) ⟨rfl, rfl⟩ ⟨⟨_, rfl⟩, o126_, f127_, (pvu_s e125_)⟩
          · have b133_ : 0 ≤ Int32.toInt i4z121_ ∧ Int32.toInt i4z121_ ≤ 9 := zr_nle_r 9 c122_ h4z121_ (show 10 ≤ Int32.toInt 10 ∧ Int32.toInt 10 ≤ 10 from (by decide)) (by decide)
            obtain ⟨q135_, b134_⟩ : (Int32.toInt ((M.1 124 3) + i4z121_) = Int32.toInt (M.1 124 3) + Int32.toInt i4z121_) ∧ (0 ≤ Int32.toInt ((M.1 124 3) + i4z121_) ∧ Int32.toInt ((M.1 124 3) + i4z121_) ≤ 117) := zadd_r (M.1 124 3) i4z121_ 0 117 b15_ b133_ (by decide) (by decide) (by decide) (by decide)
            refine pw_blkw hT 5 (pc := 39) (lo := [some (pvR 124), some (pvI n1), some (pvI (M.1 124 3)), some (pvI i3z121_), some (pvI i4z121_)]) (st := []) (M := pvu Mz121_ 124 3 ((M.1 124 3) + i4z121_)) rfl ⟨trivial, trivial, trivial, trivial, rfl, trivial⟩ (fun M136_ e137_ => ?_)
            have o138_ : pvOk M136_ := pvok_u2 e137_ oz121_ rfl (by have u0 := b134_; omega)
            have f139_ : pvFr fp_eX10_mean_124_x M M136_ := pvfr_u e137_ fz121_ rfl
            refine pw_blk hT 3 (S' := (42, [some (pvR 124), some (pvI n1), some (pvI (M.1 124 3)), some (pvI i3z121_), some (pvI i4z121_)], [pvI 0, pvR 124, pvI i3z121_], M136_)) rfl ⟨trivial, trivial, trivial, trivial⟩ ?_
            have u140_ : Int32.toInt 0 = 0 := by decide
            refine pw_callG hT (as := [pvR 124, pvI 0]) (lo1 := [some (pvR 124), some (pvI 0)]) (d1 := d) (rest := [pvI i3z121_]) rfl rfl rfl rfl rfl (fun _ => rfl) (Nat.zero_le _) rfl rfl rfl (sf_X10_costOfRound_124_x M136_ o138_ 0 (zr_wide (show 0 ≤ Int32.toInt 0 ∧ Int32.toInt 0 ≤ 0 from (by decide)) (by decide) (by decide)) (pvWF_fr (L := fpL_eX10_mean_124_x) rfl f139_ hz) d) (fun x141_ M142_ b143_ o144_ g145_ => ?_)
            have f146_ : pvFr fp_eX10_mean_124_x M M142_ := pvfr_t g145_ f139_ fp_eX10_mean_124_x_fp_X10_costOfRound_124_x
            obtain ⟨q148_, b147_⟩ : (Int32.toInt (i3z121_ + x141_) = Int32.toInt i3z121_ + Int32.toInt x141_) ∧ (0 ≤ Int32.toInt (i3z121_ + x141_) ∧ Int32.toInt (i3z121_ + x141_) ≤ 99000000) := zadd_r i3z121_ x141_ 0 99000000 h3z121_ b143_ (by decide) (by decide) (by decide) (by decide)
            obtain ⟨q150_, b149_⟩ : (Int32.toInt (i4z121_ + 1) = Int32.toInt i4z121_ + 1) ∧ (1 ≤ Int32.toInt (i4z121_ + 1) ∧ Int32.toInt (i4z121_ + 1) ≤ 10) := zadd_k i4z121_ 1 1 1 10 b133_ (by decide) (by decide) (by decide) (by decide) (by decide)
            refine pw_blk hT 4 (S' := (24, [some (pvR 124), some (pvI n1), some (pvI (M.1 124 3)), some (pvI (i3z121_ + x141_)), some (pvI (i4z121_ + 1))], [], M142_)) rfl ⟨trivial, trivial, trivial, trivial, trivial⟩ ?_
            have j151_ : Int32.toInt (i3z121_ + x141_) ≤ 9000000 * Int32.toInt (i4z121_ + 1) := by omega
            exact ihz121_ (i3z121_ + x141_) (i4z121_ + 1) M142_ o144_ f146_ (by have u0 := b147_; omega) (zr_wide b149_ (by decide) (by decide)) j151_ (zhid (pvms_up (zshow hmz121_) h4z121_ q150_ (by decide) (by decide)))
      have u152_ : Int32.toInt 0 = 0 := by decide
      have j153_ : Int32.toInt 0 ≤ 9000000 * Int32.toInt 0 := by omega
      exact hlz121_ _ 0 0 M hok pvfr_0 (zr_wide (show 0 ≤ Int32.toInt 0 ∧ Int32.toInt 0 ≤ 0 from (by decide)) (by decide) (by decide)) (zr_wide (show 0 ≤ Int32.toInt 0 ∧ Int32.toInt 0 ≤ 0 from (by decide)) (by decide) (by decide)) j153_ (zhid (Nat.lt_succ_self _))
def fpL_eX10_odds_124_x_x : List (Nat × Nat × Nat) := [(0, 124, 33), (0, 124, 36), (0, 124, 5), (0, 141, 0), (0, 142, 0), (0, 143, 0), (0, 144, 0)]
def fp_eX10_odds_124_x_x (q k : Nat) : Bool := pvfp fpL_eX10_odds_124_x_x q k
theorem fp_eX10_odds_124_x_x_fp_X10_costOfRound_124_x (a b : Nat) (h : fp_X10_costOfRound_124_x a b = true) : fp_eX10_odds_124_x_x a b = true := pvfp_sub (l1 := fpL_X10_costOfRound_124_x) (l2 := fpL_eX10_odds_124_x_x) (by decide) a b h
set_option maxHeartbeats 4000000 in
set_option maxRecDepth 10000 in
theorem se_X10_odds_124_x_x (M : pvM) (hok : pvOk M) (n1 : Int32) (n2 : Int32) (hz : pvWF M) (d : Nat) : PW 58 d (0, [some (pvR 124), some (pvI n1), some (pvI n2), none, none], [], M) (fun r X => (∃ x : Int64, r = some (pvJ x)) ∧ pvOk X ∧ pvFr fp_eX10_odds_124_x_x M X ∧ X.1 124 4 = M.1 124 4) := by
  have hT : pvdom 58 = pvD_58 := rfl
  refine pw_blk hT 2 (S' := (2, [some (pvR 124), some (pvI n1), some (pvI n2), none, none], [pvI n1, pvR 124], M)) rfl ⟨trivial, trivial, trivial⟩ ?_
  refine pw_callT hT (as := [pvR 124, pvI n1]) (lo1 := [some (pvR 124), some (pvI n1)]) (d1 := d) (rest := []) rfl rfl rfl rfl rfl (fun _ => rfl) (Nat.zero_le _) rfl rfl rfl (sf_X10_isLimit_124_x M hok n1 d) ?_
  by_cases c6_ : n1 < 0
  · refine pw_eqI (if_pos c6_) ?_
    have b7_ : (-2147483648) ≤ Int32.toInt n1 ∧ Int32.toInt n1 ≤ (-1) := zr_lt_l (-1) c6_ (zbnd n1) (show 0 ≤ Int32.toInt 0 ∧ Int32.toInt 0 ≤ 0 from (by decide)) (by decide)
    show PW 58 d (5, [some (pvR 124), some (pvI n1), some (pvI n2), none, none], [pvI 0], M) _
    refine pw_if hT (c := 0 = 0) rfl rfl (fun c8_ => ?_) (fun c8_ => absurd (by decide) c8_)
    refine pw_blk hT 1 (S' := (21, [some (pvR 124), some (pvI n1), some (pvI n2), none, none], [pvJ (-9223372036854775808)], M)) rfl ⟨trivial, trivial⟩ ?_
    exact pw_ret hT rfl (r := some (pvJ (-9223372036854775808))) (M' := M) ⟨rfl, rfl⟩ ⟨⟨_, rfl⟩, hok, pvfr_0, rfl⟩
  · refine pw_eqI (if_neg c6_) ?_
    have b9_ : 0 ≤ Int32.toInt n1 ∧ Int32.toInt n1 ≤ 2147483647 := zr_nlt_l 0 c6_ (zbnd n1) (show 0 ≤ Int32.toInt 0 ∧ Int32.toInt 0 ≤ 0 from (by decide)) (by decide)
    by_cases c10_ : 99999 < n1
    · refine pw_eqI (if_pos c10_) ?_
      have b11_ : 100000 ≤ Int32.toInt n1 ∧ Int32.toInt n1 ≤ 2147483647 := zr_lt_r 100000 c10_ b9_ (show 99999 ≤ Int32.toInt 99999 ∧ Int32.toInt 99999 ≤ 99999 from (by decide)) (by decide)
      show PW 58 d (5, [some (pvR 124), some (pvI n1), some (pvI n2), none, none], [pvI 0], M) _
      refine pw_if hT (c := 0 = 0) rfl rfl (fun c12_ => ?_) (fun c12_ => absurd (by decide) c12_)
      refine pw_blk hT 1 (S' := (21, [some (pvR 124), some (pvI n1), some (pvI n2), none, none], [pvJ (-9223372036854775808)], M)) rfl ⟨trivial, trivial⟩ ?_
      exact pw_ret hT rfl (r := some (pvJ (-9223372036854775808))) (M' := M) ⟨rfl, rfl⟩ ⟨⟨_, rfl⟩, hok, pvfr_0, rfl⟩
    · refine pw_eqI (if_neg c10_) ?_
      have b13_ : 0 ≤ Int32.toInt n1 ∧ Int32.toInt n1 ≤ 99999 := zr_nlt_r 99999 c10_ b9_ (show 99999 ≤ Int32.toInt 99999 ∧ Int32.toInt 99999 ≤ 99999 from (by decide)) (by decide)
      show PW 58 d (5, [some (pvR 124), some (pvI n1), some (pvI n2), none, none], [pvI 1], M) _
      refine pw_if hT (c := 1 = 0) rfl rfl (fun c14_ => absurd c14_ (by decide)) (fun c14_ => ?_)
      refine pw_blk hT 4 (S' := (12, [some (pvR 124), some (pvI n1), some (pvI n2), none, none], [pvI 1, pvI 0, pvI n2, pvR 124], M)) rfl ⟨trivial, trivial, trivial, trivial, trivial⟩ ?_
      refine pw_callT hT (as := [pvR 124, pvI n2, pvI 0, pvI 1]) (lo1 := [some (pvR 124), some (pvI n2), some (pvI 0), some (pvI 1)]) (d1 := d) (rest := []) rfl rfl rfl rfl rfl (fun _ => rfl) (Nat.zero_le _) rfl rfl rfl (sf_X10_in_124_x_x_x M hok n2 0 1 d) ?_
      by_cases c20_ : n2 < 0
      · refine pw_eqI (if_pos c20_) ?_
        have b21_ : (-2147483648) ≤ Int32.toInt n2 ∧ Int32.toInt n2 ≤ (-1) := zr_lt_l (-1) c20_ (zbnd n2) (show 0 ≤ Int32.toInt 0 ∧ Int32.toInt 0 ≤ 0 from (by decide)) (by decide)
        show PW 58 d (15, [some (pvR 124), some (pvI n1), some (pvI n2), none, none], [pvI 0], M) _
        refine pw_ifn hT (c := 0 = 0) rfl rfl (fun c22_ => absurd (by decide) c22_) (fun c22_ => ?_)
        refine pw_blk hT 1 (S' := (21, [some (pvR 124), some (pvI n1), some (pvI n2), none, none], [pvJ (-9223372036854775808)], M)) rfl ⟨trivial, trivial⟩ ?_
        exact pw_ret hT rfl (r := some (pvJ (-9223372036854775808))) (M' := M) ⟨rfl, rfl⟩ ⟨⟨_, rfl⟩, hok, pvfr_0, rfl⟩
      · refine pw_eqI (if_neg c20_) ?_
        have b23_ : 0 ≤ Int32.toInt n2 ∧ Int32.toInt n2 ≤ 2147483647 := zr_nlt_l 0 c20_ (zbnd n2) (show 0 ≤ Int32.toInt 0 ∧ Int32.toInt 0 ≤ 0 from (by decide)) (by decide)
        by_cases c24_ : 1 < n2
        · refine pw_eqI (if_pos c24_) ?_
          have b25_ : 2 ≤ Int32.toInt n2 ∧ Int32.toInt n2 ≤ 2147483647 := zr_lt_r 2 c24_ b23_ (show 1 ≤ Int32.toInt 1 ∧ Int32.toInt 1 ≤ 1 from (by decide)) (by decide)
          show PW 58 d (15, [some (pvR 124), some (pvI n1), some (pvI n2), none, none], [pvI 0], M) _
          refine pw_ifn hT (c := 0 = 0) rfl rfl (fun c26_ => absurd (by decide) c26_) (fun c26_ => ?_)
          refine pw_blk hT 1 (S' := (21, [some (pvR 124), some (pvI n1), some (pvI n2), none, none], [pvJ (-9223372036854775808)], M)) rfl ⟨trivial, trivial⟩ ?_
          exact pw_ret hT rfl (r := some (pvJ (-9223372036854775808))) (M' := M) ⟨rfl, rfl⟩ ⟨⟨_, rfl⟩, hok, pvfr_0, rfl⟩
        · refine pw_eqI (if_neg c24_) ?_
          have b27_ : 0 ≤ Int32.toInt n2 ∧ Int32.toInt n2 ≤ 1 := zr_nlt_r 1 c24_ b23_ (show 1 ≤ Int32.toInt 1 ∧ Int32.toInt 1 ≤ 1 from (by decide)) (by decide)
          show PW 58 d (15, [some (pvR 124), some (pvI n1), some (pvI n2), none, none], [pvI 1], M) _
          refine pw_ifn hT (c := 1 = 0) rfl rfl (fun c28_ => ?_) (fun c28_ => absurd c28_ (by decide))
          have b29_ : 0 ≤ Int32.toInt (M.1 124 4) ∧ Int32.toInt (M.1 124 4) ≤ 4 := pvok_r hok 124 4 rfl
          refine pw_blkw hT 8 (pc := 35) (lo := [some (pvR 124), some (pvI n1), some (pvI n2), some (pvI (M.1 124 4)), some (pvI 0)]) (st := []) (M := pvu M 124 4 0) rfl ⟨trivial, rfl, trivial, trivial, trivial, trivial, trivial, rfl, trivial⟩ (fun M30_ e31_ => ?_)
          have o32_ : pvOk M30_ := pvok_u2 e31_ hok rfl (zr_wide (show 0 ≤ Int32.toInt 0 ∧ Int32.toInt 0 ≤ 0 from (by decide)) (by decide) (by decide))
          have f33_ : pvFr fp_eX10_odds_124_x_x M M30_ := pvfr_u e31_ pvfr_0 rfl
          have hlz206_ : ∀ (nz206_ : Nat) (i4z206_ : Int32) (Mz206_ : pvM), (pvOk Mz206_) → (pvFr fp_eX10_odds_124_x_x M Mz206_) → (0 ≤ Int32.toInt i4z206_ ∧ Int32.toInt i4z206_ ≤ 4) → (Int32.toInt i4z206_ ≤ Int32.toInt (Mz206_.1 124 4)) → (zhide ((5 - Int32.toInt (Mz206_.1 124 4)).toNat < nz206_)) → PW 58 d (35, [some (pvR 124), some (pvI n1), some (pvI n2), some (pvI (M.1 124 4)), some (pvI i4z206_)], [], Mz206_) (fun r X => (∃ x : Int64, r = some (pvJ x)) ∧ pvOk X ∧ pvFr fp_eX10_odds_124_x_x M X ∧ X.1 124 4 = M.1 124 4) := by
            intro nz206_
            induction nz206_ with
            | zero => intro i4z206_ Mz206_ oz206_ fz206_ h4z206_ j0z206_ hmz206_; exact absurd (zshow hmz206_) (Nat.not_lt_zero _)
            | succ nz206_ ihz206_ =>
              intro i4z206_ Mz206_ oz206_ fz206_ h4z206_ j0z206_ hmz206_
              have b207_ : 0 ≤ Int32.toInt (Mz206_.1 124 4) ∧ Int32.toInt (Mz206_.1 124 4) ≤ 4 := pvok_r oz206_ 124 4 rfl
              refine pw_blk hT 3 (S' := (40, [some (pvR 124), some (pvI n1), some (pvI n2), some (pvI (M.1 124 4)), some (pvI i4z206_)], [pvI 4, pvI (Mz206_.1 124 4)], Mz206_)) rfl ⟨trivial, rfl, trivial, trivial⟩ ?_
              refine pw_ic hT (c := 4 ≤ (Mz206_.1 124 4)) rfl rfl (fun c208_ => ?_) (fun c208_ => ?_)
              · have b209_ : 4 ≤ Int32.toInt (Mz206_.1 124 4) ∧ Int32.toInt (Mz206_.1 124 4) ≤ 4 := zr_le_r 4 c208_ b207_ (show 4 ≤ Int32.toInt 4 ∧ Int32.toInt 4 ≤ 4 from (by decide)) (by decide)
                refine pw_blkw hT 3 (pc := 80) (lo := [some (pvR 124), some (pvI n1), some (pvI n2), some (pvI (M.1 124 4)), some (pvI i4z206_)]) (st := []) (M := pvu Mz206_ 124 4 (M.1 124 4)) rfl ⟨trivial, trivial, rfl, trivial⟩ (fun M210_ e211_ => ?_)
                have o212_ : pvOk M210_ := pvok_u2 e211_ oz206_ rfl b29_
                have f213_ : pvFr fp_eX10_odds_124_x_x M M210_ := pvfr_u e211_ fz206_ rfl
                refine pw_blk hT 4 (S' := (85, [some (pvR 124), some (pvI n1), some (pvI n2), some (pvI (M.1 124 4)), some (pvI i4z206_)], [pvI n2, pvI 4, pvI i4z206_, pvR 124], M210_)) rfl ⟨trivial, trivial, trivial, trivial, trivial⟩ ?_
                refine pw_callJp hT (as := [pvR 124, pvI i4z206_, pvI 4, pvI n2]) (lo1 := [some (pvR 124), some (pvI i4z206_), some (pvI 4), some (pvI n2), none]) (d1 := d) (rest := []) rfl rfl rfl rfl rfl (fun _ => rfl) (Nat.zero_le _) rfl rfl rfl (sf_X10_lowest_124_x_x_x M210_ o212_ i4z206_ 4 n2 (zr_wide h4z206_ (by decide) (by decide)) (zr_wide (show 4 ≤ Int32.toInt 4 ∧ Int32.toInt 4 ≤ 4 from (by decide)) (by decide) (by decide)) d) (fun x214_ b216_ => ?_)
                exact pw_ret hT rfl (r := some (pvJ x214_)) (M' := M210_) ⟨rfl, rfl⟩ ⟨⟨_, rfl⟩, o212_, f213_, (pvu_s e211_)⟩
              · have b219_ : 0 ≤ Int32.toInt (Mz206_.1 124 4) ∧ Int32.toInt (Mz206_.1 124 4) ≤ 3 := zr_nle_r 3 c208_ b207_ (show 4 ≤ Int32.toInt 4 ∧ Int32.toInt 4 ≤ 4 from (by decide)) (by decide)
                refine pw_blk hT 3 (S' := (47, [some (pvR 124), some (pvI n1), some (pvI n2), some (pvI (M.1 124 4)), some (pvI i4z206_)], [pvI 0, pvR 124, pvI i4z206_], Mz206_)) rfl ⟨trivial, trivial, trivial, trivial⟩ ?_
                have u220_ : Int32.toInt 0 = 0 := by decide
                refine pw_callG hT (as := [pvR 124, pvI 0]) (lo1 := [some (pvR 124), some (pvI 0)]) (d1 := d) (rest := [pvI i4z206_]) rfl rfl rfl rfl rfl (fun _ => rfl) (Nat.zero_le _) rfl rfl rfl (sf_X10_costOfRound_124_x Mz206_ oz206_ 0 (zr_wide (show 0 ≤ Int32.toInt 0 ∧ Int32.toInt 0 ≤ 0 from (by decide)) (by decide) (by decide)) (pvWF_fr (L := fpL_eX10_odds_124_x_x) rfl fz206_ hz) d) (fun x221_ M222_ b223_ o224_ g225_ => ?_)
                have f226_ : pvFr fp_eX10_odds_124_x_x M M222_ := pvfr_t g225_ fz206_ fp_eX10_odds_124_x_x_fp_X10_costOfRound_124_x
                refine pw_blk hT 1 (S' := (51, [some (pvR 124), some (pvI n1), some (pvI n2), some (pvI (M.1 124 4)), some (pvI i4z206_)], [pvI n1, pvI x221_, pvI i4z206_], M222_)) rfl ⟨trivial, trivial⟩ ?_
                refine pw_ic hT (c := n1 < x221_) rfl rfl (fun c227_ => ?_) (fun c227_ => ?_)
                · have b228_ : 1 ≤ Int32.toInt x221_ ∧ Int32.toInt x221_ ≤ 9000000 := zr_lt_r 1 c227_ b223_ b13_ (by decide)
                  have d229_ : Int32.toInt n1 < Int32.toInt x221_ := (zi_lt _ _).mp c227_
                  obtain ⟨q231_, b230_⟩ : (Int32.toInt (i4z206_ + 0) = Int32.toInt i4z206_ + 0) ∧ (0 ≤ Int32.toInt (i4z206_ + 0) ∧ Int32.toInt (i4z206_ + 0) ≤ 4) := zadd_k i4z206_ 0 0 0 4 h4z206_ (by decide) (by decide) (by decide) (by decide) (by decide)
                  have e232_ : (M222_.1 124 4) = (Mz206_.1 124 4) := (g225_ 124 4 rfl)
                  have b233_ : 0 ≤ Int32.toInt (M222_.1 124 4) ∧ Int32.toInt (M222_.1 124 4) ≤ 3 := (by rw [e232_]; exact b219_)
                  have d234_ : Int32.toInt (M222_.1 124 4) = Int32.toInt (Mz206_.1 124 4) := congrArg Int32.toInt e232_
                  obtain ⟨q236_, b235_⟩ : (Int32.toInt ((M222_.1 124 4) + 1) = Int32.toInt (M222_.1 124 4) + 1) ∧ (1 ≤ Int32.toInt ((M222_.1 124 4) + 1) ∧ Int32.toInt ((M222_.1 124 4) + 1) ≤ 4) := zadd_k (M222_.1 124 4) 1 1 1 4 b233_ (by decide) (by decide) (by decide) (by decide) (by decide)
                  refine pw_blkw hT 9 (pc := 72) (lo := [some (pvR 124), some (pvI n1), some (pvI n2), some (pvI (M.1 124 4)), some (pvI (i4z206_ + 0))]) (st := []) (M := pvu M222_ 124 4 ((M222_.1 124 4) + 1)) rfl ⟨trivial, trivial, trivial, trivial, trivial, rfl, trivial, trivial, rfl, trivial⟩ (fun M237_ e238_ => ?_)
                  have o239_ : pvOk M237_ := pvok_u2 e238_ o224_ rfl (zr_wide b235_ (by decide) (by decide))
                  have f240_ : pvFr fp_eX10_odds_124_x_x M M237_ := pvfr_u e238_ f226_ rfl
                  refine pw_blk hT 1 (S' := (35, [some (pvR 124), some (pvI n1), some (pvI n2), some (pvI (M.1 124 4)), some (pvI (i4z206_ + 0))], [], M237_)) rfl ⟨trivial, trivial⟩ ?_
                  have j241_ : Int32.toInt (i4z206_ + 0) ≤ Int32.toInt (M237_.1 124 4) := by have z1 : Int32.toInt (M237_.1 124 4) = Int32.toInt ((M222_.1 124 4) + 1) := congrArg Int32.toInt (pvu_s e238_); have z2 : Int32.toInt (M222_.1 124 4) = Int32.toInt (Mz206_.1 124 4) := congrArg Int32.toInt (g225_ 124 4 rfl); have y01 : Int32.toInt (M237_.1 124 4) = Int32.toInt ((M222_.1 124 4) + 1) := congrArg Int32.toInt (pvu_s e238_); have y02 : Int32.toInt (M222_.1 124 4) = Int32.toInt (Mz206_.1 124 4) := congrArg Int32.toInt (g225_ 124 4 rfl); omega
                  exact ihz206_ (i4z206_ + 0) M237_ o239_ f240_ b230_ j241_ (zhid (by have hm0 := zshow hmz206_; have z1 : Int32.toInt (M237_.1 124 4) = Int32.toInt ((M222_.1 124 4) + 1) := congrArg Int32.toInt (pvu_s e238_); have z2 : Int32.toInt (M222_.1 124 4) = Int32.toInt (Mz206_.1 124 4) := congrArg Int32.toInt (g225_ 124 4 rfl); have y01 : Int32.toInt (M237_.1 124 4) = Int32.toInt ((M222_.1 124 4) + 1) := congrArg Int32.toInt (pvu_s e238_); have y02 : Int32.toInt (M222_.1 124 4) = Int32.toInt (Mz206_.1 124 4) := congrArg Int32.toInt (g225_ 124 4 rfl); omega))
                · have b242_ : 0 ≤ Int32.toInt x221_ ∧ Int32.toInt x221_ ≤ 99999 := zr_nlt_r 99999 c227_ b223_ b13_ (by decide)
                  have d243_ : Int32.toInt n1 ≥ Int32.toInt x221_ := Int.not_lt.mp ((not_congr (zi_lt _ _)).mp c227_)
                  obtain ⟨q245_, b244_⟩ : (Int32.toInt (i4z206_ + 1) = Int32.toInt i4z206_ + 1) ∧ (1 ≤ Int32.toInt (i4z206_ + 1) ∧ Int32.toInt (i4z206_ + 1) ≤ 5) := zadd_k i4z206_ 1 1 1 5 h4z206_ (by decide) (by decide) (by decide) (by decide) (by decide)
                  have e246_ : (M222_.1 124 4) = (Mz206_.1 124 4) := (g225_ 124 4 rfl)
                  have b247_ : 0 ≤ Int32.toInt (M222_.1 124 4) ∧ Int32.toInt (M222_.1 124 4) ≤ 3 := (by rw [e246_]; exact b219_)
                  have d248_ : Int32.toInt (M222_.1 124 4) = Int32.toInt (Mz206_.1 124 4) := congrArg Int32.toInt e246_
                  obtain ⟨q250_, b249_⟩ : (Int32.toInt ((M222_.1 124 4) + 1) = Int32.toInt (M222_.1 124 4) + 1) ∧ (1 ≤ Int32.toInt ((M222_.1 124 4) + 1) ∧ Int32.toInt ((M222_.1 124 4) + 1) ≤ 4) := zadd_k (M222_.1 124 4) 1 1 1 4 b247_ (by decide) (by decide) (by decide) (by decide) (by decide)
                  refine pw_blkw hT 10 (pc := 72) (lo := [some (pvR 124), some (pvI n1), some (pvI n2), some (pvI (M.1 124 4)), some (pvI (i4z206_ + 1))]) (st := []) (M := pvu M222_ 124 4 ((M222_.1 124 4) + 1)) rfl ⟨trivial, trivial, trivial, trivial, trivial, trivial, rfl, trivial, trivial, rfl, trivial⟩ (fun M251_ e252_ => ?_)
                  have o253_ : pvOk M251_ := pvok_u2 e252_ o224_ rfl (zr_wide b249_ (by decide) (by decide))
                  have f254_ : pvFr fp_eX10_odds_124_x_x M M251_ := pvfr_u e252_ f226_ rfl
                  refine pw_blk hT 1 (S' := (35, [some (pvR 124), some (pvI n1), some (pvI n2), some (pvI (M.1 124 4)), some (pvI (i4z206_ + 1))], [], M251_)) rfl ⟨trivial, trivial⟩ ?_
                  have j255_ : Int32.toInt (i4z206_ + 1) ≤ Int32.toInt (M251_.1 124 4) := by have z1 : Int32.toInt (M251_.1 124 4) = Int32.toInt ((M222_.1 124 4) + 1) := congrArg Int32.toInt (pvu_s e252_); have z2 : Int32.toInt (M222_.1 124 4) = Int32.toInt (Mz206_.1 124 4) := congrArg Int32.toInt (g225_ 124 4 rfl); have y01 : Int32.toInt (M251_.1 124 4) = Int32.toInt ((M222_.1 124 4) + 1) := congrArg Int32.toInt (pvu_s e252_); have y02 : Int32.toInt (M222_.1 124 4) = Int32.toInt (Mz206_.1 124 4) := congrArg Int32.toInt (g225_ 124 4 rfl); omega
                  exact ihz206_ (i4z206_ + 1) M251_ o253_ f254_ (by have u0 := b244_; omega) j255_ (zhid (by have hm0 := zshow hmz206_; have z1 : Int32.toInt (M251_.1 124 4) = Int32.toInt ((M222_.1 124 4) + 1) := congrArg Int32.toInt (pvu_s e252_); have z2 : Int32.toInt (M222_.1 124 4) = Int32.toInt (Mz206_.1 124 4) := congrArg Int32.toInt (g225_ 124 4 rfl); have y01 : Int32.toInt (M251_.1 124 4) = Int32.toInt ((M222_.1 124 4) + 1) := congrArg Int32.toInt (pvu_s e252_); have y02 : Int32.toInt (M222_.1 124 4) = Int32.toInt (Mz206_.1 124 4) := congrArg Int32.toInt (g225_ 124 4 rfl); omega))
          have u256_ : Int32.toInt 0 = 0 := by decide
          have j257_ : Int32.toInt 0 ≤ Int32.toInt (M30_.1 124 4) := by have y01 : Int32.toInt (M30_.1 124 4) = Int32.toInt 0 := congrArg Int32.toInt (pvu_s e31_); have y03 : Int32.toInt 0 = 0 := (by decide); omega
          exact hlz206_ _ 0 M30_ o32_ f33_ (zr_wide (show 0 ≤ Int32.toInt 0 ∧ Int32.toInt 0 ≤ 0 from (by decide)) (by decide) (by decide)) j257_ (zhid (Nat.lt_succ_self _))
def fpL_eX10_row_124_x_x_x : List (Nat × Nat × Nat) := [(0, 130, 0)]
def fp_eX10_row_124_x_x_x (q k : Nat) : Bool := pvfp fpL_eX10_row_124_x_x_x q k
set_option maxHeartbeats 4000000 in
set_option maxRecDepth 10000 in
theorem se_X10_row_124_x_x_x (M : pvM) (hok : pvOk M) (n1 : Int32) (n2 : Int32) (n3 : Int32) (d : Nat) : PW 70 d (0, [some (pvR 124), some (pvI n1), some (pvI n2), some (pvI n3), none], [], M) (fun r X => (∃ x : Int32, r = some (pvI x) ∧ ((-3) ≤ Int32.toInt x ∧ Int32.toInt x ≤ 9) ∧ x = (if n1 < 0 then (-1) else (if ((M.1 124 0) - 1) < n1 then (-1) else (if n2 < 0 then (-1) else (if 3 < n2 then (-1) else (if n3 < 0 then (-2) else (if 9 < n3 then (-2) else (if (M.1 125 (Int32.toNatClampNeg n1)) = 6 then (M.1 130 (Int32.toNatClampNeg ((4 * n1) + n2))) else (-3))))))))) ∧ pvOk X ∧ pvFr fp_eX10_row_124_x_x_x M X ∧ zV10 n1 n2 n3 r M X) := by
  have hT : pvdom 70 = pvD_70 := rfl
  refine pw_blk hT 2 (S' := (2, [some (pvR 124), some (pvI n1), some (pvI n2), some (pvI n3), none], [pvI n1, pvR 124], M)) rfl ⟨trivial, trivial, trivial⟩ ?_
  refine pw_callT hT (as := [pvR 124, pvI n1]) (lo1 := [some (pvR 124), some (pvI n1)]) (d1 := d) (rest := []) rfl rfl rfl rfl rfl (fun _ => rfl) (Nat.zero_le _) rfl rfl rfl (sf_X10_isWindow_124_x M hok n1 d) ?_
  by_cases c6_ : n1 < 0
  · refine pw_eqI (if_pos c6_) ?_
    have b7_ : (-2147483648) ≤ Int32.toInt n1 ∧ Int32.toInt n1 ≤ (-1) := zr_lt_l (-1) c6_ (zbnd n1) (show 0 ≤ Int32.toInt 0 ∧ Int32.toInt 0 ≤ 0 from (by decide)) (by decide)
    show PW 70 d (5, [some (pvR 124), some (pvI n1), some (pvI n2), some (pvI n3), none], [pvI 0], M) _
    refine pw_if hT (c := 0 = 0) rfl rfl (fun c8_ => ?_) (fun c8_ => absurd (by decide) c8_)
    refine pw_blk hT 1 (S' := (19, [some (pvR 124), some (pvI n1), some (pvI n2), some (pvI n3), none], [pvI (-1)], M)) rfl ⟨trivial, trivial⟩ ?_
    exact pw_ret hT rfl (r := some (pvI (-1))) (M' := M) ⟨rfl, rfl⟩ ⟨⟨_, rfl, (zr_wide (show (-1) ≤ Int32.toInt (-1) ∧ Int32.toInt (-1) ≤ (-1) from (by decide)) (by decide) (by decide)), (by rw [if_pos c6_]; first | done | (rw [if_pos c6_]; done))⟩, hok, pvfr_0, ⟨_, rfl, Or.inl ⟨by decide, zKm_r 125 130 M⟩⟩⟩
  · refine pw_eqI (if_neg c6_) ?_
    have b9_ : 0 ≤ Int32.toInt n1 ∧ Int32.toInt n1 ≤ 2147483647 := zr_nlt_l 0 c6_ (zbnd n1) (show 0 ≤ Int32.toInt 0 ∧ Int32.toInt 0 ≤ 0 from (by decide)) (by decide)
    have b10_ : 0 ≤ Int32.toInt (M.1 124 0) ∧ Int32.toInt (M.1 124 0) ≤ 7 := pvok_r hok 124 0 rfl
    obtain ⟨q12_, b11_⟩ : (Int32.toInt ((M.1 124 0) - 1) = Int32.toInt (M.1 124 0) - 1) ∧ ((-1) ≤ Int32.toInt ((M.1 124 0) - 1) ∧ Int32.toInt ((M.1 124 0) - 1) ≤ 6) := zsub_k (M.1 124 0) 1 1 (-1) 6 b10_ (by decide) (by decide) (by decide) (by decide) (by decide)
    by_cases c13_ : ((M.1 124 0) - 1) < n1
    · refine pw_eqI (if_pos c13_) ?_
      have d14_ : Int32.toInt ((M.1 124 0) - 1) < Int32.toInt n1 := (zi_lt _ _).mp c13_
      show PW 70 d (5, [some (pvR 124), some (pvI n1), some (pvI n2), some (pvI n3), none], [pvI 0], M) _
      refine pw_if hT (c := 0 = 0) rfl rfl (fun c15_ => ?_) (fun c15_ => absurd (by decide) c15_)
      refine pw_blk hT 1 (S' := (19, [some (pvR 124), some (pvI n1), some (pvI n2), some (pvI n3), none], [pvI (-1)], M)) rfl ⟨trivial, trivial⟩ ?_
      exact pw_ret hT rfl (r := some (pvI (-1))) (M' := M) ⟨rfl, rfl⟩ ⟨⟨_, rfl, (zr_wide (show (-1) ≤ Int32.toInt (-1) ∧ Int32.toInt (-1) ≤ (-1) from (by decide)) (by decide) (by decide)), (by rw [if_neg c6_, if_pos c13_]; first | done | (rw [if_pos c13_]; done))⟩, hok, pvfr_0, ⟨_, rfl, Or.inl ⟨by decide, zKm_r 125 130 M⟩⟩⟩
    · refine pw_eqI (if_neg c13_) ?_
      have b16_ : 0 ≤ Int32.toInt ((M.1 124 0) - 1) ∧ Int32.toInt ((M.1 124 0) - 1) ≤ 6 := zr_nlt_l 0 c13_ b11_ b9_ (by decide)
      have b17_ : 0 ≤ Int32.toInt n1 ∧ Int32.toInt n1 ≤ 6 := zr_nlt_r 6 c13_ b9_ b16_ (by decide)
      have d18_ : Int32.toInt ((M.1 124 0) - 1) ≥ Int32.toInt n1 := Int.not_lt.mp ((not_congr (zi_lt _ _)).mp c13_)
      show PW 70 d (5, [some (pvR 124), some (pvI n1), some (pvI n2), some (pvI n3), none], [pvI 1], M) _
      refine pw_if hT (c := 1 = 0) rfl rfl (fun c19_ => absurd c19_ (by decide)) (fun c19_ => ?_)
      refine pw_blk hT 4 (S' := (12, [some (pvR 124), some (pvI n1), some (pvI n2), some (pvI n3), none], [pvI 3, pvI 0, pvI n2, pvR 124], M)) rfl ⟨trivial, trivial, trivial, trivial, trivial⟩ ?_
      refine pw_callT hT (as := [pvR 124, pvI n2, pvI 0, pvI 3]) (lo1 := [some (pvR 124), some (pvI n2), some (pvI 0), some (pvI 3)]) (d1 := d) (rest := []) rfl rfl rfl rfl rfl (fun _ => rfl) (Nat.zero_le _) rfl rfl rfl (sf_X10_in_124_x_x_x M hok n2 0 3 d) ?_
      by_cases c25_ : n2 < 0
      · refine pw_eqI (if_pos c25_) ?_
        have b26_ : (-2147483648) ≤ Int32.toInt n2 ∧ Int32.toInt n2 ≤ (-1) := zr_lt_l (-1) c25_ (zbnd n2) (show 0 ≤ Int32.toInt 0 ∧ Int32.toInt 0 ≤ 0 from (by decide)) (by decide)
        show PW 70 d (15, [some (pvR 124), some (pvI n1), some (pvI n2), some (pvI n3), none], [pvI 0], M) _
        refine pw_ifn hT (c := 0 = 0) rfl rfl (fun c27_ => absurd (by decide) c27_) (fun c27_ => ?_)
        refine pw_blk hT 1 (S' := (19, [some (pvR 124), some (pvI n1), some (pvI n2), some (pvI n3), none], [pvI (-1)], M)) rfl ⟨trivial, trivial⟩ ?_
        exact pw_ret hT rfl (r := some (pvI (-1))) (M' := M) ⟨rfl, rfl⟩ ⟨⟨_, rfl, (zr_wide (show (-1) ≤ Int32.toInt (-1) ∧ Int32.toInt (-1) ≤ (-1) from (by decide)) (by decide) (by decide)), (by rw [if_neg c6_, if_neg c13_, if_pos c25_]; first | done | (rw [if_pos c25_]; done))⟩, hok, pvfr_0, ⟨_, rfl, Or.inl ⟨by decide, zKm_r 125 130 M⟩⟩⟩
      · refine pw_eqI (if_neg c25_) ?_
        have b28_ : 0 ≤ Int32.toInt n2 ∧ Int32.toInt n2 ≤ 2147483647 := zr_nlt_l 0 c25_ (zbnd n2) (show 0 ≤ Int32.toInt 0 ∧ Int32.toInt 0 ≤ 0 from (by decide)) (by decide)
        by_cases c29_ : 3 < n2
        · refine pw_eqI (if_pos c29_) ?_
          have b30_ : 4 ≤ Int32.toInt n2 ∧ Int32.toInt n2 ≤ 2147483647 := zr_lt_r 4 c29_ b28_ (show 3 ≤ Int32.toInt 3 ∧ Int32.toInt 3 ≤ 3 from (by decide)) (by decide)
          show PW 70 d (15, [some (pvR 124), some (pvI n1), some (pvI n2), some (pvI n3), none], [pvI 0], M) _
          refine pw_ifn hT (c := 0 = 0) rfl rfl (fun c31_ => absurd (by decide) c31_) (fun c31_ => ?_)
          refine pw_blk hT 1 (S' := (19, [some (pvR 124), some (pvI n1), some (pvI n2), some (pvI n3), none], [pvI (-1)], M)) rfl ⟨trivial, trivial⟩ ?_
          exact pw_ret hT rfl (r := some (pvI (-1))) (M' := M) ⟨rfl, rfl⟩ ⟨⟨_, rfl, (zr_wide (show (-1) ≤ Int32.toInt (-1) ∧ Int32.toInt (-1) ≤ (-1) from (by decide)) (by decide) (by decide)), (by rw [if_neg c6_, if_neg c13_, if_neg c25_, if_pos c29_]; first | done | (rw [if_pos c29_]; done))⟩, hok, pvfr_0, ⟨_, rfl, Or.inl ⟨by decide, zKm_r 125 130 M⟩⟩⟩
        · refine pw_eqI (if_neg c29_) ?_
          have b32_ : 0 ≤ Int32.toInt n2 ∧ Int32.toInt n2 ≤ 3 := zr_nlt_r 3 c29_ b28_ (show 3 ≤ Int32.toInt 3 ∧ Int32.toInt 3 ≤ 3 from (by decide)) (by decide)
          show PW 70 d (15, [some (pvR 124), some (pvI n1), some (pvI n2), some (pvI n3), none], [pvI 1], M) _
          refine pw_ifn hT (c := 1 = 0) rfl rfl (fun c33_ => ?_) (fun c33_ => absurd c33_ (by decide))
          refine pw_blk hT 4 (S' := (25, [some (pvR 124), some (pvI n1), some (pvI n2), some (pvI n3), none], [pvI 9, pvI 0, pvI n3, pvR 124], M)) rfl ⟨trivial, trivial, trivial, trivial, trivial⟩ ?_
          refine pw_callT hT (as := [pvR 124, pvI n3, pvI 0, pvI 9]) (lo1 := [some (pvR 124), some (pvI n3), some (pvI 0), some (pvI 9)]) (d1 := d) (rest := []) rfl rfl rfl rfl rfl (fun _ => rfl) (Nat.zero_le _) rfl rfl rfl (sf_X10_in_124_x_x_x M hok n3 0 9 d) ?_
          by_cases c39_ : n3 < 0
          · refine pw_eqI (if_pos c39_) ?_
            have b40_ : (-2147483648) ≤ Int32.toInt n3 ∧ Int32.toInt n3 ≤ (-1) := zr_lt_l (-1) c39_ (zbnd n3) (show 0 ≤ Int32.toInt 0 ∧ Int32.toInt 0 ≤ 0 from (by decide)) (by decide)
            show PW 70 d (28, [some (pvR 124), some (pvI n1), some (pvI n2), some (pvI n3), none], [pvI 0], M) _
            refine pw_ifn hT (c := 0 = 0) rfl rfl (fun c41_ => absurd (by decide) c41_) (fun c41_ => ?_)
            refine pw_blk hT 1 (S' := (33, [some (pvR 124), some (pvI n1), some (pvI n2), some (pvI n3), none], [pvI (-2)], M)) rfl ⟨trivial, trivial⟩ ?_
            exact pw_ret hT rfl (r := some (pvI (-2))) (M' := M) ⟨rfl, rfl⟩ ⟨⟨_, rfl, (zr_wide (show (-2) ≤ Int32.toInt (-2) ∧ Int32.toInt (-2) ≤ (-2) from (by decide)) (by decide) (by decide)), (by rw [if_neg c6_, if_neg c13_, if_neg c25_, if_neg c29_, if_pos c39_]; first | done | (rw [if_pos c39_]; done))⟩, hok, pvfr_0, ⟨_, rfl, Or.inl ⟨by decide, zKm_r 125 130 M⟩⟩⟩
          · refine pw_eqI (if_neg c39_) ?_
            have b42_ : 0 ≤ Int32.toInt n3 ∧ Int32.toInt n3 ≤ 2147483647 := zr_nlt_l 0 c39_ (zbnd n3) (show 0 ≤ Int32.toInt 0 ∧ Int32.toInt 0 ≤ 0 from (by decide)) (by decide)
            by_cases c43_ : 9 < n3
            · refine pw_eqI (if_pos c43_) ?_
              have b44_ : 10 ≤ Int32.toInt n3 ∧ Int32.toInt n3 ≤ 2147483647 := zr_lt_r 10 c43_ b42_ (show 9 ≤ Int32.toInt 9 ∧ Int32.toInt 9 ≤ 9 from (by decide)) (by decide)
              show PW 70 d (28, [some (pvR 124), some (pvI n1), some (pvI n2), some (pvI n3), none], [pvI 0], M) _
              refine pw_ifn hT (c := 0 = 0) rfl rfl (fun c45_ => absurd (by decide) c45_) (fun c45_ => ?_)
              refine pw_blk hT 1 (S' := (33, [some (pvR 124), some (pvI n1), some (pvI n2), some (pvI n3), none], [pvI (-2)], M)) rfl ⟨trivial, trivial⟩ ?_
              exact pw_ret hT rfl (r := some (pvI (-2))) (M' := M) ⟨rfl, rfl⟩ ⟨⟨_, rfl, (zr_wide (show (-2) ≤ Int32.toInt (-2) ∧ Int32.toInt (-2) ≤ (-2) from (by decide)) (by decide) (by decide)), (by rw [if_neg c6_, if_neg c13_, if_neg c25_, if_neg c29_, if_neg c39_, if_pos c43_]; first | done | (rw [if_pos c43_]; done))⟩, hok, pvfr_0, ⟨_, rfl, Or.inl ⟨by decide, zKm_r 125 130 M⟩⟩⟩
            · refine pw_eqI (if_neg c43_) ?_
              have b46_ : 0 ≤ Int32.toInt n3 ∧ Int32.toInt n3 ≤ 9 := zr_nlt_r 9 c43_ b42_ (show 9 ≤ Int32.toInt 9 ∧ Int32.toInt 9 ≤ 9 from (by decide)) (by decide)
              show PW 70 d (28, [some (pvR 124), some (pvI n1), some (pvI n2), some (pvI n3), none], [pvI 1], M) _
              refine pw_ifn hT (c := 1 = 0) rfl rfl (fun c47_ => ?_) (fun c47_ => absurd c47_ (by decide))
              have b48_ : 0 ≤ Int32.toInt (M.1 125 (Int32.toNatClampNeg n1)) ∧ Int32.toInt (M.1 125 (Int32.toNatClampNeg n1)) ≤ 6 := pvok_r hok 125 (Int32.toNatClampNeg n1) rfl
              refine pw_blk hT 5 (S' := (42, [some (pvR 124), some (pvI n1), some (pvI n2), some (pvI n3), none], [pvI 6, pvI (M.1 125 (Int32.toNatClampNeg n1))], M)) rfl ⟨trivial, rfl, trivial, ⟨rfl, (zr_in (n := 7) b17_ (by decide) (by decide))⟩, trivial, trivial⟩ ?_
              refine pw_ic hT (c := (M.1 125 (Int32.toNatClampNeg n1)) = 6) rfl rfl (fun c49_ => ?_) (fun c49_ => ?_)
              · have b50_ : 6 ≤ Int32.toInt (M.1 125 (Int32.toNatClampNeg n1)) ∧ Int32.toInt (M.1 125 (Int32.toNatClampNeg n1)) ≤ 6 := (by have u0 := b48_; have u1 := (zi_eq _ _).mp c49_; have u2 := (show 6 ≤ Int32.toInt 6 ∧ Int32.toInt 6 ≤ 6 from (by decide)); omega)
                have q51_ : Int32.toInt (4 * n1) = 4 * Int32.toInt n1 := by have u0 : Int32.toInt 4 = 4 := (by decide); have u1 := b17_; have u2 := zmul 4 n1 (by rw [u0]; omega) (by rw [u0]; omega); rw [u0] at u2; omega
                have b52_ : 0 ≤ Int32.toInt (4 * n1) ∧ Int32.toInt (4 * n1) ≤ 24 := (by have u1 := b17_; omega)
                obtain ⟨q54_, b53_⟩ : (Int32.toInt ((4 * n1) + n2) = Int32.toInt (4 * n1) + Int32.toInt n2) ∧ (0 ≤ Int32.toInt ((4 * n1) + n2) ∧ Int32.toInt ((4 * n1) + n2) ≤ 27) := zadd_r (4 * n1) n2 0 27 b52_ b32_ (by decide) (by decide) (by decide) (by decide)
                have b55_ : 0 ≤ Int32.toInt (M.1 130 (Int32.toNatClampNeg ((4 * n1) + n2))) ∧ Int32.toInt (M.1 130 (Int32.toNatClampNeg ((4 * n1) + n2))) ≤ 9 := pvok_r hok 130 (Int32.toNatClampNeg ((4 * n1) + n2)) rfl
                refine pw_blkw hT 18 (pc := 71) (lo := [some (pvR 124), some (pvI n1), some (pvI n2), some (pvI n3), some (pvI (M.1 130 (Int32.toNatClampNeg ((4 * n1) + n2))))]) (st := []) (M := pvu M 130 (Int32.toNatClampNeg ((4 * n1) + n2)) n3) rfl ⟨trivial, rfl, trivial, trivial, trivial, trivial, trivial, ⟨rfl, (zr_in (n := 28) b53_ (by decide) (by decide))⟩, trivial, trivial, rfl, trivial, trivial, trivial, trivial, trivial, trivial, ⟨rfl, (zr_in (n := 28) b53_ (by decide) (by decide))⟩, trivial⟩ (fun M56_ e57_ => ?_)
                have o58_ : pvOk M56_ := pvok_u2 e57_ hok rfl b46_
                have f59_ : pvFr fp_eX10_row_124_x_x_x M M56_ := pvfr_u e57_ pvfr_0 rfl
                refine pw_blk hT 1 (S' := (73, [some (pvR 124), some (pvI n1), some (pvI n2), some (pvI n3), some (pvI (M.1 130 (Int32.toNatClampNeg ((4 * n1) + n2))))], [pvI (M.1 130 (Int32.toNatClampNeg ((4 * n1) + n2)))], M56_)) rfl ⟨trivial, trivial⟩ ?_
                exact pw_ret hT rfl (r := some (pvI (M.1 130 (Int32.toNatClampNeg ((4 * n1) + n2))))) (M' := M56_) ⟨rfl, rfl⟩ ⟨⟨_, rfl, (zr_wide b55_ (by decide) (by decide)), (by rw [if_neg c6_, if_neg c13_, if_neg c25_, if_neg c29_, if_neg c39_, if_neg c43_, if_pos c49_]; first | done | (rw [if_pos c49_]; done))⟩, o58_, f59_, ⟨_, rfl, Or.inr ⟨(b55_).1, fun i hi => ⟨fun f hf => pvu_n e57_ (125 + f) i (Or.inl (by omega)), fun j hj => zrow10 b17_ b32_ e57_ i j hj⟩⟩⟩⟩
              · have b60_ : 0 ≤ Int32.toInt (M.1 125 (Int32.toNatClampNeg n1)) ∧ Int32.toInt (M.1 125 (Int32.toNatClampNeg n1)) ≤ 5 := (by have u0 := b48_; have u1 := (not_congr (zi_eq _ _)).mp c49_; have u2 := (show 6 ≤ Int32.toInt 6 ∧ Int32.toInt 6 ≤ 6 from (by decide)); omega)
                refine pw_blk hT 1 (S' := (47, [some (pvR 124), some (pvI n1), some (pvI n2), some (pvI n3), none], [pvI (-3)], M)) rfl ⟨trivial, trivial⟩ ?_
                exact pw_ret hT rfl (r := some (pvI (-3))) (M' := M) ⟨rfl, rfl⟩ ⟨⟨_, rfl, (zr_wide (show (-3) ≤ Int32.toInt (-3) ∧ Int32.toInt (-3) ≤ (-3) from (by decide)) (by decide) (by decide)), (by rw [if_neg c6_, if_neg c13_, if_neg c25_, if_neg c29_, if_neg c39_, if_neg c43_, if_neg c49_]; first | done | (rw [if_neg c49_]; done))⟩, hok, pvfr_0, ⟨_, rfl, Or.inl ⟨by decide, zKm_r 125 130 M⟩⟩⟩
def fpL_eX10_see_124_x_x : List (Nat × Nat × Nat) := [(0, 124, 41), (0, 147, 0), (0, 148, 0)]
def fp_eX10_see_124_x_x (q k : Nat) : Bool := pvfp fpL_eX10_see_124_x_x q k
set_option maxHeartbeats 4000000 in
set_option maxRecDepth 10000 in
theorem se_X10_see_124_x_x (M : pvM) (hok : pvOk M) (n1 : Int32) (n2 : Int32) (d : Nat) : PW 71 d (0, [some (pvR 124), some (pvI n1), some (pvI n2)], [], M) (fun r X => (∃ x : Int32, r = some (pvI x) ∧ ((-4) ≤ Int32.toInt x ∧ Int32.toInt x ≤ 6) ∧ x = (if n1 = (-1) then 0 else (if n1 < 0 then (-1) else (if ((M.1 124 0) - 1) < n1 then (-1) else (if n2 < 0 then (-2) else (if 9999 < n2 then (-2) else (if (M.1 124 40) = 6 then (-4) else ((M.1 124 40) + 1)))))))) ∧ pvOk X ∧ pvFr fp_eX10_see_124_x_x M X ∧ X.1 124 40 = (if n1 = (-1) then 0 else (if n1 < 0 then (M.1 124 40) else (if ((M.1 124 0) - 1) < n1 then (M.1 124 40) else (if n2 < 0 then (M.1 124 40) else (if 9999 < n2 then (M.1 124 40) else (if (M.1 124 40) = 6 then (M.1 124 40) else ((M.1 124 40) + 1)))))))) := by
  have hT : pvdom 71 = pvD_71 := rfl
  refine pw_blk hT 2 (S' := (2, [some (pvR 124), some (pvI n1), some (pvI n2)], [pvI (-1), pvI n1], M)) rfl ⟨trivial, trivial, trivial⟩ ?_
  refine pw_icn hT (c := n1 = (-1)) rfl rfl (fun c1_ => ?_) (fun c1_ => ?_)
  · refine pw_blk hT 2 (S' := (14, [some (pvR 124), some (pvI n1), some (pvI n2)], [pvI n1, pvR 124], M)) rfl ⟨trivial, trivial, trivial⟩ ?_
    refine pw_callT hT (as := [pvR 124, pvI n1]) (lo1 := [some (pvR 124), some (pvI n1)]) (d1 := d) (rest := []) rfl rfl rfl rfl rfl (fun _ => rfl) (Nat.zero_le _) rfl rfl rfl (sf_X10_isWindow_124_x M hok n1 d) ?_
    by_cases c7_ : n1 < 0
    · refine pw_eqI (if_pos c7_) ?_
      have b8_ : (-2147483648) ≤ Int32.toInt n1 ∧ Int32.toInt n1 ≤ (-2) := (by have u0 := (zbnd n1); have u9 := (show _ ∧ _ from ⟨(zi_lt _ _).mp c7_, (show 0 ≤ Int32.toInt 0 ∧ Int32.toInt 0 ≤ 0 from (by decide))⟩); have v1 := (not_congr (zi_eq _ _)).mp c1_; have w1 : ((-1) : Int32).toInt = -1 := (by decide); omega)
      show PW 71 d (17, [some (pvR 124), some (pvI n1), some (pvI n2)], [pvI 0], M) _
      refine pw_ifn hT (c := 0 = 0) rfl rfl (fun c9_ => absurd (by decide) c9_) (fun c9_ => ?_)
      refine pw_blk hT 1 (S' := (21, [some (pvR 124), some (pvI n1), some (pvI n2)], [pvI (-1)], M)) rfl ⟨trivial, trivial⟩ ?_
      exact pw_ret hT rfl (r := some (pvI (-1))) (M' := M) ⟨rfl, rfl⟩ ⟨⟨_, rfl, (zr_wide (show (-1) ≤ Int32.toInt (-1) ∧ Int32.toInt (-1) ≤ (-1) from (by decide)) (by decide) (by decide)), (by rw [if_neg c1_, if_pos c7_]; first | done | (rw [if_pos c7_]; done))⟩, hok, pvfr_0, (by rw [if_neg c1_, if_pos c7_]; first | done | exact rfl | (rw [if_pos c7_]; done) | (rw [if_pos c7_]; exact rfl))⟩
    · refine pw_eqI (if_neg c7_) ?_
      have b10_ : 0 ≤ Int32.toInt n1 ∧ Int32.toInt n1 ≤ 2147483647 := zr_nlt_l 0 c7_ (zbnd n1) (show 0 ≤ Int32.toInt 0 ∧ Int32.toInt 0 ≤ 0 from (by decide)) (by decide)
      have b11_ : 0 ≤ Int32.toInt (M.1 124 0) ∧ Int32.toInt (M.1 124 0) ≤ 7 := pvok_r hok 124 0 rfl
      obtain ⟨q13_, b12_⟩ : (Int32.toInt ((M.1 124 0) - 1) = Int32.toInt (M.1 124 0) - 1) ∧ ((-1) ≤ Int32.toInt ((M.1 124 0) - 1) ∧ Int32.toInt ((M.1 124 0) - 1) ≤ 6) := zsub_k (M.1 124 0) 1 1 (-1) 6 b11_ (by decide) (by decide) (by decide) (by decide) (by decide)
      by_cases c14_ : ((M.1 124 0) - 1) < n1
      · refine pw_eqI (if_pos c14_) ?_
        have d15_ : Int32.toInt ((M.1 124 0) - 1) < Int32.toInt n1 := (zi_lt _ _).mp c14_
        show PW 71 d (17, [some (pvR 124), some (pvI n1), some (pvI n2)], [pvI 0], M) _
        refine pw_ifn hT (c := 0 = 0) rfl rfl (fun c16_ => absurd (by decide) c16_) (fun c16_ => ?_)
        refine pw_blk hT 1 (S' := (21, [some (pvR 124), some (pvI n1), some (pvI n2)], [pvI (-1)], M)) rfl ⟨trivial, trivial⟩ ?_
        exact pw_ret hT rfl (r := some (pvI (-1))) (M' := M) ⟨rfl, rfl⟩ ⟨⟨_, rfl, (zr_wide (show (-1) ≤ Int32.toInt (-1) ∧ Int32.toInt (-1) ≤ (-1) from (by decide)) (by decide) (by decide)), (by rw [if_neg c1_, if_neg c7_, if_pos c14_]; first | done | (rw [if_pos c14_]; done))⟩, hok, pvfr_0, (by rw [if_neg c1_, if_neg c7_, if_pos c14_]; first | done | exact rfl | (rw [if_pos c14_]; done) | (rw [if_pos c14_]; exact rfl))⟩
      · refine pw_eqI (if_neg c14_) ?_
        have b17_ : 0 ≤ Int32.toInt ((M.1 124 0) - 1) ∧ Int32.toInt ((M.1 124 0) - 1) ≤ 6 := zr_nlt_l 0 c14_ b12_ b10_ (by decide)
        have b18_ : 0 ≤ Int32.toInt n1 ∧ Int32.toInt n1 ≤ 6 := zr_nlt_r 6 c14_ b10_ b17_ (by decide)
        have d19_ : Int32.toInt ((M.1 124 0) - 1) ≥ Int32.toInt n1 := Int.not_lt.mp ((not_congr (zi_lt _ _)).mp c14_)
        show PW 71 d (17, [some (pvR 124), some (pvI n1), some (pvI n2)], [pvI 1], M) _
        refine pw_ifn hT (c := 1 = 0) rfl rfl (fun c20_ => ?_) (fun c20_ => absurd c20_ (by decide))
        refine pw_blk hT 4 (S' := (28, [some (pvR 124), some (pvI n1), some (pvI n2)], [pvI 9999, pvI 0, pvI n2, pvR 124], M)) rfl ⟨trivial, trivial, trivial, trivial, trivial⟩ ?_
        refine pw_callT hT (as := [pvR 124, pvI n2, pvI 0, pvI 9999]) (lo1 := [some (pvR 124), some (pvI n2), some (pvI 0), some (pvI 9999)]) (d1 := d) (rest := []) rfl rfl rfl rfl rfl (fun _ => rfl) (Nat.zero_le _) rfl rfl rfl (sf_X10_in_124_x_x_x M hok n2 0 9999 d) ?_
        by_cases c26_ : n2 < 0
        · refine pw_eqI (if_pos c26_) ?_
          have b27_ : (-2147483648) ≤ Int32.toInt n2 ∧ Int32.toInt n2 ≤ (-1) := zr_lt_l (-1) c26_ (zbnd n2) (show 0 ≤ Int32.toInt 0 ∧ Int32.toInt 0 ≤ 0 from (by decide)) (by decide)
          show PW 71 d (31, [some (pvR 124), some (pvI n1), some (pvI n2)], [pvI 0], M) _
          refine pw_ifn hT (c := 0 = 0) rfl rfl (fun c28_ => absurd (by decide) c28_) (fun c28_ => ?_)
          refine pw_blk hT 1 (S' := (36, [some (pvR 124), some (pvI n1), some (pvI n2)], [pvI (-2)], M)) rfl ⟨trivial, trivial⟩ ?_
          exact pw_ret hT rfl (r := some (pvI (-2))) (M' := M) ⟨rfl, rfl⟩ ⟨⟨_, rfl, (zr_wide (show (-2) ≤ Int32.toInt (-2) ∧ Int32.toInt (-2) ≤ (-2) from (by decide)) (by decide) (by decide)), (by rw [if_neg c1_, if_neg c7_, if_neg c14_, if_pos c26_]; first | done | (rw [if_pos c26_]; done))⟩, hok, pvfr_0, (by rw [if_neg c1_, if_neg c7_, if_neg c14_, if_pos c26_]; first | done | exact rfl | (rw [if_pos c26_]; done) | (rw [if_pos c26_]; exact rfl))⟩
        · refine pw_eqI (if_neg c26_) ?_
          have b29_ : 0 ≤ Int32.toInt n2 ∧ Int32.toInt n2 ≤ 2147483647 := zr_nlt_l 0 c26_ (zbnd n2) (show 0 ≤ Int32.toInt 0 ∧ Int32.toInt 0 ≤ 0 from (by decide)) (by decide)
          by_cases c30_ : 9999 < n2
          · refine pw_eqI (if_pos c30_) ?_
            have b31_ : 10000 ≤ Int32.toInt n2 ∧ Int32.toInt n2 ≤ 2147483647 := zr_lt_r 10000 c30_ b29_ (show 9999 ≤ Int32.toInt 9999 ∧ Int32.toInt 9999 ≤ 9999 from (by decide)) (by decide)
            show PW 71 d (31, [some (pvR 124), some (pvI n1), some (pvI n2)], [pvI 0], M) _
            refine pw_ifn hT (c := 0 = 0) rfl rfl (fun c32_ => absurd (by decide) c32_) (fun c32_ => ?_)
            refine pw_blk hT 1 (S' := (36, [some (pvR 124), some (pvI n1), some (pvI n2)], [pvI (-2)], M)) rfl ⟨trivial, trivial⟩ ?_
            exact pw_ret hT rfl (r := some (pvI (-2))) (M' := M) ⟨rfl, rfl⟩ ⟨⟨_, rfl, (zr_wide (show (-2) ≤ Int32.toInt (-2) ∧ Int32.toInt (-2) ≤ (-2) from (by decide)) (by decide) (by decide)), (by rw [if_neg c1_, if_neg c7_, if_neg c14_, if_neg c26_, if_pos c30_]; first | done | (rw [if_pos c30_]; done))⟩, hok, pvfr_0, (by rw [if_neg c1_, if_neg c7_, if_neg c14_, if_neg c26_, if_pos c30_]; first | done | exact rfl | (rw [if_pos c30_]; done) | (rw [if_pos c30_]; exact rfl))⟩
          · refine pw_eqI (if_neg c30_) ?_
            have b33_ : 0 ≤ Int32.toInt n2 ∧ Int32.toInt n2 ≤ 9999 := zr_nlt_r 9999 c30_ b29_ (show 9999 ≤ Int32.toInt 9999 ∧ Int32.toInt 9999 ≤ 9999 from (by decide)) (by decide)
            show PW 71 d (31, [some (pvR 124), some (pvI n1), some (pvI n2)], [pvI 1], M) _
            refine pw_ifn hT (c := 1 = 0) rfl rfl (fun c34_ => ?_) (fun c34_ => absurd c34_ (by decide))
            have b35_ : 0 ≤ Int32.toInt (M.1 124 40) ∧ Int32.toInt (M.1 124 40) ≤ 6 := pvok_r hok 124 40 rfl
            refine pw_blk hT 3 (S' := (43, [some (pvR 124), some (pvI n1), some (pvI n2)], [pvI 6, pvI (M.1 124 40)], M)) rfl ⟨trivial, rfl, trivial, trivial⟩ ?_
            refine pw_icn hT (c := (M.1 124 40) = 6) rfl rfl (fun c36_ => ?_) (fun c36_ => ?_)
            · have b37_ : 0 ≤ Int32.toInt (M.1 124 40) ∧ Int32.toInt (M.1 124 40) ≤ 5 := (by have u0 := b35_; have u1 := (not_congr (zi_eq _ _)).mp c36_; have u2 := (show 6 ≤ Int32.toInt 6 ∧ Int32.toInt 6 ≤ 6 from (by decide)); omega)
              refine pw_blkw hT 6 (pc := 59) (lo := [some (pvR 124), some (pvI n1), some (pvI n2)]) (st := []) (M := pvu M 147 (Int32.toNatClampNeg (M.1 124 40)) n1) rfl ⟨trivial, rfl, trivial, rfl, trivial, ⟨rfl, (zr_in (n := 6) b37_ (by decide) (by decide))⟩, trivial⟩ (fun M38_ e39_ => ?_)
              have o40_ : pvOk M38_ := pvok_u2 e39_ hok rfl b18_
              have f41_ : pvFr fp_eX10_see_124_x_x M M38_ := pvfr_u e39_ pvfr_0 rfl
              have e42_ : (M38_.1 124 40) = (M.1 124 40) := (pvu_n e39_ 124 40 (Or.inl (by decide)))
              have b43_ : 0 ≤ Int32.toInt (M38_.1 124 40) ∧ Int32.toInt (M38_.1 124 40) ≤ 5 := (by rw [e42_]; exact b37_)
              refine pw_blkw hT 6 (pc := 69) (lo := [some (pvR 124), some (pvI n1), some (pvI n2)]) (st := []) (M := pvu M38_ 148 (Int32.toNatClampNeg (M38_.1 124 40)) n2) rfl ⟨trivial, rfl, trivial, rfl, trivial, ⟨rfl, (zr_in (n := 6) b43_ (by decide) (by decide))⟩, trivial⟩ (fun M44_ e45_ => ?_)
              have o46_ : pvOk M44_ := pvok_u2 e45_ o40_ rfl b33_
              have f47_ : pvFr fp_eX10_see_124_x_x M M44_ := pvfr_u e45_ f41_ rfl
              have e48_ : (M44_.1 124 40) = (M38_.1 124 40) := (pvu_n e45_ 124 40 (Or.inl (by decide)))
              have b49_ : 0 ≤ Int32.toInt (M44_.1 124 40) ∧ Int32.toInt (M44_.1 124 40) ≤ 5 := (by rw [e48_]; exact b43_)
              obtain ⟨q51_, b50_⟩ : (Int32.toInt ((M44_.1 124 40) + 1) = Int32.toInt (M44_.1 124 40) + 1) ∧ (1 ≤ Int32.toInt ((M44_.1 124 40) + 1) ∧ Int32.toInt ((M44_.1 124 40) + 1) ≤ 6) := zadd_k (M44_.1 124 40) 1 1 1 6 b49_ (by decide) (by decide) (by decide) (by decide) (by decide)
              refine pw_blkw hT 6 (pc := 79) (lo := [some (pvR 124), some (pvI n1), some (pvI n2)]) (st := []) (M := pvu M44_ 124 40 ((M44_.1 124 40) + 1)) rfl ⟨trivial, trivial, rfl, trivial, trivial, rfl, trivial⟩ (fun M52_ e53_ => ?_)
              have o54_ : pvOk M52_ := pvok_u2 e53_ o46_ rfl (zr_wide b50_ (by decide) (by decide))
              have f55_ : pvFr fp_eX10_see_124_x_x M M52_ := pvfr_u e53_ f47_ rfl
              have e56_ : (M52_.1 124 40) = ((M44_.1 124 40) + 1) := (pvu_s e53_)
              have b57_ : 1 ≤ Int32.toInt (M52_.1 124 40) ∧ Int32.toInt (M52_.1 124 40) ≤ 6 := (by rw [e56_]; exact b50_)
              refine pw_blk hT 2 (S' := (83, [some (pvR 124), some (pvI n1), some (pvI n2)], [pvI (M52_.1 124 40)], M52_)) rfl ⟨trivial, rfl, trivial⟩ ?_
              exact pw_ret hT rfl (r := some (pvI (M52_.1 124 40))) (M' := M52_) ⟨rfl, rfl⟩ ⟨⟨_, rfl, (zr_wide b57_ (by decide) (by decide)), (by rw [if_neg c1_, if_neg c7_, if_neg c14_, if_neg c26_, if_neg c30_, if_neg c36_]; first | done | exact (show (M52_.1 124 40) = ((M.1 124 40) + 1) from by rw [((pvu_s e53_).trans (show ((M44_.1 124 40) + 1) = ((M.1 124 40) + 1) from by rw [((pvu_n e45_ 124 40 (Or.inl (by decide))).trans (pvu_n e39_ 124 40 (Or.inl (by decide))))]))]) | (rw [if_neg c36_]; exact (show (M52_.1 124 40) = ((M.1 124 40) + 1) from by rw [((pvu_s e53_).trans (show ((M44_.1 124 40) + 1) = ((M.1 124 40) + 1) from by rw [((pvu_n e45_ 124 40 (Or.inl (by decide))).trans (pvu_n e39_ 124 40 (Or.inl (by decide))))]))])))⟩, o54_, f55_, (by rw [if_neg c1_, if_neg c7_, if_neg c14_, if_neg c26_, if_neg c30_, if_neg c36_]; first | done | exact ((pvu_s e53_).trans (show ((M44_.1 124 40) + 1) = ((M.1 124 40) + 1) from by rw [((pvu_n e45_ 124 40 (Or.inl (by decide))).trans (pvu_n e39_ 124 40 (Or.inl (by decide))))])) | (rw [if_neg c36_]; done) | (rw [if_neg c36_]; exact ((pvu_s e53_).trans (show ((M44_.1 124 40) + 1) = ((M.1 124 40) + 1) from by rw [((pvu_n e45_ 124 40 (Or.inl (by decide))).trans (pvu_n e39_ 124 40 (Or.inl (by decide))))]))))⟩
            · have b58_ : 6 ≤ Int32.toInt (M.1 124 40) ∧ Int32.toInt (M.1 124 40) ≤ 6 := (by have u0 := b35_; have u1 := (zi_eq _ _).mp c36_; have u2 := (show 6 ≤ Int32.toInt 6 ∧ Int32.toInt 6 ≤ 6 from (by decide)); omega)
              refine pw_blk hT 1 (S' := (48, [some (pvR 124), some (pvI n1), some (pvI n2)], [pvI (-4)], M)) rfl ⟨trivial, trivial⟩ ?_
              exact pw_ret hT rfl (r := some (pvI (-4))) (M' := M) ⟨rfl, rfl⟩ ⟨⟨_, rfl, (zr_wide (show (-4) ≤ Int32.toInt (-4) ∧ Int32.toInt (-4) ≤ (-4) from (by decide)) (by decide) (by decide)), (by rw [if_neg c1_, if_neg c7_, if_neg c14_, if_neg c26_, if_neg c30_, if_pos c36_]; first | done | (rw [if_pos c36_]; done))⟩, hok, pvfr_0, (by rw [if_neg c1_, if_neg c7_, if_neg c14_, if_neg c26_, if_neg c30_, if_pos c36_]; first | done | exact rfl | (rw [if_pos c36_]; done) | (rw [if_pos c36_]; exact rfl))⟩
  · have b59_ : (-1) ≤ Int32.toInt n1 ∧ Int32.toInt n1 ≤ (-1) := (by have u0 := (zbnd n1); have u1 := (zi_eq _ _).mp c1_; have u2 := (show (-1) ≤ Int32.toInt (-1) ∧ Int32.toInt (-1) ≤ (-1) from (by decide)); omega)
    refine pw_blkw hT 3 (pc := 10) (lo := [some (pvR 124), some (pvI n1), some (pvI n2)]) (st := []) (M := pvu M 124 40 0) rfl ⟨trivial, trivial, rfl, trivial⟩ (fun M60_ e61_ => ?_)
    have o62_ : pvOk M60_ := pvok_u2 e61_ hok rfl (zr_wide (show 0 ≤ Int32.toInt 0 ∧ Int32.toInt 0 ≤ 0 from (by decide)) (by decide) (by decide))
    have f63_ : pvFr fp_eX10_see_124_x_x M M60_ := pvfr_u e61_ pvfr_0 rfl
    refine pw_blk hT 1 (S' := (11, [some (pvR 124), some (pvI n1), some (pvI n2)], [pvI 0], M60_)) rfl ⟨trivial, trivial⟩ ?_
    exact pw_ret hT rfl (r := some (pvI 0)) (M' := M60_) ⟨rfl, rfl⟩ ⟨⟨_, rfl, (zr_wide (show 0 ≤ Int32.toInt 0 ∧ Int32.toInt 0 ≤ 0 from (by decide)) (by decide) (by decide)), (by rw [if_pos c1_]; first | done | (rw [if_pos c1_]; done))⟩, o62_, f63_, (by rw [if_pos c1_]; first | done | exact (pvu_s e61_) | (rw [if_pos c1_]; done) | (rw [if_pos c1_]; exact (pvu_s e61_)))⟩
def fpL_eX10_sides_124_x : List (Nat × Nat × Nat) := [(0, 124, 33), (0, 124, 5), (0, 141, 0), (0, 142, 0), (0, 143, 0)]
def fp_eX10_sides_124_x (q k : Nat) : Bool := pvfp fpL_eX10_sides_124_x q k
theorem fp_eX10_sides_124_x_fp_X10_costOfNone_124 (a b : Nat) (h : fp_X10_costOfNone_124 a b = true) : fp_eX10_sides_124_x a b = true := pvfp_sub (l1 := fpL_X10_costOfNone_124) (l2 := fpL_eX10_sides_124_x) (by decide) a b h
theorem fp_eX10_sides_124_x_fp_X10_layRain_124 (a b : Nat) (h : fp_X10_layRain_124 a b = true) : fp_eX10_sides_124_x a b = true := pvfp_sub (l1 := fpL_X10_layRain_124) (l2 := fpL_eX10_sides_124_x) (by decide) a b h
set_option maxHeartbeats 4000000 in
set_option maxRecDepth 10000 in
theorem se_X10_sides_124_x (M : pvM) (hok : pvOk M) (n1 : Int32) (hz : pvWF M) (d : Nat) : PW 77 d (0, [some (pvR 124), some (pvI n1), none, none, none, none], [], M) (fun r X => (∃ x : Int32, r = some (pvI x) ∧ (-1) ≤ Int32.toInt x ∧ Int32.toInt x ≤ 2147483647) ∧ pvOk X ∧ pvFr fp_eX10_sides_124_x M X ∧ X.1 124 4 = M.1 124 4) := by
  have hT : pvdom 77 = pvD_77 := rfl
  refine pw_blk hT 4 (S' := (4, [some (pvR 124), some (pvI n1), none, none, none, none], [pvI 1, pvI 0, pvI n1, pvR 124], M)) rfl ⟨trivial, trivial, trivial, trivial, trivial⟩ ?_
  refine pw_callT hT (as := [pvR 124, pvI n1, pvI 0, pvI 1]) (lo1 := [some (pvR 124), some (pvI n1), some (pvI 0), some (pvI 1)]) (d1 := d) (rest := []) rfl rfl rfl rfl rfl (fun _ => rfl) (Nat.zero_le _) rfl rfl rfl (sf_X10_in_124_x_x_x M hok n1 0 1 d) ?_
  by_cases c6_ : n1 < 0
  · refine pw_eqI (if_pos c6_) ?_
    have b7_ : (-2147483648) ≤ Int32.toInt n1 ∧ Int32.toInt n1 ≤ (-1) := zr_lt_l (-1) c6_ (zbnd n1) (show 0 ≤ Int32.toInt 0 ∧ Int32.toInt 0 ≤ 0 from (by decide)) (by decide)
    show PW 77 d (7, [some (pvR 124), some (pvI n1), none, none, none, none], [pvI 0], M) _
    refine pw_ifn hT (c := 0 = 0) rfl rfl (fun c8_ => absurd (by decide) c8_) (fun c8_ => ?_)
    refine pw_blk hT 1 (S' := (11, [some (pvR 124), some (pvI n1), none, none, none, none], [pvI (-1)], M)) rfl ⟨trivial, trivial⟩ ?_
    exact pw_ret hT rfl (r := some (pvI (-1))) (M' := M) ⟨rfl, rfl⟩ ⟨⟨_, rfl, (zr_wide (show (-1) ≤ Int32.toInt (-1) ∧ Int32.toInt (-1) ≤ (-1) from (by decide)) (by decide) (by decide))⟩, hok, pvfr_0, rfl⟩
  · refine pw_eqI (if_neg c6_) ?_
    have b9_ : 0 ≤ Int32.toInt n1 ∧ Int32.toInt n1 ≤ 2147483647 := zr_nlt_l 0 c6_ (zbnd n1) (show 0 ≤ Int32.toInt 0 ∧ Int32.toInt 0 ≤ 0 from (by decide)) (by decide)
    by_cases c10_ : 1 < n1
    · refine pw_eqI (if_pos c10_) ?_
      have b11_ : 2 ≤ Int32.toInt n1 ∧ Int32.toInt n1 ≤ 2147483647 := zr_lt_r 2 c10_ b9_ (show 1 ≤ Int32.toInt 1 ∧ Int32.toInt 1 ≤ 1 from (by decide)) (by decide)
      show PW 77 d (7, [some (pvR 124), some (pvI n1), none, none, none, none], [pvI 0], M) _
      refine pw_ifn hT (c := 0 = 0) rfl rfl (fun c12_ => absurd (by decide) c12_) (fun c12_ => ?_)
      refine pw_blk hT 1 (S' := (11, [some (pvR 124), some (pvI n1), none, none, none, none], [pvI (-1)], M)) rfl ⟨trivial, trivial⟩ ?_
      exact pw_ret hT rfl (r := some (pvI (-1))) (M' := M) ⟨rfl, rfl⟩ ⟨⟨_, rfl, (zr_wide (show (-1) ≤ Int32.toInt (-1) ∧ Int32.toInt (-1) ≤ (-1) from (by decide)) (by decide) (by decide))⟩, hok, pvfr_0, rfl⟩
    · refine pw_eqI (if_neg c10_) ?_
      have b13_ : 0 ≤ Int32.toInt n1 ∧ Int32.toInt n1 ≤ 1 := zr_nlt_r 1 c10_ b9_ (show 1 ≤ Int32.toInt 1 ∧ Int32.toInt 1 ≤ 1 from (by decide)) (by decide)
      show PW 77 d (7, [some (pvR 124), some (pvI n1), none, none, none, none], [pvI 1], M) _
      refine pw_ifn hT (c := 1 = 0) rfl rfl (fun c14_ => ?_) (fun c14_ => absurd c14_ (by decide))
      have b15_ : 0 ≤ Int32.toInt (M.1 124 4) ∧ Int32.toInt (M.1 124 4) ≤ 4 := pvok_r hok 124 4 rfl
      refine pw_blkw hT 10 (pc := 27) (lo := [some (pvR 124), some (pvI n1), some (pvI (M.1 124 4)), some (pvI 0), some (pvI (-1)), none]) (st := []) (M := pvu M 124 4 0) rfl ⟨trivial, rfl, trivial, trivial, trivial, trivial, trivial, trivial, trivial, rfl, trivial⟩ (fun M16_ e17_ => ?_)
      have o18_ : pvOk M16_ := pvok_u2 e17_ hok rfl (zr_wide (show 0 ≤ Int32.toInt 0 ∧ Int32.toInt 0 ≤ 0 from (by decide)) (by decide) (by decide))
      have f19_ : pvFr fp_eX10_sides_124_x M M16_ := pvfr_u e17_ pvfr_0 rfl
      have hlz172_ : ∀ (nz172_ : Nat) (i3z172_ : Int32) (i4z172_ : Int32) (v5z172_ : Option pvV) (Mz172_ : pvM), (pvOk Mz172_) → (pvFr fp_eX10_sides_124_x M Mz172_) → (0 ≤ Int32.toInt i3z172_ ∧ Int32.toInt i3z172_ ≤ 2147483647) → ((-1) ≤ Int32.toInt i4z172_ ∧ Int32.toInt i4z172_ ≤ 2147483647) → (zhide ((5 - Int32.toInt (Mz172_.1 124 4)).toNat < nz172_)) → PW 77 d (27, [some (pvR 124), some (pvI n1), some (pvI (M.1 124 4)), some (pvI i3z172_), some (pvI i4z172_), v5z172_], [], Mz172_) (fun r X => (∃ x : Int32, r = some (pvI x) ∧ (-1) ≤ Int32.toInt x ∧ Int32.toInt x ≤ 2147483647) ∧ pvOk X ∧ pvFr fp_eX10_sides_124_x M X ∧ X.1 124 4 = M.1 124 4) := by
        intro nz172_
        induction nz172_ with
        | zero => intro i3z172_ i4z172_ v5z172_ Mz172_ oz172_ fz172_ h3z172_ h4z172_ hmz172_; exact absurd (zshow hmz172_) (Nat.not_lt_zero _)
        | succ nz172_ ihz172_ =>
          intro i3z172_ i4z172_ v5z172_ Mz172_ oz172_ fz172_ h3z172_ h4z172_ hmz172_
          have b173_ : 0 ≤ Int32.toInt (Mz172_.1 124 4) ∧ Int32.toInt (Mz172_.1 124 4) ≤ 4 := pvok_r oz172_ 124 4 rfl
          refine pw_blk hT 3 (S' := (32, [some (pvR 124), some (pvI n1), some (pvI (M.1 124 4)), some (pvI i3z172_), some (pvI i4z172_), v5z172_], [pvI 4, pvI (Mz172_.1 124 4)], Mz172_)) rfl ⟨trivial, rfl, trivial, trivial⟩ ?_
          refine pw_ic hT (c := 4 ≤ (Mz172_.1 124 4)) rfl rfl (fun c174_ => ?_) (fun c174_ => ?_)
          · have b175_ : 4 ≤ Int32.toInt (Mz172_.1 124 4) ∧ Int32.toInt (Mz172_.1 124 4) ≤ 4 := zr_le_r 4 c174_ b173_ (show 4 ≤ Int32.toInt 4 ∧ Int32.toInt 4 ≤ 4 from (by decide)) (by decide)
            refine pw_blkw hT 3 (pc := 82) (lo := [some (pvR 124), some (pvI n1), some (pvI (M.1 124 4)), some (pvI i3z172_), some (pvI i4z172_), v5z172_]) (st := []) (M := pvu Mz172_ 124 4 (M.1 124 4)) rfl ⟨trivial, trivial, rfl, trivial⟩ (fun M176_ e177_ => ?_)
            have o178_ : pvOk M176_ := pvok_u2 e177_ oz172_ rfl b15_
            have f179_ : pvFr fp_eX10_sides_124_x M M176_ := pvfr_u e177_ fz172_ rfl
            refine pw_blk hT 1 (S' := (83, [some (pvR 124), some (pvI n1), some (pvI (M.1 124 4)), some (pvI i3z172_), some (pvI i4z172_), v5z172_], [pvI n1], M176_)) rfl ⟨trivial, trivial⟩ ?_
            refine pw_ifn hT (c := n1 = 0) rfl rfl (fun c180_ => ?_) (fun c180_ => ?_)
            · have b181_ : 1 ≤ Int32.toInt n1 ∧ Int32.toInt n1 ≤ 1 := (by have u0 := b13_; have u1 := (not_congr (zi_eq _ _)).mp c180_; have u2 := (show 0 ≤ Int32.toInt 0 ∧ Int32.toInt 0 ≤ 0 from (by decide)); omega)
              refine pw_blk hT 1 (S' := (92, [some (pvR 124), some (pvI n1), some (pvI (M.1 124 4)), some (pvI i3z172_), some (pvI i4z172_), v5z172_], [pvI i4z172_], M176_)) rfl ⟨trivial, trivial⟩ ?_
              exact pw_ret hT rfl (r := some (pvI i4z172_)) (M' := M176_) ⟨rfl, rfl⟩ ⟨⟨_, rfl, h4z172_⟩, o178_, f179_, (pvu_s e177_)⟩
            · have b182_ : 0 ≤ Int32.toInt n1 ∧ Int32.toInt n1 ≤ 0 := (by have u0 := b13_; have u1 := (zi_eq _ _).mp c180_; have u2 := (show 0 ≤ Int32.toInt 0 ∧ Int32.toInt 0 ≤ 0 from (by decide)); omega)
              refine pw_blk hT 2 (S' := (92, [some (pvR 124), some (pvI n1), some (pvI (M.1 124 4)), some (pvI i3z172_), some (pvI i4z172_), v5z172_], [pvI i3z172_], M176_)) rfl ⟨trivial, trivial, trivial⟩ ?_
              exact pw_ret hT rfl (r := some (pvI i3z172_)) (M' := M176_) ⟨rfl, rfl⟩ ⟨⟨_, rfl, (zr_wide h3z172_ (by decide) (by decide))⟩, o178_, f179_, (pvu_s e177_)⟩
          · have b183_ : 0 ≤ Int32.toInt (Mz172_.1 124 4) ∧ Int32.toInt (Mz172_.1 124 4) ≤ 3 := zr_nle_r 3 c174_ b173_ (show 4 ≤ Int32.toInt 4 ∧ Int32.toInt 4 ≤ 4 from (by decide)) (by decide)
            refine pw_blk hT 1 (S' := (36, [some (pvR 124), some (pvI n1), some (pvI (M.1 124 4)), some (pvI i3z172_), some (pvI i4z172_), v5z172_], [pvR 124], Mz172_)) rfl ⟨trivial, trivial⟩ ?_
            refine pw_callV hT (as := [pvR 124]) (lo1 := [some (pvR 124), none, none]) (d1 := d) (rest := []) rfl rfl rfl rfl rfl (fun _ => rfl) (Nat.zero_le _) rfl rfl rfl (sf_X10_layRain_124 Mz172_ oz172_ (pvWF_fr (L := fpL_eX10_sides_124_x) rfl fz172_ hz) d) (fun M185_ o187_ g188_ => ?_)
            have f189_ : pvFr fp_eX10_sides_124_x M M185_ := pvfr_t g188_ fz172_ fp_eX10_sides_124_x_fp_X10_layRain_124
            refine pw_blk hT 1 (S' := (40, [some (pvR 124), some (pvI n1), some (pvI (M.1 124 4)), some (pvI i3z172_), some (pvI i4z172_), v5z172_], [pvR 124], M185_)) rfl ⟨trivial, trivial⟩ ?_
            refine pw_callG hT (as := [pvR 124]) (lo1 := [some (pvR 124)]) (d1 := d) (rest := []) rfl rfl rfl rfl rfl (fun _ => rfl) (Nat.zero_le _) rfl rfl rfl (sf_X10_costOfNone_124 M185_ o187_ d) (fun x190_ M191_ b192_ o193_ g194_ => ?_)
            have f195_ : pvFr fp_eX10_sides_124_x M M191_ := pvfr_t g194_ f189_ fp_eX10_sides_124_x_fp_X10_costOfNone_124
            refine pw_blk hT 3 (S' := (49, [some (pvR 124), some (pvI n1), some (pvI (M.1 124 4)), some (pvI i3z172_), some (pvI i4z172_), some (pvI x190_)], [pvI i4z172_, pvI x190_], M191_)) rfl ⟨trivial, trivial, trivial, trivial⟩ ?_
            refine pw_ic hT (c := i4z172_ < x190_) rfl rfl (fun c196_ => ?_) (fun c196_ => ?_)
            · have b197_ : (-1) ≤ Int32.toInt i4z172_ ∧ Int32.toInt i4z172_ ≤ 8999999 := zr_lt_l 8999999 c196_ h4z172_ b192_ (by decide)
              have d198_ : Int32.toInt i4z172_ < Int32.toInt x190_ := (zi_lt _ _).mp c196_
              have e199_ : (M191_.1 124 4) = (Mz172_.1 124 4) := ((g194_ 124 4 rfl).trans (g188_ 124 4 rfl))
              have b200_ : 0 ≤ Int32.toInt (M191_.1 124 4) ∧ Int32.toInt (M191_.1 124 4) ≤ 3 := (by rw [e199_]; exact b183_)
              obtain ⟨q202_, b201_⟩ : (Int32.toInt ((M191_.1 124 4) + 1) = Int32.toInt (M191_.1 124 4) + 1) ∧ (1 ≤ Int32.toInt ((M191_.1 124 4) + 1) ∧ Int32.toInt ((M191_.1 124 4) + 1) ≤ 4) := zadd_k (M191_.1 124 4) 1 1 1 4 b200_ (by decide) (by decide) (by decide) (by decide) (by decide)
              refine pw_blkw hT 11 (pc := 74) (lo := [some (pvR 124), some (pvI n1), some (pvI (M.1 124 4)), some (pvI (M191_.1 124 4)), some (pvI x190_), some (pvI x190_)]) (st := []) (M := pvu M191_ 124 4 ((M191_.1 124 4) + 1)) rfl ⟨trivial, rfl, trivial, trivial, trivial, trivial, trivial, rfl, trivial, trivial, rfl, trivial⟩ (fun M203_ e204_ => ?_)
              have o205_ : pvOk M203_ := pvok_u2 e204_ o193_ rfl (zr_wide b201_ (by decide) (by decide))
              have f206_ : pvFr fp_eX10_sides_124_x M M203_ := pvfr_u e204_ f195_ rfl
              refine pw_blk hT 1 (S' := (27, [some (pvR 124), some (pvI n1), some (pvI (M.1 124 4)), some (pvI (M191_.1 124 4)), some (pvI x190_), some (pvI x190_)], [], M203_)) rfl ⟨trivial, trivial⟩ ?_
              exact ihz172_ (M191_.1 124 4) x190_ (some (pvI x190_)) M203_ o205_ f206_ (zr_wide b200_ (by decide) (by decide)) (zr_wide b192_ (by decide) (by decide)) (zhid (by have hm0 := zshow hmz172_; have z1 : Int32.toInt (M203_.1 124 4) = Int32.toInt ((M191_.1 124 4) + 1) := congrArg Int32.toInt (pvu_s e204_); have z2 : Int32.toInt (M191_.1 124 4) = Int32.toInt (Mz172_.1 124 4) := congrArg Int32.toInt ((g194_ 124 4 rfl).trans (g188_ 124 4 rfl)); omega))
            · have b207_ : 0 ≤ Int32.toInt i4z172_ ∧ Int32.toInt i4z172_ ≤ 2147483647 := zr_nlt_l 0 c196_ h4z172_ b192_ (by decide)
              have d208_ : Int32.toInt i4z172_ ≥ Int32.toInt x190_ := Int.not_lt.mp ((not_congr (zi_lt _ _)).mp c196_)
              have e209_ : (M191_.1 124 4) = (Mz172_.1 124 4) := ((g194_ 124 4 rfl).trans (g188_ 124 4 rfl))
              have b210_ : 0 ≤ Int32.toInt (M191_.1 124 4) ∧ Int32.toInt (M191_.1 124 4) ≤ 3 := (by rw [e209_]; exact b183_)
              obtain ⟨q212_, b211_⟩ : (Int32.toInt ((M191_.1 124 4) + 1) = Int32.toInt (M191_.1 124 4) + 1) ∧ (1 ≤ Int32.toInt ((M191_.1 124 4) + 1) ∧ Int32.toInt ((M191_.1 124 4) + 1) ≤ 4) := zadd_k (M191_.1 124 4) 1 1 1 4 b210_ (by decide) (by decide) (by decide) (by decide) (by decide)
              refine pw_blkw hT 7 (pc := 74) (lo := [some (pvR 124), some (pvI n1), some (pvI (M.1 124 4)), some (pvI i3z172_), some (pvI i4z172_), some (pvI x190_)]) (st := []) (M := pvu M191_ 124 4 ((M191_.1 124 4) + 1)) rfl ⟨trivial, trivial, trivial, rfl, trivial, trivial, rfl, trivial⟩ (fun M213_ e214_ => ?_)
              have o215_ : pvOk M213_ := pvok_u2 e214_ o193_ rfl (zr_wide b211_ (by decide) (by decide))
              have f216_ : pvFr fp_eX10_sides_124_x M M213_ := pvfr_u e214_ f195_ rfl
              refine pw_blk hT 1 (S' := (27, [some (pvR 124), some (pvI n1), some (pvI (M.1 124 4)), some (pvI i3z172_), some (pvI i4z172_), some (pvI x190_)], [], M213_)) rfl ⟨trivial, trivial⟩ ?_
              exact ihz172_ i3z172_ i4z172_ (some (pvI x190_)) M213_ o215_ f216_ h3z172_ (zr_wide b207_ (by decide) (by decide)) (zhid (by have hm0 := zshow hmz172_; have z1 : Int32.toInt (M213_.1 124 4) = Int32.toInt ((M191_.1 124 4) + 1) := congrArg Int32.toInt (pvu_s e214_); have z2 : Int32.toInt (M191_.1 124 4) = Int32.toInt (Mz172_.1 124 4) := congrArg Int32.toInt ((g194_ 124 4 rfl).trans (g188_ 124 4 rfl)); omega))
      exact hlz172_ _ 0 (-1) none M16_ o18_ f19_ (zr_wide (show 0 ≤ Int32.toInt 0 ∧ Int32.toInt 0 ≤ 0 from (by decide)) (by decide) (by decide)) (zr_wide (show (-1) ≤ Int32.toInt (-1) ∧ Int32.toInt (-1) ≤ (-1) from (by decide)) (by decide) (by decide)) (zhid (Nat.lt_succ_self _))
def fpL_eX10_storm_124_x_x : List (Nat × Nat × Nat) := [(0, 124, 4), (0, 124, 5)]
def fp_eX10_storm_124_x_x (q k : Nat) : Bool := pvfp fpL_eX10_storm_124_x_x q k
set_option maxHeartbeats 4000000 in
set_option maxRecDepth 10000 in
theorem se_X10_storm_124_x_x (M : pvM) (hok : pvOk M) (n1 : Int32) (n2 : Int32) (d : Nat) : PW 80 d (0, [some (pvR 124), some (pvI n1), some (pvI n2), none], [], M) (fun r X => (∃ x : Int32, r = some (pvI x) ∧ ((-2) ≤ Int32.toInt x ∧ Int32.toInt x ≤ 108) ∧ x = (if n2 < 0 then (-1) else (if 3 < n2 then (-1) else (if n1 < 0 then (-2) else (if 99 < n1 then (-2) else (M.1 124 3)))))) ∧ pvOk X ∧ pvFr fp_eX10_storm_124_x_x M X ∧ ((Int32.toInt (X.1 124 3) ≤ 99 ∨ X.1 124 3 = M.1 124 3)) ∧ X.1 124 3 = (if n2 < 0 then (M.1 124 3) else (if 3 < n2 then (M.1 124 3) else (if n1 < 0 then (M.1 124 3) else (if 99 < n1 then (M.1 124 3) else n1)))) ∧ X.1 124 4 = (if n2 < 0 then (M.1 124 4) else (if 3 < n2 then (M.1 124 4) else (if n1 < 0 then (M.1 124 4) else (if 99 < n1 then (M.1 124 4) else n2))))) := by
  have hT : pvdom 80 = pvD_80 := rfl
  refine pw_blk hT 4 (S' := (4, [some (pvR 124), some (pvI n1), some (pvI n2), none], [pvI 3, pvI 0, pvI n2, pvR 124], M)) rfl ⟨trivial, trivial, trivial, trivial, trivial⟩ ?_
  refine pw_callT hT (as := [pvR 124, pvI n2, pvI 0, pvI 3]) (lo1 := [some (pvR 124), some (pvI n2), some (pvI 0), some (pvI 3)]) (d1 := d) (rest := []) rfl rfl rfl rfl rfl (fun _ => rfl) (Nat.zero_le _) rfl rfl rfl (sf_X10_in_124_x_x_x M hok n2 0 3 d) ?_
  by_cases c6_ : n2 < 0
  · refine pw_eqI (if_pos c6_) ?_
    have b7_ : (-2147483648) ≤ Int32.toInt n2 ∧ Int32.toInt n2 ≤ (-1) := zr_lt_l (-1) c6_ (zbnd n2) (show 0 ≤ Int32.toInt 0 ∧ Int32.toInt 0 ≤ 0 from (by decide)) (by decide)
    show PW 80 d (7, [some (pvR 124), some (pvI n1), some (pvI n2), none], [pvI 0], M) _
    refine pw_ifn hT (c := 0 = 0) rfl rfl (fun c8_ => absurd (by decide) c8_) (fun c8_ => ?_)
    refine pw_blk hT 1 (S' := (11, [some (pvR 124), some (pvI n1), some (pvI n2), none], [pvI (-1)], M)) rfl ⟨trivial, trivial⟩ ?_
    exact pw_ret hT rfl (r := some (pvI (-1))) (M' := M) ⟨rfl, rfl⟩ ⟨⟨_, rfl, (zr_wide (show (-1) ≤ Int32.toInt (-1) ∧ Int32.toInt (-1) ≤ (-1) from (by decide)) (by decide) (by decide)), (by rw [if_pos c6_]; first | done | (rw [if_pos c6_]; done))⟩, hok, pvfr_0, (Or.inr rfl), (by rw [if_pos c6_]; first | done | exact rfl | (rw [if_pos c6_]; done) | (rw [if_pos c6_]; exact rfl)), (by rw [if_pos c6_]; first | done | exact rfl | (rw [if_pos c6_]; done) | (rw [if_pos c6_]; exact rfl))⟩
  · refine pw_eqI (if_neg c6_) ?_
    have b9_ : 0 ≤ Int32.toInt n2 ∧ Int32.toInt n2 ≤ 2147483647 := zr_nlt_l 0 c6_ (zbnd n2) (show 0 ≤ Int32.toInt 0 ∧ Int32.toInt 0 ≤ 0 from (by decide)) (by decide)
    by_cases c10_ : 3 < n2
    · refine pw_eqI (if_pos c10_) ?_
      have b11_ : 4 ≤ Int32.toInt n2 ∧ Int32.toInt n2 ≤ 2147483647 := zr_lt_r 4 c10_ b9_ (show 3 ≤ Int32.toInt 3 ∧ Int32.toInt 3 ≤ 3 from (by decide)) (by decide)
      show PW 80 d (7, [some (pvR 124), some (pvI n1), some (pvI n2), none], [pvI 0], M) _
      refine pw_ifn hT (c := 0 = 0) rfl rfl (fun c12_ => absurd (by decide) c12_) (fun c12_ => ?_)
      refine pw_blk hT 1 (S' := (11, [some (pvR 124), some (pvI n1), some (pvI n2), none], [pvI (-1)], M)) rfl ⟨trivial, trivial⟩ ?_
      exact pw_ret hT rfl (r := some (pvI (-1))) (M' := M) ⟨rfl, rfl⟩ ⟨⟨_, rfl, (zr_wide (show (-1) ≤ Int32.toInt (-1) ∧ Int32.toInt (-1) ≤ (-1) from (by decide)) (by decide) (by decide)), (by rw [if_neg c6_, if_pos c10_]; first | done | (rw [if_pos c10_]; done))⟩, hok, pvfr_0, (Or.inr rfl), (by rw [if_neg c6_, if_pos c10_]; first | done | exact rfl | (rw [if_pos c10_]; done) | (rw [if_pos c10_]; exact rfl)), (by rw [if_neg c6_, if_pos c10_]; first | done | exact rfl | (rw [if_pos c10_]; done) | (rw [if_pos c10_]; exact rfl))⟩
    · refine pw_eqI (if_neg c10_) ?_
      have b13_ : 0 ≤ Int32.toInt n2 ∧ Int32.toInt n2 ≤ 3 := zr_nlt_r 3 c10_ b9_ (show 3 ≤ Int32.toInt 3 ∧ Int32.toInt 3 ≤ 3 from (by decide)) (by decide)
      show PW 80 d (7, [some (pvR 124), some (pvI n1), some (pvI n2), none], [pvI 1], M) _
      refine pw_ifn hT (c := 1 = 0) rfl rfl (fun c14_ => ?_) (fun c14_ => absurd c14_ (by decide))
      refine pw_blk hT 4 (S' := (17, [some (pvR 124), some (pvI n1), some (pvI n2), none], [pvI 99, pvI 0, pvI n1, pvR 124], M)) rfl ⟨trivial, trivial, trivial, trivial, trivial⟩ ?_
      refine pw_callT hT (as := [pvR 124, pvI n1, pvI 0, pvI 99]) (lo1 := [some (pvR 124), some (pvI n1), some (pvI 0), some (pvI 99)]) (d1 := d) (rest := []) rfl rfl rfl rfl rfl (fun _ => rfl) (Nat.zero_le _) rfl rfl rfl (sf_X10_in_124_x_x_x M hok n1 0 99 d) ?_
      by_cases c20_ : n1 < 0
      · refine pw_eqI (if_pos c20_) ?_
        have b21_ : (-2147483648) ≤ Int32.toInt n1 ∧ Int32.toInt n1 ≤ (-1) := zr_lt_l (-1) c20_ (zbnd n1) (show 0 ≤ Int32.toInt 0 ∧ Int32.toInt 0 ≤ 0 from (by decide)) (by decide)
        show PW 80 d (20, [some (pvR 124), some (pvI n1), some (pvI n2), none], [pvI 0], M) _
        refine pw_ifn hT (c := 0 = 0) rfl rfl (fun c22_ => absurd (by decide) c22_) (fun c22_ => ?_)
        refine pw_blk hT 1 (S' := (25, [some (pvR 124), some (pvI n1), some (pvI n2), none], [pvI (-2)], M)) rfl ⟨trivial, trivial⟩ ?_
        exact pw_ret hT rfl (r := some (pvI (-2))) (M' := M) ⟨rfl, rfl⟩ ⟨⟨_, rfl, (zr_wide (show (-2) ≤ Int32.toInt (-2) ∧ Int32.toInt (-2) ≤ (-2) from (by decide)) (by decide) (by decide)), (by rw [if_neg c6_, if_neg c10_, if_pos c20_]; first | done | (rw [if_pos c20_]; done))⟩, hok, pvfr_0, (Or.inr rfl), (by rw [if_neg c6_, if_neg c10_, if_pos c20_]; first | done | exact rfl | (rw [if_pos c20_]; done) | (rw [if_pos c20_]; exact rfl)), (by rw [if_neg c6_, if_neg c10_, if_pos c20_]; first | done | exact rfl | (rw [if_pos c20_]; done) | (rw [if_pos c20_]; exact rfl))⟩
      · refine pw_eqI (if_neg c20_) ?_
        have b23_ : 0 ≤ Int32.toInt n1 ∧ Int32.toInt n1 ≤ 2147483647 := zr_nlt_l 0 c20_ (zbnd n1) (show 0 ≤ Int32.toInt 0 ∧ Int32.toInt 0 ≤ 0 from (by decide)) (by decide)
        by_cases c24_ : 99 < n1
        · refine pw_eqI (if_pos c24_) ?_
          have b25_ : 100 ≤ Int32.toInt n1 ∧ Int32.toInt n1 ≤ 2147483647 := zr_lt_r 100 c24_ b23_ (show 99 ≤ Int32.toInt 99 ∧ Int32.toInt 99 ≤ 99 from (by decide)) (by decide)
          show PW 80 d (20, [some (pvR 124), some (pvI n1), some (pvI n2), none], [pvI 0], M) _
          refine pw_ifn hT (c := 0 = 0) rfl rfl (fun c26_ => absurd (by decide) c26_) (fun c26_ => ?_)
          refine pw_blk hT 1 (S' := (25, [some (pvR 124), some (pvI n1), some (pvI n2), none], [pvI (-2)], M)) rfl ⟨trivial, trivial⟩ ?_
          exact pw_ret hT rfl (r := some (pvI (-2))) (M' := M) ⟨rfl, rfl⟩ ⟨⟨_, rfl, (zr_wide (show (-2) ≤ Int32.toInt (-2) ∧ Int32.toInt (-2) ≤ (-2) from (by decide)) (by decide) (by decide)), (by rw [if_neg c6_, if_neg c10_, if_neg c20_, if_pos c24_]; first | done | (rw [if_pos c24_]; done))⟩, hok, pvfr_0, (Or.inr rfl), (by rw [if_neg c6_, if_neg c10_, if_neg c20_, if_pos c24_]; first | done | exact rfl | (rw [if_pos c24_]; done) | (rw [if_pos c24_]; exact rfl)), (by rw [if_neg c6_, if_neg c10_, if_neg c20_, if_pos c24_]; first | done | exact rfl | (rw [if_pos c24_]; done) | (rw [if_pos c24_]; exact rfl))⟩
        · refine pw_eqI (if_neg c24_) ?_
          have b27_ : 0 ≤ Int32.toInt n1 ∧ Int32.toInt n1 ≤ 99 := zr_nlt_r 99 c24_ b23_ (show 99 ≤ Int32.toInt 99 ∧ Int32.toInt 99 ≤ 99 from (by decide)) (by decide)
          show PW 80 d (20, [some (pvR 124), some (pvI n1), some (pvI n2), none], [pvI 1], M) _
          refine pw_ifn hT (c := 1 = 0) rfl rfl (fun c28_ => ?_) (fun c28_ => absurd c28_ (by decide))
          have b29_ : 0 ≤ Int32.toInt (M.1 124 3) ∧ Int32.toInt (M.1 124 3) ≤ 108 := pvok_r hok 124 3 rfl
          refine pw_blkw hT 6 (pc := 36) (lo := [some (pvR 124), some (pvI n1), some (pvI n2), some (pvI (M.1 124 3))]) (st := []) (M := pvu M 124 3 n1) rfl ⟨trivial, rfl, trivial, trivial, trivial, rfl, trivial⟩ (fun M30_ e31_ => ?_)
          have o32_ : pvOk M30_ := pvok_u2 e31_ hok rfl (zr_wide b27_ (by decide) (by decide))
          have f33_ : pvFr fp_eX10_storm_124_x_x M M30_ := pvfr_u e31_ pvfr_0 rfl
          refine pw_blkw hT 3 (pc := 41) (lo := [some (pvR 124), some (pvI n1), some (pvI n2), some (pvI (M.1 124 3))]) (st := []) (M := pvu M30_ 124 4 n2) rfl ⟨trivial, trivial, rfl, trivial⟩ (fun M34_ e35_ => ?_)
          have o36_ : pvOk M34_ := pvok_u2 e35_ o32_ rfl (zr_wide b13_ (by decide) (by decide))
          have f37_ : pvFr fp_eX10_storm_124_x_x M M34_ := pvfr_u e35_ f33_ rfl
          refine pw_blk hT 1 (S' := (42, [some (pvR 124), some (pvI n1), some (pvI n2), some (pvI (M.1 124 3))], [pvI (M.1 124 3)], M34_)) rfl ⟨trivial, trivial⟩ ?_
          exact pw_ret hT rfl (r := some (pvI (M.1 124 3))) (M' := M34_) ⟨rfl, rfl⟩ ⟨⟨_, rfl, (zr_wide b29_ (by decide) (by decide)), (by rw [if_neg c6_, if_neg c10_, if_neg c20_, if_neg c24_]; first | done | (rw [if_neg c24_]; done))⟩, o36_, f37_, (Or.inl (by have w0 : Int32.toInt (M34_.1 124 3) = Int32.toInt (M30_.1 124 3) := congrArg Int32.toInt (pvu_n e35_ 124 3 (Or.inr (by decide))); have w1 : Int32.toInt (M30_.1 124 3) = Int32.toInt n1 := congrArg Int32.toInt (pvu_s e31_); omega)), (by rw [if_neg c6_, if_neg c10_, if_neg c20_, if_neg c24_]; first | done | exact ((pvu_n e35_ 124 3 (Or.inr (by decide))).trans (pvu_s e31_)) | (rw [if_neg c24_]; done) | (rw [if_neg c24_]; exact ((pvu_n e35_ 124 3 (Or.inr (by decide))).trans (pvu_s e31_)))), (by rw [if_neg c6_, if_neg c10_, if_neg c20_, if_neg c24_]; first | done | exact (pvu_s e35_) | (rw [if_neg c24_]; done) | (rw [if_neg c24_]; exact (pvu_s e35_)))⟩
set_option maxHeartbeats 4000000 in
set_option maxRecDepth 10000 in
theorem se_X10_taken_124_x_x (M : pvM) (hok : pvOk M) (n1 : Int32) (n2 : Int32) (d : Nat) : PW 81 d (0, [some (pvR 124), some (pvI n1), some (pvI n2), none], [], M) (fun r X => (∃ x : Int32, r = some (pvI x) ∧ ((-12) ≤ Int32.toInt x ∧ Int32.toInt x ≤ 6) ∧ x = (if n2 < 0 then (-2) else (if 6 < n2 then (-2) else (if n1 < 0 then (-11) else (if ((M.1 124 0) - 1) < n1 then (-11) else (if n2 = 0 then (M.1 125 (Int32.toNatClampNeg n1)) else (if (M.1 125 (Int32.toNatClampNeg n1)) = n2 then (M.1 125 (Int32.toNatClampNeg n1)) else (if n2 = 1 then (if (M.1 125 (Int32.toNatClampNeg n1)) = 4 then (M.1 125 (Int32.toNatClampNeg n1)) else (-12)) else (if n2 = 2 then (if (M.1 125 (Int32.toNatClampNeg n1)) = 5 then (M.1 125 (Int32.toNatClampNeg n1)) else (-12)) else (if n2 = 3 then (if (M.1 125 (Int32.toNatClampNeg n1)) = 6 then (M.1 125 (Int32.toNatClampNeg n1)) else (-12)) else (-12))))))))))) ∧ X = M) := by
  have hT : pvdom 81 = pvD_81 := rfl
  refine pw_blk hT 4 (S' := (5, [some (pvR 124), some (pvI n1), some (pvI n2), none], [pvI 6, pvI 0, pvI n2, pvR 124], M)) rfl ⟨trivial, trivial, trivial, trivial, trivial⟩ ?_
  refine pw_callT hT (as := [pvR 124, pvI n2, pvI 0, pvI 6]) (lo1 := [some (pvR 124), some (pvI n2), some (pvI 0), some (pvI 6)]) (d1 := d) (rest := []) rfl rfl rfl rfl rfl (fun _ => rfl) (Nat.zero_le _) rfl rfl rfl (sf_X10_in_124_x_x_x M hok n2 0 6 d) ?_
  by_cases c6_ : n2 < 0
  · refine pw_eqI (if_pos c6_) ?_
    have b7_ : (-2147483648) ≤ Int32.toInt n2 ∧ Int32.toInt n2 ≤ (-1) := zr_lt_l (-1) c6_ (zbnd n2) (show 0 ≤ Int32.toInt 0 ∧ Int32.toInt 0 ≤ 0 from (by decide)) (by decide)
    show PW 81 d (8, [some (pvR 124), some (pvI n1), some (pvI n2), none], [pvI 0], M) _
    refine pw_ifn hT (c := 0 = 0) rfl rfl (fun c8_ => absurd (by decide) c8_) (fun c8_ => ?_)
    refine pw_blk hT 1 (S' := (13, [some (pvR 124), some (pvI n1), some (pvI n2), none], [pvI (-2)], M)) rfl ⟨trivial, trivial⟩ ?_
    exact pw_ret hT rfl (r := some (pvI (-2))) (M' := M) ⟨rfl, rfl⟩ ⟨⟨_, rfl, (zr_wide (show (-2) ≤ Int32.toInt (-2) ∧ Int32.toInt (-2) ≤ (-2) from (by decide)) (by decide) (by decide)), (by rw [if_pos c6_]; first | done | (rw [if_pos c6_]; done))⟩, rfl⟩
  · refine pw_eqI (if_neg c6_) ?_
    have b9_ : 0 ≤ Int32.toInt n2 ∧ Int32.toInt n2 ≤ 2147483647 := zr_nlt_l 0 c6_ (zbnd n2) (show 0 ≤ Int32.toInt 0 ∧ Int32.toInt 0 ≤ 0 from (by decide)) (by decide)
    by_cases c10_ : 6 < n2
    · refine pw_eqI (if_pos c10_) ?_
      have b11_ : 7 ≤ Int32.toInt n2 ∧ Int32.toInt n2 ≤ 2147483647 := zr_lt_r 7 c10_ b9_ (show 6 ≤ Int32.toInt 6 ∧ Int32.toInt 6 ≤ 6 from (by decide)) (by decide)
      show PW 81 d (8, [some (pvR 124), some (pvI n1), some (pvI n2), none], [pvI 0], M) _
      refine pw_ifn hT (c := 0 = 0) rfl rfl (fun c12_ => absurd (by decide) c12_) (fun c12_ => ?_)
      refine pw_blk hT 1 (S' := (13, [some (pvR 124), some (pvI n1), some (pvI n2), none], [pvI (-2)], M)) rfl ⟨trivial, trivial⟩ ?_
      exact pw_ret hT rfl (r := some (pvI (-2))) (M' := M) ⟨rfl, rfl⟩ ⟨⟨_, rfl, (zr_wide (show (-2) ≤ Int32.toInt (-2) ∧ Int32.toInt (-2) ≤ (-2) from (by decide)) (by decide) (by decide)), (by rw [if_neg c6_, if_pos c10_]; first | done | (rw [if_pos c10_]; done))⟩, rfl⟩
    · refine pw_eqI (if_neg c10_) ?_
      have b13_ : 0 ≤ Int32.toInt n2 ∧ Int32.toInt n2 ≤ 6 := zr_nlt_r 6 c10_ b9_ (show 6 ≤ Int32.toInt 6 ∧ Int32.toInt 6 ≤ 6 from (by decide)) (by decide)
      show PW 81 d (8, [some (pvR 124), some (pvI n1), some (pvI n2), none], [pvI 1], M) _
      refine pw_ifn hT (c := 1 = 0) rfl rfl (fun c14_ => ?_) (fun c14_ => absurd c14_ (by decide))
      refine pw_blk hT 2 (S' := (16, [some (pvR 124), some (pvI n1), some (pvI n2), none], [pvI n1, pvR 124], M)) rfl ⟨trivial, trivial, trivial⟩ ?_
      refine pw_callT hT (as := [pvR 124, pvI n1]) (lo1 := [some (pvR 124), some (pvI n1)]) (d1 := d) (rest := []) rfl rfl rfl rfl rfl (fun _ => rfl) (Nat.zero_le _) rfl rfl rfl (sf_X10_isWindow_124_x M hok n1 d) ?_
      by_cases c20_ : n1 < 0
      · refine pw_eqI (if_pos c20_) ?_
        have b21_ : (-2147483648) ≤ Int32.toInt n1 ∧ Int32.toInt n1 ≤ (-1) := zr_lt_l (-1) c20_ (zbnd n1) (show 0 ≤ Int32.toInt 0 ∧ Int32.toInt 0 ≤ 0 from (by decide)) (by decide)
        show PW 81 d (19, [some (pvR 124), some (pvI n1), some (pvI n2), none], [pvI 0], M) _
        refine pw_ifn hT (c := 0 = 0) rfl rfl (fun c22_ => absurd (by decide) c22_) (fun c22_ => ?_)
        refine pw_blk hT 1 (S' := (24, [some (pvR 124), some (pvI n1), some (pvI n2), none], [pvI (-11)], M)) rfl ⟨trivial, trivial⟩ ?_
        exact pw_ret hT rfl (r := some (pvI (-11))) (M' := M) ⟨rfl, rfl⟩ ⟨⟨_, rfl, (zr_wide (show (-11) ≤ Int32.toInt (-11) ∧ Int32.toInt (-11) ≤ (-11) from (by decide)) (by decide) (by decide)), (by rw [if_neg c6_, if_neg c10_, if_pos c20_]; first | done | (rw [if_pos c20_]; done))⟩, rfl⟩
      · refine pw_eqI (if_neg c20_) ?_
        have b23_ : 0 ≤ Int32.toInt n1 ∧ Int32.toInt n1 ≤ 2147483647 := zr_nlt_l 0 c20_ (zbnd n1) (show 0 ≤ Int32.toInt 0 ∧ Int32.toInt 0 ≤ 0 from (by decide)) (by decide)
        have b24_ : 0 ≤ Int32.toInt (M.1 124 0) ∧ Int32.toInt (M.1 124 0) ≤ 7 := pvok_r hok 124 0 rfl
        obtain ⟨q26_, b25_⟩ : (Int32.toInt ((M.1 124 0) - 1) = Int32.toInt (M.1 124 0) - 1) ∧ ((-1) ≤ Int32.toInt ((M.1 124 0) - 1) ∧ Int32.toInt ((M.1 124 0) - 1) ≤ 6) := zsub_k (M.1 124 0) 1 1 (-1) 6 b24_ (by decide) (by decide) (by decide) (by decide) (by decide)
        by_cases c27_ : ((M.1 124 0) - 1) < n1
        · refine pw_eqI (if_pos c27_) ?_
          have d28_ : Int32.toInt ((M.1 124 0) - 1) < Int32.toInt n1 := (zi_lt _ _).mp c27_
          show PW 81 d (19, [some (pvR 124), some (pvI n1), some (pvI n2), none], [pvI 0], M) _
          refine pw_ifn hT (c := 0 = 0) rfl rfl (fun c29_ => absurd (by decide) c29_) (fun c29_ => ?_)
          refine pw_blk hT 1 (S' := (24, [some (pvR 124), some (pvI n1), some (pvI n2), none], [pvI (-11)], M)) rfl ⟨trivial, trivial⟩ ?_
          exact pw_ret hT rfl (r := some (pvI (-11))) (M' := M) ⟨rfl, rfl⟩ ⟨⟨_, rfl, (zr_wide (show (-11) ≤ Int32.toInt (-11) ∧ Int32.toInt (-11) ≤ (-11) from (by decide)) (by decide) (by decide)), (by rw [if_neg c6_, if_neg c10_, if_neg c20_, if_pos c27_]; first | done | (rw [if_pos c27_]; done))⟩, rfl⟩
        · refine pw_eqI (if_neg c27_) ?_
          have b30_ : 0 ≤ Int32.toInt ((M.1 124 0) - 1) ∧ Int32.toInt ((M.1 124 0) - 1) ≤ 6 := zr_nlt_l 0 c27_ b25_ b23_ (by decide)
          have b31_ : 0 ≤ Int32.toInt n1 ∧ Int32.toInt n1 ≤ 6 := zr_nlt_r 6 c27_ b23_ b30_ (by decide)
          have d32_ : Int32.toInt ((M.1 124 0) - 1) ≥ Int32.toInt n1 := Int.not_lt.mp ((not_congr (zi_lt _ _)).mp c27_)
          show PW 81 d (19, [some (pvR 124), some (pvI n1), some (pvI n2), none], [pvI 1], M) _
          refine pw_ifn hT (c := 1 = 0) rfl rfl (fun c33_ => ?_) (fun c33_ => absurd c33_ (by decide))
          have b34_ : 0 ≤ Int32.toInt (M.1 125 (Int32.toNatClampNeg n1)) ∧ Int32.toInt (M.1 125 (Int32.toNatClampNeg n1)) ≤ 6 := pvok_r hok 125 (Int32.toNatClampNeg n1) rfl
          refine pw_blk hT 6 (S' := (33, [some (pvR 124), some (pvI n1), some (pvI n2), some (pvI (M.1 125 (Int32.toNatClampNeg n1)))], [pvI n2], M)) rfl ⟨trivial, rfl, trivial, ⟨rfl, (zr_in (n := 7) b31_ (by decide) (by decide))⟩, trivial, trivial, trivial⟩ ?_
          refine pw_if hT (c := n2 = 0) rfl rfl (fun c35_ => ?_) (fun c35_ => ?_)
          · have b36_ : 0 ≤ Int32.toInt n2 ∧ Int32.toInt n2 ≤ 0 := (by have u0 := b13_; have u1 := (zi_eq _ _).mp c35_; have u2 := (show 0 ≤ Int32.toInt 0 ∧ Int32.toInt 0 ≤ 0 from (by decide)); omega)
            refine pw_blk hT 2 (S' := (78, [some (pvR 124), some (pvI n1), some (pvI n2), some (pvI (M.1 125 (Int32.toNatClampNeg n1)))], [pvI (M.1 125 (Int32.toNatClampNeg n1))], M)) rfl ⟨trivial, trivial, trivial⟩ ?_
            exact pw_ret hT rfl (r := some (pvI (M.1 125 (Int32.toNatClampNeg n1)))) (M' := M) ⟨rfl, rfl⟩ ⟨⟨_, rfl, (zr_wide b34_ (by decide) (by decide)), (by rw [if_neg c6_, if_neg c10_, if_neg c20_, if_neg c27_, if_pos c35_]; first | done | (rw [if_pos c35_]; done))⟩, rfl⟩
          · have b37_ : 1 ≤ Int32.toInt n2 ∧ Int32.toInt n2 ≤ 6 := (by have u0 := b13_; have u1 := (not_congr (zi_eq _ _)).mp c35_; have u2 := (show 0 ≤ Int32.toInt 0 ∧ Int32.toInt 0 ≤ 0 from (by decide)); omega)
            refine pw_blk hT 2 (S' := (38, [some (pvR 124), some (pvI n1), some (pvI n2), some (pvI (M.1 125 (Int32.toNatClampNeg n1)))], [pvI n2, pvI (M.1 125 (Int32.toNatClampNeg n1))], M)) rfl ⟨trivial, trivial, trivial⟩ ?_
            refine pw_ic hT (c := (M.1 125 (Int32.toNatClampNeg n1)) = n2) rfl rfl (fun c38_ => ?_) (fun c38_ => ?_)
            · have b39_ : 1 ≤ Int32.toInt (M.1 125 (Int32.toNatClampNeg n1)) ∧ Int32.toInt (M.1 125 (Int32.toNatClampNeg n1)) ≤ 6 := (by have u0 := b34_; have u1 := (zi_eq _ _).mp c38_; have u2 := b37_; omega)
              have d40_ : Int32.toInt (M.1 125 (Int32.toNatClampNeg n1)) = Int32.toInt n2 := (zi_eq _ _).mp c38_
              refine pw_blk hT 2 (S' := (78, [some (pvR 124), some (pvI n1), some (pvI n2), some (pvI (M.1 125 (Int32.toNatClampNeg n1)))], [pvI (M.1 125 (Int32.toNatClampNeg n1))], M)) rfl ⟨trivial, trivial, trivial⟩ ?_
              exact pw_ret hT rfl (r := some (pvI (M.1 125 (Int32.toNatClampNeg n1)))) (M' := M) ⟨rfl, rfl⟩ ⟨⟨_, rfl, (zr_wide b39_ (by decide) (by decide)), (by rw [if_neg c6_, if_neg c10_, if_neg c20_, if_neg c27_, if_neg c35_, if_pos c38_]; first | done | (rw [if_pos c38_]; done))⟩, rfl⟩
            · refine pw_blk hT 2 (S' := (43, [some (pvR 124), some (pvI n1), some (pvI n2), some (pvI (M.1 125 (Int32.toNatClampNeg n1)))], [pvI 1, pvI n2], M)) rfl ⟨trivial, trivial, trivial⟩ ?_
              refine pw_icn hT (c := n2 = 1) rfl rfl (fun c41_ => ?_) (fun c41_ => ?_)
              · have b42_ : 2 ≤ Int32.toInt n2 ∧ Int32.toInt n2 ≤ 6 := (by have u0 := b37_; have u1 := (not_congr (zi_eq _ _)).mp c41_; have u2 := (show 1 ≤ Int32.toInt 1 ∧ Int32.toInt 1 ≤ 1 from (by decide)); omega)
                refine pw_blk hT 2 (S' := (53, [some (pvR 124), some (pvI n1), some (pvI n2), some (pvI (M.1 125 (Int32.toNatClampNeg n1)))], [pvI 2, pvI n2], M)) rfl ⟨trivial, trivial, trivial⟩ ?_
                refine pw_icn hT (c := n2 = 2) rfl rfl (fun c43_ => ?_) (fun c43_ => ?_)
                · have b44_ : 3 ≤ Int32.toInt n2 ∧ Int32.toInt n2 ≤ 6 := (by have u0 := b42_; have u1 := (not_congr (zi_eq _ _)).mp c43_; have u2 := (show 2 ≤ Int32.toInt 2 ∧ Int32.toInt 2 ≤ 2 from (by decide)); omega)
                  refine pw_blk hT 2 (S' := (63, [some (pvR 124), some (pvI n1), some (pvI n2), some (pvI (M.1 125 (Int32.toNatClampNeg n1)))], [pvI 3, pvI n2], M)) rfl ⟨trivial, trivial, trivial⟩ ?_
                  refine pw_icn hT (c := n2 = 3) rfl rfl (fun c45_ => ?_) (fun c45_ => ?_)
                  · have b46_ : 4 ≤ Int32.toInt n2 ∧ Int32.toInt n2 ≤ 6 := (by have u0 := b44_; have u1 := (not_congr (zi_eq _ _)).mp c45_; have u2 := (show 3 ≤ Int32.toInt 3 ∧ Int32.toInt 3 ≤ 3 from (by decide)); omega)
                    refine pw_blk hT 1 (S' := (78, [some (pvR 124), some (pvI n1), some (pvI n2), some (pvI (M.1 125 (Int32.toNatClampNeg n1)))], [pvI (-12)], M)) rfl ⟨trivial, trivial⟩ ?_
                    exact pw_ret hT rfl (r := some (pvI (-12))) (M' := M) ⟨rfl, rfl⟩ ⟨⟨_, rfl, (zr_wide (show (-12) ≤ Int32.toInt (-12) ∧ Int32.toInt (-12) ≤ (-12) from (by decide)) (by decide) (by decide)), (by rw [if_neg c6_, if_neg c10_, if_neg c20_, if_neg c27_, if_neg c35_, if_neg c38_, if_neg c41_, if_neg c43_, if_neg c45_]; first | done | (rw [if_neg c45_]; done))⟩, rfl⟩
                  · have b47_ : 3 ≤ Int32.toInt n2 ∧ Int32.toInt n2 ≤ 3 := (by have u0 := b44_; have u1 := (zi_eq _ _).mp c45_; have u2 := (show 3 ≤ Int32.toInt 3 ∧ Int32.toInt 3 ≤ 3 from (by decide)); omega)
                    refine pw_blk hT 2 (S' := (69, [some (pvR 124), some (pvI n1), some (pvI n2), some (pvI (M.1 125 (Int32.toNatClampNeg n1)))], [pvI 6, pvI (M.1 125 (Int32.toNatClampNeg n1))], M)) rfl ⟨trivial, trivial, trivial⟩ ?_
                    refine pw_icn hT (c := (M.1 125 (Int32.toNatClampNeg n1)) = 6) rfl rfl (fun c48_ => ?_) (fun c48_ => ?_)
                    · have b49_ : 0 ≤ Int32.toInt (M.1 125 (Int32.toNatClampNeg n1)) ∧ Int32.toInt (M.1 125 (Int32.toNatClampNeg n1)) ≤ 5 := (by have u0 := b34_; have u1 := (not_congr (zi_eq _ _)).mp c48_; have u2 := (show 6 ≤ Int32.toInt 6 ∧ Int32.toInt 6 ≤ 6 from (by decide)); omega)
                      refine pw_blk hT 1 (S' := (78, [some (pvR 124), some (pvI n1), some (pvI n2), some (pvI (M.1 125 (Int32.toNatClampNeg n1)))], [pvI (-12)], M)) rfl ⟨trivial, trivial⟩ ?_
                      exact pw_ret hT rfl (r := some (pvI (-12))) (M' := M) ⟨rfl, rfl⟩ ⟨⟨_, rfl, (zr_wide (show (-12) ≤ Int32.toInt (-12) ∧ Int32.toInt (-12) ≤ (-12) from (by decide)) (by decide) (by decide)), (by rw [if_neg c6_, if_neg c10_, if_neg c20_, if_neg c27_, if_neg c35_, if_neg c38_, if_neg c41_, if_neg c43_, if_pos c45_, if_neg c48_]; first | done | (rw [if_neg c48_]; done))⟩, rfl⟩
                    · have b50_ : 6 ≤ Int32.toInt (M.1 125 (Int32.toNatClampNeg n1)) ∧ Int32.toInt (M.1 125 (Int32.toNatClampNeg n1)) ≤ 6 := (by have u0 := b34_; have u1 := (zi_eq _ _).mp c48_; have u2 := (show 6 ≤ Int32.toInt 6 ∧ Int32.toInt 6 ≤ 6 from (by decide)); omega)
                      refine pw_blk hT 2 (S' := (78, [some (pvR 124), some (pvI n1), some (pvI n2), some (pvI (M.1 125 (Int32.toNatClampNeg n1)))], [pvI (M.1 125 (Int32.toNatClampNeg n1))], M)) rfl ⟨trivial, trivial, trivial⟩ ?_
                      exact pw_ret hT rfl (r := some (pvI (M.1 125 (Int32.toNatClampNeg n1)))) (M' := M) ⟨rfl, rfl⟩ ⟨⟨_, rfl, (zr_wide b50_ (by decide) (by decide)), (by rw [if_neg c6_, if_neg c10_, if_neg c20_, if_neg c27_, if_neg c35_, if_neg c38_, if_neg c41_, if_neg c43_, if_pos c45_, if_pos c48_]; first | done | (rw [if_pos c48_]; done))⟩, rfl⟩
                · have b51_ : 2 ≤ Int32.toInt n2 ∧ Int32.toInt n2 ≤ 2 := (by have u0 := b42_; have u1 := (zi_eq _ _).mp c43_; have u2 := (show 2 ≤ Int32.toInt 2 ∧ Int32.toInt 2 ≤ 2 from (by decide)); omega)
                  refine pw_blk hT 2 (S' := (58, [some (pvR 124), some (pvI n1), some (pvI n2), some (pvI (M.1 125 (Int32.toNatClampNeg n1)))], [pvI 5, pvI (M.1 125 (Int32.toNatClampNeg n1))], M)) rfl ⟨trivial, trivial, trivial⟩ ?_
                  refine pw_ic hT (c := (M.1 125 (Int32.toNatClampNeg n1)) = 5) rfl rfl (fun c52_ => ?_) (fun c52_ => ?_)
                  · have b53_ : 5 ≤ Int32.toInt (M.1 125 (Int32.toNatClampNeg n1)) ∧ Int32.toInt (M.1 125 (Int32.toNatClampNeg n1)) ≤ 5 := (by have u0 := b34_; have u1 := (zi_eq _ _).mp c52_; have u2 := (show 5 ≤ Int32.toInt 5 ∧ Int32.toInt 5 ≤ 5 from (by decide)); omega)
                    refine pw_blk hT 2 (S' := (78, [some (pvR 124), some (pvI n1), some (pvI n2), some (pvI (M.1 125 (Int32.toNatClampNeg n1)))], [pvI (M.1 125 (Int32.toNatClampNeg n1))], M)) rfl ⟨trivial, trivial, trivial⟩ ?_
                    exact pw_ret hT rfl (r := some (pvI (M.1 125 (Int32.toNatClampNeg n1)))) (M' := M) ⟨rfl, rfl⟩ ⟨⟨_, rfl, (zr_wide b53_ (by decide) (by decide)), (by rw [if_neg c6_, if_neg c10_, if_neg c20_, if_neg c27_, if_neg c35_, if_neg c38_, if_neg c41_, if_pos c43_, if_pos c52_]; first | done | (rw [if_pos c52_]; done))⟩, rfl⟩
                  · refine pw_blk hT 2 (S' := (63, [some (pvR 124), some (pvI n1), some (pvI n2), some (pvI (M.1 125 (Int32.toNatClampNeg n1)))], [pvI 3, pvI n2], M)) rfl ⟨trivial, trivial, trivial⟩ ?_
                    refine pw_icn hT (c := n2 = 3) rfl rfl (fun c54_ => ?_) (fun c54_ => absurd c54_ (by have z0 := b51_; have z1 := (show 3 ≤ Int32.toInt 3 ∧ Int32.toInt 3 ≤ 3 from (by decide)); rw [zi_eq]; omega))
                    refine pw_blk hT 1 (S' := (78, [some (pvR 124), some (pvI n1), some (pvI n2), some (pvI (M.1 125 (Int32.toNatClampNeg n1)))], [pvI (-12)], M)) rfl ⟨trivial, trivial⟩ ?_
                    exact pw_ret hT rfl (r := some (pvI (-12))) (M' := M) ⟨rfl, rfl⟩ ⟨⟨_, rfl, (zr_wide (show (-12) ≤ Int32.toInt (-12) ∧ Int32.toInt (-12) ≤ (-12) from (by decide)) (by decide) (by decide)), (by rw [if_neg c6_, if_neg c10_, if_neg c20_, if_neg c27_, if_neg c35_, if_neg c38_, if_neg c41_, if_pos c43_, if_neg c52_]; first | done | (rw [if_neg c52_]; done))⟩, rfl⟩
              · have b55_ : 1 ≤ Int32.toInt n2 ∧ Int32.toInt n2 ≤ 1 := (by have u0 := b37_; have u1 := (zi_eq _ _).mp c41_; have u2 := (show 1 ≤ Int32.toInt 1 ∧ Int32.toInt 1 ≤ 1 from (by decide)); omega)
                refine pw_blk hT 2 (S' := (48, [some (pvR 124), some (pvI n1), some (pvI n2), some (pvI (M.1 125 (Int32.toNatClampNeg n1)))], [pvI 4, pvI (M.1 125 (Int32.toNatClampNeg n1))], M)) rfl ⟨trivial, trivial, trivial⟩ ?_
                refine pw_ic hT (c := (M.1 125 (Int32.toNatClampNeg n1)) = 4) rfl rfl (fun c56_ => ?_) (fun c56_ => ?_)
                · have b57_ : 4 ≤ Int32.toInt (M.1 125 (Int32.toNatClampNeg n1)) ∧ Int32.toInt (M.1 125 (Int32.toNatClampNeg n1)) ≤ 4 := (by have u0 := b34_; have u1 := (zi_eq _ _).mp c56_; have u2 := (show 4 ≤ Int32.toInt 4 ∧ Int32.toInt 4 ≤ 4 from (by decide)); omega)
                  refine pw_blk hT 2 (S' := (78, [some (pvR 124), some (pvI n1), some (pvI n2), some (pvI (M.1 125 (Int32.toNatClampNeg n1)))], [pvI (M.1 125 (Int32.toNatClampNeg n1))], M)) rfl ⟨trivial, trivial, trivial⟩ ?_
                  exact pw_ret hT rfl (r := some (pvI (M.1 125 (Int32.toNatClampNeg n1)))) (M' := M) ⟨rfl, rfl⟩ ⟨⟨_, rfl, (zr_wide b57_ (by decide) (by decide)), (by rw [if_neg c6_, if_neg c10_, if_neg c20_, if_neg c27_, if_neg c35_, if_neg c38_, if_pos c41_, if_pos c56_]; first | done | (rw [if_pos c56_]; done))⟩, rfl⟩
                · refine pw_blk hT 2 (S' := (53, [some (pvR 124), some (pvI n1), some (pvI n2), some (pvI (M.1 125 (Int32.toNatClampNeg n1)))], [pvI 2, pvI n2], M)) rfl ⟨trivial, trivial, trivial⟩ ?_
                  refine pw_icn hT (c := n2 = 2) rfl rfl (fun c58_ => ?_) (fun c58_ => absurd c58_ (by have z0 := b55_; have z1 := (show 2 ≤ Int32.toInt 2 ∧ Int32.toInt 2 ≤ 2 from (by decide)); rw [zi_eq]; omega))
                  refine pw_blk hT 2 (S' := (63, [some (pvR 124), some (pvI n1), some (pvI n2), some (pvI (M.1 125 (Int32.toNatClampNeg n1)))], [pvI 3, pvI n2], M)) rfl ⟨trivial, trivial, trivial⟩ ?_
                  refine pw_icn hT (c := n2 = 3) rfl rfl (fun c59_ => ?_) (fun c59_ => absurd c59_ (by have z0 := b55_; have z1 := (show 3 ≤ Int32.toInt 3 ∧ Int32.toInt 3 ≤ 3 from (by decide)); rw [zi_eq]; omega))
                  refine pw_blk hT 1 (S' := (78, [some (pvR 124), some (pvI n1), some (pvI n2), some (pvI (M.1 125 (Int32.toNatClampNeg n1)))], [pvI (-12)], M)) rfl ⟨trivial, trivial⟩ ?_
                  exact pw_ret hT rfl (r := some (pvI (-12))) (M' := M) ⟨rfl, rfl⟩ ⟨⟨_, rfl, (zr_wide (show (-12) ≤ Int32.toInt (-12) ∧ Int32.toInt (-12) ≤ (-12) from (by decide)) (by decide) (by decide)), (by rw [if_neg c6_, if_neg c10_, if_neg c20_, if_neg c27_, if_neg c35_, if_neg c38_, if_pos c41_, if_neg c56_]; first | done | (rw [if_neg c56_]; done))⟩, rfl⟩
