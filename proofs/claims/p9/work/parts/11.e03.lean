def fpL_eX10_mean_124_x : List (Nat × Nat × Nat) := [(0, 124, 4), (0, 124, 33), (0, 124, 36), (0, 141, 0), (0, 142, 0), (0, 143, 0), (0, 144, 0)]
def fp_eX10_mean_124_x (q k : Nat) : Bool := pvfp fpL_eX10_mean_124_x q k
theorem fp_eX10_mean_124_x_fp_X10_costOfRound_124_x (a b : Nat) (h : fp_X10_costOfRound_124_x a b = true) : fp_eX10_mean_124_x a b = true := pvfp_sub (l1 := fpL_X10_costOfRound_124_x) (l2 := fpL_eX10_mean_124_x) (by decide) a b h
set_option maxHeartbeats 4000000 in
set_option maxRecDepth 10000 in
theorem se_X10_mean_124_x (M : pvM) (hok : pvOk M) (n1 : Int32) (hz : pvWF M) (hx0 : Int32.toInt (M.1 124 3) ≤ 99) (d : Nat) : PW 55 d (0, [some (pvR 124), some (pvI n1), none, none, none], [], M) (fun r X => (∃ x : Int64, r = some (pvJ x)) ∧ pvOk X ∧ pvFr fp_eX10_mean_124_x M X ∧ X.1 124 3 = M.1 124 3) := by
  have hT : pvdom 55 = pvD_55 := rfl
  refine pw_blk hT 4 (S' := (4, [some (pvR 124), some (pvI n1), none, none, none], [pvI 1, pvI 0, pvI n1, pvR 124], M)) rfl ⟨trivial, trivial, trivial, trivial, trivial⟩ ?_
  refine pw_callT hT (as := [pvR 124, pvI n1, pvI 0, pvI 1]) (lo1 := [some (pvR 124), some (pvI n1), some (pvI 0), some (pvI 1)]) (d1 := d) (rest := []) rfl rfl rfl rfl rfl (fun _ => rfl) (Nat.zero_le _) rfl rfl rfl (sf_X10_in_124_x_x_x M hok n1 0 1 d) ?_
  by_cases c6_ : n1 < 0
  · refine pw_eqI (if_pos c6_) ?_
    have b7_ : (-2147483648) ≤ Int32.toInt n1 ∧ Int32.toInt n1 ≤ (-1) := zr_lt_l (-1) c6_ (zbnd n1) (show 0 ≤ Int32.toInt 0 ∧ Int32.toInt 0 ≤ 0 from (by decide)) (by decide)
    show PW 55 d (7, [some (pvR 124), some (pvI n1), none, none, none], [pvI 0], M) _
    refine pw_ifn hT (c := 0 = 0) rfl rfl (fun c8_ => absurd (by decide) c8_) (fun c8_ => ?_)
    refine pw_blk hT 1 (S' := (13, [some (pvR 124), some (pvI n1), none, none, none], [pvJ (-9223372036854775808)], M)) rfl ⟨trivial, trivial⟩ ?_
    exact pw_ret hT rfl (r := some (pvJ (-9223372036854775808))) (M' := M) ⟨rfl, rfl⟩ ⟨⟨_, rfl⟩, hok, pvfr_0, rfl⟩
  · refine pw_eqI (if_neg c6_) ?_
    have b9_ : 0 ≤ Int32.toInt n1 ∧ Int32.toInt n1 ≤ 2147483647 := zr_nlt_l 0 c6_ (zbnd n1) (show 0 ≤ Int32.toInt 0 ∧ Int32.toInt 0 ≤ 0 from (by decide)) (by decide)
    by_cases c10_ : 1 < n1
    · refine pw_eqI (if_pos c10_) ?_
      have b11_ : 2 ≤ Int32.toInt n1 ∧ Int32.toInt n1 ≤ 2147483647 := zr_lt_r 2 c10_ b9_ (show 1 ≤ Int32.toInt 1 ∧ Int32.toInt 1 ≤ 1 from (by decide)) (by decide)
      show PW 55 d (7, [some (pvR 124), some (pvI n1), none, none, none], [pvI 0], M) _
      refine pw_ifn hT (c := 0 = 0) rfl rfl (fun c12_ => absurd (by decide) c12_) (fun c12_ => ?_)
      refine pw_blk hT 1 (S' := (13, [some (pvR 124), some (pvI n1), none, none, none], [pvJ (-9223372036854775808)], M)) rfl ⟨trivial, trivial⟩ ?_
      exact pw_ret hT rfl (r := some (pvJ (-9223372036854775808))) (M' := M) ⟨rfl, rfl⟩ ⟨⟨_, rfl⟩, hok, pvfr_0, rfl⟩
    · refine pw_eqI (if_neg c10_) ?_
      have b13_ : 0 ≤ Int32.toInt n1 ∧ Int32.toInt n1 ≤ 1 := zr_nlt_r 1 c10_ b9_ (show 1 ≤ Int32.toInt 1 ∧ Int32.toInt 1 ≤ 1 from (by decide)) (by decide)
      show PW 55 d (7, [some (pvR 124), some (pvI n1), none, none, none], [pvI 1], M) _
      refine pw_ifn hT (c := 1 = 0) rfl rfl (fun c14_ => ?_) (fun c14_ => absurd c14_ (by decide))
      have b15_ : 0 ≤ Int32.toInt (M.1 124 3) ∧ Int32.toInt (M.1 124 3) ≤ 108 := pvok_r hok 124 3 rfl
      refine pw_blk hT 7 (S' := (24, [some (pvR 124), some (pvI n1), some (pvI (M.1 124 3)), some (pvI 0), some (pvI 0)], [], M)) rfl ⟨trivial, rfl, trivial, trivial, trivial, trivial, trivial, trivial⟩ ?_
      have hlz121_ : ∀ (nz121_ : Nat) (i3z121_ : Int32) (i4z121_ : Int32) (Mz121_ : pvM), (pvOk Mz121_) → (pvFr fp_eX10_mean_124_x M Mz121_) → (0 ≤ Int32.toInt i3z121_ ∧ Int32.toInt i3z121_ ≤ 90000000) → (0 ≤ Int32.toInt i4z121_ ∧ Int32.toInt i4z121_ ≤ 10) → (Int32.toInt i3z121_ ≤ 9000000 * Int32.toInt i4z121_) → (zhide ((11 - Int32.toInt i4z121_).toNat < nz121_)) → PW 55 d (24, [some (pvR 124), some (pvI n1), some (pvI (M.1 124 3)), some (pvI i3z121_), some (pvI i4z121_)], [], Mz121_) (fun r X => (∃ x : Int64, r = some (pvJ x)) ∧ pvOk X ∧ pvFr fp_eX10_mean_124_x M X ∧ X.1 124 3 = M.1 124 3) := by
        intro nz121_
        induction nz121_ with
        | zero => intro i3z121_ i4z121_ Mz121_ oz121_ fz121_ h3z121_ h4z121_ j0z121_ hmz121_; exact absurd (zshow hmz121_) (Nat.not_lt_zero _)
        | succ nz121_ ihz121_ =>
          intro i3z121_ i4z121_ Mz121_ oz121_ fz121_ h3z121_ h4z121_ j0z121_ hmz121_
          refine pw_blk hT 2 (S' := (28, [some (pvR 124), some (pvI n1), some (pvI (M.1 124 3)), some (pvI i3z121_), some (pvI i4z121_)], [pvI 10, pvI i4z121_], Mz121_)) rfl ⟨trivial, trivial, trivial⟩ ?_
          refine pw_ic hT (c := 10 ≤ i4z121_) rfl rfl (fun c122_ => ?_) (fun c122_ => ?_)
          · have b123_ : 10 ≤ Int32.toInt i4z121_ ∧ Int32.toInt i4z121_ ≤ 10 := zr_le_r 10 c122_ h4z121_ (show 10 ≤ Int32.toInt 10 ∧ Int32.toInt 10 ≤ 10 from (by decide)) (by decide)
            refine pw_blkw hT 3 (pc := 58) (lo := [some (pvR 124), some (pvI n1), some (pvI (M.1 124 3)), some (pvI i3z121_), some (pvI i4z121_)]) (st := []) (M := pvu Mz121_ 124 3 (M.1 124 3)) rfl ⟨trivial, trivial, rfl, trivial⟩ (fun M124_ e125_ => ?_)
            have o126_ : pvOk M124_ := pvok_u2 e125_ oz121_ rfl b15_
            have f127_ : pvFr fp_eX10_mean_124_x M M124_ := pvfr_u e125_ fz121_ rfl
            refine pw_blk hT 4 (S' := (63, [some (pvR 124), some (pvI n1), some (pvI (M.1 124 3)), some (pvI i3z121_), some (pvI i4z121_)], [pvI n1, pvI 10, pvI i3z121_, pvR 124], M124_)) rfl ⟨trivial, trivial, trivial, trivial, trivial⟩ ?_
            refine pw_callJp hT (as := [pvR 124, pvI i3z121_, pvI 10, pvI n1]) (lo1 := [some (pvR 124), some (pvI i3z121_), some (pvI 10), some (pvI n1), none]) (d1 := d) (rest := []) rfl rfl rfl rfl rfl (fun _ => rfl) (Nat.zero_le _) rfl rfl rfl (sf_X10_lowest_124_x_x_x M124_ o126_ i3z121_ 10 n1 h3z121_ (zr_wide (show 10 ≤ Int32.toInt 10 ∧ Int32.toInt 10 ≤ 10 from (by decide)) (by decide) (by decide)) d) (fun x128_ b130_ => ?_)
            exact pw_ret hT rfl (r := some (pvJ x128_)) (M' := M124_) ⟨rfl, rfl⟩ ⟨⟨_, rfl⟩, o126_, f127_, (pvu_s e125_)⟩
          · have b133_ : 0 ≤ Int32.toInt i4z121_ ∧ Int32.toInt i4z121_ ≤ 9 := zr_nle_r 9 c122_ h4z121_ (show 10 ≤ Int32.toInt 10 ∧ Int32.toInt 10 ≤ 10 from (by decide)) (by decide)
            obtain ⟨q135_, b134_⟩ : (Int32.toInt ((M.1 124 3) + i4z121_) = Int32.toInt (M.1 124 3) + Int32.toInt i4z121_) ∧ (0 ≤ Int32.toInt ((M.1 124 3) + i4z121_) ∧ Int32.toInt ((M.1 124 3) + i4z121_) ≤ 117) := zadd_r (M.1 124 3) i4z121_ 0 117 b15_ b133_ (by decide) (by decide) (by decide) (by decide)
            refine pw_blkw hT 5 (pc := 39) (lo := [some (pvR 124), some (pvI n1), some (pvI (M.1 124 3)), some (pvI i3z121_), some (pvI i4z121_)]) (st := []) (M := pvu Mz121_ 124 3 ((M.1 124 3) + i4z121_)) rfl ⟨trivial, trivial, trivial, trivial, rfl, trivial⟩ (fun M136_ e137_ => ?_)
            have o138_ : pvOk M136_ := pvok_u2 e137_ oz121_ rfl (by have u0 := b134_; omega)
            have f139_ : pvFr fp_eX10_mean_124_x M M136_ := pvfr_u e137_ fz121_ rfl
            refine pw_blk hT 3 (S' := (42, [some (pvR 124), some (pvI n1), some (pvI (M.1 124 3)), some (pvI i3z121_), some (pvI i4z121_)], [pvI 0, pvR 124, pvI i3z121_], M136_)) rfl ⟨trivial, trivial, trivial, trivial⟩ ?_
            have u140_ : Int32.toInt 0 = 0 := by decide
            refine pw_callG hT (as := [pvR 124, pvI 0]) (lo1 := [some (pvR 124), some (pvI 0)]) (d1 := d) (rest := [pvI i3z121_]) rfl rfl rfl rfl rfl (fun _ => rfl) (Nat.zero_le _) rfl rfl rfl (sf_X10_costOfRound_124_x M136_ o138_ 0 (zr_wide (show 0 ≤ Int32.toInt 0 ∧ Int32.toInt 0 ≤ 0 from (by decide)) (by decide) (by decide)) (pvWF_fr (L := fpL_eX10_mean_124_x) rfl f139_ hz) d) (fun x141_ M142_ b143_ o144_ g145_ => ?_)
            have f146_ : pvFr fp_eX10_mean_124_x M M142_ := pvfr_t g145_ f139_ fp_eX10_mean_124_x_fp_X10_costOfRound_124_x
            obtain ⟨q148_, b147_⟩ : (Int32.toInt (i3z121_ + x141_) = Int32.toInt i3z121_ + Int32.toInt x141_) ∧ (0 ≤ Int32.toInt (i3z121_ + x141_) ∧ Int32.toInt (i3z121_ + x141_) ≤ 99000000) := zadd_r i3z121_ x141_ 0 99000000 h3z121_ b143_ (by decide) (by decide) (by decide) (by decide)
            obtain ⟨q150_, b149_⟩ : (Int32.toInt (i4z121_ + 1) = Int32.toInt i4z121_ + 1) ∧ (1 ≤ Int32.toInt (i4z121_ + 1) ∧ Int32.toInt (i4z121_ + 1) ≤ 10) := zadd_k i4z121_ 1 1 1 10 b133_ (by decide) (by decide) (by decide) (by decide) (by decide)
            refine pw_blk hT 4 (S' := (24, [some (pvR 124), some (pvI n1), some (pvI (M.1 124 3)), some (pvI (i3z121_ + x141_)), some (pvI (i4z121_ + 1))], [], M142_)) rfl ⟨trivial, trivial, trivial, trivial, trivial⟩ ?_
            have j151_ : Int32.toInt (i3z121_ + x141_) ≤ 9000000 * Int32.toInt (i4z121_ + 1) := by omega
            exact ihz121_ (i3z121_ + x141_) (i4z121_ + 1) M142_ o144_ f146_ (by have u0 := b147_; omega) (zr_wide b149_ (by decide) (by decide)) j151_ (zhid (pvms_up (zshow hmz121_) h4z121_ q150_ (by decide) (by decide)))
      have u152_ : Int32.toInt 0 = 0 := by decide
      have j153_ : Int32.toInt 0 ≤ 9000000 * Int32.toInt 0 := by omega
      exact hlz121_ _ 0 0 M hok pvfr_0 (zr_wide (show 0 ≤ Int32.toInt 0 ∧ Int32.toInt 0 ≤ 0 from (by decide)) (by decide) (by decide)) (zr_wide (show 0 ≤ Int32.toInt 0 ∧ Int32.toInt 0 ≤ 0 from (by decide)) (by decide) (by decide)) j153_ (zhid (Nat.lt_succ_self _))
def fpL_eX10_odds_124_x_x : List (Nat × Nat × Nat) := [(0, 124, 33), (0, 124, 36), (0, 124, 5), (0, 141, 0), (0, 142, 0), (0, 143, 0), (0, 144, 0)]
def fp_eX10_odds_124_x_x (q k : Nat) : Bool := pvfp fpL_eX10_odds_124_x_x q k
theorem fp_eX10_odds_124_x_x_fp_X10_costOfRound_124_x (a b : Nat) (h : fp_X10_costOfRound_124_x a b = true) : fp_eX10_odds_124_x_x a b = true := pvfp_sub (l1 := fpL_X10_costOfRound_124_x) (l2 := fpL_eX10_odds_124_x_x) (by decide) a b h
set_option maxHeartbeats 4000000 in
set_option maxRecDepth 10000 in
theorem se_X10_odds_124_x_x (M : pvM) (hok : pvOk M) (n1 : Int32) (n2 : Int32) (hz : pvWF M) (d : Nat) : PW 58 d (0, [some (pvR 124), some (pvI n1), some (pvI n2), none, none], [], M) (fun r X => (∃ x : Int64, r = some (pvJ x)) ∧ pvOk X ∧ pvFr fp_eX10_odds_124_x_x M X ∧ X.1 124 4 = M.1 124 4) := by
  have hT : pvdom 58 = pvD_58 := rfl
  refine pw_blk hT 2 (S' := (2, [some (pvR 124), some (pvI n1), some (pvI n2), none, none], [pvI n1, pvR 124], M)) rfl ⟨trivial, trivial, trivial⟩ ?_
  refine pw_callT hT (as := [pvR 124, pvI n1]) (lo1 := [some (pvR 124), some (pvI n1)]) (d1 := d) (rest := []) rfl rfl rfl rfl rfl (fun _ => rfl) (Nat.zero_le _) rfl rfl rfl (sf_X10_isLimit_124_x M hok n1 d) ?_
  by_cases c6_ : n1 < 0
  · refine pw_eqI (if_pos c6_) ?_
    have b7_ : (-2147483648) ≤ Int32.toInt n1 ∧ Int32.toInt n1 ≤ (-1) := zr_lt_l (-1) c6_ (zbnd n1) (show 0 ≤ Int32.toInt 0 ∧ Int32.toInt 0 ≤ 0 from (by decide)) (by decide)
    show PW 58 d (5, [some (pvR 124), some (pvI n1), some (pvI n2), none, none], [pvI 0], M) _
    refine pw_if hT (c := 0 = 0) rfl rfl (fun c8_ => ?_) (fun c8_ => absurd (by decide) c8_)
    refine pw_blk hT 1 (S' := (21, [some (pvR 124), some (pvI n1), some (pvI n2), none, none], [pvJ (-9223372036854775808)], M)) rfl ⟨trivial, trivial⟩ ?_
    exact pw_ret hT rfl (r := some (pvJ (-9223372036854775808))) (M' := M) ⟨rfl, rfl⟩ ⟨⟨_, rfl⟩, hok, pvfr_0, rfl⟩
  · refine pw_eqI (if_neg c6_) ?_
    have b9_ : 0 ≤ Int32.toInt n1 ∧ Int32.toInt n1 ≤ 2147483647 := zr_nlt_l 0 c6_ (zbnd n1) (show 0 ≤ Int32.toInt 0 ∧ Int32.toInt 0 ≤ 0 from (by decide)) (by decide)
    by_cases c10_ : 99999 < n1
    · refine pw_eqI (if_pos c10_) ?_
      have b11_ : 100000 ≤ Int32.toInt n1 ∧ Int32.toInt n1 ≤ 2147483647 := zr_lt_r 100000 c10_ b9_ (show 99999 ≤ Int32.toInt 99999 ∧ Int32.toInt 99999 ≤ 99999 from (by decide)) (by decide)
      show PW 58 d (5, [some (pvR 124), some (pvI n1), some (pvI n2), none, none], [pvI 0], M) _
      refine pw_if hT (c := 0 = 0) rfl rfl (fun c12_ => ?_) (fun c12_ => absurd (by decide) c12_)
      refine pw_blk hT 1 (S' := (21, [some (pvR 124), some (pvI n1), some (pvI n2), none, none], [pvJ (-9223372036854775808)], M)) rfl ⟨trivial, trivial⟩ ?_
      exact pw_ret hT rfl (r := some (pvJ (-9223372036854775808))) (M' := M) ⟨rfl, rfl⟩ ⟨⟨_, rfl⟩, hok, pvfr_0, rfl⟩
    · refine pw_eqI (if_neg c10_) ?_
      have b13_ : 0 ≤ Int32.toInt n1 ∧ Int32.toInt n1 ≤ 99999 := zr_nlt_r 99999 c10_ b9_ (show 99999 ≤ Int32.toInt 99999 ∧ Int32.toInt 99999 ≤ 99999 from (by decide)) (by decide)
      show PW 58 d (5, [some (pvR 124), some (pvI n1), some (pvI n2), none, none], [pvI 1], M) _
      refine pw_if hT (c := 1 = 0) rfl rfl (fun c14_ => absurd c14_ (by decide)) (fun c14_ => ?_)
      refine pw_blk hT 4 (S' := (12, [some (pvR 124), some (pvI n1), some (pvI n2), none, none], [pvI 1, pvI 0, pvI n2, pvR 124], M)) rfl ⟨trivial, trivial, trivial, trivial, trivial⟩ ?_
      refine pw_callT hT (as := [pvR 124, pvI n2, pvI 0, pvI 1]) (lo1 := [some (pvR 124), some (pvI n2), some (pvI 0), some (pvI 1)]) (d1 := d) (rest := []) rfl rfl rfl rfl rfl (fun _ => rfl) (Nat.zero_le _) rfl rfl rfl (sf_X10_in_124_x_x_x M hok n2 0 1 d) ?_
      by_cases c20_ : n2 < 0
      · refine pw_eqI (if_pos c20_) ?_
        have b21_ : (-2147483648) ≤ Int32.toInt n2 ∧ Int32.toInt n2 ≤ (-1) := zr_lt_l (-1) c20_ (zbnd n2) (show 0 ≤ Int32.toInt 0 ∧ Int32.toInt 0 ≤ 0 from (by decide)) (by decide)
        show PW 58 d (15, [some (pvR 124), some (pvI n1), some (pvI n2), none, none], [pvI 0], M) _
        refine pw_ifn hT (c := 0 = 0) rfl rfl (fun c22_ => absurd (by decide) c22_) (fun c22_ => ?_)
        refine pw_blk hT 1 (S' := (21, [some (pvR 124), some (pvI n1), some (pvI n2), none, none], [pvJ (-9223372036854775808)], M)) rfl ⟨trivial, trivial⟩ ?_
        exact pw_ret hT rfl (r := some (pvJ (-9223372036854775808))) (M' := M) ⟨rfl, rfl⟩ ⟨⟨_, rfl⟩, hok, pvfr_0, rfl⟩
      · refine pw_eqI (if_neg c20_) ?_
        have b23_ : 0 ≤ Int32.toInt n2 ∧ Int32.toInt n2 ≤ 2147483647 := zr_nlt_l 0 c20_ (zbnd n2) (show 0 ≤ Int32.toInt 0 ∧ Int32.toInt 0 ≤ 0 from (by decide)) (by decide)
        by_cases c24_ : 1 < n2
        · refine pw_eqI (if_pos c24_) ?_
          have b25_ : 2 ≤ Int32.toInt n2 ∧ Int32.toInt n2 ≤ 2147483647 := zr_lt_r 2 c24_ b23_ (show 1 ≤ Int32.toInt 1 ∧ Int32.toInt 1 ≤ 1 from (by decide)) (by decide)
          show PW 58 d (15, [some (pvR 124), some (pvI n1), some (pvI n2), none, none], [pvI 0], M) _
          refine pw_ifn hT (c := 0 = 0) rfl rfl (fun c26_ => absurd (by decide) c26_) (fun c26_ => ?_)
          refine pw_blk hT 1 (S' := (21, [some (pvR 124), some (pvI n1), some (pvI n2), none, none], [pvJ (-9223372036854775808)], M)) rfl ⟨trivial, trivial⟩ ?_
          exact pw_ret hT rfl (r := some (pvJ (-9223372036854775808))) (M' := M) ⟨rfl, rfl⟩ ⟨⟨_, rfl⟩, hok, pvfr_0, rfl⟩
        · refine pw_eqI (if_neg c24_) ?_
          have b27_ : 0 ≤ Int32.toInt n2 ∧ Int32.toInt n2 ≤ 1 := zr_nlt_r 1 c24_ b23_ (show 1 ≤ Int32.toInt 1 ∧ Int32.toInt 1 ≤ 1 from (by decide)) (by decide)
          show PW 58 d (15, [some (pvR 124), some (pvI n1), some (pvI n2), none, none], [pvI 1], M) _
          refine pw_ifn hT (c := 1 = 0) rfl rfl (fun c28_ => ?_) (fun c28_ => absurd c28_ (by decide))
          have b29_ : 0 ≤ Int32.toInt (M.1 124 4) ∧ Int32.toInt (M.1 124 4) ≤ 4 := pvok_r hok 124 4 rfl
          refine pw_blkw hT 8 (pc := 35) (lo := [some (pvR 124), some (pvI n1), some (pvI n2), some (pvI (M.1 124 4)), some (pvI 0)]) (st := []) (M := pvu M 124 4 0) rfl ⟨trivial, rfl, trivial, trivial, trivial, trivial, trivial, rfl, trivial⟩ (fun M30_ e31_ => ?_)
          have o32_ : pvOk M30_ := pvok_u2 e31_ hok rfl (zr_wide (show 0 ≤ Int32.toInt 0 ∧ Int32.toInt 0 ≤ 0 from (by decide)) (by decide) (by decide))
          have f33_ : pvFr fp_eX10_odds_124_x_x M M30_ := pvfr_u e31_ pvfr_0 rfl
          have hlz206_ : ∀ (nz206_ : Nat) (i4z206_ : Int32) (Mz206_ : pvM), (pvOk Mz206_) → (pvFr fp_eX10_odds_124_x_x M Mz206_) → (0 ≤ Int32.toInt i4z206_ ∧ Int32.toInt i4z206_ ≤ 4) → (Int32.toInt i4z206_ ≤ Int32.toInt (Mz206_.1 124 4)) → (zhide ((5 - Int32.toInt (Mz206_.1 124 4)).toNat < nz206_)) → PW 58 d (35, [some (pvR 124), some (pvI n1), some (pvI n2), some (pvI (M.1 124 4)), some (pvI i4z206_)], [], Mz206_) (fun r X => (∃ x : Int64, r = some (pvJ x)) ∧ pvOk X ∧ pvFr fp_eX10_odds_124_x_x M X ∧ X.1 124 4 = M.1 124 4) := by
            intro nz206_
            induction nz206_ with
            | zero => intro i4z206_ Mz206_ oz206_ fz206_ h4z206_ j0z206_ hmz206_; exact absurd (zshow hmz206_) (Nat.not_lt_zero _)
            | succ nz206_ ihz206_ =>
              intro i4z206_ Mz206_ oz206_ fz206_ h4z206_ j0z206_ hmz206_
              have b207_ : 0 ≤ Int32.toInt (Mz206_.1 124 4) ∧ Int32.toInt (Mz206_.1 124 4) ≤ 4 := pvok_r oz206_ 124 4 rfl
              refine pw_blk hT 3 (S' := (40, [some (pvR 124), some (pvI n1), some (pvI n2), some (pvI (M.1 124 4)), some (pvI i4z206_)], [pvI 4, pvI (Mz206_.1 124 4)], Mz206_)) rfl ⟨trivial, rfl, trivial, trivial⟩ ?_
              refine pw_ic hT (c := 4 ≤ (Mz206_.1 124 4)) rfl rfl (fun c208_ => ?_) (fun c208_ => ?_)
              · have b209_ : 4 ≤ Int32.toInt (Mz206_.1 124 4) ∧ Int32.toInt (Mz206_.1 124 4) ≤ 4 := zr_le_r 4 c208_ b207_ (show 4 ≤ Int32.toInt 4 ∧ Int32.toInt 4 ≤ 4 from (by decide)) (by decide)
                refine pw_blkw hT 3 (pc := 80) (lo := [some (pvR 124), some (pvI n1), some (pvI n2), some (pvI (M.1 124 4)), some (pvI i4z206_)]) (st := []) (M := pvu Mz206_ 124 4 (M.1 124 4)) rfl ⟨trivial, trivial, rfl, trivial⟩ (fun M210_ e211_ => ?_)
                have o212_ : pvOk M210_ := pvok_u2 e211_ oz206_ rfl b29_
                have f213_ : pvFr fp_eX10_odds_124_x_x M M210_ := pvfr_u e211_ fz206_ rfl
                refine pw_blk hT 4 (S' := (85, [some (pvR 124), some (pvI n1), some (pvI n2), some (pvI (M.1 124 4)), some (pvI i4z206_)], [pvI n2, pvI 4, pvI i4z206_, pvR 124], M210_)) rfl ⟨trivial, trivial, trivial, trivial, trivial⟩ ?_
                refine pw_callJp hT (as := [pvR 124, pvI i4z206_, pvI 4, pvI n2]) (lo1 := [some (pvR 124), some (pvI i4z206_), some (pvI 4), some (pvI n2), none]) (d1 := d) (rest := []) rfl rfl rfl rfl rfl (fun _ => rfl) (Nat.zero_le _) rfl rfl rfl (sf_X10_lowest_124_x_x_x M210_ o212_ i4z206_ 4 n2 (zr_wide h4z206_ (by decide) (by decide)) (zr_wide (show 4 ≤ Int32.toInt 4 ∧ Int32.toInt 4 ≤ 4 from (by decide)) (by decide) (by decide)) d) (fun x214_ b216_ => ?_)
                exact pw_ret hT rfl (r := some (pvJ x214_)) (M' := M210_) ⟨rfl, rfl⟩ ⟨⟨_, rfl⟩, o212_, f213_, (pvu_s e211_)⟩
              · have b219_ : 0 ≤ Int32.toInt (Mz206_.1 124 4) ∧ Int32.toInt (Mz206_.1 124 4) ≤ 3 := zr_nle_r 3 c208_ b207_ (show 4 ≤ Int32.toInt 4 ∧ Int32.toInt 4 ≤ 4 from (by decide)) (by decide)
                refine pw_blk hT 3 (S' := (47, [some (pvR 124), some (pvI n1), some (pvI n2), some (pvI (M.1 124 4)), some (pvI i4z206_)], [pvI 0, pvR 124, pvI i4z206_], Mz206_)) rfl ⟨trivial, trivial, trivial, trivial⟩ ?_
                have u220_ : Int32.toInt 0 = 0 := by decide
                refine pw_callG hT (as := [pvR 124, pvI 0]) (lo1 := [some (pvR 124), some (pvI 0)]) (d1 := d) (rest := [pvI i4z206_]) rfl rfl rfl rfl rfl (fun _ => rfl) (Nat.zero_le _) rfl rfl rfl (sf_X10_costOfRound_124_x Mz206_ oz206_ 0 (zr_wide (show 0 ≤ Int32.toInt 0 ∧ Int32.toInt 0 ≤ 0 from (by decide)) (by decide) (by decide)) (pvWF_fr (L := fpL_eX10_odds_124_x_x) rfl fz206_ hz) d) (fun x221_ M222_ b223_ o224_ g225_ => ?_)
                have f226_ : pvFr fp_eX10_odds_124_x_x M M222_ := pvfr_t g225_ fz206_ fp_eX10_odds_124_x_x_fp_X10_costOfRound_124_x
                refine pw_blk hT 1 (S' := (51, [some (pvR 124), some (pvI n1), some (pvI n2), some (pvI (M.1 124 4)), some (pvI i4z206_)], [pvI n1, pvI x221_, pvI i4z206_], M222_)) rfl ⟨trivial, trivial⟩ ?_
                refine pw_ic hT (c := n1 < x221_) rfl rfl (fun c227_ => ?_) (fun c227_ => ?_)
                · have b228_ : 1 ≤ Int32.toInt x221_ ∧ Int32.toInt x221_ ≤ 9000000 := zr_lt_r 1 c227_ b223_ b13_ (by decide)
                  have d229_ : Int32.toInt n1 < Int32.toInt x221_ := (zi_lt _ _).mp c227_
                  obtain ⟨q231_, b230_⟩ : (Int32.toInt (i4z206_ + 0) = Int32.toInt i4z206_ + 0) ∧ (0 ≤ Int32.toInt (i4z206_ + 0) ∧ Int32.toInt (i4z206_ + 0) ≤ 4) := zadd_k i4z206_ 0 0 0 4 h4z206_ (by decide) (by decide) (by decide) (by decide) (by decide)
                  have e232_ : (M222_.1 124 4) = (Mz206_.1 124 4) := (g225_ 124 4 rfl)
                  have b233_ : 0 ≤ Int32.toInt (M222_.1 124 4) ∧ Int32.toInt (M222_.1 124 4) ≤ 3 := (by rw [e232_]; exact b219_)
                  have d234_ : Int32.toInt (M222_.1 124 4) = Int32.toInt (Mz206_.1 124 4) := congrArg Int32.toInt e232_
                  obtain ⟨q236_, b235_⟩ : (Int32.toInt ((M222_.1 124 4) + 1) = Int32.toInt (M222_.1 124 4) + 1) ∧ (1 ≤ Int32.toInt ((M222_.1 124 4) + 1) ∧ Int32.toInt ((M222_.1 124 4) + 1) ≤ 4) := zadd_k (M222_.1 124 4) 1 1 1 4 b233_ (by decide) (by decide) (by decide) (by decide) (by decide)
                  refine pw_blkw hT 9 (pc := 72) (lo := [some (pvR 124), some (pvI n1), some (pvI n2), some (pvI (M.1 124 4)), some (pvI (i4z206_ + 0))]) (st := []) (M := pvu M222_ 124 4 ((M222_.1 124 4) + 1)) rfl ⟨trivial, trivial, trivial, trivial, trivial, rfl, trivial, trivial, rfl, trivial⟩ (fun M237_ e238_ => ?_)
                  have o239_ : pvOk M237_ := pvok_u2 e238_ o224_ rfl (zr_wide b235_ (by decide) (by decide))
                  have f240_ : pvFr fp_eX10_odds_124_x_x M M237_ := pvfr_u e238_ f226_ rfl
                  refine pw_blk hT 1 (S' := (35, [some (pvR 124), some (pvI n1), some (pvI n2), some (pvI (M.1 124 4)), some (pvI (i4z206_ + 0))], [], M237_)) rfl ⟨trivial, trivial⟩ ?_
                  have j241_ : Int32.toInt (i4z206_ + 0) ≤ Int32.toInt (M237_.1 124 4) := by have z1 : Int32.toInt (M237_.1 124 4) = Int32.toInt ((M222_.1 124 4) + 1) := congrArg Int32.toInt (pvu_s e238_); have z2 : Int32.toInt (M222_.1 124 4) = Int32.toInt (Mz206_.1 124 4) := congrArg Int32.toInt (g225_ 124 4 rfl); have y01 : Int32.toInt (M237_.1 124 4) = Int32.toInt ((M222_.1 124 4) + 1) := congrArg Int32.toInt (pvu_s e238_); have y02 : Int32.toInt (M222_.1 124 4) = Int32.toInt (Mz206_.1 124 4) := congrArg Int32.toInt (g225_ 124 4 rfl); omega
                  exact ihz206_ (i4z206_ + 0) M237_ o239_ f240_ b230_ j241_ (zhid (by have hm0 := zshow hmz206_; have z1 : Int32.toInt (M237_.1 124 4) = Int32.toInt ((M222_.1 124 4) + 1) := congrArg Int32.toInt (pvu_s e238_); have z2 : Int32.toInt (M222_.1 124 4) = Int32.toInt (Mz206_.1 124 4) := congrArg Int32.toInt (g225_ 124 4 rfl); have y01 : Int32.toInt (M237_.1 124 4) = Int32.toInt ((M222_.1 124 4) + 1) := congrArg Int32.toInt (pvu_s e238_); have y02 : Int32.toInt (M222_.1 124 4) = Int32.toInt (Mz206_.1 124 4) := congrArg Int32.toInt (g225_ 124 4 rfl); omega))
                · have b242_ : 0 ≤ Int32.toInt x221_ ∧ Int32.toInt x221_ ≤ 99999 := zr_nlt_r 99999 c227_ b223_ b13_ (by decide)
                  have d243_ : Int32.toInt n1 ≥ Int32.toInt x221_ := Int.not_lt.mp ((not_congr (zi_lt _ _)).mp c227_)
                  obtain ⟨q245_, b244_⟩ : (Int32.toInt (i4z206_ + 1) = Int32.toInt i4z206_ + 1) ∧ (1 ≤ Int32.toInt (i4z206_ + 1) ∧ Int32.toInt (i4z206_ + 1) ≤ 5) := zadd_k i4z206_ 1 1 1 5 h4z206_ (by decide) (by decide) (by decide) (by decide) (by decide)
                  have e246_ : (M222_.1 124 4) = (Mz206_.1 124 4) := (g225_ 124 4 rfl)
                  have b247_ : 0 ≤ Int32.toInt (M222_.1 124 4) ∧ Int32.toInt (M222_.1 124 4) ≤ 3 := (by rw [e246_]; exact b219_)
                  have d248_ : Int32.toInt (M222_.1 124 4) = Int32.toInt (Mz206_.1 124 4) := congrArg Int32.toInt e246_
                  obtain ⟨q250_, b249_⟩ : (Int32.toInt ((M222_.1 124 4) + 1) = Int32.toInt (M222_.1 124 4) + 1) ∧ (1 ≤ Int32.toInt ((M222_.1 124 4) + 1) ∧ Int32.toInt ((M222_.1 124 4) + 1) ≤ 4) := zadd_k (M222_.1 124 4) 1 1 1 4 b247_ (by decide) (by decide) (by decide) (by decide) (by decide)
                  refine pw_blkw hT 10 (pc := 72) (lo := [some (pvR 124), some (pvI n1), some (pvI n2), some (pvI (M.1 124 4)), some (pvI (i4z206_ + 1))]) (st := []) (M := pvu M222_ 124 4 ((M222_.1 124 4) + 1)) rfl ⟨trivial, trivial, trivial, trivial, trivial, trivial, rfl, trivial, trivial, rfl, trivial⟩ (fun M251_ e252_ => ?_)
                  have o253_ : pvOk M251_ := pvok_u2 e252_ o224_ rfl (zr_wide b249_ (by decide) (by decide))
                  have f254_ : pvFr fp_eX10_odds_124_x_x M M251_ := pvfr_u e252_ f226_ rfl
                  refine pw_blk hT 1 (S' := (35, [some (pvR 124), some (pvI n1), some (pvI n2), some (pvI (M.1 124 4)), some (pvI (i4z206_ + 1))], [], M251_)) rfl ⟨trivial, trivial⟩ ?_
                  have j255_ : Int32.toInt (i4z206_ + 1) ≤ Int32.toInt (M251_.1 124 4) := by have z1 : Int32.toInt (M251_.1 124 4) = Int32.toInt ((M222_.1 124 4) + 1) := congrArg Int32.toInt (pvu_s e252_); have z2 : Int32.toInt (M222_.1 124 4) = Int32.toInt (Mz206_.1 124 4) := congrArg Int32.toInt (g225_ 124 4 rfl); have y01 : Int32.toInt (M251_.1 124 4) = Int32.toInt ((M222_.1 124 4) + 1) := congrArg Int32.toInt (pvu_s e252_); have y02 : Int32.toInt (M222_.1 124 4) = Int32.toInt (Mz206_.1 124 4) := congrArg Int32.toInt (g225_ 124 4 rfl); omega
                  exact ihz206_ (i4z206_ + 1) M251_ o253_ f254_ (by have u0 := b244_; omega) j255_ (zhid (by have hm0 := zshow hmz206_; have z1 : Int32.toInt (M251_.1 124 4) = Int32.toInt ((M222_.1 124 4) + 1) := congrArg Int32.toInt (pvu_s e252_); have z2 : Int32.toInt (M222_.1 124 4) = Int32.toInt (Mz206_.1 124 4) := congrArg Int32.toInt (g225_ 124 4 rfl); have y01 : Int32.toInt (M251_.1 124 4) = Int32.toInt ((M222_.1 124 4) + 1) := congrArg Int32.toInt (pvu_s e252_); have y02 : Int32.toInt (M222_.1 124 4) = Int32.toInt (Mz206_.1 124 4) := congrArg Int32.toInt (g225_ 124 4 rfl); omega))
          have u256_ : Int32.toInt 0 = 0 := by decide
          have j257_ : Int32.toInt 0 ≤ Int32.toInt (M30_.1 124 4) := by have y01 : Int32.toInt (M30_.1 124 4) = Int32.toInt 0 := congrArg Int32.toInt (pvu_s e31_); have y03 : Int32.toInt 0 = 0 := (by decide); omega
          exact hlz206_ _ 0 M30_ o32_ f33_ (zr_wide (show 0 ≤ Int32.toInt 0 ∧ Int32.toInt 0 ≤ 0 from (by decide)) (by decide) (by decide)) j257_ (zhid (Nat.lt_succ_self _))
def fpL_eX10_see_124_x_x : List (Nat × Nat × Nat) := [(0, 124, 41), (0, 147, 0), (0, 148, 0)]
def fp_eX10_see_124_x_x (q k : Nat) : Bool := pvfp fpL_eX10_see_124_x_x q k
set_option maxHeartbeats 4000000 in
set_option maxRecDepth 10000 in
theorem se_X10_see_124_x_x (M : pvM) (hok : pvOk M) (n1 : Int32) (n2 : Int32) (d : Nat) : PW 71 d (0, [some (pvR 124), some (pvI n1), some (pvI n2)], [], M) (fun r X => (∃ x : Int32, r = some (pvI x) ∧ ((-4) ≤ Int32.toInt x ∧ Int32.toInt x ≤ 6) ∧ x = (if n1 = (-1) then 0 else (if n1 < 0 then (-1) else (if ((M.1 124 0) - 1) < n1 then (-1) else (if n2 < 0 then (-2) else (if 9999 < n2 then (-2) else (if (M.1 124 40) = 6 then (-4) else ((M.1 124 40) + 1)))))))) ∧ pvOk X ∧ pvFr fp_eX10_see_124_x_x M X ∧ X.1 124 40 = (if n1 = (-1) then 0 else (if n1 < 0 then (M.1 124 40) else (if ((M.1 124 0) - 1) < n1 then (M.1 124 40) else (if n2 < 0 then (M.1 124 40) else (if 9999 < n2 then (M.1 124 40) else (if (M.1 124 40) = 6 then (M.1 124 40) else ((M.1 124 40) + 1)))))))) := by
  have hT : pvdom 71 = pvD_71 := rfl
  refine pw_blk hT 2 (S' := (2, [some (pvR 124), some (pvI n1), some (pvI n2)], [pvI (-1), pvI n1], M)) rfl ⟨trivial, trivial, trivial⟩ ?_
  refine pw_icn hT (c := n1 = (-1)) rfl rfl (fun c1_ => ?_) (fun c1_ => ?_)
  · refine pw_blk hT 2 (S' := (14, [some (pvR 124), some (pvI n1), some (pvI n2)], [pvI n1, pvR 124], M)) rfl ⟨trivial, trivial, trivial⟩ ?_
    refine pw_callT hT (as := [pvR 124, pvI n1]) (lo1 := [some (pvR 124), some (pvI n1)]) (d1 := d) (rest := []) rfl rfl rfl rfl rfl (fun _ => rfl) (Nat.zero_le _) rfl rfl rfl (sf_X10_isWindow_124_x M hok n1 d) ?_
    by_cases c7_ : n1 < 0
    · refine pw_eqI (if_pos c7_) ?_
      have b8_ : (-2147483648) ≤ Int32.toInt n1 ∧ Int32.toInt n1 ≤ (-2) := (by have u0 := (zbnd n1); have u9 := (show _ ∧ _ from ⟨(zi_lt _ _).mp c7_, (show 0 ≤ Int32.toInt 0 ∧ Int32.toInt 0 ≤ 0 from (by decide))⟩); have v1 := (not_congr (zi_eq _ _)).mp c1_; have w1 : ((-1) : Int32).toInt = -1 := (by decide); omega)
      show PW 71 d (17, [some (pvR 124), some (pvI n1), some (pvI n2)], [pvI 0], M) _
      refine pw_ifn hT (c := 0 = 0) rfl rfl (fun c9_ => absurd (by decide) c9_) (fun c9_ => ?_)
      refine pw_blk hT 1 (S' := (21, [some (pvR 124), some (pvI n1), some (pvI n2)], [pvI (-1)], M)) rfl ⟨trivial, trivial⟩ ?_
      exact pw_ret hT rfl (r := some (pvI (-1))) (M' := M) ⟨rfl, rfl⟩ ⟨⟨_, rfl, (zr_wide (show (-1) ≤ Int32.toInt (-1) ∧ Int32.toInt (-1) ≤ (-1) from (by decide)) (by decide) (by decide)), (by rw [if_neg c1_, if_pos c7_]; first | done | (rw [if_pos c7_]; done))⟩, hok, pvfr_0, (by rw [if_neg c1_, if_pos c7_]; first | done | exact rfl | (rw [if_pos c7_]; done) | (rw [if_pos c7_]; exact rfl))⟩
    · refine pw_eqI (if_neg c7_) ?_
      have b10_ : 0 ≤ Int32.toInt n1 ∧ Int32.toInt n1 ≤ 2147483647 := zr_nlt_l 0 c7_ (zbnd n1) (show 0 ≤ Int32.toInt 0 ∧ Int32.toInt 0 ≤ 0 from (by decide)) (by decide)
      have b11_ : 0 ≤ Int32.toInt (M.1 124 0) ∧ Int32.toInt (M.1 124 0) ≤ 7 := pvok_r hok 124 0 rfl
      obtain ⟨q13_, b12_⟩ : (Int32.toInt ((M.1 124 0) - 1) = Int32.toInt (M.1 124 0) - 1) ∧ ((-1) ≤ Int32.toInt ((M.1 124 0) - 1) ∧ Int32.toInt ((M.1 124 0) - 1) ≤ 6) := zsub_k (M.1 124 0) 1 1 (-1) 6 b11_ (by decide) (by decide) (by decide) (by decide) (by decide)
      by_cases c14_ : ((M.1 124 0) - 1) < n1
      · refine pw_eqI (if_pos c14_) ?_
        have d15_ : Int32.toInt ((M.1 124 0) - 1) < Int32.toInt n1 := (zi_lt _ _).mp c14_
        show PW 71 d (17, [some (pvR 124), some (pvI n1), some (pvI n2)], [pvI 0], M) _
        refine pw_ifn hT (c := 0 = 0) rfl rfl (fun c16_ => absurd (by decide) c16_) (fun c16_ => ?_)
        refine pw_blk hT 1 (S' := (21, [some (pvR 124), some (pvI n1), some (pvI n2)], [pvI (-1)], M)) rfl ⟨trivial, trivial⟩ ?_
        exact pw_ret hT rfl (r := some (pvI (-1))) (M' := M) ⟨rfl, rfl⟩ ⟨⟨_, rfl, (zr_wide (show (-1) ≤ Int32.toInt (-1) ∧ Int32.toInt (-1) ≤ (-1) from (by decide)) (by decide) (by decide)), (by rw [if_neg c1_, if_neg c7_, if_pos c14_]; first | done | (rw [if_pos c14_]; done))⟩, hok, pvfr_0, (by rw [if_neg c1_, if_neg c7_, if_pos c14_]; first | done | exact rfl | (rw [if_pos c14_]; done) | (rw [if_pos c14_]; exact rfl))⟩
      · refine pw_eqI (if_neg c14_) ?_
        have b17_ : 0 ≤ Int32.toInt ((M.1 124 0) - 1) ∧ Int32.toInt ((M.1 124 0) - 1) ≤ 6 := zr_nlt_l 0 c14_ b12_ b10_ (by decide)
        have b18_ : 0 ≤ Int32.toInt n1 ∧ Int32.toInt n1 ≤ 6 := zr_nlt_r 6 c14_ b10_ b17_ (by decide)
        have d19_ : Int32.toInt ((M.1 124 0) - 1) ≥ Int32.toInt n1 := Int.not_lt.mp ((not_congr (zi_lt _ _)).mp c14_)
        show PW 71 d (17, [some (pvR 124), some (pvI n1), some (pvI n2)], [pvI 1], M) _
        refine pw_ifn hT (c := 1 = 0) rfl rfl (fun c20_ => ?_) (fun c20_ => absurd c20_ (by decide))
        refine pw_blk hT 4 (S' := (28, [some (pvR 124), some (pvI n1), some (pvI n2)], [pvI 9999, pvI 0, pvI n2, pvR 124], M)) rfl ⟨trivial, trivial, trivial, trivial, trivial⟩ ?_
        refine pw_callT hT (as := [pvR 124, pvI n2, pvI 0, pvI 9999]) (lo1 := [some (pvR 124), some (pvI n2), some (pvI 0), some (pvI 9999)]) (d1 := d) (rest := []) rfl rfl rfl rfl rfl (fun _ => rfl) (Nat.zero_le _) rfl rfl rfl (sf_X10_in_124_x_x_x M hok n2 0 9999 d) ?_
        by_cases c26_ : n2 < 0
        · refine pw_eqI (if_pos c26_) ?_
          have b27_ : (-2147483648) ≤ Int32.toInt n2 ∧ Int32.toInt n2 ≤ (-1) := zr_lt_l (-1) c26_ (zbnd n2) (show 0 ≤ Int32.toInt 0 ∧ Int32.toInt 0 ≤ 0 from (by decide)) (by decide)
          show PW 71 d (31, [some (pvR 124), some (pvI n1), some (pvI n2)], [pvI 0], M) _
          refine pw_ifn hT (c := 0 = 0) rfl rfl (fun c28_ => absurd (by decide) c28_) (fun c28_ => ?_)
          refine pw_blk hT 1 (S' := (36, [some (pvR 124), some (pvI n1), some (pvI n2)], [pvI (-2)], M)) rfl ⟨trivial, trivial⟩ ?_
          exact pw_ret hT rfl (r := some (pvI (-2))) (M' := M) ⟨rfl, rfl⟩ ⟨⟨_, rfl, (zr_wide (show (-2) ≤ Int32.toInt (-2) ∧ Int32.toInt (-2) ≤ (-2) from (by decide)) (by decide) (by decide)), (by rw [if_neg c1_, if_neg c7_, if_neg c14_, if_pos c26_]; first | done | (rw [if_pos c26_]; done))⟩, hok, pvfr_0, (by rw [if_neg c1_, if_neg c7_, if_neg c14_, if_pos c26_]; first | done | exact rfl | (rw [if_pos c26_]; done) | (rw [if_pos c26_]; exact rfl))⟩
        · refine pw_eqI (if_neg c26_) ?_
          have b29_ : 0 ≤ Int32.toInt n2 ∧ Int32.toInt n2 ≤ 2147483647 := zr_nlt_l 0 c26_ (zbnd n2) (show 0 ≤ Int32.toInt 0 ∧ Int32.toInt 0 ≤ 0 from (by decide)) (by decide)
          by_cases c30_ : 9999 < n2
          · refine pw_eqI (if_pos c30_) ?_
            have b31_ : 10000 ≤ Int32.toInt n2 ∧ Int32.toInt n2 ≤ 2147483647 := zr_lt_r 10000 c30_ b29_ (show 9999 ≤ Int32.toInt 9999 ∧ Int32.toInt 9999 ≤ 9999 from (by decide)) (by decide)
            show PW 71 d (31, [some (pvR 124), some (pvI n1), some (pvI n2)], [pvI 0], M) _
            refine pw_ifn hT (c := 0 = 0) rfl rfl (fun c32_ => absurd (by decide) c32_) (fun c32_ => ?_)
            refine pw_blk hT 1 (S' := (36, [some (pvR 124), some (pvI n1), some (pvI n2)], [pvI (-2)], M)) rfl ⟨trivial, trivial⟩ ?_
            exact pw_ret hT rfl (r := some (pvI (-2))) (M' := M) ⟨rfl, rfl⟩ ⟨⟨_, rfl, (zr_wide (show (-2) ≤ Int32.toInt (-2) ∧ Int32.toInt (-2) ≤ (-2) from (by decide)) (by decide) (by decide)), (by rw [if_neg c1_, if_neg c7_, if_neg c14_, if_neg c26_, if_pos c30_]; first | done | (rw [if_pos c30_]; done))⟩, hok, pvfr_0, (by rw [if_neg c1_, if_neg c7_, if_neg c14_, if_neg c26_, if_pos c30_]; first | done | exact rfl | (rw [if_pos c30_]; done) | (rw [if_pos c30_]; exact rfl))⟩
          · refine pw_eqI (if_neg c30_) ?_
            have b33_ : 0 ≤ Int32.toInt n2 ∧ Int32.toInt n2 ≤ 9999 := zr_nlt_r 9999 c30_ b29_ (show 9999 ≤ Int32.toInt 9999 ∧ Int32.toInt 9999 ≤ 9999 from (by decide)) (by decide)
            show PW 71 d (31, [some (pvR 124), some (pvI n1), some (pvI n2)], [pvI 1], M) _
            refine pw_ifn hT (c := 1 = 0) rfl rfl (fun c34_ => ?_) (fun c34_ => absurd c34_ (by decide))
            have b35_ : 0 ≤ Int32.toInt (M.1 124 40) ∧ Int32.toInt (M.1 124 40) ≤ 6 := pvok_r hok 124 40 rfl
            refine pw_blk hT 3 (S' := (43, [some (pvR 124), some (pvI n1), some (pvI n2)], [pvI 6, pvI (M.1 124 40)], M)) rfl ⟨trivial, rfl, trivial, trivial⟩ ?_
            refine pw_icn hT (c := (M.1 124 40) = 6) rfl rfl (fun c36_ => ?_) (fun c36_ => ?_)
            · have b37_ : 0 ≤ Int32.toInt (M.1 124 40) ∧ Int32.toInt (M.1 124 40) ≤ 5 := (by have u0 := b35_; have u1 := (not_congr (zi_eq _ _)).mp c36_; have u2 := (show 6 ≤ Int32.toInt 6 ∧ Int32.toInt 6 ≤ 6 from (by decide)); omega)
              refine pw_blkw hT 6 (pc := 59) (lo := [some (pvR 124), some (pvI n1), some (pvI n2)]) (st := []) (M := pvu M 147 (Int32.toNatClampNeg (M.1 124 40)) n1) rfl ⟨trivial, rfl, trivial, rfl, trivial, ⟨rfl, (zr_in (n := 6) b37_ (by decide) (by decide))⟩, trivial⟩ (fun M38_ e39_ => ?_)
              have o40_ : pvOk M38_ := pvok_u2 e39_ hok rfl b18_
              have f41_ : pvFr fp_eX10_see_124_x_x M M38_ := pvfr_u e39_ pvfr_0 rfl
              have e42_ : (M38_.1 124 40) = (M.1 124 40) := (pvu_n e39_ 124 40 (Or.inl (by decide)))
              have b43_ : 0 ≤ Int32.toInt (M38_.1 124 40) ∧ Int32.toInt (M38_.1 124 40) ≤ 5 := (by rw [e42_]; exact b37_)
              refine pw_blkw hT 6 (pc := 69) (lo := [some (pvR 124), some (pvI n1), some (pvI n2)]) (st := []) (M := pvu M38_ 148 (Int32.toNatClampNeg (M38_.1 124 40)) n2) rfl ⟨trivial, rfl, trivial, rfl, trivial, ⟨rfl, (zr_in (n := 6) b43_ (by decide) (by decide))⟩, trivial⟩ (fun M44_ e45_ => ?_)
              have o46_ : pvOk M44_ := pvok_u2 e45_ o40_ rfl b33_
              have f47_ : pvFr fp_eX10_see_124_x_x M M44_ := pvfr_u e45_ f41_ rfl
              have e48_ : (M44_.1 124 40) = (M38_.1 124 40) := (pvu_n e45_ 124 40 (Or.inl (by decide)))
              have b49_ : 0 ≤ Int32.toInt (M44_.1 124 40) ∧ Int32.toInt (M44_.1 124 40) ≤ 5 := (by rw [e48_]; exact b43_)
              obtain ⟨q51_, b50_⟩ : (Int32.toInt ((M44_.1 124 40) + 1) = Int32.toInt (M44_.1 124 40) + 1) ∧ (1 ≤ Int32.toInt ((M44_.1 124 40) + 1) ∧ Int32.toInt ((M44_.1 124 40) + 1) ≤ 6) := zadd_k (M44_.1 124 40) 1 1 1 6 b49_ (by decide) (by decide) (by decide) (by decide) (by decide)
              refine pw_blkw hT 6 (pc := 79) (lo := [some (pvR 124), some (pvI n1), some (pvI n2)]) (st := []) (M := pvu M44_ 124 40 ((M44_.1 124 40) + 1)) rfl ⟨trivial, trivial, rfl, trivial, trivial, rfl, trivial⟩ (fun M52_ e53_ => ?_)
              have o54_ : pvOk M52_ := pvok_u2 e53_ o46_ rfl (zr_wide b50_ (by decide) (by decide))
              have f55_ : pvFr fp_eX10_see_124_x_x M M52_ := pvfr_u e53_ f47_ rfl
              have e56_ : (M52_.1 124 40) = ((M44_.1 124 40) + 1) := (pvu_s e53_)
              have b57_ : 1 ≤ Int32.toInt (M52_.1 124 40) ∧ Int32.toInt (M52_.1 124 40) ≤ 6 := (by rw [e56_]; exact b50_)
              refine pw_blk hT 2 (S' := (83, [some (pvR 124), some (pvI n1), some (pvI n2)], [pvI (M52_.1 124 40)], M52_)) rfl ⟨trivial, rfl, trivial⟩ ?_
              exact pw_ret hT rfl (r := some (pvI (M52_.1 124 40))) (M' := M52_) ⟨rfl, rfl⟩ ⟨⟨_, rfl, (zr_wide b57_ (by decide) (by decide)), (by rw [if_neg c1_, if_neg c7_, if_neg c14_, if_neg c26_, if_neg c30_, if_neg c36_]; first | done | exact (show (M52_.1 124 40) = ((M.1 124 40) + 1) from by rw [((pvu_s e53_).trans (show ((M44_.1 124 40) + 1) = ((M.1 124 40) + 1) from by rw [((pvu_n e45_ 124 40 (Or.inl (by decide))).trans (pvu_n e39_ 124 40 (Or.inl (by decide))))]))]) | (rw [if_neg c36_]; exact (show (M52_.1 124 40) = ((M.1 124 40) + 1) from by rw [((pvu_s e53_).trans (show ((M44_.1 124 40) + 1) = ((M.1 124 40) + 1) from by rw [((pvu_n e45_ 124 40 (Or.inl (by decide))).trans (pvu_n e39_ 124 40 (Or.inl (by decide))))]))])))⟩, o54_, f55_, (by rw [if_neg c1_, if_neg c7_, if_neg c14_, if_neg c26_, if_neg c30_, if_neg c36_]; first | done | exact ((pvu_s e53_).trans (show ((M44_.1 124 40) + 1) = ((M.1 124 40) + 1) from by rw [((pvu_n e45_ 124 40 (Or.inl (by decide))).trans (pvu_n e39_ 124 40 (Or.inl (by decide))))])) | (rw [if_neg c36_]; done) | (rw [if_neg c36_]; exact ((pvu_s e53_).trans (show ((M44_.1 124 40) + 1) = ((M.1 124 40) + 1) from by rw [((pvu_n e45_ 124 40 (Or.inl (by decide))).trans (pvu_n e39_ 124 40 (Or.inl (by decide))))]))))⟩
            · have b58_ : 6 ≤ Int32.toInt (M.1 124 40) ∧ Int32.toInt (M.1 124 40) ≤ 6 := (by have u0 := b35_; have u1 := (zi_eq _ _).mp c36_; have u2 := (show 6 ≤ Int32.toInt 6 ∧ Int32.toInt 6 ≤ 6 from (by decide)); omega)
              refine pw_blk hT 1 (S' := (48, [some (pvR 124), some (pvI n1), some (pvI n2)], [pvI (-4)], M)) rfl ⟨trivial, trivial⟩ ?_
              exact pw_ret hT rfl (r := some (pvI (-4))) (M' := M) ⟨rfl, rfl⟩ ⟨⟨_, rfl, (zr_wide (show (-4) ≤ Int32.toInt (-4) ∧ Int32.toInt (-4) ≤ (-4) from (by decide)) (by decide) (by decide)), (by rw [if_neg c1_, if_neg c7_, if_neg c14_, if_neg c26_, if_neg c30_, if_pos c36_]; first | done | (rw [if_pos c36_]; done))⟩, hok, pvfr_0, (by rw [if_neg c1_, if_neg c7_, if_neg c14_, if_neg c26_, if_neg c30_, if_pos c36_]; first | done | exact rfl | (rw [if_pos c36_]; done) | (rw [if_pos c36_]; exact rfl))⟩
  · have b59_ : (-1) ≤ Int32.toInt n1 ∧ Int32.toInt n1 ≤ (-1) := (by have u0 := (zbnd n1); have u1 := (zi_eq _ _).mp c1_; have u2 := (show (-1) ≤ Int32.toInt (-1) ∧ Int32.toInt (-1) ≤ (-1) from (by decide)); omega)
    refine pw_blkw hT 3 (pc := 10) (lo := [some (pvR 124), some (pvI n1), some (pvI n2)]) (st := []) (M := pvu M 124 40 0) rfl ⟨trivial, trivial, rfl, trivial⟩ (fun M60_ e61_ => ?_)
    have o62_ : pvOk M60_ := pvok_u2 e61_ hok rfl (zr_wide (show 0 ≤ Int32.toInt 0 ∧ Int32.toInt 0 ≤ 0 from (by decide)) (by decide) (by decide))
    have f63_ : pvFr fp_eX10_see_124_x_x M M60_ := pvfr_u e61_ pvfr_0 rfl
    refine pw_blk hT 1 (S' := (11, [some (pvR 124), some (pvI n1), some (pvI n2)], [pvI 0], M60_)) rfl ⟨trivial, trivial⟩ ?_
    exact pw_ret hT rfl (r := some (pvI 0)) (M' := M60_) ⟨rfl, rfl⟩ ⟨⟨_, rfl, (zr_wide (show 0 ≤ Int32.toInt 0 ∧ Int32.toInt 0 ≤ 0 from (by decide)) (by decide) (by decide)), (by rw [if_pos c1_]; first | done | (rw [if_pos c1_]; done))⟩, o62_, f63_, (by rw [if_pos c1_]; first | done | exact (pvu_s e61_) | (rw [if_pos c1_]; done) | (rw [if_pos c1_]; exact (pvu_s e61_)))⟩
def fpL_eX10_sides_124_x : List (Nat × Nat × Nat) := [(0, 124, 33), (0, 124, 5), (0, 141, 0), (0, 142, 0), (0, 143, 0)]
def fp_eX10_sides_124_x (q k : Nat) : Bool := pvfp fpL_eX10_sides_124_x q k
theorem fp_eX10_sides_124_x_fp_X10_costOfNone_124 (a b : Nat) (h : fp_X10_costOfNone_124 a b = true) : fp_eX10_sides_124_x a b = true := pvfp_sub (l1 := fpL_X10_costOfNone_124) (l2 := fpL_eX10_sides_124_x) (by decide) a b h
theorem fp_eX10_sides_124_x_fp_X10_layRain_124 (a b : Nat) (h : fp_X10_layRain_124 a b = true) : fp_eX10_sides_124_x a b = true := pvfp_sub (l1 := fpL_X10_layRain_124) (l2 := fpL_eX10_sides_124_x) (by decide) a b h
set_option maxHeartbeats 4000000 in
set_option maxRecDepth 10000 in
theorem se_X10_sides_124_x (M : pvM) (hok : pvOk M) (n1 : Int32) (hz : pvWF M) (d : Nat) : PW 77 d (0, [some (pvR 124), some (pvI n1), none, none, none, none], [], M) (fun r X => (∃ x : Int32, r = some (pvI x) ∧ (-1) ≤ Int32.toInt x ∧ Int32.toInt x ≤ 2147483647) ∧ pvOk X ∧ pvFr fp_eX10_sides_124_x M X ∧ X.1 124 4 = M.1 124 4) := by
  have hT : pvdom 77 = pvD_77 := rfl
  refine pw_blk hT 4 (S' := (4, [some (pvR 124), some (pvI n1), none, none, none, none], [pvI 1, pvI 0, pvI n1, pvR 124], M)) rfl ⟨trivial, trivial, trivial, trivial, trivial⟩ ?_
  refine pw_callT hT (as := [pvR 124, pvI n1, pvI 0, pvI 1]) (lo1 := [some (pvR 124), some (pvI n1), some (pvI 0), some (pvI 1)]) (d1 := d) (rest := []) rfl rfl rfl rfl rfl (fun _ => rfl) (Nat.zero_le _) rfl rfl rfl (sf_X10_in_124_x_x_x M hok n1 0 1 d) ?_
  by_cases c6_ : n1 < 0
  · refine pw_eqI (if_pos c6_) ?_
    have b7_ : (-2147483648) ≤ Int32.toInt n1 ∧ Int32.toInt n1 ≤ (-1) := zr_lt_l (-1) c6_ (zbnd n1) (show 0 ≤ Int32.toInt 0 ∧ Int32.toInt 0 ≤ 0 from (by decide)) (by decide)
    show PW 77 d (7, [some (pvR 124), some (pvI n1), none, none, none, none], [pvI 0], M) _
    refine pw_ifn hT (c := 0 = 0) rfl rfl (fun c8_ => absurd (by decide) c8_) (fun c8_ => ?_)
    refine pw_blk hT 1 (S' := (11, [some (pvR 124), some (pvI n1), none, none, none, none], [pvI (-1)], M)) rfl ⟨trivial, trivial⟩ ?_
    exact pw_ret hT rfl (r := some (pvI (-1))) (M' := M) ⟨rfl, rfl⟩ ⟨⟨_, rfl, (zr_wide (show (-1) ≤ Int32.toInt (-1) ∧ Int32.toInt (-1) ≤ (-1) from (by decide)) (by decide) (by decide))⟩, hok, pvfr_0, rfl⟩
  · refine pw_eqI (if_neg c6_) ?_
    have b9_ : 0 ≤ Int32.toInt n1 ∧ Int32.toInt n1 ≤ 2147483647 := zr_nlt_l 0 c6_ (zbnd n1) (show 0 ≤ Int32.toInt 0 ∧ Int32.toInt 0 ≤ 0 from (by decide)) (by decide)
    by_cases c10_ : 1 < n1
    · refine pw_eqI (if_pos c10_) ?_
      have b11_ : 2 ≤ Int32.toInt n1 ∧ Int32.toInt n1 ≤ 2147483647 := zr_lt_r 2 c10_ b9_ (show 1 ≤ Int32.toInt 1 ∧ Int32.toInt 1 ≤ 1 from (by decide)) (by decide)
      show PW 77 d (7, [some (pvR 124), some (pvI n1), none, none, none, none], [pvI 0], M) _
      refine pw_ifn hT (c := 0 = 0) rfl rfl (fun c12_ => absurd (by decide) c12_) (fun c12_ => ?_)
      refine pw_blk hT 1 (S' := (11, [some (pvR 124), some (pvI n1), none, none, none, none], [pvI (-1)], M)) rfl ⟨trivial, trivial⟩ ?_
      exact pw_ret hT rfl (r := some (pvI (-1))) (M' := M) ⟨rfl, rfl⟩ ⟨⟨_, rfl, (zr_wide (show (-1) ≤ Int32.toInt (-1) ∧ Int32.toInt (-1) ≤ (-1) from (by decide)) (by decide) (by decide))⟩, hok, pvfr_0, rfl⟩
    · refine pw_eqI (if_neg c10_) ?_
      have b13_ : 0 ≤ Int32.toInt n1 ∧ Int32.toInt n1 ≤ 1 := zr_nlt_r 1 c10_ b9_ (show 1 ≤ Int32.toInt 1 ∧ Int32.toInt 1 ≤ 1 from (by decide)) (by decide)
      show PW 77 d (7, [some (pvR 124), some (pvI n1), none, none, none, none], [pvI 1], M) _
      refine pw_ifn hT (c := 1 = 0) rfl rfl (fun c14_ => ?_) (fun c14_ => absurd c14_ (by decide))
      have b15_ : 0 ≤ Int32.toInt (M.1 124 4) ∧ Int32.toInt (M.1 124 4) ≤ 4 := pvok_r hok 124 4 rfl
      refine pw_blkw hT 10 (pc := 27) (lo := [some (pvR 124), some (pvI n1), some (pvI (M.1 124 4)), some (pvI 0), some (pvI (-1)), none]) (st := []) (M := pvu M 124 4 0) rfl ⟨trivial, rfl, trivial, trivial, trivial, trivial, trivial, trivial, trivial, rfl, trivial⟩ (fun M16_ e17_ => ?_)
      have o18_ : pvOk M16_ := pvok_u2 e17_ hok rfl (zr_wide (show 0 ≤ Int32.toInt 0 ∧ Int32.toInt 0 ≤ 0 from (by decide)) (by decide) (by decide))
      have f19_ : pvFr fp_eX10_sides_124_x M M16_ := pvfr_u e17_ pvfr_0 rfl
      have hlz172_ : ∀ (nz172_ : Nat) (i3z172_ : Int32) (i4z172_ : Int32) (v5z172_ : Option pvV) (Mz172_ : pvM), (pvOk Mz172_) → (pvFr fp_eX10_sides_124_x M Mz172_) → (0 ≤ Int32.toInt i3z172_ ∧ Int32.toInt i3z172_ ≤ 2147483647) → ((-1) ≤ Int32.toInt i4z172_ ∧ Int32.toInt i4z172_ ≤ 2147483647) → (zhide ((5 - Int32.toInt (Mz172_.1 124 4)).toNat < nz172_)) → PW 77 d (27, [some (pvR 124), some (pvI n1), some (pvI (M.1 124 4)), some (pvI i3z172_), some (pvI i4z172_), v5z172_], [], Mz172_) (fun r X => (∃ x : Int32, r = some (pvI x) ∧ (-1) ≤ Int32.toInt x ∧ Int32.toInt x ≤ 2147483647) ∧ pvOk X ∧ pvFr fp_eX10_sides_124_x M X ∧ X.1 124 4 = M.1 124 4) := by
        intro nz172_
        induction nz172_ with
        | zero => intro i3z172_ i4z172_ v5z172_ Mz172_ oz172_ fz172_ h3z172_ h4z172_ hmz172_; exact absurd (zshow hmz172_) (Nat.not_lt_zero _)
        | succ nz172_ ihz172_ =>
          intro i3z172_ i4z172_ v5z172_ Mz172_ oz172_ fz172_ h3z172_ h4z172_ hmz172_
          have b173_ : 0 ≤ Int32.toInt (Mz172_.1 124 4) ∧ Int32.toInt (Mz172_.1 124 4) ≤ 4 := pvok_r oz172_ 124 4 rfl
          refine pw_blk hT 3 (S' := (32, [some (pvR 124), some (pvI n1), some (pvI (M.1 124 4)), some (pvI i3z172_), some (pvI i4z172_), v5z172_], [pvI 4, pvI (Mz172_.1 124 4)], Mz172_)) rfl ⟨trivial, rfl, trivial, trivial⟩ ?_
          refine pw_ic hT (c := 4 ≤ (Mz172_.1 124 4)) rfl rfl (fun c174_ => ?_) (fun c174_ => ?_)
          · have b175_ : 4 ≤ Int32.toInt (Mz172_.1 124 4) ∧ Int32.toInt (Mz172_.1 124 4) ≤ 4 := zr_le_r 4 c174_ b173_ (show 4 ≤ Int32.toInt 4 ∧ Int32.toInt 4 ≤ 4 from (by decide)) (by decide)
            refine pw_blkw hT 3 (pc := 82) (lo := [some (pvR 124), some (pvI n1), some (pvI (M.1 124 4)), some (pvI i3z172_), some (pvI i4z172_), v5z172_]) (st := []) (M := pvu Mz172_ 124 4 (M.1 124 4)) rfl ⟨trivial, trivial, rfl, trivial⟩ (fun M176_ e177_ => ?_)
            have o178_ : pvOk M176_ := pvok_u2 e177_ oz172_ rfl b15_
            have f179_ : pvFr fp_eX10_sides_124_x M M176_ := pvfr_u e177_ fz172_ rfl
            refine pw_blk hT 1 (S' := (83, [some (pvR 124), some (pvI n1), some (pvI (M.1 124 4)), some (pvI i3z172_), some (pvI i4z172_), v5z172_], [pvI n1], M176_)) rfl ⟨trivial, trivial⟩ ?_
            refine pw_ifn hT (c := n1 = 0) rfl rfl (fun c180_ => ?_) (fun c180_ => ?_)
            · have b181_ : 1 ≤ Int32.toInt n1 ∧ Int32.toInt n1 ≤ 1 := (by have u0 := b13_; have u1 := (not_congr (zi_eq _ _)).mp c180_; have u2 := (show 0 ≤ Int32.toInt 0 ∧ Int32.toInt 0 ≤ 0 from (by decide)); omega)
              refine pw_blk hT 1 (S' := (92, [some (pvR 124), some (pvI n1), some (pvI (M.1 124 4)), some (pvI i3z172_), some (pvI i4z172_), v5z172_], [pvI i4z172_], M176_)) rfl ⟨trivial, trivial⟩ ?_
              exact pw_ret hT rfl (r := some (pvI i4z172_)) (M' := M176_) ⟨rfl, rfl⟩ ⟨⟨_, rfl, h4z172_⟩, o178_, f179_, (pvu_s e177_)⟩
            · have b182_ : 0 ≤ Int32.toInt n1 ∧ Int32.toInt n1 ≤ 0 := (by have u0 := b13_; have u1 := (zi_eq _ _).mp c180_; have u2 := (show 0 ≤ Int32.toInt 0 ∧ Int32.toInt 0 ≤ 0 from (by decide)); omega)
              refine pw_blk hT 2 (S' := (92, [some (pvR 124), some (pvI n1), some (pvI (M.1 124 4)), some (pvI i3z172_), some (pvI i4z172_), v5z172_], [pvI i3z172_], M176_)) rfl ⟨trivial, trivial, trivial⟩ ?_
              exact pw_ret hT rfl (r := some (pvI i3z172_)) (M' := M176_) ⟨rfl, rfl⟩ ⟨⟨_, rfl, (zr_wide h3z172_ (by decide) (by decide))⟩, o178_, f179_, (pvu_s e177_)⟩
          · have b183_ : 0 ≤ Int32.toInt (Mz172_.1 124 4) ∧ Int32.toInt (Mz172_.1 124 4) ≤ 3 := zr_nle_r 3 c174_ b173_ (show 4 ≤ Int32.toInt 4 ∧ Int32.toInt 4 ≤ 4 from (by decide)) (by decide)
            refine pw_blk hT 1 (S' := (36, [some (pvR 124), some (pvI n1), some (pvI (M.1 124 4)), some (pvI i3z172_), some (pvI i4z172_), v5z172_], [pvR 124], Mz172_)) rfl ⟨trivial, trivial⟩ ?_
            refine pw_callV hT (as := [pvR 124]) (lo1 := [some (pvR 124), none, none]) (d1 := d) (rest := []) rfl rfl rfl rfl rfl (fun _ => rfl) (Nat.zero_le _) rfl rfl rfl (sf_X10_layRain_124 Mz172_ oz172_ (pvWF_fr (L := fpL_eX10_sides_124_x) rfl fz172_ hz) d) (fun M185_ o187_ g188_ => ?_)
            have f189_ : pvFr fp_eX10_sides_124_x M M185_ := pvfr_t g188_ fz172_ fp_eX10_sides_124_x_fp_X10_layRain_124
            refine pw_blk hT 1 (S' := (40, [some (pvR 124), some (pvI n1), some (pvI (M.1 124 4)), some (pvI i3z172_), some (pvI i4z172_), v5z172_], [pvR 124], M185_)) rfl ⟨trivial, trivial⟩ ?_
            refine pw_callG hT (as := [pvR 124]) (lo1 := [some (pvR 124)]) (d1 := d) (rest := []) rfl rfl rfl rfl rfl (fun _ => rfl) (Nat.zero_le _) rfl rfl rfl (sf_X10_costOfNone_124 M185_ o187_ d) (fun x190_ M191_ b192_ o193_ g194_ => ?_)
            have f195_ : pvFr fp_eX10_sides_124_x M M191_ := pvfr_t g194_ f189_ fp_eX10_sides_124_x_fp_X10_costOfNone_124
            refine pw_blk hT 3 (S' := (49, [some (pvR 124), some (pvI n1), some (pvI (M.1 124 4)), some (pvI i3z172_), some (pvI i4z172_), some (pvI x190_)], [pvI i4z172_, pvI x190_], M191_)) rfl ⟨trivial, trivial, trivial, trivial⟩ ?_
            refine pw_ic hT (c := i4z172_ < x190_) rfl rfl (fun c196_ => ?_) (fun c196_ => ?_)
            · have b197_ : (-1) ≤ Int32.toInt i4z172_ ∧ Int32.toInt i4z172_ ≤ 8999999 := zr_lt_l 8999999 c196_ h4z172_ b192_ (by decide)
              have d198_ : Int32.toInt i4z172_ < Int32.toInt x190_ := (zi_lt _ _).mp c196_
              have e199_ : (M191_.1 124 4) = (Mz172_.1 124 4) := ((g194_ 124 4 rfl).trans (g188_ 124 4 rfl))
              have b200_ : 0 ≤ Int32.toInt (M191_.1 124 4) ∧ Int32.toInt (M191_.1 124 4) ≤ 3 := (by rw [e199_]; exact b183_)
              obtain ⟨q202_, b201_⟩ : (Int32.toInt ((M191_.1 124 4) + 1) = Int32.toInt (M191_.1 124 4) + 1) ∧ (1 ≤ Int32.toInt ((M191_.1 124 4) + 1) ∧ Int32.toInt ((M191_.1 124 4) + 1) ≤ 4) := zadd_k (M191_.1 124 4) 1 1 1 4 b200_ (by decide) (by decide) (by decide) (by decide) (by decide)
              refine pw_blkw hT 11 (pc := 74) (lo := [some (pvR 124), some (pvI n1), some (pvI (M.1 124 4)), some (pvI (M191_.1 124 4)), some (pvI x190_), some (pvI x190_)]) (st := []) (M := pvu M191_ 124 4 ((M191_.1 124 4) + 1)) rfl ⟨trivial, rfl, trivial, trivial, trivial, trivial, trivial, rfl, trivial, trivial, rfl, trivial⟩ (fun M203_ e204_ => ?_)
              have o205_ : pvOk M203_ := pvok_u2 e204_ o193_ rfl (zr_wide b201_ (by decide) (by decide))
              have f206_ : pvFr fp_eX10_sides_124_x M M203_ := pvfr_u e204_ f195_ rfl
              refine pw_blk hT 1 (S' := (27, [some (pvR 124), some (pvI n1), some (pvI (M.1 124 4)), some (pvI (M191_.1 124 4)), some (pvI x190_), some (pvI x190_)], [], M203_)) rfl ⟨trivial, trivial⟩ ?_
              exact ihz172_ (M191_.1 124 4) x190_ (some (pvI x190_)) M203_ o205_ f206_ (zr_wide b200_ (by decide) (by decide)) (zr_wide b192_ (by decide) (by decide)) (zhid (by have hm0 := zshow hmz172_; have z1 : Int32.toInt (M203_.1 124 4) = Int32.toInt ((M191_.1 124 4) + 1) := congrArg Int32.toInt (pvu_s e204_); have z2 : Int32.toInt (M191_.1 124 4) = Int32.toInt (Mz172_.1 124 4) := congrArg Int32.toInt ((g194_ 124 4 rfl).trans (g188_ 124 4 rfl)); omega))
            · have b207_ : 0 ≤ Int32.toInt i4z172_ ∧ Int32.toInt i4z172_ ≤ 2147483647 := zr_nlt_l 0 c196_ h4z172_ b192_ (by decide)
              have d208_ : Int32.toInt i4z172_ ≥ Int32.toInt x190_ := Int.not_lt.mp ((not_congr (zi_lt _ _)).mp c196_)
              have e209_ : (M191_.1 124 4) = (Mz172_.1 124 4) := ((g194_ 124 4 rfl).trans (g188_ 124 4 rfl))
              have b210_ : 0 ≤ Int32.toInt (M191_.1 124 4) ∧ Int32.toInt (M191_.1 124 4) ≤ 3 := (by rw [e209_]; exact b183_)
              obtain ⟨q212_, b211_⟩ : (Int32.toInt ((M191_.1 124 4) + 1) = Int32.toInt (M191_.1 124 4) + 1) ∧ (1 ≤ Int32.toInt ((M191_.1 124 4) + 1) ∧ Int32.toInt ((M191_.1 124 4) + 1) ≤ 4) := zadd_k (M191_.1 124 4) 1 1 1 4 b210_ (by decide) (by decide) (by decide) (by decide) (by decide)
              refine pw_blkw hT 7 (pc := 74) (lo := [some (pvR 124), some (pvI n1), some (pvI (M.1 124 4)), some (pvI i3z172_), some (pvI i4z172_), some (pvI x190_)]) (st := []) (M := pvu M191_ 124 4 ((M191_.1 124 4) + 1)) rfl ⟨trivial, trivial, trivial, rfl, trivial, trivial, rfl, trivial⟩ (fun M213_ e214_ => ?_)
              have o215_ : pvOk M213_ := pvok_u2 e214_ o193_ rfl (zr_wide b211_ (by decide) (by decide))
              have f216_ : pvFr fp_eX10_sides_124_x M M213_ := pvfr_u e214_ f195_ rfl
              refine pw_blk hT 1 (S' := (27, [some (pvR 124), some (pvI n1), some (pvI (M.1 124 4)), some (pvI i3z172_), some (pvI i4z172_), some (pvI x190_)], [], M213_)) rfl ⟨trivial, trivial⟩ ?_
              exact ihz172_ i3z172_ i4z172_ (some (pvI x190_)) M213_ o215_ f216_ h3z172_ (zr_wide b207_ (by decide) (by decide)) (zhid (by have hm0 := zshow hmz172_; have z1 : Int32.toInt (M213_.1 124 4) = Int32.toInt ((M191_.1 124 4) + 1) := congrArg Int32.toInt (pvu_s e214_); have z2 : Int32.toInt (M191_.1 124 4) = Int32.toInt (Mz172_.1 124 4) := congrArg Int32.toInt ((g194_ 124 4 rfl).trans (g188_ 124 4 rfl)); omega))
      exact hlz172_ _ 0 (-1) none M16_ o18_ f19_ (zr_wide (show 0 ≤ Int32.toInt 0 ∧ Int32.toInt 0 ≤ 0 from (by decide)) (by decide) (by decide)) (zr_wide (show (-1) ≤ Int32.toInt (-1) ∧ Int32.toInt (-1) ≤ (-1) from (by decide)) (by decide) (by decide)) (zhid (Nat.lt_succ_self _))
def fpL_eX10_storm_124_x_x : List (Nat × Nat × Nat) := [(0, 124, 4), (0, 124, 5)]
def fp_eX10_storm_124_x_x (q k : Nat) : Bool := pvfp fpL_eX10_storm_124_x_x q k
set_option maxHeartbeats 4000000 in
set_option maxRecDepth 10000 in
theorem se_X10_storm_124_x_x (M : pvM) (hok : pvOk M) (n1 : Int32) (n2 : Int32) (d : Nat) : PW 80 d (0, [some (pvR 124), some (pvI n1), some (pvI n2), none], [], M) (fun r X => (∃ x : Int32, r = some (pvI x) ∧ ((-2) ≤ Int32.toInt x ∧ Int32.toInt x ≤ 108) ∧ x = (if n2 < 0 then (-1) else (if 3 < n2 then (-1) else (if n1 < 0 then (-2) else (if 99 < n1 then (-2) else (M.1 124 3)))))) ∧ pvOk X ∧ pvFr fp_eX10_storm_124_x_x M X ∧ ((Int32.toInt (X.1 124 3) ≤ 99 ∨ X.1 124 3 = M.1 124 3)) ∧ X.1 124 3 = (if n2 < 0 then (M.1 124 3) else (if 3 < n2 then (M.1 124 3) else (if n1 < 0 then (M.1 124 3) else (if 99 < n1 then (M.1 124 3) else n1)))) ∧ X.1 124 4 = (if n2 < 0 then (M.1 124 4) else (if 3 < n2 then (M.1 124 4) else (if n1 < 0 then (M.1 124 4) else (if 99 < n1 then (M.1 124 4) else n2))))) := by
  have hT : pvdom 80 = pvD_80 := rfl
  refine pw_blk hT 4 (S' := (4, [some (pvR 124), some (pvI n1), some (pvI n2), none], [pvI 3, pvI 0, pvI n2, pvR 124], M)) rfl ⟨trivial, trivial, trivial, trivial, trivial⟩ ?_
  refine pw_callT hT (as := [pvR 124, pvI n2, pvI 0, pvI 3]) (lo1 := [some (pvR 124), some (pvI n2), some (pvI 0), some (pvI 3)]) (d1 := d) (rest := []) rfl rfl rfl rfl rfl (fun _ => rfl) (Nat.zero_le _) rfl rfl rfl (sf_X10_in_124_x_x_x M hok n2 0 3 d) ?_
  by_cases c6_ : n2 < 0
  · refine pw_eqI (if_pos c6_) ?_
    have b7_ : (-2147483648) ≤ Int32.toInt n2 ∧ Int32.toInt n2 ≤ (-1) := zr_lt_l (-1) c6_ (zbnd n2) (show 0 ≤ Int32.toInt 0 ∧ Int32.toInt 0 ≤ 0 from (by decide)) (by decide)
    show PW 80 d (7, [some (pvR 124), some (pvI n1), some (pvI n2), none], [pvI 0], M) _
    refine pw_ifn hT (c := 0 = 0) rfl rfl (fun c8_ => absurd (by decide) c8_) (fun c8_ => ?_)
    refine pw_blk hT 1 (S' := (11, [some (pvR 124), some (pvI n1), some (pvI n2), none], [pvI (-1)], M)) rfl ⟨trivial, trivial⟩ ?_
    exact pw_ret hT rfl (r := some (pvI (-1))) (M' := M) ⟨rfl, rfl⟩ ⟨⟨_, rfl, (zr_wide (show (-1) ≤ Int32.toInt (-1) ∧ Int32.toInt (-1) ≤ (-1) from (by decide)) (by decide) (by decide)), (by rw [if_pos c6_]; first | done | (rw [if_pos c6_]; done))⟩, hok, pvfr_0, (Or.inr rfl), (by rw [if_pos c6_]; first | done | exact rfl | (rw [if_pos c6_]; done) | (rw [if_pos c6_]; exact rfl)), (by rw [if_pos c6_]; first | done | exact rfl | (rw [if_pos c6_]; done) | (rw [if_pos c6_]; exact rfl))⟩
  · refine pw_eqI (if_neg c6_) ?_
    have b9_ : 0 ≤ Int32.toInt n2 ∧ Int32.toInt n2 ≤ 2147483647 := zr_nlt_l 0 c6_ (zbnd n2) (show 0 ≤ Int32.toInt 0 ∧ Int32.toInt 0 ≤ 0 from (by decide)) (by decide)
    by_cases c10_ : 3 < n2
    · refine pw_eqI (if_pos c10_) ?_
      have b11_ : 4 ≤ Int32.toInt n2 ∧ Int32.toInt n2 ≤ 2147483647 := zr_lt_r 4 c10_ b9_ (show 3 ≤ Int32.toInt 3 ∧ Int32.toInt 3 ≤ 3 from (by decide)) (by decide)
      show PW 80 d (7, [some (pvR 124), some (pvI n1), some (pvI n2), none], [pvI 0], M) _
      refine pw_ifn hT (c := 0 = 0) rfl rfl (fun c12_ => absurd (by decide) c12_) (fun c12_ => ?_)
      refine pw_blk hT 1 (S' := (11, [some (pvR 124), some (pvI n1), some (pvI n2), none], [pvI (-1)], M)) rfl ⟨trivial, trivial⟩ ?_
      exact pw_ret hT rfl (r := some (pvI (-1))) (M' := M) ⟨rfl, rfl⟩ ⟨⟨_, rfl, (zr_wide (show (-1) ≤ Int32.toInt (-1) ∧ Int32.toInt (-1) ≤ (-1) from (by decide)) (by decide) (by decide)), (by rw [if_neg c6_, if_pos c10_]; first | done | (rw [if_pos c10_]; done))⟩, hok, pvfr_0, (Or.inr rfl), (by rw [if_neg c6_, if_pos c10_]; first | done | exact rfl | (rw [if_pos c10_]; done) | (rw [if_pos c10_]; exact rfl)), (by rw [if_neg c6_, if_pos c10_]; first | done | exact rfl | (rw [if_pos c10_]; done) | (rw [if_pos c10_]; exact rfl))⟩
    · refine pw_eqI (if_neg c10_) ?_
      have b13_ : 0 ≤ Int32.toInt n2 ∧ Int32.toInt n2 ≤ 3 := zr_nlt_r 3 c10_ b9_ (show 3 ≤ Int32.toInt 3 ∧ Int32.toInt 3 ≤ 3 from (by decide)) (by decide)
      show PW 80 d (7, [some (pvR 124), some (pvI n1), some (pvI n2), none], [pvI 1], M) _
      refine pw_ifn hT (c := 1 = 0) rfl rfl (fun c14_ => ?_) (fun c14_ => absurd c14_ (by decide))
      refine pw_blk hT 4 (S' := (17, [some (pvR 124), some (pvI n1), some (pvI n2), none], [pvI 99, pvI 0, pvI n1, pvR 124], M)) rfl ⟨trivial, trivial, trivial, trivial, trivial⟩ ?_
      refine pw_callT hT (as := [pvR 124, pvI n1, pvI 0, pvI 99]) (lo1 := [some (pvR 124), some (pvI n1), some (pvI 0), some (pvI 99)]) (d1 := d) (rest := []) rfl rfl rfl rfl rfl (fun _ => rfl) (Nat.zero_le _) rfl rfl rfl (sf_X10_in_124_x_x_x M hok n1 0 99 d) ?_
      by_cases c20_ : n1 < 0
      · refine pw_eqI (if_pos c20_) ?_
        have b21_ : (-2147483648) ≤ Int32.toInt n1 ∧ Int32.toInt n1 ≤ (-1) := zr_lt_l (-1) c20_ (zbnd n1) (show 0 ≤ Int32.toInt 0 ∧ Int32.toInt 0 ≤ 0 from (by decide)) (by decide)
        show PW 80 d (20, [some (pvR 124), some (pvI n1), some (pvI n2), none], [pvI 0], M) _
        refine pw_ifn hT (c := 0 = 0) rfl rfl (fun c22_ => absurd (by decide) c22_) (fun c22_ => ?_)
        refine pw_blk hT 1 (S' := (25, [some (pvR 124), some (pvI n1), some (pvI n2), none], [pvI (-2)], M)) rfl ⟨trivial, trivial⟩ ?_
        exact pw_ret hT rfl (r := some (pvI (-2))) (M' := M) ⟨rfl, rfl⟩ ⟨⟨_, rfl, (zr_wide (show (-2) ≤ Int32.toInt (-2) ∧ Int32.toInt (-2) ≤ (-2) from (by decide)) (by decide) (by decide)), (by rw [if_neg c6_, if_neg c10_, if_pos c20_]; first | done | (rw [if_pos c20_]; done))⟩, hok, pvfr_0, (Or.inr rfl), (by rw [if_neg c6_, if_neg c10_, if_pos c20_]; first | done | exact rfl | (rw [if_pos c20_]; done) | (rw [if_pos c20_]; exact rfl)), (by rw [if_neg c6_, if_neg c10_, if_pos c20_]; first | done | exact rfl | (rw [if_pos c20_]; done) | (rw [if_pos c20_]; exact rfl))⟩
      · refine pw_eqI (if_neg c20_) ?_
        have b23_ : 0 ≤ Int32.toInt n1 ∧ Int32.toInt n1 ≤ 2147483647 := zr_nlt_l 0 c20_ (zbnd n1) (show 0 ≤ Int32.toInt 0 ∧ Int32.toInt 0 ≤ 0 from (by decide)) (by decide)
        by_cases c24_ : 99 < n1
        · refine pw_eqI (if_pos c24_) ?_
          have b25_ : 100 ≤ Int32.toInt n1 ∧ Int32.toInt n1 ≤ 2147483647 := zr_lt_r 100 c24_ b23_ (show 99 ≤ Int32.toInt 99 ∧ Int32.toInt 99 ≤ 99 from (by decide)) (by decide)
          show PW 80 d (20, [some (pvR 124), some (pvI n1), some (pvI n2), none], [pvI 0], M) _
          refine pw_ifn hT (c := 0 = 0) rfl rfl (fun c26_ => absurd (by decide) c26_) (fun c26_ => ?_)
          refine pw_blk hT 1 (S' := (25, [some (pvR 124), some (pvI n1), some (pvI n2), none], [pvI (-2)], M)) rfl ⟨trivial, trivial⟩ ?_
          exact pw_ret hT rfl (r := some (pvI (-2))) (M' := M) ⟨rfl, rfl⟩ ⟨⟨_, rfl, (zr_wide (show (-2) ≤ Int32.toInt (-2) ∧ Int32.toInt (-2) ≤ (-2) from (by decide)) (by decide) (by decide)), (by rw [if_neg c6_, if_neg c10_, if_neg c20_, if_pos c24_]; first | done | (rw [if_pos c24_]; done))⟩, hok, pvfr_0, (Or.inr rfl), (by rw [if_neg c6_, if_neg c10_, if_neg c20_, if_pos c24_]; first | done | exact rfl | (rw [if_pos c24_]; done) | (rw [if_pos c24_]; exact rfl)), (by rw [if_neg c6_, if_neg c10_, if_neg c20_, if_pos c24_]; first | done | exact rfl | (rw [if_pos c24_]; done) | (rw [if_pos c24_]; exact rfl))⟩
        · refine pw_eqI (if_neg c24_) ?_
          have b27_ : 0 ≤ Int32.toInt n1 ∧ Int32.toInt n1 ≤ 99 := zr_nlt_r 99 c24_ b23_ (show 99 ≤ Int32.toInt 99 ∧ Int32.toInt 99 ≤ 99 from (by decide)) (by decide)
          show PW 80 d (20, [some (pvR 124), some (pvI n1), some (pvI n2), none], [pvI 1], M) _
          refine pw_ifn hT (c := 1 = 0) rfl rfl (fun c28_ => ?_) (fun c28_ => absurd c28_ (by decide))
          have b29_ : 0 ≤ Int32.toInt (M.1 124 3) ∧ Int32.toInt (M.1 124 3) ≤ 108 := pvok_r hok 124 3 rfl
          refine pw_blkw hT 6 (pc := 36) (lo := [some (pvR 124), some (pvI n1), some (pvI n2), some (pvI (M.1 124 3))]) (st := []) (M := pvu M 124 3 n1) rfl ⟨trivial, rfl, trivial, trivial, trivial, rfl, trivial⟩ (fun M30_ e31_ => ?_)
          have o32_ : pvOk M30_ := pvok_u2 e31_ hok rfl (zr_wide b27_ (by decide) (by decide))
          have f33_ : pvFr fp_eX10_storm_124_x_x M M30_ := pvfr_u e31_ pvfr_0 rfl
          refine pw_blkw hT 3 (pc := 41) (lo := [some (pvR 124), some (pvI n1), some (pvI n2), some (pvI (M.1 124 3))]) (st := []) (M := pvu M30_ 124 4 n2) rfl ⟨trivial, trivial, rfl, trivial⟩ (fun M34_ e35_ => ?_)
          have o36_ : pvOk M34_ := pvok_u2 e35_ o32_ rfl (zr_wide b13_ (by decide) (by decide))
          have f37_ : pvFr fp_eX10_storm_124_x_x M M34_ := pvfr_u e35_ f33_ rfl
          refine pw_blk hT 1 (S' := (42, [some (pvR 124), some (pvI n1), some (pvI n2), some (pvI (M.1 124 3))], [pvI (M.1 124 3)], M34_)) rfl ⟨trivial, trivial⟩ ?_
          exact pw_ret hT rfl (r := some (pvI (M.1 124 3))) (M' := M34_) ⟨rfl, rfl⟩ ⟨⟨_, rfl, (zr_wide b29_ (by decide) (by decide)), (by rw [if_neg c6_, if_neg c10_, if_neg c20_, if_neg c24_]; first | done | (rw [if_neg c24_]; done))⟩, o36_, f37_, (Or.inl (by have w0 : Int32.toInt (M34_.1 124 3) = Int32.toInt (M30_.1 124 3) := congrArg Int32.toInt (pvu_n e35_ 124 3 (Or.inr (by decide))); have w1 : Int32.toInt (M30_.1 124 3) = Int32.toInt n1 := congrArg Int32.toInt (pvu_s e31_); omega)), (by rw [if_neg c6_, if_neg c10_, if_neg c20_, if_neg c24_]; first | done | exact ((pvu_n e35_ 124 3 (Or.inr (by decide))).trans (pvu_s e31_)) | (rw [if_neg c24_]; done) | (rw [if_neg c24_]; exact ((pvu_n e35_ 124 3 (Or.inr (by decide))).trans (pvu_s e31_)))), (by rw [if_neg c6_, if_neg c10_, if_neg c20_, if_neg c24_]; first | done | exact (pvu_s e35_) | (rw [if_neg c24_]; done) | (rw [if_neg c24_]; exact (pvu_s e35_)))⟩
def fpL_eX10_tape_124_x_x_x : List (Nat × Nat × Nat) := [(0, 164, 0), (0, 165, 0)]
def fp_eX10_tape_124_x_x_x (q k : Nat) : Bool := pvfp fpL_eX10_tape_124_x_x_x q k
set_option maxHeartbeats 4000000 in
set_option maxRecDepth 10000 in
theorem se_X10_tape_124_x_x_x (M : pvM) (hok : pvOk M) (n1 : Int32) (n2 : Int32) (n3 : Int32) (d : Nat) : PW 89 d (0, [some (pvR 124), some (pvI n1), some (pvI n2), some (pvI n3), none], [], M) (fun r X => (∃ x : Int32, r = some (pvI x) ∧ ((-14) ≤ Int32.toInt x ∧ Int32.toInt x ≤ 1) ∧ x = (if n1 < 0 then (-1) else (if 5 < n1 then (-1) else (if n2 < (-1) then (-2) else (if 4 < n2 then (-2) else (if n2 < 0 then 1 else (if n3 ≤ 60 then (if 0 ≤ n3 then 1 else (-14)) else (-2)))))))) ∧ pvOk X ∧ pvFr fp_eX10_tape_124_x_x_x M X) := by
  have hT : pvdom 89 = pvD_89 := rfl
  refine pw_blk hT 2 (S' := (2, [some (pvR 124), some (pvI n1), some (pvI n2), some (pvI n3), none], [pvI n1, pvR 124], M)) rfl ⟨trivial, trivial, trivial⟩ ?_
  refine pw_callT hT (as := [pvR 124, pvI n1]) (lo1 := [some (pvR 124), some (pvI n1)]) (d1 := d) (rest := []) rfl rfl rfl rfl rfl (fun _ => rfl) (Nat.zero_le _) rfl rfl rfl (sf_X10_isTape_124_x M hok n1 d) ?_
  by_cases c6_ : n1 < 0
  · refine pw_eqI (if_pos c6_) ?_
    have b7_ : (-2147483648) ≤ Int32.toInt n1 ∧ Int32.toInt n1 ≤ (-1) := zr_lt_l (-1) c6_ (zbnd n1) (show 0 ≤ Int32.toInt 0 ∧ Int32.toInt 0 ≤ 0 from (by decide)) (by decide)
    show PW 89 d (5, [some (pvR 124), some (pvI n1), some (pvI n2), some (pvI n3), none], [pvI 0], M) _
    refine pw_ifn hT (c := 0 = 0) rfl rfl (fun c8_ => absurd (by decide) c8_) (fun c8_ => ?_)
    refine pw_blk hT 1 (S' := (9, [some (pvR 124), some (pvI n1), some (pvI n2), some (pvI n3), none], [pvI (-1)], M)) rfl ⟨trivial, trivial⟩ ?_
    exact pw_ret hT rfl (r := some (pvI (-1))) (M' := M) ⟨rfl, rfl⟩ ⟨⟨_, rfl, (zr_wide (show (-1) ≤ Int32.toInt (-1) ∧ Int32.toInt (-1) ≤ (-1) from (by decide)) (by decide) (by decide)), (by rw [if_pos c6_]; first | done | (rw [if_pos c6_]; done))⟩, hok, pvfr_0⟩
  · refine pw_eqI (if_neg c6_) ?_
    have b9_ : 0 ≤ Int32.toInt n1 ∧ Int32.toInt n1 ≤ 2147483647 := zr_nlt_l 0 c6_ (zbnd n1) (show 0 ≤ Int32.toInt 0 ∧ Int32.toInt 0 ≤ 0 from (by decide)) (by decide)
    by_cases c10_ : 5 < n1
    · refine pw_eqI (if_pos c10_) ?_
      have b11_ : 6 ≤ Int32.toInt n1 ∧ Int32.toInt n1 ≤ 2147483647 := zr_lt_r 6 c10_ b9_ (show 5 ≤ Int32.toInt 5 ∧ Int32.toInt 5 ≤ 5 from (by decide)) (by decide)
      show PW 89 d (5, [some (pvR 124), some (pvI n1), some (pvI n2), some (pvI n3), none], [pvI 0], M) _
      refine pw_ifn hT (c := 0 = 0) rfl rfl (fun c12_ => absurd (by decide) c12_) (fun c12_ => ?_)
      refine pw_blk hT 1 (S' := (9, [some (pvR 124), some (pvI n1), some (pvI n2), some (pvI n3), none], [pvI (-1)], M)) rfl ⟨trivial, trivial⟩ ?_
      exact pw_ret hT rfl (r := some (pvI (-1))) (M' := M) ⟨rfl, rfl⟩ ⟨⟨_, rfl, (zr_wide (show (-1) ≤ Int32.toInt (-1) ∧ Int32.toInt (-1) ≤ (-1) from (by decide)) (by decide) (by decide)), (by rw [if_neg c6_, if_pos c10_]; first | done | (rw [if_pos c10_]; done))⟩, hok, pvfr_0⟩
    · refine pw_eqI (if_neg c10_) ?_
      have b13_ : 0 ≤ Int32.toInt n1 ∧ Int32.toInt n1 ≤ 5 := zr_nlt_r 5 c10_ b9_ (show 5 ≤ Int32.toInt 5 ∧ Int32.toInt 5 ≤ 5 from (by decide)) (by decide)
      show PW 89 d (5, [some (pvR 124), some (pvI n1), some (pvI n2), some (pvI n3), none], [pvI 1], M) _
      refine pw_ifn hT (c := 1 = 0) rfl rfl (fun c14_ => ?_) (fun c14_ => absurd c14_ (by decide))
      refine pw_blk hT 4 (S' := (14, [some (pvR 124), some (pvI n1), some (pvI n2), some (pvI n3), none], [pvI 4, pvI (-1), pvI n2, pvR 124], M)) rfl ⟨trivial, trivial, trivial, trivial, trivial⟩ ?_
      refine pw_callT hT (as := [pvR 124, pvI n2, pvI (-1), pvI 4]) (lo1 := [some (pvR 124), some (pvI n2), some (pvI (-1)), some (pvI 4)]) (d1 := d) (rest := []) rfl rfl rfl rfl rfl (fun _ => rfl) (Nat.zero_le _) rfl rfl rfl (sf_X10_in_124_x_x_x M hok n2 (-1) 4 d) ?_
      by_cases c20_ : n2 < (-1)
      · refine pw_eqI (if_pos c20_) ?_
        have b21_ : (-2147483648) ≤ Int32.toInt n2 ∧ Int32.toInt n2 ≤ (-2) := zr_lt_l (-2) c20_ (zbnd n2) (show (-1) ≤ Int32.toInt (-1) ∧ Int32.toInt (-1) ≤ (-1) from (by decide)) (by decide)
        show PW 89 d (17, [some (pvR 124), some (pvI n1), some (pvI n2), some (pvI n3), none], [pvI 0], M) _
        refine pw_if hT (c := 0 = 0) rfl rfl (fun c22_ => ?_) (fun c22_ => absurd (by decide) c22_)
        refine pw_blk hT 1 (S' := (32, [some (pvR 124), some (pvI n1), some (pvI n2), some (pvI n3), none], [pvI (-2)], M)) rfl ⟨trivial, trivial⟩ ?_
        exact pw_ret hT rfl (r := some (pvI (-2))) (M' := M) ⟨rfl, rfl⟩ ⟨⟨_, rfl, (zr_wide (show (-2) ≤ Int32.toInt (-2) ∧ Int32.toInt (-2) ≤ (-2) from (by decide)) (by decide) (by decide)), (by rw [if_neg c6_, if_neg c10_, if_pos c20_]; first | done | (rw [if_pos c20_]; done))⟩, hok, pvfr_0⟩
      · refine pw_eqI (if_neg c20_) ?_
        have b23_ : (-1) ≤ Int32.toInt n2 ∧ Int32.toInt n2 ≤ 2147483647 := zr_nlt_l (-1) c20_ (zbnd n2) (show (-1) ≤ Int32.toInt (-1) ∧ Int32.toInt (-1) ≤ (-1) from (by decide)) (by decide)
        by_cases c24_ : 4 < n2
        · refine pw_eqI (if_pos c24_) ?_
          have b25_ : 5 ≤ Int32.toInt n2 ∧ Int32.toInt n2 ≤ 2147483647 := zr_lt_r 5 c24_ b23_ (show 4 ≤ Int32.toInt 4 ∧ Int32.toInt 4 ≤ 4 from (by decide)) (by decide)
          show PW 89 d (17, [some (pvR 124), some (pvI n1), some (pvI n2), some (pvI n3), none], [pvI 0], M) _
          refine pw_if hT (c := 0 = 0) rfl rfl (fun c26_ => ?_) (fun c26_ => absurd (by decide) c26_)
          refine pw_blk hT 1 (S' := (32, [some (pvR 124), some (pvI n1), some (pvI n2), some (pvI n3), none], [pvI (-2)], M)) rfl ⟨trivial, trivial⟩ ?_
          exact pw_ret hT rfl (r := some (pvI (-2))) (M' := M) ⟨rfl, rfl⟩ ⟨⟨_, rfl, (zr_wide (show (-2) ≤ Int32.toInt (-2) ∧ Int32.toInt (-2) ≤ (-2) from (by decide)) (by decide) (by decide)), (by rw [if_neg c6_, if_neg c10_, if_neg c20_, if_pos c24_]; first | done | (rw [if_pos c24_]; done))⟩, hok, pvfr_0⟩
        · refine pw_eqI (if_neg c24_) ?_
          have b27_ : (-1) ≤ Int32.toInt n2 ∧ Int32.toInt n2 ≤ 4 := zr_nlt_r 4 c24_ b23_ (show 4 ≤ Int32.toInt 4 ∧ Int32.toInt 4 ≤ 4 from (by decide)) (by decide)
          show PW 89 d (17, [some (pvR 124), some (pvI n1), some (pvI n2), some (pvI n3), none], [pvI 1], M) _
          refine pw_if hT (c := 1 = 0) rfl rfl (fun c28_ => absurd c28_ (by decide)) (fun c28_ => ?_)
          refine pw_blk hT 1 (S' := (21, [some (pvR 124), some (pvI n1), some (pvI n2), some (pvI n3), none], [pvI n2], M)) rfl ⟨trivial, trivial⟩ ?_
          refine pw_if hT (c := n2 < 0) rfl rfl (fun c29_ => ?_) (fun c29_ => ?_)
          · have b30_ : (-1) ≤ Int32.toInt n2 ∧ Int32.toInt n2 ≤ (-1) := zr_lt_l (-1) c29_ b27_ (show 0 ≤ Int32.toInt 0 ∧ Int32.toInt 0 ≤ 0 from (by decide)) (by decide)
            refine pw_blk hT 1 (S' := (34, [some (pvR 124), some (pvI n1), some (pvI n2), some (pvI n3), none], [pvI n2], M)) rfl ⟨trivial, trivial⟩ ?_
            refine pw_if hT (c := n2 < 0) rfl rfl (fun c31_ => ?_) (fun c31_ => absurd c29_ c31_)
            refine pw_blkw hT 5 (pc := 51) (lo := [some (pvR 124), some (pvI n1), some (pvI n2), some (pvI n3), none]) (st := []) (M := pvu M 164 (Int32.toNatClampNeg n1) n2) rfl ⟨trivial, rfl, trivial, trivial, ⟨rfl, (zr_in (n := 6) b13_ (by decide) (by decide))⟩, trivial⟩ (fun M32_ e33_ => ?_)
            have o34_ : pvOk M32_ := pvok_u2 e33_ hok rfl (zr_wide b30_ (by decide) (by decide))
            have f35_ : pvFr fp_eX10_tape_124_x_x_x M M32_ := pvfr_u e33_ pvfr_0 rfl
            refine pw_blk hT 4 (S' := (57, [some (pvR 124), some (pvI n1), some (pvI n2), some (pvI n3), none], [pvI n2, pvI n1, pvR 165], M32_)) rfl ⟨trivial, rfl, trivial, trivial, trivial⟩ ?_
            refine pw_if hT (c := 0 ≤ n2) rfl rfl (fun c36_ => absurd c36_ (by have z0 := (show 0 ≤ Int32.toInt 0 ∧ Int32.toInt 0 ≤ 0 from (by decide)); have z1 := b30_; rw [zi_le]; omega)) (fun c36_ => ?_)
            refine pw_blkw hT 3 (pc := 66) (lo := [some (pvR 124), some (pvI n1), some (pvI n2), some (pvI n3), none]) (st := []) (M := pvu M32_ 165 (Int32.toNatClampNeg n1) 0) rfl ⟨trivial, trivial, ⟨rfl, (zr_in (n := 6) b13_ (by decide) (by decide))⟩, trivial⟩ (fun M37_ e38_ => ?_)
            have o39_ : pvOk M37_ := pvok_u2 e38_ o34_ rfl (zr_wide (show 0 ≤ Int32.toInt 0 ∧ Int32.toInt 0 ≤ 0 from (by decide)) (by decide) (by decide))
            have f40_ : pvFr fp_eX10_tape_124_x_x_x M M37_ := pvfr_u e38_ f35_ rfl
            refine pw_blk hT 2 (S' := (69, [some (pvR 124), some (pvI n1), some (pvI n2), some (pvI n3), some (pvI 0)], [], M37_)) rfl ⟨trivial, trivial, trivial⟩ ?_
            have hlz95_ : ∀ (nz95_ : Nat) (i4z95_ : Int32) (Mz95_ : pvM), (pvOk Mz95_) → (pvFr fp_eX10_tape_124_x_x_x M Mz95_) → (0 ≤ Int32.toInt i4z95_ ∧ Int32.toInt i4z95_ ≤ 60) → (zhide ((61 - Int32.toInt i4z95_).toNat < nz95_)) → PW 89 d (69, [some (pvR 124), some (pvI n1), some (pvI n2), some (pvI n3), some (pvI i4z95_)], [], Mz95_) (fun r X => (∃ x : Int32, r = some (pvI x) ∧ ((-14) ≤ Int32.toInt x ∧ Int32.toInt x ≤ 1) ∧ x = (if n1 < 0 then (-1) else (if 5 < n1 then (-1) else (if n2 < (-1) then (-2) else (if 4 < n2 then (-2) else (if n2 < 0 then 1 else (if n3 ≤ 60 then (if 0 ≤ n3 then 1 else (-14)) else (-2)))))))) ∧ pvOk X ∧ pvFr fp_eX10_tape_124_x_x_x M X) := by
              intro nz95_
              induction nz95_ with
              | zero => intro i4z95_ Mz95_ oz95_ fz95_ h4z95_ hmz95_; exact absurd (zshow hmz95_) (Nat.not_lt_zero _)
              | succ nz95_ ihz95_ =>
                intro i4z95_ Mz95_ oz95_ fz95_ h4z95_ hmz95_
                refine pw_blk hT 2 (S' := (73, [some (pvR 124), some (pvI n1), some (pvI n2), some (pvI n3), some (pvI i4z95_)], [pvI 60, pvI i4z95_], Mz95_)) rfl ⟨trivial, trivial, trivial⟩ ?_
                refine pw_ic hT (c := 60 ≤ i4z95_) rfl rfl (fun c96_ => ?_) (fun c96_ => ?_)
                · have b97_ : 60 ≤ Int32.toInt i4z95_ ∧ Int32.toInt i4z95_ ≤ 60 := zr_le_r 60 c96_ h4z95_ (show 60 ≤ Int32.toInt 60 ∧ Int32.toInt 60 ≤ 60 from (by decide)) (by decide)
                  refine pw_blk hT 1 (S' := (96, [some (pvR 124), some (pvI n1), some (pvI n2), some (pvI n3), some (pvI i4z95_)], [pvI 1], Mz95_)) rfl ⟨trivial, trivial⟩ ?_
                  exact pw_ret hT rfl (r := some (pvI 1)) (M' := Mz95_) ⟨rfl, rfl⟩ ⟨⟨_, rfl, (zr_wide (show 1 ≤ Int32.toInt 1 ∧ Int32.toInt 1 ≤ 1 from (by decide)) (by decide) (by decide)), (by rw [if_neg c6_, if_neg c10_, if_neg c20_, if_neg c24_, if_pos c29_]; first | done | (rw [if_pos c29_]; done))⟩, oz95_, fz95_⟩
                · have b98_ : 0 ≤ Int32.toInt i4z95_ ∧ Int32.toInt i4z95_ ≤ 59 := zr_nle_r 59 c96_ h4z95_ (show 60 ≤ Int32.toInt 60 ∧ Int32.toInt 60 ≤ 60 from (by decide)) (by decide)
                  have q99_ : Int32.toInt (60 * n1) = 60 * Int32.toInt n1 := by have u0 : Int32.toInt 60 = 60 := (by decide); have u1 := b13_; have u2 := zmul 60 n1 (by rw [u0]; omega) (by rw [u0]; omega); rw [u0] at u2; omega
                  have b100_ : 0 ≤ Int32.toInt (60 * n1) ∧ Int32.toInt (60 * n1) ≤ 300 := (by have u1 := b13_; omega)
                  obtain ⟨q102_, b101_⟩ : (Int32.toInt ((60 * n1) + i4z95_) = Int32.toInt (60 * n1) + Int32.toInt i4z95_) ∧ (0 ≤ Int32.toInt ((60 * n1) + i4z95_) ∧ Int32.toInt ((60 * n1) + i4z95_) ≤ 359) := zadd_r (60 * n1) i4z95_ 0 359 b100_ b98_ (by decide) (by decide) (by decide) (by decide)
                  refine pw_blkw hT 9 (pc := 89) (lo := [some (pvR 124), some (pvI n1), some (pvI n2), some (pvI n3), some (pvI i4z95_)]) (st := []) (M := pvw Mz95_ 166 (Int32.toNatClampNeg ((60 * n1) + i4z95_)) 0) rfl ⟨trivial, rfl, trivial, trivial, trivial, trivial, trivial, trivial, ⟨rfl, (zr_in (n := 360) b101_ (by decide) (by decide))⟩, trivial⟩ (fun M103_ e104_ => ?_)
                  have o105_ : pvOk M103_ := pvok_w e104_ oz95_
                  have f106_ : pvFr fp_eX10_tape_124_x_x_x M M103_ := pvfr_w e104_ fz95_
                  obtain ⟨q108_, b107_⟩ : (Int32.toInt (i4z95_ + 1) = Int32.toInt i4z95_ + 1) ∧ (1 ≤ Int32.toInt (i4z95_ + 1) ∧ Int32.toInt (i4z95_ + 1) ≤ 60) := zadd_k i4z95_ 1 1 1 60 b98_ (by decide) (by decide) (by decide) (by decide) (by decide)
                  refine pw_blk hT 2 (S' := (69, [some (pvR 124), some (pvI n1), some (pvI n2), some (pvI n3), some (pvI (i4z95_ + 1))], [], M103_)) rfl ⟨trivial, trivial, trivial⟩ ?_
                  exact ihz95_ (i4z95_ + 1) M103_ o105_ f106_ (zr_wide b107_ (by decide) (by decide)) (zhid (pvms_up (zshow hmz95_) h4z95_ q108_ (by decide) (by decide)))
            exact hlz95_ _ 0 M37_ o39_ f40_ (zr_wide (show 0 ≤ Int32.toInt 0 ∧ Int32.toInt 0 ≤ 0 from (by decide)) (by decide) (by decide)) (zhid (Nat.lt_succ_self _))
          · have b109_ : 0 ≤ Int32.toInt n2 ∧ Int32.toInt n2 ≤ 4 := zr_nlt_l 0 c29_ b27_ (show 0 ≤ Int32.toInt 0 ∧ Int32.toInt 0 ≤ 0 from (by decide)) (by decide)
            refine pw_blk hT 2 (S' := (27, [some (pvR 124), some (pvI n1), some (pvI n2), some (pvI n3), none], [pvI 60, pvI n3], M)) rfl ⟨trivial, trivial, trivial⟩ ?_
            refine pw_ic hT (c := n3 ≤ 60) rfl rfl (fun c110_ => ?_) (fun c110_ => ?_)
            · have b111_ : (-2147483648) ≤ Int32.toInt n3 ∧ Int32.toInt n3 ≤ 60 := zr_le_l 60 c110_ (zbnd n3) (show 60 ≤ Int32.toInt 60 ∧ Int32.toInt 60 ≤ 60 from (by decide)) (by decide)
              refine pw_blk hT 1 (S' := (34, [some (pvR 124), some (pvI n1), some (pvI n2), some (pvI n3), none], [pvI n2], M)) rfl ⟨trivial, trivial⟩ ?_
              refine pw_if hT (c := n2 < 0) rfl rfl (fun c112_ => absurd c112_ c29_) (fun c112_ => ?_)
              refine pw_blk hT 1 (S' := (38, [some (pvR 124), some (pvI n1), some (pvI n2), some (pvI n3), none], [pvI n3], M)) rfl ⟨trivial, trivial⟩ ?_
              refine pw_if hT (c := 0 ≤ n3) rfl rfl (fun c113_ => ?_) (fun c113_ => ?_)
              · have b114_ : 0 ≤ Int32.toInt n3 ∧ Int32.toInt n3 ≤ 60 := zr_le_r 0 c113_ b111_ (show 0 ≤ Int32.toInt 0 ∧ Int32.toInt 0 ≤ 0 from (by decide)) (by decide)
                refine pw_blkw hT 5 (pc := 51) (lo := [some (pvR 124), some (pvI n1), some (pvI n2), some (pvI n3), none]) (st := []) (M := pvu M 164 (Int32.toNatClampNeg n1) n2) rfl ⟨trivial, rfl, trivial, trivial, ⟨rfl, (zr_in (n := 6) b13_ (by decide) (by decide))⟩, trivial⟩ (fun M115_ e116_ => ?_)
                have o117_ : pvOk M115_ := pvok_u2 e116_ hok rfl (zr_wide b109_ (by decide) (by decide))
                have f118_ : pvFr fp_eX10_tape_124_x_x_x M M115_ := pvfr_u e116_ pvfr_0 rfl
                refine pw_blk hT 4 (S' := (57, [some (pvR 124), some (pvI n1), some (pvI n2), some (pvI n3), none], [pvI n2, pvI n1, pvR 165], M115_)) rfl ⟨trivial, rfl, trivial, trivial, trivial⟩ ?_
                refine pw_if hT (c := 0 ≤ n2) rfl rfl (fun c119_ => ?_) (fun c119_ => absurd (by have z0 := (show 0 ≤ Int32.toInt 0 ∧ Int32.toInt 0 ≤ 0 from (by decide)); have z1 := b109_; rw [zi_le]; omega) c119_)
                refine pw_blkw hT 2 (pc := 66) (lo := [some (pvR 124), some (pvI n1), some (pvI n2), some (pvI n3), none]) (st := []) (M := pvu M115_ 165 (Int32.toNatClampNeg n1) n3) rfl ⟨trivial, ⟨rfl, (zr_in (n := 6) b13_ (by decide) (by decide))⟩, trivial⟩ (fun M120_ e121_ => ?_)
                have o122_ : pvOk M120_ := pvok_u2 e121_ o117_ rfl b114_
                have f123_ : pvFr fp_eX10_tape_124_x_x_x M M120_ := pvfr_u e121_ f118_ rfl
                refine pw_blk hT 2 (S' := (69, [some (pvR 124), some (pvI n1), some (pvI n2), some (pvI n3), some (pvI 0)], [], M120_)) rfl ⟨trivial, trivial, trivial⟩ ?_
                have hlz178_ : ∀ (nz178_ : Nat) (i4z178_ : Int32) (Mz178_ : pvM), (pvOk Mz178_) → (pvFr fp_eX10_tape_124_x_x_x M Mz178_) → (0 ≤ Int32.toInt i4z178_ ∧ Int32.toInt i4z178_ ≤ 60) → (zhide ((61 - Int32.toInt i4z178_).toNat < nz178_)) → PW 89 d (69, [some (pvR 124), some (pvI n1), some (pvI n2), some (pvI n3), some (pvI i4z178_)], [], Mz178_) (fun r X => (∃ x : Int32, r = some (pvI x) ∧ ((-14) ≤ Int32.toInt x ∧ Int32.toInt x ≤ 1) ∧ x = (if n1 < 0 then (-1) else (if 5 < n1 then (-1) else (if n2 < (-1) then (-2) else (if 4 < n2 then (-2) else (if n2 < 0 then 1 else (if n3 ≤ 60 then (if 0 ≤ n3 then 1 else (-14)) else (-2)))))))) ∧ pvOk X ∧ pvFr fp_eX10_tape_124_x_x_x M X) := by
                  intro nz178_
                  induction nz178_ with
                  | zero => intro i4z178_ Mz178_ oz178_ fz178_ h4z178_ hmz178_; exact absurd (zshow hmz178_) (Nat.not_lt_zero _)
                  | succ nz178_ ihz178_ =>
                    intro i4z178_ Mz178_ oz178_ fz178_ h4z178_ hmz178_
                    refine pw_blk hT 2 (S' := (73, [some (pvR 124), some (pvI n1), some (pvI n2), some (pvI n3), some (pvI i4z178_)], [pvI 60, pvI i4z178_], Mz178_)) rfl ⟨trivial, trivial, trivial⟩ ?_
                    refine pw_ic hT (c := 60 ≤ i4z178_) rfl rfl (fun c179_ => ?_) (fun c179_ => ?_)
                    · have b180_ : 60 ≤ Int32.toInt i4z178_ ∧ Int32.toInt i4z178_ ≤ 60 := zr_le_r 60 c179_ h4z178_ (show 60 ≤ Int32.toInt 60 ∧ Int32.toInt 60 ≤ 60 from (by decide)) (by decide)
                      refine pw_blk hT 1 (S' := (96, [some (pvR 124), some (pvI n1), some (pvI n2), some (pvI n3), some (pvI i4z178_)], [pvI 1], Mz178_)) rfl ⟨trivial, trivial⟩ ?_
                      exact pw_ret hT rfl (r := some (pvI 1)) (M' := Mz178_) ⟨rfl, rfl⟩ ⟨⟨_, rfl, (zr_wide (show 1 ≤ Int32.toInt 1 ∧ Int32.toInt 1 ≤ 1 from (by decide)) (by decide) (by decide)), (by rw [if_neg c6_, if_neg c10_, if_neg c20_, if_neg c24_, if_neg c29_, if_pos c110_, if_pos c113_]; first | done | (rw [if_pos c113_]; done))⟩, oz178_, fz178_⟩
                    · have b181_ : 0 ≤ Int32.toInt i4z178_ ∧ Int32.toInt i4z178_ ≤ 59 := zr_nle_r 59 c179_ h4z178_ (show 60 ≤ Int32.toInt 60 ∧ Int32.toInt 60 ≤ 60 from (by decide)) (by decide)
                      have q182_ : Int32.toInt (60 * n1) = 60 * Int32.toInt n1 := by have u0 : Int32.toInt 60 = 60 := (by decide); have u1 := b13_; have u2 := zmul 60 n1 (by rw [u0]; omega) (by rw [u0]; omega); rw [u0] at u2; omega
                      have b183_ : 0 ≤ Int32.toInt (60 * n1) ∧ Int32.toInt (60 * n1) ≤ 300 := (by have u1 := b13_; omega)
                      obtain ⟨q185_, b184_⟩ : (Int32.toInt ((60 * n1) + i4z178_) = Int32.toInt (60 * n1) + Int32.toInt i4z178_) ∧ (0 ≤ Int32.toInt ((60 * n1) + i4z178_) ∧ Int32.toInt ((60 * n1) + i4z178_) ≤ 359) := zadd_r (60 * n1) i4z178_ 0 359 b183_ b181_ (by decide) (by decide) (by decide) (by decide)
                      refine pw_blkw hT 9 (pc := 89) (lo := [some (pvR 124), some (pvI n1), some (pvI n2), some (pvI n3), some (pvI i4z178_)]) (st := []) (M := pvw Mz178_ 166 (Int32.toNatClampNeg ((60 * n1) + i4z178_)) 0) rfl ⟨trivial, rfl, trivial, trivial, trivial, trivial, trivial, trivial, ⟨rfl, (zr_in (n := 360) b184_ (by decide) (by decide))⟩, trivial⟩ (fun M186_ e187_ => ?_)
                      have o188_ : pvOk M186_ := pvok_w e187_ oz178_
                      have f189_ : pvFr fp_eX10_tape_124_x_x_x M M186_ := pvfr_w e187_ fz178_
                      obtain ⟨q191_, b190_⟩ : (Int32.toInt (i4z178_ + 1) = Int32.toInt i4z178_ + 1) ∧ (1 ≤ Int32.toInt (i4z178_ + 1) ∧ Int32.toInt (i4z178_ + 1) ≤ 60) := zadd_k i4z178_ 1 1 1 60 b181_ (by decide) (by decide) (by decide) (by decide) (by decide)
                      refine pw_blk hT 2 (S' := (69, [some (pvR 124), some (pvI n1), some (pvI n2), some (pvI n3), some (pvI (i4z178_ + 1))], [], M186_)) rfl ⟨trivial, trivial, trivial⟩ ?_
                      exact ihz178_ (i4z178_ + 1) M186_ o188_ f189_ (zr_wide b190_ (by decide) (by decide)) (zhid (pvms_up (zshow hmz178_) h4z178_ q191_ (by decide) (by decide)))
                exact hlz178_ _ 0 M120_ o122_ f123_ (zr_wide (show 0 ≤ Int32.toInt 0 ∧ Int32.toInt 0 ≤ 0 from (by decide)) (by decide) (by decide)) (zhid (Nat.lt_succ_self _))
              · have b192_ : (-2147483648) ≤ Int32.toInt n3 ∧ Int32.toInt n3 ≤ (-1) := zr_nle_r (-1) c113_ b111_ (show 0 ≤ Int32.toInt 0 ∧ Int32.toInt 0 ≤ 0 from (by decide)) (by decide)
                refine pw_blk hT 1 (S' := (43, [some (pvR 124), some (pvI n1), some (pvI n2), some (pvI n3), none], [pvI (-14)], M)) rfl ⟨trivial, trivial⟩ ?_
                exact pw_ret hT rfl (r := some (pvI (-14))) (M' := M) ⟨rfl, rfl⟩ ⟨⟨_, rfl, (zr_wide (show (-14) ≤ Int32.toInt (-14) ∧ Int32.toInt (-14) ≤ (-14) from (by decide)) (by decide) (by decide)), (by rw [if_neg c6_, if_neg c10_, if_neg c20_, if_neg c24_, if_neg c29_, if_pos c110_, if_neg c113_]; first | done | (rw [if_neg c113_]; done))⟩, hok, pvfr_0⟩
            · have b193_ : 61 ≤ Int32.toInt n3 ∧ Int32.toInt n3 ≤ 2147483647 := zr_nle_l 61 c110_ (zbnd n3) (show 60 ≤ Int32.toInt 60 ∧ Int32.toInt 60 ≤ 60 from (by decide)) (by decide)
              refine pw_blk hT 1 (S' := (32, [some (pvR 124), some (pvI n1), some (pvI n2), some (pvI n3), none], [pvI (-2)], M)) rfl ⟨trivial, trivial⟩ ?_
              exact pw_ret hT rfl (r := some (pvI (-2))) (M' := M) ⟨rfl, rfl⟩ ⟨⟨_, rfl, (zr_wide (show (-2) ≤ Int32.toInt (-2) ∧ Int32.toInt (-2) ≤ (-2) from (by decide)) (by decide) (by decide)), (by rw [if_neg c6_, if_neg c10_, if_neg c20_, if_neg c24_, if_neg c29_, if_neg c110_]; first | done | (rw [if_neg c110_]; done))⟩, hok, pvfr_0⟩
def fpL_eX10_undo_124 : List (Nat × Nat × Nat) := [(0, 124, 1), (0, 124, 2), (0, 124, 16), (0, 124, 3), (0, 124, 4), (0, 124, 38), (0, 124, 5), (0, 124, 41), (0, 124, 44), (0, 124, 6), (0, 124, 7), (0, 125, 0), (0, 126, 0), (0, 127, 0), (0, 128, 0), (0, 129, 0), (0, 130, 0), (0, 131, 0), (0, 145, 0), (0, 147, 0), (0, 148, 0), (0, 149, 0), (0, 150, 0)]
def fp_eX10_undo_124 (q k : Nat) : Bool := pvfp fpL_eX10_undo_124 q k
set_option maxHeartbeats 4000000 in
set_option maxRecDepth 10000 in
theorem se_X10_undo_124 (M : pvM) (hok : pvOk M) (d : Nat) : PW 94 d (0, [some (pvR 124), none], [], M) (fun r X => (∃ x : Int32, r = some (pvI x) ∧ ((-3) ≤ Int32.toInt x ∧ Int32.toInt x ≤ 7) ∧ x = (if (M.1 124 46) = 0 then (-3) else (M.1 124 48))) ∧ pvOk X ∧ pvFr fp_eX10_undo_124 M X ∧ ((pvWF M → pvWF X) ∧ (Int32.toInt (M.1 124 51) ≤ 99 → Int32.toInt (M.1 124 3) ≤ 99 → Int32.toInt (X.1 124 3) ≤ 99)) ∧ X.1 124 0 = (if (M.1 124 46) = 0 then (M.1 124 0) else (M.1 124 48)) ∧ X.1 124 3 = (if (M.1 124 46) = 0 then (M.1 124 3) else (M.1 124 51)) ∧ X.1 124 4 = (if (M.1 124 46) = 0 then (M.1 124 4) else (M.1 124 52)) ∧ X.1 124 40 = (if (M.1 124 46) = 0 then (M.1 124 40) else (M.1 124 56)) ∧ X.1 124 43 = (if (M.1 124 46) = 0 then (M.1 124 43) else (M.1 124 57))) := by
  have hT : pvdom 94 = pvD_94 := rfl
  have b1_ : 0 ≤ Int32.toInt (M.1 124 46) ∧ Int32.toInt (M.1 124 46) ≤ 1 := pvok_r hok 124 46 rfl
  refine pw_blk hT 2 (S' := (4, [some (pvR 124), none], [pvI (M.1 124 46)], M)) rfl ⟨trivial, rfl, trivial⟩ ?_
  refine pw_ifn hT (c := (M.1 124 46) = 0) rfl rfl (fun c2_ => ?_) (fun c2_ => ?_)
  · have b3_ : 1 ≤ Int32.toInt (M.1 124 46) ∧ Int32.toInt (M.1 124 46) ≤ 1 := (by have u0 := b1_; have u1 := (not_congr (zi_eq _ _)).mp c2_; have u2 := (show 0 ≤ Int32.toInt 0 ∧ Int32.toInt 0 ≤ 0 from (by decide)); omega)
    have b4_ : (-1) ≤ Int32.toInt (M.1 124 47) ∧ Int32.toInt (M.1 124 47) ≤ 5 := pvok_r hok 124 47 rfl
    refine pw_blkw hT 4 (pc := 18) (lo := [some (pvR 124), none]) (st := []) (M := pvu M 124 15 (M.1 124 47)) rfl ⟨trivial, trivial, rfl, rfl, trivial⟩ (fun M5_ e6_ => ?_)
    have o7_ : pvOk M5_ := pvok_u2 e6_ hok rfl b4_
    have f8_ : pvFr fp_eX10_undo_124 M M5_ := pvfr_u e6_ pvfr_0 rfl
    have b9_ : 0 ≤ Int32.toInt (M5_.1 124 48) ∧ Int32.toInt (M5_.1 124 48) ≤ 7 := pvok_r o7_ 124 48 rfl
    refine pw_blkw hT 4 (pc := 26) (lo := [some (pvR 124), none]) (st := []) (M := pvu M5_ 124 0 (M5_.1 124 48)) rfl ⟨trivial, trivial, rfl, rfl, trivial⟩ (fun M10_ e11_ => ?_)
    have o12_ : pvOk M10_ := pvok_u2 e11_ o7_ rfl b9_
    have f13_ : pvFr fp_eX10_undo_124 M M10_ := pvfr_u e11_ f8_ rfl
    have b14_ : 0 ≤ Int32.toInt (M10_.1 124 49) ∧ Int32.toInt (M10_.1 124 49) ≤ 9999 := pvok_r o12_ 124 49 rfl
    refine pw_blkw hT 4 (pc := 34) (lo := [some (pvR 124), none]) (st := []) (M := pvu M10_ 124 1 (M10_.1 124 49)) rfl ⟨trivial, trivial, rfl, rfl, trivial⟩ (fun M15_ e16_ => ?_)
    have o17_ : pvOk M15_ := pvok_u2 e16_ o12_ rfl b14_
    have f18_ : pvFr fp_eX10_undo_124 M M15_ := pvfr_u e16_ f13_ rfl
    have b19_ : 0 ≤ Int32.toInt (M15_.1 124 50) ∧ Int32.toInt (M15_.1 124 50) ≤ 999999 := pvok_r o17_ 124 50 rfl
    refine pw_blkw hT 4 (pc := 42) (lo := [some (pvR 124), none]) (st := []) (M := pvu M15_ 124 2 (M15_.1 124 50)) rfl ⟨trivial, trivial, rfl, rfl, trivial⟩ (fun M20_ e21_ => ?_)
    have o22_ : pvOk M20_ := pvok_u2 e21_ o17_ rfl b19_
    have f23_ : pvFr fp_eX10_undo_124 M M20_ := pvfr_u e21_ f18_ rfl
    have b24_ : 0 ≤ Int32.toInt (M20_.1 124 51) ∧ Int32.toInt (M20_.1 124 51) ≤ 108 := pvok_r o22_ 124 51 rfl
    refine pw_blkw hT 4 (pc := 50) (lo := [some (pvR 124), none]) (st := []) (M := pvu M20_ 124 3 (M20_.1 124 51)) rfl ⟨trivial, trivial, rfl, rfl, trivial⟩ (fun M25_ e26_ => ?_)
    have o27_ : pvOk M25_ := pvok_u2 e26_ o22_ rfl b24_
    have f28_ : pvFr fp_eX10_undo_124 M M25_ := pvfr_u e26_ f23_ rfl
    have b29_ : 0 ≤ Int32.toInt (M25_.1 124 52) ∧ Int32.toInt (M25_.1 124 52) ≤ 4 := pvok_r o27_ 124 52 rfl
    refine pw_blkw hT 4 (pc := 58) (lo := [some (pvR 124), none]) (st := []) (M := pvu M25_ 124 4 (M25_.1 124 52)) rfl ⟨trivial, trivial, rfl, rfl, trivial⟩ (fun M30_ e31_ => ?_)
    have o32_ : pvOk M30_ := pvok_u2 e31_ o27_ rfl b29_
    have f33_ : pvFr fp_eX10_undo_124 M M30_ := pvfr_u e31_ f28_ rfl
    have b34_ : 0 ≤ Int32.toInt (M30_.1 124 53) ∧ Int32.toInt (M30_.1 124 53) ≤ 3 := pvok_r o32_ 124 53 rfl
    refine pw_blkw hT 4 (pc := 66) (lo := [some (pvR 124), none]) (st := []) (M := pvu M30_ 124 5 (M30_.1 124 53)) rfl ⟨trivial, trivial, rfl, rfl, trivial⟩ (fun M35_ e36_ => ?_)
    have o37_ : pvOk M35_ := pvok_u2 e36_ o32_ rfl b34_
    have f38_ : pvFr fp_eX10_undo_124 M M35_ := pvfr_u e36_ f33_ rfl
    have b39_ : 0 ≤ Int32.toInt (M35_.1 124 54) ∧ Int32.toInt (M35_.1 124 54) ≤ 4 := pvok_r o37_ 124 54 rfl
    refine pw_blkw hT 4 (pc := 74) (lo := [some (pvR 124), none]) (st := []) (M := pvu M35_ 124 6 (M35_.1 124 54)) rfl ⟨trivial, trivial, rfl, rfl, trivial⟩ (fun M40_ e41_ => ?_)
    have o42_ : pvOk M40_ := pvok_u2 e41_ o37_ rfl b39_
    have f43_ : pvFr fp_eX10_undo_124 M M40_ := pvfr_u e41_ f38_ rfl
    have b44_ : 0 ≤ Int32.toInt (M40_.1 124 55) ∧ Int32.toInt (M40_.1 124 55) ≤ 7 := pvok_r o42_ 124 55 rfl
    refine pw_blkw hT 4 (pc := 82) (lo := [some (pvR 124), none]) (st := []) (M := pvu M40_ 124 37 (M40_.1 124 55)) rfl ⟨trivial, trivial, rfl, rfl, trivial⟩ (fun M45_ e46_ => ?_)
    have o47_ : pvOk M45_ := pvok_u2 e46_ o42_ rfl b44_
    have f48_ : pvFr fp_eX10_undo_124 M M45_ := pvfr_u e46_ f43_ rfl
    have b49_ : 0 ≤ Int32.toInt (M45_.1 124 56) ∧ Int32.toInt (M45_.1 124 56) ≤ 6 := pvok_r o47_ 124 56 rfl
    refine pw_blkw hT 4 (pc := 90) (lo := [some (pvR 124), none]) (st := []) (M := pvu M45_ 124 40 (M45_.1 124 56)) rfl ⟨trivial, trivial, rfl, rfl, trivial⟩ (fun M50_ e51_ => ?_)
    have o52_ : pvOk M50_ := pvok_u2 e51_ o47_ rfl b49_
    have f53_ : pvFr fp_eX10_undo_124 M M50_ := pvfr_u e51_ f48_ rfl
    have b54_ : 0 ≤ Int32.toInt (M50_.1 124 57) ∧ Int32.toInt (M50_.1 124 57) ≤ 8 := pvok_r o52_ 124 57 rfl
    refine pw_blkw hT 4 (pc := 98) (lo := [some (pvR 124), none]) (st := []) (M := pvu M50_ 124 43 (M50_.1 124 57)) rfl ⟨trivial, trivial, rfl, rfl, trivial⟩ (fun M55_ e56_ => ?_)
    have o57_ : pvOk M55_ := pvok_u2 e56_ o52_ rfl b54_
    have f58_ : pvFr fp_eX10_undo_124 M M55_ := pvfr_u e56_ f53_ rfl
    refine pw_blk hT 2 (S' := (100, [some (pvR 124), some (pvI 0)], [], M55_)) rfl ⟨trivial, trivial, trivial⟩ ?_
    have e59_ : (M55_.1 124 46) = (M.1 124 46) := (((((((((((pvu_n e56_ 124 46 (Or.inr (by decide))).trans (pvu_n e51_ 124 46 (Or.inr (by decide)))).trans (pvu_n e46_ 124 46 (Or.inr (by decide)))).trans (pvu_n e41_ 124 46 (Or.inr (by decide)))).trans (pvu_n e36_ 124 46 (Or.inr (by decide)))).trans (pvu_n e31_ 124 46 (Or.inr (by decide)))).trans (pvu_n e26_ 124 46 (Or.inr (by decide)))).trans (pvu_n e21_ 124 46 (Or.inr (by decide)))).trans (pvu_n e16_ 124 46 (Or.inr (by decide)))).trans (pvu_n e11_ 124 46 (Or.inr (by decide)))).trans (pvu_n e6_ 124 46 (Or.inr (by decide))))
    have b60_ : 1 ≤ Int32.toInt (M55_.1 124 46) ∧ Int32.toInt (M55_.1 124 46) ≤ 1 := (by rw [e59_]; exact b3_)
    have hlz5978_ : ∀ (nz5978_ : Nat) (i1z5978_ : Int32) (Mz5978_ : pvM), (pvOk Mz5978_) → (pvFr fp_eX10_undo_124 M Mz5978_) → (Mz5978_.1 124 46 = M55_.1 124 46) → (0 ≤ Int32.toInt i1z5978_ ∧ Int32.toInt i1z5978_ ≤ 7) → (Int32.toInt (Mz5978_.1 124 15) = Int32.toInt (M.1 124 47)) → (Int32.toInt (Mz5978_.1 124 3) = Int32.toInt (M.1 124 51)) → (Mz5978_.1 124 0 = (M.1 124 48)) → (Mz5978_.1 124 3 = (M.1 124 51)) → (Mz5978_.1 124 4 = (M.1 124 52)) → (Mz5978_.1 124 40 = (M.1 124 56)) → (Mz5978_.1 124 43 = (M.1 124 57)) → (zhide ((8 - Int32.toInt i1z5978_).toNat < nz5978_)) → PW 94 d (100, [some (pvR 124), some (pvI i1z5978_)], [], Mz5978_) (fun r X => (∃ x : Int32, r = some (pvI x) ∧ ((-3) ≤ Int32.toInt x ∧ Int32.toInt x ≤ 7) ∧ x = (if (M.1 124 46) = 0 then (-3) else (M.1 124 48))) ∧ pvOk X ∧ pvFr fp_eX10_undo_124 M X ∧ ((pvWF M → pvWF X) ∧ (Int32.toInt (M.1 124 51) ≤ 99 → Int32.toInt (M.1 124 3) ≤ 99 → Int32.toInt (X.1 124 3) ≤ 99)) ∧ X.1 124 0 = (if (M.1 124 46) = 0 then (M.1 124 0) else (M.1 124 48)) ∧ X.1 124 3 = (if (M.1 124 46) = 0 then (M.1 124 3) else (M.1 124 51)) ∧ X.1 124 4 = (if (M.1 124 46) = 0 then (M.1 124 4) else (M.1 124 52)) ∧ X.1 124 40 = (if (M.1 124 46) = 0 then (M.1 124 40) else (M.1 124 56)) ∧ X.1 124 43 = (if (M.1 124 46) = 0 then (M.1 124 43) else (M.1 124 57))) := by
      intro nz5978_
      induction nz5978_ with
      | zero => intro i1z5978_ Mz5978_ oz5978_ fz5978_ k124_46z5978_ h1z5978_ j0z5978_ j1z5978_ j2z5978_ j3z5978_ j4z5978_ j5z5978_ j6z5978_ hmz5978_; exact absurd (zshow hmz5978_) (Nat.not_lt_zero _)
      | succ nz5978_ ihz5978_ =>
        intro i1z5978_ Mz5978_ oz5978_ fz5978_ k124_46z5978_ h1z5978_ j0z5978_ j1z5978_ j2z5978_ j3z5978_ j4z5978_ j5z5978_ j6z5978_ hmz5978_
        have b5979_ : (-1) ≤ Int32.toInt (Mz5978_.1 124 15) ∧ Int32.toInt (Mz5978_.1 124 15) ≤ 5 := pvok_r oz5978_ 124 15 rfl
        have b5980_ : 0 ≤ Int32.toInt (Mz5978_.1 124 3) ∧ Int32.toInt (Mz5978_.1 124 3) ≤ 108 := pvok_r oz5978_ 124 3 rfl
        refine pw_blk hT 2 (S' := (103, [some (pvR 124), some (pvI i1z5978_)], [pvI 7, pvI i1z5978_], Mz5978_)) rfl ⟨trivial, trivial, trivial⟩ ?_
        refine pw_ic hT (c := 7 ≤ i1z5978_) rfl rfl (fun c5981_ => ?_) (fun c5981_ => ?_)
        · have b5982_ : 7 ≤ Int32.toInt i1z5978_ ∧ Int32.toInt i1z5978_ ≤ 7 := zr_le_r 7 c5981_ h1z5978_ (show 7 ≤ Int32.toInt 7 ∧ Int32.toInt 7 ≤ 7 from (by decide)) (by decide)
          refine pw_blk hT 2 (S' := (198, [some (pvR 124), some (pvI 0)], [], Mz5978_)) rfl ⟨trivial, trivial, trivial⟩ ?_
          have e5983_ : (Mz5978_.1 124 46) = (M55_.1 124 46) := (k124_46z5978_)
          have b5984_ : 1 ≤ Int32.toInt (Mz5978_.1 124 46) ∧ Int32.toInt (Mz5978_.1 124 46) ≤ 1 := (by rw [e5983_]; exact b60_)
          have hlz7417_ : ∀ (nz7417_ : Nat) (i1z7417_ : Int32) (Mz7417_ : pvM), (pvOk Mz7417_) → (pvFr fp_eX10_undo_124 M Mz7417_) → (Mz7417_.1 124 46 = Mz5978_.1 124 46) → (0 ≤ Int32.toInt i1z7417_ ∧ Int32.toInt i1z7417_ ≤ 28) → (Int32.toInt (Mz7417_.1 124 15) = Int32.toInt (M.1 124 47)) → (Int32.toInt (Mz7417_.1 124 3) = Int32.toInt (M.1 124 51)) → (Mz7417_.1 124 0 = (M.1 124 48)) → (Mz7417_.1 124 3 = (M.1 124 51)) → (Mz7417_.1 124 4 = (M.1 124 52)) → (Mz7417_.1 124 40 = (M.1 124 56)) → (Mz7417_.1 124 43 = (M.1 124 57)) → (zhide ((29 - Int32.toInt i1z7417_).toNat < nz7417_)) → PW 94 d (198, [some (pvR 124), some (pvI i1z7417_)], [], Mz7417_) (fun r X => (∃ x : Int32, r = some (pvI x) ∧ ((-3) ≤ Int32.toInt x ∧ Int32.toInt x ≤ 7) ∧ x = (if (M.1 124 46) = 0 then (-3) else (M.1 124 48))) ∧ pvOk X ∧ pvFr fp_eX10_undo_124 M X ∧ ((pvWF M → pvWF X) ∧ (Int32.toInt (M.1 124 51) ≤ 99 → Int32.toInt (M.1 124 3) ≤ 99 → Int32.toInt (X.1 124 3) ≤ 99)) ∧ X.1 124 0 = (if (M.1 124 46) = 0 then (M.1 124 0) else (M.1 124 48)) ∧ X.1 124 3 = (if (M.1 124 46) = 0 then (M.1 124 3) else (M.1 124 51)) ∧ X.1 124 4 = (if (M.1 124 46) = 0 then (M.1 124 4) else (M.1 124 52)) ∧ X.1 124 40 = (if (M.1 124 46) = 0 then (M.1 124 40) else (M.1 124 56)) ∧ X.1 124 43 = (if (M.1 124 46) = 0 then (M.1 124 43) else (M.1 124 57))) := by
            intro nz7417_
            induction nz7417_ with
            | zero => intro i1z7417_ Mz7417_ oz7417_ fz7417_ k124_46z7417_ h1z7417_ j0z7417_ j1z7417_ j2z7417_ j3z7417_ j4z7417_ j5z7417_ j6z7417_ hmz7417_; exact absurd (zshow hmz7417_) (Nat.not_lt_zero _)
            | succ nz7417_ ihz7417_ =>
              intro i1z7417_ Mz7417_ oz7417_ fz7417_ k124_46z7417_ h1z7417_ j0z7417_ j1z7417_ j2z7417_ j3z7417_ j4z7417_ j5z7417_ j6z7417_ hmz7417_
              have b7418_ : (-1) ≤ Int32.toInt (Mz7417_.1 124 15) ∧ Int32.toInt (Mz7417_.1 124 15) ≤ 5 := pvok_r oz7417_ 124 15 rfl
              have b7419_ : 0 ≤ Int32.toInt (Mz7417_.1 124 3) ∧ Int32.toInt (Mz7417_.1 124 3) ≤ 108 := pvok_r oz7417_ 124 3 rfl
              refine pw_blk hT 2 (S' := (201, [some (pvR 124), some (pvI i1z7417_)], [pvI 28, pvI i1z7417_], Mz7417_)) rfl ⟨trivial, trivial, trivial⟩ ?_
              refine pw_ic hT (c := 28 ≤ i1z7417_) rfl rfl (fun c7420_ => ?_) (fun c7420_ => ?_)
              · have b7421_ : 28 ≤ Int32.toInt i1z7417_ ∧ Int32.toInt i1z7417_ ≤ 28 := zr_le_r 28 c7420_ h1z7417_ (show 28 ≤ Int32.toInt 28 ∧ Int32.toInt 28 ≤ 28 from (by decide)) (by decide)
                refine pw_blk hT 2 (S' := (224, [some (pvR 124), some (pvI 0)], [], Mz7417_)) rfl ⟨trivial, trivial, trivial⟩ ?_
                have e7422_ : (Mz7417_.1 124 46) = (Mz5978_.1 124 46) := (k124_46z7417_)
                have b7423_ : 1 ≤ Int32.toInt (Mz7417_.1 124 46) ∧ Int32.toInt (Mz7417_.1 124 46) ≤ 1 := (by rw [e7422_]; exact b5984_)
                have hlz7766_ : ∀ (nz7766_ : Nat) (i1z7766_ : Int32) (Mz7766_ : pvM), (pvOk Mz7766_) → (pvFr fp_eX10_undo_124 M Mz7766_) → (Mz7766_.1 124 46 = Mz7417_.1 124 46) → (0 ≤ Int32.toInt i1z7766_ ∧ Int32.toInt i1z7766_ ≤ 6) → (Int32.toInt (Mz7766_.1 124 15) = Int32.toInt (M.1 124 47)) → (Int32.toInt (Mz7766_.1 124 3) = Int32.toInt (M.1 124 51)) → (Mz7766_.1 124 0 = (M.1 124 48)) → (Mz7766_.1 124 3 = (M.1 124 51)) → (Mz7766_.1 124 4 = (M.1 124 52)) → (Mz7766_.1 124 40 = (M.1 124 56)) → (Mz7766_.1 124 43 = (M.1 124 57)) → (zhide ((7 - Int32.toInt i1z7766_).toNat < nz7766_)) → PW 94 d (224, [some (pvR 124), some (pvI i1z7766_)], [], Mz7766_) (fun r X => (∃ x : Int32, r = some (pvI x) ∧ ((-3) ≤ Int32.toInt x ∧ Int32.toInt x ≤ 7) ∧ x = (if (M.1 124 46) = 0 then (-3) else (M.1 124 48))) ∧ pvOk X ∧ pvFr fp_eX10_undo_124 M X ∧ ((pvWF M → pvWF X) ∧ (Int32.toInt (M.1 124 51) ≤ 99 → Int32.toInt (M.1 124 3) ≤ 99 → Int32.toInt (X.1 124 3) ≤ 99)) ∧ X.1 124 0 = (if (M.1 124 46) = 0 then (M.1 124 0) else (M.1 124 48)) ∧ X.1 124 3 = (if (M.1 124 46) = 0 then (M.1 124 3) else (M.1 124 51)) ∧ X.1 124 4 = (if (M.1 124 46) = 0 then (M.1 124 4) else (M.1 124 52)) ∧ X.1 124 40 = (if (M.1 124 46) = 0 then (M.1 124 40) else (M.1 124 56)) ∧ X.1 124 43 = (if (M.1 124 46) = 0 then (M.1 124 43) else (M.1 124 57))) := by
                  intro nz7766_
                  induction nz7766_ with
                  | zero => intro i1z7766_ Mz7766_ oz7766_ fz7766_ k124_46z7766_ h1z7766_ j0z7766_ j1z7766_ j2z7766_ j3z7766_ j4z7766_ j5z7766_ j6z7766_ hmz7766_; exact absurd (zshow hmz7766_) (Nat.not_lt_zero _)
                  | succ nz7766_ ihz7766_ =>
                    intro i1z7766_ Mz7766_ oz7766_ fz7766_ k124_46z7766_ h1z7766_ j0z7766_ j1z7766_ j2z7766_ j3z7766_ j4z7766_ j5z7766_ j6z7766_ hmz7766_
                    have b7767_ : (-1) ≤ Int32.toInt (Mz7766_.1 124 15) ∧ Int32.toInt (Mz7766_.1 124 15) ≤ 5 := pvok_r oz7766_ 124 15 rfl
                    have b7768_ : 0 ≤ Int32.toInt (Mz7766_.1 124 3) ∧ Int32.toInt (Mz7766_.1 124 3) ≤ 108 := pvok_r oz7766_ 124 3 rfl
                    refine pw_blk hT 2 (S' := (227, [some (pvR 124), some (pvI i1z7766_)], [pvI 6, pvI i1z7766_], Mz7766_)) rfl ⟨trivial, trivial, trivial⟩ ?_
                    refine pw_ic hT (c := 6 ≤ i1z7766_) rfl rfl (fun c7769_ => ?_) (fun c7769_ => ?_)
                    · have b7770_ : 6 ≤ Int32.toInt i1z7766_ ∧ Int32.toInt i1z7766_ ≤ 6 := zr_le_r 6 c7769_ h1z7766_ (show 6 ≤ Int32.toInt 6 ∧ Int32.toInt 6 ≤ 6 from (by decide)) (by decide)
                      refine pw_blk hT 2 (S' := (262, [some (pvR 124), some (pvI 0)], [], Mz7766_)) rfl ⟨trivial, trivial, trivial⟩ ?_
                      have e7771_ : (Mz7766_.1 124 46) = (Mz7417_.1 124 46) := (k124_46z7766_)
                      have b7772_ : 1 ≤ Int32.toInt (Mz7766_.1 124 46) ∧ Int32.toInt (Mz7766_.1 124 46) ≤ 1 := (by rw [e7771_]; exact b7423_)
                      have hlz7838_ : ∀ (nz7838_ : Nat) (i1z7838_ : Int32) (Mz7838_ : pvM), (pvOk Mz7838_) → (pvFr fp_eX10_undo_124 M Mz7838_) → (Mz7838_.1 124 46 = Mz7766_.1 124 46) → (0 ≤ Int32.toInt i1z7838_ ∧ Int32.toInt i1z7838_ ≤ 8) → (Int32.toInt (Mz7838_.1 124 15) = Int32.toInt (M.1 124 47)) → (Int32.toInt (Mz7838_.1 124 3) = Int32.toInt (M.1 124 51)) → (Mz7838_.1 124 0 = (M.1 124 48)) → (Mz7838_.1 124 3 = (M.1 124 51)) → (Mz7838_.1 124 4 = (M.1 124 52)) → (Mz7838_.1 124 40 = (M.1 124 56)) → (Mz7838_.1 124 43 = (M.1 124 57)) → (zhide ((9 - Int32.toInt i1z7838_).toNat < nz7838_)) → PW 94 d (262, [some (pvR 124), some (pvI i1z7838_)], [], Mz7838_) (fun r X => (∃ x : Int32, r = some (pvI x) ∧ ((-3) ≤ Int32.toInt x ∧ Int32.toInt x ≤ 7) ∧ x = (if (M.1 124 46) = 0 then (-3) else (M.1 124 48))) ∧ pvOk X ∧ pvFr fp_eX10_undo_124 M X ∧ ((pvWF M → pvWF X) ∧ (Int32.toInt (M.1 124 51) ≤ 99 → Int32.toInt (M.1 124 3) ≤ 99 → Int32.toInt (X.1 124 3) ≤ 99)) ∧ X.1 124 0 = (if (M.1 124 46) = 0 then (M.1 124 0) else (M.1 124 48)) ∧ X.1 124 3 = (if (M.1 124 46) = 0 then (M.1 124 3) else (M.1 124 51)) ∧ X.1 124 4 = (if (M.1 124 46) = 0 then (M.1 124 4) else (M.1 124 52)) ∧ X.1 124 40 = (if (M.1 124 46) = 0 then (M.1 124 40) else (M.1 124 56)) ∧ X.1 124 43 = (if (M.1 124 46) = 0 then (M.1 124 43) else (M.1 124 57))) := by
                        intro nz7838_
                        induction nz7838_ with
                        | zero => intro i1z7838_ Mz7838_ oz7838_ fz7838_ k124_46z7838_ h1z7838_ j0z7838_ j1z7838_ j2z7838_ j3z7838_ j4z7838_ j5z7838_ j6z7838_ hmz7838_; exact absurd (zshow hmz7838_) (Nat.not_lt_zero _)
                        | succ nz7838_ ihz7838_ =>
                          intro i1z7838_ Mz7838_ oz7838_ fz7838_ k124_46z7838_ h1z7838_ j0z7838_ j1z7838_ j2z7838_ j3z7838_ j4z7838_ j5z7838_ j6z7838_ hmz7838_
                          have b7839_ : (-1) ≤ Int32.toInt (Mz7838_.1 124 15) ∧ Int32.toInt (Mz7838_.1 124 15) ≤ 5 := pvok_r oz7838_ 124 15 rfl
                          have b7840_ : 0 ≤ Int32.toInt (Mz7838_.1 124 3) ∧ Int32.toInt (Mz7838_.1 124 3) ≤ 108 := pvok_r oz7838_ 124 3 rfl
                          refine pw_blk hT 2 (S' := (265, [some (pvR 124), some (pvI i1z7838_)], [pvI 8, pvI i1z7838_], Mz7838_)) rfl ⟨trivial, trivial, trivial⟩ ?_
                          refine pw_ic hT (c := 8 ≤ i1z7838_) rfl rfl (fun c7841_ => ?_) (fun c7841_ => ?_)
                          · have b7842_ : 8 ≤ Int32.toInt i1z7838_ ∧ Int32.toInt i1z7838_ ≤ 8 := zr_le_r 8 c7841_ h1z7838_ (show 8 ≤ Int32.toInt 8 ∧ Int32.toInt 8 ≤ 8 from (by decide)) (by decide)
                            have b7843_ : 0 ≤ Int32.toInt (Mz7838_.1 124 0) ∧ Int32.toInt (Mz7838_.1 124 0) ≤ 7 := pvok_r oz7838_ 124 0 rfl
                            refine pw_blk hT 2 (S' := (302, [some (pvR 124), some (pvI i1z7838_)], [pvI (Mz7838_.1 124 0)], Mz7838_)) rfl ⟨trivial, rfl, trivial⟩ ?_
                            exact pw_ret hT rfl (r := some (pvI (Mz7838_.1 124 0))) (M' := Mz7838_) ⟨rfl, rfl⟩ ⟨⟨_, rfl, (zr_wide b7843_ (by decide) (by decide)), (by rw [if_neg c2_]; first | done | exact (show (Mz7838_.1 124 0) = (M.1 124 48) from by rw [j2z7838_]) | (rw [if_neg c2_]; exact (show (Mz7838_.1 124 0) = (M.1 124 48) from by rw [j2z7838_])))⟩, oz7838_, fz7838_, ⟨fun hz => ⟨by have z3 := hz.1; have z4 := hz.2.1; have w0 : Int32.toInt (Mz7838_.1 124 14) = Int32.toInt (M.1 124 14) := congrArg Int32.toInt (fz7838_ 124 14 rfl); omega, by have z3 := hz.1; have z4 := hz.2.1; have w0 : Int32.toInt (Mz7838_.1 124 14) = Int32.toInt (M.1 124 14) := congrArg Int32.toInt (fz7838_ 124 14 rfl); have v0 : Int32.toInt (Mz7838_.1 124 47) = Int32.toInt (M.1 124 47) := congrArg Int32.toInt (fz7838_ 124 47 rfl); omega, fun a ha => pvWh_r (pvfr_row (L := fpL_eX10_undo_124) fz7838_ rfl) (pvfr_row (L := fpL_eX10_undo_124) fz7838_ rfl) (pvfr_row (L := fpL_eX10_undo_124) fz7838_ rfl) (pvfr_row (L := fpL_eX10_undo_124) fz7838_ rfl) (pvfr_row (L := fpL_eX10_undo_124) fz7838_ rfl) (hz.2.2 a (by have w0 : Int32.toInt (Mz7838_.1 124 14) = Int32.toInt (M.1 124 14) := congrArg Int32.toInt (fz7838_ 124 14 rfl); omega))⟩, fun hc hc2 => by omega⟩, (by rw [if_neg c2_]; first | done | exact j2z7838_ | (rw [if_neg c2_]; done) | (rw [if_neg c2_]; exact j2z7838_)), (by rw [if_neg c2_]; first | done | exact j3z7838_ | (rw [if_neg c2_]; done) | (rw [if_neg c2_]; exact j3z7838_)), (by rw [if_neg c2_]; first | done | exact j4z7838_ | (rw [if_neg c2_]; done) | (rw [if_neg c2_]; exact j4z7838_)), (by rw [if_neg c2_]; first | done | exact j5z7838_ | (rw [if_neg c2_]; done) | (rw [if_neg c2_]; exact j5z7838_)), (by rw [if_neg c2_]; first | done | exact j6z7838_ | (rw [if_neg c2_]; done) | (rw [if_neg c2_]; exact j6z7838_))⟩
                          · have b7844_ : 0 ≤ Int32.toInt i1z7838_ ∧ Int32.toInt i1z7838_ ≤ 7 := zr_nle_r 7 c7841_ h1z7838_ (show 8 ≤ Int32.toInt 8 ∧ Int32.toInt 8 ≤ 8 from (by decide)) (by decide)
                            have b7845_ : 0 ≤ Int32.toInt (Mz7838_.1 160 (Int32.toNatClampNeg i1z7838_)) ∧ Int32.toInt (Mz7838_.1 160 (Int32.toNatClampNeg i1z7838_)) ≤ 6 := pvok_r oz7838_ 160 (Int32.toNatClampNeg i1z7838_) rfl
                            refine pw_blkw hT 8 (pc := 280) (lo := [some (pvR 124), some (pvI i1z7838_)]) (st := []) (M := pvu Mz7838_ 149 (Int32.toNatClampNeg i1z7838_) (Mz7838_.1 160 (Int32.toNatClampNeg i1z7838_))) rfl ⟨trivial, rfl, trivial, trivial, rfl, trivial, ⟨rfl, (zr_in (n := 8) b7844_ (by decide) (by decide))⟩, ⟨rfl, (zr_in (n := 8) b7844_ (by decide) (by decide))⟩, trivial⟩ (fun M7846_ e7847_ => ?_)
                            have o7848_ : pvOk M7846_ := pvok_u2 e7847_ oz7838_ rfl b7845_
                            have f7849_ : pvFr fp_eX10_undo_124 M M7846_ := pvfr_u e7847_ fz7838_ rfl
                            have b7850_ : 0 ≤ Int32.toInt (M7846_.1 161 (Int32.toNatClampNeg i1z7838_)) ∧ Int32.toInt (M7846_.1 161 (Int32.toNatClampNeg i1z7838_)) ≤ 9999 := pvok_r o7848_ 161 (Int32.toNatClampNeg i1z7838_) rfl
                            refine pw_blkw hT 8 (pc := 292) (lo := [some (pvR 124), some (pvI i1z7838_)]) (st := []) (M := pvu M7846_ 150 (Int32.toNatClampNeg i1z7838_) (M7846_.1 161 (Int32.toNatClampNeg i1z7838_))) rfl ⟨trivial, rfl, trivial, trivial, rfl, trivial, ⟨rfl, (zr_in (n := 8) b7844_ (by decide) (by decide))⟩, ⟨rfl, (zr_in (n := 8) b7844_ (by decide) (by decide))⟩, trivial⟩ (fun M7851_ e7852_ => ?_)
                            have o7853_ : pvOk M7851_ := pvok_u2 e7852_ o7848_ rfl b7850_
                            have f7854_ : pvFr fp_eX10_undo_124 M M7851_ := pvfr_u e7852_ f7849_ rfl
                            obtain ⟨q7856_, b7855_⟩ : (Int32.toInt (i1z7838_ + 1) = Int32.toInt i1z7838_ + 1) ∧ (1 ≤ Int32.toInt (i1z7838_ + 1) ∧ Int32.toInt (i1z7838_ + 1) ≤ 8) := zadd_k i1z7838_ 1 1 1 8 b7844_ (by decide) (by decide) (by decide) (by decide) (by decide)
                            refine pw_blk hT 2 (S' := (262, [some (pvR 124), some (pvI (i1z7838_ + 1))], [], M7851_)) rfl ⟨trivial, trivial, trivial⟩ ?_
                            have j7857_ : Int32.toInt (M7851_.1 124 15) = Int32.toInt (M.1 124 47) := (by have y01 : Int32.toInt (M7851_.1 124 15) = Int32.toInt (Mz7838_.1 124 15) := congrArg Int32.toInt ((pvu_n e7852_ 124 15 (Or.inl (by decide))).trans (pvu_n e7847_ 124 15 (Or.inl (by decide)))); omega)
                            have j7858_ : Int32.toInt (M7851_.1 124 3) = Int32.toInt (M.1 124 51) := (by have y01 : Int32.toInt (M7851_.1 124 3) = Int32.toInt (Mz7838_.1 124 3) := congrArg Int32.toInt ((pvu_n e7852_ 124 3 (Or.inl (by decide))).trans (pvu_n e7847_ 124 3 (Or.inl (by decide)))); omega)
                            have j7859_ : M7851_.1 124 0 = (M.1 124 48) := (((pvu_n e7852_ 124 0 (Or.inl (by decide))).trans (pvu_n e7847_ 124 0 (Or.inl (by decide)))).trans (j2z7838_))
                            have j7860_ : M7851_.1 124 3 = (M.1 124 51) := (((pvu_n e7852_ 124 3 (Or.inl (by decide))).trans (pvu_n e7847_ 124 3 (Or.inl (by decide)))).trans (j3z7838_))
                            have j7861_ : M7851_.1 124 4 = (M.1 124 52) := (((pvu_n e7852_ 124 4 (Or.inl (by decide))).trans (pvu_n e7847_ 124 4 (Or.inl (by decide)))).trans (j4z7838_))
                            have j7862_ : M7851_.1 124 40 = (M.1 124 56) := (((pvu_n e7852_ 124 40 (Or.inl (by decide))).trans (pvu_n e7847_ 124 40 (Or.inl (by decide)))).trans (j5z7838_))
                            have j7863_ : M7851_.1 124 43 = (M.1 124 57) := (((pvu_n e7852_ 124 43 (Or.inl (by decide))).trans (pvu_n e7847_ 124 43 (Or.inl (by decide)))).trans (j6z7838_))
                            exact ihz7838_ (i1z7838_ + 1) M7851_ o7853_ f7854_ (((pvu_n e7852_ 124 46 (Or.inl (by decide))).trans (pvu_n e7847_ 124 46 (Or.inl (by decide)))).trans (k124_46z7838_)) (zr_wide b7855_ (by decide) (by decide)) j7857_ j7858_ j7859_ j7860_ j7861_ j7862_ j7863_ (zhid (by have hm0 := zshow hmz7838_; have y01 : Int32.toInt (M7851_.1 124 15) = Int32.toInt (Mz7838_.1 124 15) := congrArg Int32.toInt ((pvu_n e7852_ 124 15 (Or.inl (by decide))).trans (pvu_n e7847_ 124 15 (Or.inl (by decide)))); have y11 : Int32.toInt (M7851_.1 124 3) = Int32.toInt (Mz7838_.1 124 3) := congrArg Int32.toInt ((pvu_n e7852_ 124 3 (Or.inl (by decide))).trans (pvu_n e7847_ 124 3 (Or.inl (by decide)))); omega))
                      have u7864_ : Int32.toInt 0 = 0 := by decide
                      have j7865_ : Int32.toInt (Mz7766_.1 124 15) = Int32.toInt (M.1 124 47) := (by omega)
                      have j7866_ : Int32.toInt (Mz7766_.1 124 3) = Int32.toInt (M.1 124 51) := (by omega)
                      have j7867_ : Mz7766_.1 124 0 = (M.1 124 48) := j2z7766_
                      have j7868_ : Mz7766_.1 124 3 = (M.1 124 51) := j3z7766_
                      have j7869_ : Mz7766_.1 124 4 = (M.1 124 52) := j4z7766_
                      have j7870_ : Mz7766_.1 124 40 = (M.1 124 56) := j5z7766_
                      have j7871_ : Mz7766_.1 124 43 = (M.1 124 57) := j6z7766_
                      exact hlz7838_ _ 0 Mz7766_ oz7766_ fz7766_ rfl (zr_wide (show 0 ≤ Int32.toInt 0 ∧ Int32.toInt 0 ≤ 0 from (by decide)) (by decide) (by decide)) j7865_ j7866_ j7867_ j7868_ j7869_ j7870_ j7871_ (zhid (Nat.lt_succ_self _))
                    · have b7872_ : 0 ≤ Int32.toInt i1z7766_ ∧ Int32.toInt i1z7766_ ≤ 5 := zr_nle_r 5 c7769_ h1z7766_ (show 6 ≤ Int32.toInt 6 ∧ Int32.toInt 6 ≤ 6 from (by decide)) (by decide)
                      have b7873_ : 0 ≤ Int32.toInt (Mz7766_.1 158 (Int32.toNatClampNeg i1z7766_)) ∧ Int32.toInt (Mz7766_.1 158 (Int32.toNatClampNeg i1z7766_)) ≤ 6 := pvok_r oz7766_ 158 (Int32.toNatClampNeg i1z7766_) rfl
                      refine pw_blkw hT 8 (pc := 242) (lo := [some (pvR 124), some (pvI i1z7766_)]) (st := []) (M := pvu Mz7766_ 147 (Int32.toNatClampNeg i1z7766_) (Mz7766_.1 158 (Int32.toNatClampNeg i1z7766_))) rfl ⟨trivial, rfl, trivial, trivial, rfl, trivial, ⟨rfl, (zr_in (n := 6) b7872_ (by decide) (by decide))⟩, ⟨rfl, (zr_in (n := 6) b7872_ (by decide) (by decide))⟩, trivial⟩ (fun M7874_ e7875_ => ?_)
                      have o7876_ : pvOk M7874_ := pvok_u2 e7875_ oz7766_ rfl b7873_
                      have f7877_ : pvFr fp_eX10_undo_124 M M7874_ := pvfr_u e7875_ fz7766_ rfl
                      have b7878_ : 0 ≤ Int32.toInt (M7874_.1 159 (Int32.toNatClampNeg i1z7766_)) ∧ Int32.toInt (M7874_.1 159 (Int32.toNatClampNeg i1z7766_)) ≤ 9999 := pvok_r o7876_ 159 (Int32.toNatClampNeg i1z7766_) rfl
                      refine pw_blkw hT 8 (pc := 254) (lo := [some (pvR 124), some (pvI i1z7766_)]) (st := []) (M := pvu M7874_ 148 (Int32.toNatClampNeg i1z7766_) (M7874_.1 159 (Int32.toNatClampNeg i1z7766_))) rfl ⟨trivial, rfl, trivial, trivial, rfl, trivial, ⟨rfl, (zr_in (n := 6) b7872_ (by decide) (by decide))⟩, ⟨rfl, (zr_in (n := 6) b7872_ (by decide) (by decide))⟩, trivial⟩ (fun M7879_ e7880_ => ?_)
                      have o7881_ : pvOk M7879_ := pvok_u2 e7880_ o7876_ rfl b7878_
                      have f7882_ : pvFr fp_eX10_undo_124 M M7879_ := pvfr_u e7880_ f7877_ rfl
                      obtain ⟨q7884_, b7883_⟩ : (Int32.toInt (i1z7766_ + 1) = Int32.toInt i1z7766_ + 1) ∧ (1 ≤ Int32.toInt (i1z7766_ + 1) ∧ Int32.toInt (i1z7766_ + 1) ≤ 6) := zadd_k i1z7766_ 1 1 1 6 b7872_ (by decide) (by decide) (by decide) (by decide) (by decide)
                      refine pw_blk hT 2 (S' := (224, [some (pvR 124), some (pvI (i1z7766_ + 1))], [], M7879_)) rfl ⟨trivial, trivial, trivial⟩ ?_
                      have j7885_ : Int32.toInt (M7879_.1 124 15) = Int32.toInt (M.1 124 47) := (by have y01 : Int32.toInt (M7879_.1 124 15) = Int32.toInt (Mz7766_.1 124 15) := congrArg Int32.toInt ((pvu_n e7880_ 124 15 (Or.inl (by decide))).trans (pvu_n e7875_ 124 15 (Or.inl (by decide)))); omega)
                      have j7886_ : Int32.toInt (M7879_.1 124 3) = Int32.toInt (M.1 124 51) := (by have y01 : Int32.toInt (M7879_.1 124 3) = Int32.toInt (Mz7766_.1 124 3) := congrArg Int32.toInt ((pvu_n e7880_ 124 3 (Or.inl (by decide))).trans (pvu_n e7875_ 124 3 (Or.inl (by decide)))); omega)
                      have j7887_ : M7879_.1 124 0 = (M.1 124 48) := (((pvu_n e7880_ 124 0 (Or.inl (by decide))).trans (pvu_n e7875_ 124 0 (Or.inl (by decide)))).trans (j2z7766_))
                      have j7888_ : M7879_.1 124 3 = (M.1 124 51) := (((pvu_n e7880_ 124 3 (Or.inl (by decide))).trans (pvu_n e7875_ 124 3 (Or.inl (by decide)))).trans (j3z7766_))
                      have j7889_ : M7879_.1 124 4 = (M.1 124 52) := (((pvu_n e7880_ 124 4 (Or.inl (by decide))).trans (pvu_n e7875_ 124 4 (Or.inl (by decide)))).trans (j4z7766_))
                      have j7890_ : M7879_.1 124 40 = (M.1 124 56) := (((pvu_n e7880_ 124 40 (Or.inl (by decide))).trans (pvu_n e7875_ 124 40 (Or.inl (by decide)))).trans (j5z7766_))
                      have j7891_ : M7879_.1 124 43 = (M.1 124 57) := (((pvu_n e7880_ 124 43 (Or.inl (by decide))).trans (pvu_n e7875_ 124 43 (Or.inl (by decide)))).trans (j6z7766_))
                      exact ihz7766_ (i1z7766_ + 1) M7879_ o7881_ f7882_ (((pvu_n e7880_ 124 46 (Or.inl (by decide))).trans (pvu_n e7875_ 124 46 (Or.inl (by decide)))).trans (k124_46z7766_)) (zr_wide b7883_ (by decide) (by decide)) j7885_ j7886_ j7887_ j7888_ j7889_ j7890_ j7891_ (zhid (by have hm0 := zshow hmz7766_; have y01 : Int32.toInt (M7879_.1 124 15) = Int32.toInt (Mz7766_.1 124 15) := congrArg Int32.toInt ((pvu_n e7880_ 124 15 (Or.inl (by decide))).trans (pvu_n e7875_ 124 15 (Or.inl (by decide)))); have y11 : Int32.toInt (M7879_.1 124 3) = Int32.toInt (Mz7766_.1 124 3) := congrArg Int32.toInt ((pvu_n e7880_ 124 3 (Or.inl (by decide))).trans (pvu_n e7875_ 124 3 (Or.inl (by decide)))); omega))
                have u7892_ : Int32.toInt 0 = 0 := by decide
                have j7893_ : Int32.toInt (Mz7417_.1 124 15) = Int32.toInt (M.1 124 47) := (by omega)
                have j7894_ : Int32.toInt (Mz7417_.1 124 3) = Int32.toInt (M.1 124 51) := (by omega)
                have j7895_ : Mz7417_.1 124 0 = (M.1 124 48) := j2z7417_
                have j7896_ : Mz7417_.1 124 3 = (M.1 124 51) := j3z7417_
                have j7897_ : Mz7417_.1 124 4 = (M.1 124 52) := j4z7417_
                have j7898_ : Mz7417_.1 124 40 = (M.1 124 56) := j5z7417_
                have j7899_ : Mz7417_.1 124 43 = (M.1 124 57) := j6z7417_
                exact hlz7766_ _ 0 Mz7417_ oz7417_ fz7417_ rfl (zr_wide (show 0 ≤ Int32.toInt 0 ∧ Int32.toInt 0 ≤ 0 from (by decide)) (by decide) (by decide)) j7893_ j7894_ j7895_ j7896_ j7897_ j7898_ j7899_ (zhid (Nat.lt_succ_self _))
              · have b7900_ : 0 ≤ Int32.toInt i1z7417_ ∧ Int32.toInt i1z7417_ ≤ 27 := zr_nle_r 27 c7420_ h1z7417_ (show 28 ≤ Int32.toInt 28 ∧ Int32.toInt 28 ≤ 28 from (by decide)) (by decide)
                have b7901_ : 0 ≤ Int32.toInt (Mz7417_.1 156 (Int32.toNatClampNeg i1z7417_)) ∧ Int32.toInt (Mz7417_.1 156 (Int32.toNatClampNeg i1z7417_)) ≤ 9 := pvok_r oz7417_ 156 (Int32.toNatClampNeg i1z7417_) rfl
                refine pw_blkw hT 8 (pc := 216) (lo := [some (pvR 124), some (pvI i1z7417_)]) (st := []) (M := pvu Mz7417_ 130 (Int32.toNatClampNeg i1z7417_) (Mz7417_.1 156 (Int32.toNatClampNeg i1z7417_))) rfl ⟨trivial, rfl, trivial, trivial, rfl, trivial, ⟨rfl, (zr_in (n := 28) b7900_ (by decide) (by decide))⟩, ⟨rfl, (zr_in (n := 28) b7900_ (by decide) (by decide))⟩, trivial⟩ (fun M7902_ e7903_ => ?_)
                have o7904_ : pvOk M7902_ := pvok_u2 e7903_ oz7417_ rfl b7901_
                have f7905_ : pvFr fp_eX10_undo_124 M M7902_ := pvfr_u e7903_ fz7417_ rfl
                obtain ⟨q7907_, b7906_⟩ : (Int32.toInt (i1z7417_ + 1) = Int32.toInt i1z7417_ + 1) ∧ (1 ≤ Int32.toInt (i1z7417_ + 1) ∧ Int32.toInt (i1z7417_ + 1) ≤ 28) := zadd_k i1z7417_ 1 1 1 28 b7900_ (by decide) (by decide) (by decide) (by decide) (by decide)
                refine pw_blk hT 2 (S' := (198, [some (pvR 124), some (pvI (i1z7417_ + 1))], [], M7902_)) rfl ⟨trivial, trivial, trivial⟩ ?_
                have j7908_ : Int32.toInt (M7902_.1 124 15) = Int32.toInt (M.1 124 47) := (by have y01 : Int32.toInt (M7902_.1 124 15) = Int32.toInt (Mz7417_.1 124 15) := congrArg Int32.toInt (pvu_n e7903_ 124 15 (Or.inl (by decide))); omega)
                have j7909_ : Int32.toInt (M7902_.1 124 3) = Int32.toInt (M.1 124 51) := (by have y01 : Int32.toInt (M7902_.1 124 3) = Int32.toInt (Mz7417_.1 124 3) := congrArg Int32.toInt (pvu_n e7903_ 124 3 (Or.inl (by decide))); omega)
                have j7910_ : M7902_.1 124 0 = (M.1 124 48) := ((pvu_n e7903_ 124 0 (Or.inl (by decide))).trans (j2z7417_))
                have j7911_ : M7902_.1 124 3 = (M.1 124 51) := ((pvu_n e7903_ 124 3 (Or.inl (by decide))).trans (j3z7417_))
                have j7912_ : M7902_.1 124 4 = (M.1 124 52) := ((pvu_n e7903_ 124 4 (Or.inl (by decide))).trans (j4z7417_))
                have j7913_ : M7902_.1 124 40 = (M.1 124 56) := ((pvu_n e7903_ 124 40 (Or.inl (by decide))).trans (j5z7417_))
                have j7914_ : M7902_.1 124 43 = (M.1 124 57) := ((pvu_n e7903_ 124 43 (Or.inl (by decide))).trans (j6z7417_))
                exact ihz7417_ (i1z7417_ + 1) M7902_ o7904_ f7905_ ((pvu_n e7903_ 124 46 (Or.inl (by decide))).trans (k124_46z7417_)) (zr_wide b7906_ (by decide) (by decide)) j7908_ j7909_ j7910_ j7911_ j7912_ j7913_ j7914_ (zhid (by have hm0 := zshow hmz7417_; have y01 : Int32.toInt (M7902_.1 124 15) = Int32.toInt (Mz7417_.1 124 15) := congrArg Int32.toInt (pvu_n e7903_ 124 15 (Or.inl (by decide))); have y11 : Int32.toInt (M7902_.1 124 3) = Int32.toInt (Mz7417_.1 124 3) := congrArg Int32.toInt (pvu_n e7903_ 124 3 (Or.inl (by decide))); omega))
          have u7915_ : Int32.toInt 0 = 0 := by decide
          have j7916_ : Int32.toInt (Mz5978_.1 124 15) = Int32.toInt (M.1 124 47) := (by omega)
          have j7917_ : Int32.toInt (Mz5978_.1 124 3) = Int32.toInt (M.1 124 51) := (by omega)
          have j7918_ : Mz5978_.1 124 0 = (M.1 124 48) := j2z5978_
          have j7919_ : Mz5978_.1 124 3 = (M.1 124 51) := j3z5978_
          have j7920_ : Mz5978_.1 124 4 = (M.1 124 52) := j4z5978_
          have j7921_ : Mz5978_.1 124 40 = (M.1 124 56) := j5z5978_
          have j7922_ : Mz5978_.1 124 43 = (M.1 124 57) := j6z5978_
          exact hlz7417_ _ 0 Mz5978_ oz5978_ fz5978_ rfl (zr_wide (show 0 ≤ Int32.toInt 0 ∧ Int32.toInt 0 ≤ 0 from (by decide)) (by decide) (by decide)) j7916_ j7917_ j7918_ j7919_ j7920_ j7921_ j7922_ (zhid (Nat.lt_succ_self _))
        · have b7923_ : 0 ≤ Int32.toInt i1z5978_ ∧ Int32.toInt i1z5978_ ≤ 6 := zr_nle_r 6 c5981_ h1z5978_ (show 7 ≤ Int32.toInt 7 ∧ Int32.toInt 7 ≤ 7 from (by decide)) (by decide)
          have b7924_ : 0 ≤ Int32.toInt (Mz5978_.1 151 (Int32.toNatClampNeg i1z5978_)) ∧ Int32.toInt (Mz5978_.1 151 (Int32.toNatClampNeg i1z5978_)) ≤ 6 := pvok_r oz5978_ 151 (Int32.toNatClampNeg i1z5978_) rfl
          refine pw_blkw hT 8 (pc := 118) (lo := [some (pvR 124), some (pvI i1z5978_)]) (st := []) (M := pvu Mz5978_ 125 (Int32.toNatClampNeg i1z5978_) (Mz5978_.1 151 (Int32.toNatClampNeg i1z5978_))) rfl ⟨trivial, rfl, trivial, trivial, rfl, trivial, ⟨rfl, (zr_in (n := 7) b7923_ (by decide) (by decide))⟩, ⟨rfl, (zr_in (n := 7) b7923_ (by decide) (by decide))⟩, trivial⟩ (fun M7925_ e7926_ => ?_)
          have o7927_ : pvOk M7925_ := pvok_u2 e7926_ oz5978_ rfl b7924_
          have f7928_ : pvFr fp_eX10_undo_124 M M7925_ := pvfr_u e7926_ fz5978_ rfl
          have b7929_ : 0 ≤ Int32.toInt (M7925_.1 152 (Int32.toNatClampNeg i1z5978_)) ∧ Int32.toInt (M7925_.1 152 (Int32.toNatClampNeg i1z5978_)) ≤ 9 := pvok_r o7927_ 152 (Int32.toNatClampNeg i1z5978_) rfl
          refine pw_blkw hT 8 (pc := 130) (lo := [some (pvR 124), some (pvI i1z5978_)]) (st := []) (M := pvu M7925_ 126 (Int32.toNatClampNeg i1z5978_) (M7925_.1 152 (Int32.toNatClampNeg i1z5978_))) rfl ⟨trivial, rfl, trivial, trivial, rfl, trivial, ⟨rfl, (zr_in (n := 7) b7923_ (by decide) (by decide))⟩, ⟨rfl, (zr_in (n := 7) b7923_ (by decide) (by decide))⟩, trivial⟩ (fun M7930_ e7931_ => ?_)
          have o7932_ : pvOk M7930_ := pvok_u2 e7931_ o7927_ rfl b7929_
          have f7933_ : pvFr fp_eX10_undo_124 M M7930_ := pvfr_u e7931_ f7928_ rfl
          have b7934_ : 0 ≤ Int32.toInt (M7930_.1 153 (Int32.toNatClampNeg i1z5978_)) ∧ Int32.toInt (M7930_.1 153 (Int32.toNatClampNeg i1z5978_)) ≤ 3 := pvok_r o7932_ 153 (Int32.toNatClampNeg i1z5978_) rfl
          refine pw_blkw hT 8 (pc := 142) (lo := [some (pvR 124), some (pvI i1z5978_)]) (st := []) (M := pvu M7930_ 127 (Int32.toNatClampNeg i1z5978_) (M7930_.1 153 (Int32.toNatClampNeg i1z5978_))) rfl ⟨trivial, rfl, trivial, trivial, rfl, trivial, ⟨rfl, (zr_in (n := 7) b7923_ (by decide) (by decide))⟩, ⟨rfl, (zr_in (n := 7) b7923_ (by decide) (by decide))⟩, trivial⟩ (fun M7935_ e7936_ => ?_)
          have o7937_ : pvOk M7935_ := pvok_u2 e7936_ o7932_ rfl b7934_
          have f7938_ : pvFr fp_eX10_undo_124 M M7935_ := pvfr_u e7936_ f7933_ rfl
          have b7939_ : 0 ≤ Int32.toInt (M7935_.1 154 (Int32.toNatClampNeg i1z5978_)) ∧ Int32.toInt (M7935_.1 154 (Int32.toNatClampNeg i1z5978_)) ≤ 4 := pvok_r o7937_ 154 (Int32.toNatClampNeg i1z5978_) rfl
          refine pw_blkw hT 8 (pc := 154) (lo := [some (pvR 124), some (pvI i1z5978_)]) (st := []) (M := pvu M7935_ 128 (Int32.toNatClampNeg i1z5978_) (M7935_.1 154 (Int32.toNatClampNeg i1z5978_))) rfl ⟨trivial, rfl, trivial, trivial, rfl, trivial, ⟨rfl, (zr_in (n := 7) b7923_ (by decide) (by decide))⟩, ⟨rfl, (zr_in (n := 7) b7923_ (by decide) (by decide))⟩, trivial⟩ (fun M7940_ e7941_ => ?_)
          have o7942_ : pvOk M7940_ := pvok_u2 e7941_ o7937_ rfl b7939_
          have f7943_ : pvFr fp_eX10_undo_124 M M7940_ := pvfr_u e7941_ f7938_ rfl
          have b7944_ : 0 ≤ Int32.toInt (M7940_.1 155 (Int32.toNatClampNeg i1z5978_)) ∧ Int32.toInt (M7940_.1 155 (Int32.toNatClampNeg i1z5978_)) ≤ 9 := pvok_r o7942_ 155 (Int32.toNatClampNeg i1z5978_) rfl
          refine pw_blkw hT 8 (pc := 166) (lo := [some (pvR 124), some (pvI i1z5978_)]) (st := []) (M := pvu M7940_ 129 (Int32.toNatClampNeg i1z5978_) (M7940_.1 155 (Int32.toNatClampNeg i1z5978_))) rfl ⟨trivial, rfl, trivial, trivial, rfl, trivial, ⟨rfl, (zr_in (n := 7) b7923_ (by decide) (by decide))⟩, ⟨rfl, (zr_in (n := 7) b7923_ (by decide) (by decide))⟩, trivial⟩ (fun M7945_ e7946_ => ?_)
          have o7947_ : pvOk M7945_ := pvok_u2 e7946_ o7942_ rfl b7944_
          have f7948_ : pvFr fp_eX10_undo_124 M M7945_ := pvfr_u e7946_ f7943_ rfl
          have b7949_ : 0 ≤ Int32.toInt (M7945_.1 162 (Int32.toNatClampNeg i1z5978_)) ∧ Int32.toInt (M7945_.1 162 (Int32.toNatClampNeg i1z5978_)) ≤ 1 := pvok_r o7947_ 162 (Int32.toNatClampNeg i1z5978_) rfl
          refine pw_blkw hT 8 (pc := 178) (lo := [some (pvR 124), some (pvI i1z5978_)]) (st := []) (M := pvu M7945_ 131 (Int32.toNatClampNeg i1z5978_) (vp_nar .boolean (M7945_.1 162 (Int32.toNatClampNeg i1z5978_)))) rfl ⟨trivial, rfl, trivial, trivial, rfl, trivial, ⟨rfl, (zr_in (n := 7) b7923_ (by decide) (by decide))⟩, ⟨rfl, (zr_in (n := 7) b7923_ (by decide) (by decide))⟩, trivial⟩ (fun M7950_ e7951_ => ?_)
          have o7952_ : pvOk M7950_ := pvok_u2 e7951_ o7947_ rfl (zboolr (M7945_.1 162 (Int32.toNatClampNeg i1z5978_)))
          have f7953_ : pvFr fp_eX10_undo_124 M M7950_ := pvfr_u e7951_ f7948_ rfl
          have b7954_ : 0 ≤ Int32.toInt (M7950_.1 157 (Int32.toNatClampNeg i1z5978_)) ∧ Int32.toInt (M7950_.1 157 (Int32.toNatClampNeg i1z5978_)) ≤ 6 := pvok_r o7952_ 157 (Int32.toNatClampNeg i1z5978_) rfl
          refine pw_blkw hT 8 (pc := 190) (lo := [some (pvR 124), some (pvI i1z5978_)]) (st := []) (M := pvu M7950_ 145 (Int32.toNatClampNeg i1z5978_) (M7950_.1 157 (Int32.toNatClampNeg i1z5978_))) rfl ⟨trivial, rfl, trivial, trivial, rfl, trivial, ⟨rfl, (zr_in (n := 7) b7923_ (by decide) (by decide))⟩, ⟨rfl, (zr_in (n := 7) b7923_ (by decide) (by decide))⟩, trivial⟩ (fun M7955_ e7956_ => ?_)
          have o7957_ : pvOk M7955_ := pvok_u2 e7956_ o7952_ rfl b7954_
          have f7958_ : pvFr fp_eX10_undo_124 M M7955_ := pvfr_u e7956_ f7953_ rfl
          obtain ⟨q7960_, b7959_⟩ : (Int32.toInt (i1z5978_ + 1) = Int32.toInt i1z5978_ + 1) ∧ (1 ≤ Int32.toInt (i1z5978_ + 1) ∧ Int32.toInt (i1z5978_ + 1) ≤ 7) := zadd_k i1z5978_ 1 1 1 7 b7923_ (by decide) (by decide) (by decide) (by decide) (by decide)
          refine pw_blk hT 2 (S' := (100, [some (pvR 124), some (pvI (i1z5978_ + 1))], [], M7955_)) rfl ⟨trivial, trivial, trivial⟩ ?_
          have j7961_ : Int32.toInt (M7955_.1 124 15) = Int32.toInt (M.1 124 47) := (by have y01 : Int32.toInt (M7955_.1 124 15) = Int32.toInt (Mz5978_.1 124 15) := congrArg Int32.toInt (((((((pvu_n e7956_ 124 15 (Or.inl (by decide))).trans (pvu_n e7951_ 124 15 (Or.inl (by decide)))).trans (pvu_n e7946_ 124 15 (Or.inl (by decide)))).trans (pvu_n e7941_ 124 15 (Or.inl (by decide)))).trans (pvu_n e7936_ 124 15 (Or.inl (by decide)))).trans (pvu_n e7931_ 124 15 (Or.inl (by decide)))).trans (pvu_n e7926_ 124 15 (Or.inl (by decide)))); omega)
          have j7962_ : Int32.toInt (M7955_.1 124 3) = Int32.toInt (M.1 124 51) := (by have y01 : Int32.toInt (M7955_.1 124 3) = Int32.toInt (Mz5978_.1 124 3) := congrArg Int32.toInt (((((((pvu_n e7956_ 124 3 (Or.inl (by decide))).trans (pvu_n e7951_ 124 3 (Or.inl (by decide)))).trans (pvu_n e7946_ 124 3 (Or.inl (by decide)))).trans (pvu_n e7941_ 124 3 (Or.inl (by decide)))).trans (pvu_n e7936_ 124 3 (Or.inl (by decide)))).trans (pvu_n e7931_ 124 3 (Or.inl (by decide)))).trans (pvu_n e7926_ 124 3 (Or.inl (by decide)))); omega)
          have j7963_ : M7955_.1 124 0 = (M.1 124 48) := ((((((((pvu_n e7956_ 124 0 (Or.inl (by decide))).trans (pvu_n e7951_ 124 0 (Or.inl (by decide)))).trans (pvu_n e7946_ 124 0 (Or.inl (by decide)))).trans (pvu_n e7941_ 124 0 (Or.inl (by decide)))).trans (pvu_n e7936_ 124 0 (Or.inl (by decide)))).trans (pvu_n e7931_ 124 0 (Or.inl (by decide)))).trans (pvu_n e7926_ 124 0 (Or.inl (by decide)))).trans (j2z5978_))
          have j7964_ : M7955_.1 124 3 = (M.1 124 51) := ((((((((pvu_n e7956_ 124 3 (Or.inl (by decide))).trans (pvu_n e7951_ 124 3 (Or.inl (by decide)))).trans (pvu_n e7946_ 124 3 (Or.inl (by decide)))).trans (pvu_n e7941_ 124 3 (Or.inl (by decide)))).trans (pvu_n e7936_ 124 3 (Or.inl (by decide)))).trans (pvu_n e7931_ 124 3 (Or.inl (by decide)))).trans (pvu_n e7926_ 124 3 (Or.inl (by decide)))).trans (j3z5978_))
          have j7965_ : M7955_.1 124 4 = (M.1 124 52) := ((((((((pvu_n e7956_ 124 4 (Or.inl (by decide))).trans (pvu_n e7951_ 124 4 (Or.inl (by decide)))).trans (pvu_n e7946_ 124 4 (Or.inl (by decide)))).trans (pvu_n e7941_ 124 4 (Or.inl (by decide)))).trans (pvu_n e7936_ 124 4 (Or.inl (by decide)))).trans (pvu_n e7931_ 124 4 (Or.inl (by decide)))).trans (pvu_n e7926_ 124 4 (Or.inl (by decide)))).trans (j4z5978_))
          have j7966_ : M7955_.1 124 40 = (M.1 124 56) := ((((((((pvu_n e7956_ 124 40 (Or.inl (by decide))).trans (pvu_n e7951_ 124 40 (Or.inl (by decide)))).trans (pvu_n e7946_ 124 40 (Or.inl (by decide)))).trans (pvu_n e7941_ 124 40 (Or.inl (by decide)))).trans (pvu_n e7936_ 124 40 (Or.inl (by decide)))).trans (pvu_n e7931_ 124 40 (Or.inl (by decide)))).trans (pvu_n e7926_ 124 40 (Or.inl (by decide)))).trans (j5z5978_))
          have j7967_ : M7955_.1 124 43 = (M.1 124 57) := ((((((((pvu_n e7956_ 124 43 (Or.inl (by decide))).trans (pvu_n e7951_ 124 43 (Or.inl (by decide)))).trans (pvu_n e7946_ 124 43 (Or.inl (by decide)))).trans (pvu_n e7941_ 124 43 (Or.inl (by decide)))).trans (pvu_n e7936_ 124 43 (Or.inl (by decide)))).trans (pvu_n e7931_ 124 43 (Or.inl (by decide)))).trans (pvu_n e7926_ 124 43 (Or.inl (by decide)))).trans (j6z5978_))
          exact ihz5978_ (i1z5978_ + 1) M7955_ o7957_ f7958_ ((((((((pvu_n e7956_ 124 46 (Or.inl (by decide))).trans (pvu_n e7951_ 124 46 (Or.inl (by decide)))).trans (pvu_n e7946_ 124 46 (Or.inl (by decide)))).trans (pvu_n e7941_ 124 46 (Or.inl (by decide)))).trans (pvu_n e7936_ 124 46 (Or.inl (by decide)))).trans (pvu_n e7931_ 124 46 (Or.inl (by decide)))).trans (pvu_n e7926_ 124 46 (Or.inl (by decide)))).trans (k124_46z5978_)) (zr_wide b7959_ (by decide) (by decide)) j7961_ j7962_ j7963_ j7964_ j7965_ j7966_ j7967_ (zhid (by have hm0 := zshow hmz5978_; have y01 : Int32.toInt (M7955_.1 124 15) = Int32.toInt (Mz5978_.1 124 15) := congrArg Int32.toInt (((((((pvu_n e7956_ 124 15 (Or.inl (by decide))).trans (pvu_n e7951_ 124 15 (Or.inl (by decide)))).trans (pvu_n e7946_ 124 15 (Or.inl (by decide)))).trans (pvu_n e7941_ 124 15 (Or.inl (by decide)))).trans (pvu_n e7936_ 124 15 (Or.inl (by decide)))).trans (pvu_n e7931_ 124 15 (Or.inl (by decide)))).trans (pvu_n e7926_ 124 15 (Or.inl (by decide)))); have y11 : Int32.toInt (M7955_.1 124 3) = Int32.toInt (Mz5978_.1 124 3) := congrArg Int32.toInt (((((((pvu_n e7956_ 124 3 (Or.inl (by decide))).trans (pvu_n e7951_ 124 3 (Or.inl (by decide)))).trans (pvu_n e7946_ 124 3 (Or.inl (by decide)))).trans (pvu_n e7941_ 124 3 (Or.inl (by decide)))).trans (pvu_n e7936_ 124 3 (Or.inl (by decide)))).trans (pvu_n e7931_ 124 3 (Or.inl (by decide)))).trans (pvu_n e7926_ 124 3 (Or.inl (by decide)))); omega))
    have u7968_ : Int32.toInt 0 = 0 := by decide
    have j7969_ : Int32.toInt (M55_.1 124 15) = Int32.toInt (M.1 124 47) := (by have z1 : Int32.toInt (M55_.1 124 15) = Int32.toInt (M.1 124 47) := congrArg Int32.toInt (((((((((((pvu_n e56_ 124 15 (Or.inr (by decide))).trans (pvu_n e51_ 124 15 (Or.inr (by decide)))).trans (pvu_n e46_ 124 15 (Or.inr (by decide)))).trans (pvu_n e41_ 124 15 (Or.inr (by decide)))).trans (pvu_n e36_ 124 15 (Or.inr (by decide)))).trans (pvu_n e31_ 124 15 (Or.inr (by decide)))).trans (pvu_n e26_ 124 15 (Or.inr (by decide)))).trans (pvu_n e21_ 124 15 (Or.inr (by decide)))).trans (pvu_n e16_ 124 15 (Or.inr (by decide)))).trans (pvu_n e11_ 124 15 (Or.inr (by decide)))).trans (pvu_s e6_)); omega)
    have j7970_ : Int32.toInt (M55_.1 124 3) = Int32.toInt (M.1 124 51) := (by have z1 : Int32.toInt (M55_.1 124 3) = Int32.toInt (M20_.1 124 51) := congrArg Int32.toInt (((((((pvu_n e56_ 124 3 (Or.inr (by decide))).trans (pvu_n e51_ 124 3 (Or.inr (by decide)))).trans (pvu_n e46_ 124 3 (Or.inr (by decide)))).trans (pvu_n e41_ 124 3 (Or.inr (by decide)))).trans (pvu_n e36_ 124 3 (Or.inr (by decide)))).trans (pvu_n e31_ 124 3 (Or.inr (by decide)))).trans (pvu_s e26_)); have z2 : Int32.toInt (M20_.1 124 51) = Int32.toInt (M.1 124 51) := congrArg Int32.toInt ((((pvu_n e21_ 124 51 (Or.inr (by decide))).trans (pvu_n e16_ 124 51 (Or.inr (by decide)))).trans (pvu_n e11_ 124 51 (Or.inr (by decide)))).trans (pvu_n e6_ 124 51 (Or.inr (by decide)))); omega)
    have j7971_ : M55_.1 124 0 = (M.1 124 48) := (((((((((((pvu_n e56_ 124 0 (Or.inr (by decide))).trans (pvu_n e51_ 124 0 (Or.inr (by decide)))).trans (pvu_n e46_ 124 0 (Or.inr (by decide)))).trans (pvu_n e41_ 124 0 (Or.inr (by decide)))).trans (pvu_n e36_ 124 0 (Or.inr (by decide)))).trans (pvu_n e31_ 124 0 (Or.inr (by decide)))).trans (pvu_n e26_ 124 0 (Or.inr (by decide)))).trans (pvu_n e21_ 124 0 (Or.inr (by decide)))).trans (pvu_n e16_ 124 0 (Or.inr (by decide)))).trans (pvu_s e11_)).trans (pvu_n e6_ 124 48 (Or.inr (by decide))))
    have j7972_ : M55_.1 124 3 = (M.1 124 51) := ((((((((pvu_n e56_ 124 3 (Or.inr (by decide))).trans (pvu_n e51_ 124 3 (Or.inr (by decide)))).trans (pvu_n e46_ 124 3 (Or.inr (by decide)))).trans (pvu_n e41_ 124 3 (Or.inr (by decide)))).trans (pvu_n e36_ 124 3 (Or.inr (by decide)))).trans (pvu_n e31_ 124 3 (Or.inr (by decide)))).trans (pvu_s e26_)).trans ((((pvu_n e21_ 124 51 (Or.inr (by decide))).trans (pvu_n e16_ 124 51 (Or.inr (by decide)))).trans (pvu_n e11_ 124 51 (Or.inr (by decide)))).trans (pvu_n e6_ 124 51 (Or.inr (by decide)))))
    have j7973_ : M55_.1 124 4 = (M.1 124 52) := (((((((pvu_n e56_ 124 4 (Or.inr (by decide))).trans (pvu_n e51_ 124 4 (Or.inr (by decide)))).trans (pvu_n e46_ 124 4 (Or.inr (by decide)))).trans (pvu_n e41_ 124 4 (Or.inr (by decide)))).trans (pvu_n e36_ 124 4 (Or.inr (by decide)))).trans (pvu_s e31_)).trans (((((pvu_n e26_ 124 52 (Or.inr (by decide))).trans (pvu_n e21_ 124 52 (Or.inr (by decide)))).trans (pvu_n e16_ 124 52 (Or.inr (by decide)))).trans (pvu_n e11_ 124 52 (Or.inr (by decide)))).trans (pvu_n e6_ 124 52 (Or.inr (by decide)))))
    have j7974_ : M55_.1 124 40 = (M.1 124 56) := (((pvu_n e56_ 124 40 (Or.inr (by decide))).trans (pvu_s e51_)).trans (((((((((pvu_n e46_ 124 56 (Or.inr (by decide))).trans (pvu_n e41_ 124 56 (Or.inr (by decide)))).trans (pvu_n e36_ 124 56 (Or.inr (by decide)))).trans (pvu_n e31_ 124 56 (Or.inr (by decide)))).trans (pvu_n e26_ 124 56 (Or.inr (by decide)))).trans (pvu_n e21_ 124 56 (Or.inr (by decide)))).trans (pvu_n e16_ 124 56 (Or.inr (by decide)))).trans (pvu_n e11_ 124 56 (Or.inr (by decide)))).trans (pvu_n e6_ 124 56 (Or.inr (by decide)))))
    have j7975_ : M55_.1 124 43 = (M.1 124 57) := ((pvu_s e56_).trans ((((((((((pvu_n e51_ 124 57 (Or.inr (by decide))).trans (pvu_n e46_ 124 57 (Or.inr (by decide)))).trans (pvu_n e41_ 124 57 (Or.inr (by decide)))).trans (pvu_n e36_ 124 57 (Or.inr (by decide)))).trans (pvu_n e31_ 124 57 (Or.inr (by decide)))).trans (pvu_n e26_ 124 57 (Or.inr (by decide)))).trans (pvu_n e21_ 124 57 (Or.inr (by decide)))).trans (pvu_n e16_ 124 57 (Or.inr (by decide)))).trans (pvu_n e11_ 124 57 (Or.inr (by decide)))).trans (pvu_n e6_ 124 57 (Or.inr (by decide)))))
    exact hlz5978_ _ 0 M55_ o57_ f58_ rfl (zr_wide (show 0 ≤ Int32.toInt 0 ∧ Int32.toInt 0 ≤ 0 from (by decide)) (by decide) (by decide)) j7969_ j7970_ j7971_ j7972_ j7973_ j7974_ j7975_ (zhid (Nat.lt_succ_self _))
  · have b7976_ : 0 ≤ Int32.toInt (M.1 124 46) ∧ Int32.toInt (M.1 124 46) ≤ 0 := (by have u0 := b1_; have u1 := (zi_eq _ _).mp c2_; have u2 := (show 0 ≤ Int32.toInt 0 ∧ Int32.toInt 0 ≤ 0 from (by decide)); omega)
    refine pw_blk hT 1 (S' := (9, [some (pvR 124), none], [pvI (-3)], M)) rfl ⟨trivial, trivial⟩ ?_
    exact pw_ret hT rfl (r := some (pvI (-3))) (M' := M) ⟨rfl, rfl⟩ ⟨⟨_, rfl, (zr_wide (show (-3) ≤ Int32.toInt (-3) ∧ Int32.toInt (-3) ≤ (-3) from (by decide)) (by decide) (by decide)), (by rw [if_pos c2_]; first | done | (rw [if_pos c2_]; done))⟩, hok, pvfr_0, ⟨fun hz => ⟨by have z3 := hz.1; have z4 := hz.2.1; omega, by have z3 := hz.1; have z4 := hz.2.1; omega, fun a ha => pvWh_r rfl rfl rfl rfl rfl (hz.2.2 a (by omega))⟩, fun hc hc2 => by omega⟩, (by rw [if_pos c2_]; first | done | exact rfl | (rw [if_pos c2_]; done) | (rw [if_pos c2_]; exact rfl)), (by rw [if_pos c2_]; first | done | exact rfl | (rw [if_pos c2_]; done) | (rw [if_pos c2_]; exact rfl)), (by rw [if_pos c2_]; first | done | exact rfl | (rw [if_pos c2_]; done) | (rw [if_pos c2_]; exact rfl)), (by rw [if_pos c2_]; first | done | exact rfl | (rw [if_pos c2_]; done) | (rw [if_pos c2_]; exact rfl)), (by rw [if_pos c2_]; first | done | exact rfl | (rw [if_pos c2_]; done) | (rw [if_pos c2_]; exact rfl))⟩
