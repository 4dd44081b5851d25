def fpL_X10_next_124 : List (Nat × Nat × Nat) := [(0, 124, 33), (0, 124, 36), (0, 141, 0), (0, 142, 0), (0, 143, 0), (0, 144, 0)]
def fp_X10_next_124 (q k : Nat) : Bool := pvfp fpL_X10_next_124 q k
theorem fp_X10_next_124_fp_X10_costOfPath_124_x (a b : Nat) (h : fp_X10_costOfPath_124_x a b = true) : fp_X10_next_124 a b = true := pvfp_sub (l1 := fpL_X10_costOfPath_124_x) (l2 := fpL_X10_next_124) (by decide) a b h
theorem fp_X10_next_124_fp_X10_layRain_124 (a b : Nat) (h : fp_X10_layRain_124 a b = true) : fp_X10_next_124 a b = true := pvfp_sub (l1 := fpL_X10_layRain_124) (l2 := fpL_X10_next_124) (by decide) a b h
set_option maxHeartbeats 4000000 in
set_option maxRecDepth 10000 in
theorem sf_X10_next_124 (M : pvM) (hok : pvOk M) (d : Nat) : PW 57 d (0, [some (pvR 124), none, none, none, none], [], M) (fun r X => (∃ x : Int32, r = some (pvI x) ∧ (-5) ≤ Int32.toInt x ∧ Int32.toInt x ≤ 2147483647) ∧ pvOk X ∧ pvFr fp_X10_next_124 M X) := by
  have hT : pvdom 57 = pvD_57 := rfl
  refine pw_blk hT 1 (S' := (1, [some (pvR 124), none, none, none, none], [pvR 124], M)) rfl ⟨trivial, trivial⟩ ?_
  refine pw_callV hT (as := [pvR 124]) (lo1 := [some (pvR 124), none, none]) (d1 := d) (rest := []) rfl rfl rfl rfl rfl (fun _ => rfl) (Nat.zero_le _) rfl rfl rfl (sf_X10_layRain_124 M hok d) (fun M2_ o4_ g5_ => ?_)
  have f6_ : pvFr fp_X10_next_124 M M2_ := pvfr_t g5_ pvfr_0 fp_X10_next_124_fp_X10_layRain_124
  refine pw_blk hT 6 (S' := (11, [some (pvR 124), some (pvI (-5)), some (pvI 0), some (pvI 0), none], [], M2_)) rfl ⟨trivial, trivial, trivial, trivial, trivial, trivial, trivial⟩ ?_
  have hlz161_ : ∀ (nz161_ : Nat) (i1z161_ : Int32) (i2z161_ : Int32) (i3z161_ : Int32) (v4z161_ : Option pvV) (Mz161_ : pvM), (pvOk Mz161_) → (pvFr fp_X10_next_124 M Mz161_) → ((-5) ≤ Int32.toInt i1z161_ ∧ Int32.toInt i1z161_ ≤ 2147483647) → (0 ≤ Int32.toInt i2z161_ ∧ Int32.toInt i2z161_ ≤ 2147483647) → (0 ≤ Int32.toInt i3z161_ ∧ Int32.toInt i3z161_ ≤ 7) → ((8 - Int32.toInt i3z161_).toNat < nz161_) → PW 57 d (11, [some (pvR 124), some (pvI i1z161_), some (pvI i2z161_), some (pvI i3z161_), v4z161_], [], Mz161_) (fun r X => (∃ x : Int32, r = some (pvI x) ∧ (-5) ≤ Int32.toInt x ∧ Int32.toInt x ≤ 2147483647) ∧ pvOk X ∧ pvFr fp_X10_next_124 M X) := by
    intro nz161_
    induction nz161_ with
    | zero => intro i1z161_ i2z161_ i3z161_ v4z161_ Mz161_ oz161_ fz161_ h1z161_ h2z161_ h3z161_ hmz161_; exact absurd hmz161_ (Nat.not_lt_zero _)
    | succ nz161_ ihz161_ =>
      intro i1z161_ i2z161_ i3z161_ v4z161_ Mz161_ oz161_ fz161_ h1z161_ h2z161_ h3z161_ hmz161_
      have b162_ : 0 ≤ Int32.toInt (Mz161_.1 124 0) ∧ Int32.toInt (Mz161_.1 124 0) ≤ 7 := pvok_r oz161_ 124 0 rfl
      refine pw_blk hT 3 (S' := (16, [some (pvR 124), some (pvI i1z161_), some (pvI i2z161_), some (pvI i3z161_), v4z161_], [pvI (Mz161_.1 124 0), pvI i3z161_], Mz161_)) rfl ⟨trivial, trivial, rfl, trivial⟩ ?_
      refine pw_ic hT (c := (Mz161_.1 124 0) ≤ i3z161_) rfl rfl (fun c163_ => ?_) (fun c163_ => ?_)
      · have d164_ : Int32.toInt (Mz161_.1 124 0) ≤ Int32.toInt i3z161_ := (zi_le _ _).mp c163_
        refine pw_blk hT 1 (S' := (75, [some (pvR 124), some (pvI i1z161_), some (pvI i2z161_), some (pvI i3z161_), v4z161_], [pvI i1z161_], Mz161_)) rfl ⟨trivial, trivial⟩ ?_
        exact pw_ret hT rfl (r := some (pvI i1z161_)) (M' := Mz161_) ⟨rfl, rfl⟩ ⟨⟨_, rfl, h1z161_⟩, oz161_, fz161_⟩
      · have b165_ : 1 ≤ Int32.toInt (Mz161_.1 124 0) ∧ Int32.toInt (Mz161_.1 124 0) ≤ 7 := zr_nle_l 1 c163_ b162_ h3z161_ (by decide)
        have b166_ : 0 ≤ Int32.toInt i3z161_ ∧ Int32.toInt i3z161_ ≤ 6 := zr_nle_r 6 c163_ h3z161_ b165_ (by decide)
        have d167_ : Int32.toInt (Mz161_.1 124 0) > Int32.toInt i3z161_ := Int.not_le.mp ((not_congr (zi_le _ _)).mp c163_)
        have b168_ : 0 ≤ Int32.toInt (Mz161_.1 131 (Int32.toNatClampNeg i3z161_)) ∧ Int32.toInt (Mz161_.1 131 (Int32.toNatClampNeg i3z161_)) ≤ 1 := pvok_r oz161_ 131 (Int32.toNatClampNeg i3z161_) rfl
        refine pw_blk hT 4 (S' := (25, [some (pvR 124), some (pvI i1z161_), some (pvI i2z161_), some (pvI i3z161_), v4z161_], [pvI (Mz161_.1 131 (Int32.toNatClampNeg i3z161_))], Mz161_)) rfl ⟨trivial, rfl, trivial, ⟨rfl, (zr_in (n := 7) b166_ (by decide) (by decide))⟩, trivial⟩ ?_
        refine pw_if hT (c := (Mz161_.1 131 (Int32.toNatClampNeg i3z161_)) = 0) rfl rfl (fun c169_ => ?_) (fun c169_ => ?_)
        · have b170_ : 0 ≤ Int32.toInt (Mz161_.1 131 (Int32.toNatClampNeg i3z161_)) ∧ Int32.toInt (Mz161_.1 131 (Int32.toNatClampNeg i3z161_)) ≤ 0 := (by have u0 := b168_; have u1 := (zi_eq _ _).mp c169_; have u2 := (show 0 ≤ Int32.toInt 0 ∧ Int32.toInt 0 ≤ 0 from (by decide)); omega)
          refine pw_blkw hT 3 (pc := 36) (lo := [some (pvR 124), some (pvI i1z161_), some (pvI i2z161_), some (pvI i3z161_), v4z161_]) (st := []) (M := pvu Mz161_ 124 35 1) rfl ⟨trivial, trivial, rfl, trivial⟩ (fun M171_ e172_ => ?_)
          have o173_ : pvOk M171_ := pvok_u2 e172_ oz161_ rfl (zr_wide (show 1 ≤ Int32.toInt 1 ∧ Int32.toInt 1 ≤ 1 from (by decide)) (by decide) (by decide))
          have f174_ : pvFr fp_X10_next_124 M M171_ := pvfr_u e172_ fz161_ rfl
          refine pw_blkw hT 5 (pc := 43) (lo := [some (pvR 124), some (pvI i1z161_), some (pvI i2z161_), some (pvI i3z161_), v4z161_]) (st := []) (M := pvu M171_ 144 (Int32.toNatClampNeg 0) i3z161_) rfl ⟨trivial, rfl, trivial, trivial, ⟨rfl, (zr_in (n := 7) (show 0 ≤ Int32.toInt 0 ∧ Int32.toInt 0 ≤ 0 from (by decide)) (by decide) (by decide))⟩, trivial⟩ (fun M175_ e176_ => ?_)
          have o177_ : pvOk M175_ := pvok_u2 e176_ o173_ rfl b166_
          have f178_ : pvFr fp_X10_next_124 M M175_ := pvfr_u e176_ f174_ rfl
          refine pw_blk hT 2 (S' := (45, [some (pvR 124), some (pvI i1z161_), some (pvI i2z161_), some (pvI i3z161_), v4z161_], [pvI 0, pvR 124], M175_)) rfl ⟨trivial, trivial, trivial⟩ ?_
          refine pw_callG hT (as := [pvR 124, pvI 0]) (lo1 := [some (pvR 124), some (pvI 0), none]) (d1 := d) (rest := []) rfl rfl rfl rfl rfl (fun _ => rfl) (Nat.zero_le _) rfl rfl rfl (sf_X10_costOfPath_124_x M175_ o177_ 0 (zr_wide (show 0 ≤ Int32.toInt 0 ∧ Int32.toInt 0 ≤ 0 from (by decide)) (by decide) (by decide)) d) (fun x179_ M180_ b181_ o182_ g183_ => ?_)
          have f184_ : pvFr fp_X10_next_124 M M180_ := pvfr_t g183_ f178_ fp_X10_next_124_fp_X10_costOfPath_124_x
          refine pw_blk hT 2 (S' := (51, [some (pvR 124), some (pvI i1z161_), some (pvI i2z161_), some (pvI i3z161_), some (pvI x179_)], [pvI i1z161_], M180_)) rfl ⟨trivial, trivial, trivial⟩ ?_
          refine pw_if hT (c := i1z161_ < 0) rfl rfl (fun c185_ => ?_) (fun c185_ => ?_)
          · have b186_ : (-5) ≤ Int32.toInt i1z161_ ∧ Int32.toInt i1z161_ ≤ (-1) := zr_lt_l (-1) c185_ h1z161_ (show 0 ≤ Int32.toInt 0 ∧ Int32.toInt 0 ≤ 0 from (by decide)) (by decide)
            obtain ⟨q188_, b187_⟩ : (Int32.toInt (i3z161_ + 1) = Int32.toInt i3z161_ + Int32.toInt 1) ∧ (1 ≤ Int32.toInt (i3z161_ + 1) ∧ Int32.toInt (i3z161_ + 1) ≤ 7) := zadd_r i3z161_ 1 1 7 b166_ (show 1 ≤ Int32.toInt 1 ∧ Int32.toInt 1 ≤ 1 from (by decide)) (by decide) (by decide) (by decide) (by decide)
            have u189_ : Int32.toInt 1 = 1 := by decide
            refine pw_blk hT 6 (S' := (11, [some (pvR 124), some (pvI i3z161_), some (pvI x179_), some (pvI (i3z161_ + 1)), some (pvI x179_)], [], M180_)) rfl ⟨trivial, trivial, trivial, trivial, trivial, trivial, trivial⟩ ?_
            exact ihz161_ i3z161_ x179_ (i3z161_ + 1) (some (pvI x179_)) M180_ o182_ f184_ (zr_wide b166_ (by decide) (by decide)) (zr_wide b181_ (by decide) (by decide)) (zr_wide b187_ (by decide) (by decide)) (by omega)
          · have b190_ : 0 ≤ Int32.toInt i1z161_ ∧ Int32.toInt i1z161_ ≤ 2147483647 := zr_nlt_l 0 c185_ h1z161_ (show 0 ≤ Int32.toInt 0 ∧ Int32.toInt 0 ≤ 0 from (by decide)) (by decide)
            refine pw_blk hT 2 (S' := (57, [some (pvR 124), some (pvI i1z161_), some (pvI i2z161_), some (pvI i3z161_), some (pvI x179_)], [pvI i2z161_, pvI x179_], M180_)) rfl ⟨trivial, trivial, trivial⟩ ?_
            refine pw_ic hT (c := x179_ < i2z161_) rfl rfl (fun c191_ => ?_) (fun c191_ => ?_)
            · have b192_ : 1 ≤ Int32.toInt i2z161_ ∧ Int32.toInt i2z161_ ≤ 2147483647 := zr_lt_r 1 c191_ h2z161_ b181_ (by decide)
              have d193_ : Int32.toInt x179_ < Int32.toInt i2z161_ := (zi_lt _ _).mp c191_
              obtain ⟨q195_, b194_⟩ : (Int32.toInt (i3z161_ + 1) = Int32.toInt i3z161_ + Int32.toInt 1) ∧ (1 ≤ Int32.toInt (i3z161_ + 1) ∧ Int32.toInt (i3z161_ + 1) ≤ 7) := zadd_r i3z161_ 1 1 7 b166_ (show 1 ≤ Int32.toInt 1 ∧ Int32.toInt 1 ≤ 1 from (by decide)) (by decide) (by decide) (by decide) (by decide)
              have u196_ : Int32.toInt 1 = 1 := by decide
              refine pw_blk hT 6 (S' := (11, [some (pvR 124), some (pvI i3z161_), some (pvI x179_), some (pvI (i3z161_ + 1)), some (pvI x179_)], [], M180_)) rfl ⟨trivial, trivial, trivial, trivial, trivial, trivial, trivial⟩ ?_
              exact ihz161_ i3z161_ x179_ (i3z161_ + 1) (some (pvI x179_)) M180_ o182_ f184_ (zr_wide b166_ (by decide) (by decide)) (zr_wide b181_ (by decide) (by decide)) (zr_wide b194_ (by decide) (by decide)) (by omega)
            · have b197_ : 0 ≤ Int32.toInt i2z161_ ∧ Int32.toInt i2z161_ ≤ 9000000 := zr_nlt_r 9000000 c191_ h2z161_ b181_ (by decide)
              have d198_ : Int32.toInt x179_ ≥ Int32.toInt i2z161_ := Int.not_lt.mp ((not_congr (zi_lt _ _)).mp c191_)
              obtain ⟨q200_, b199_⟩ : (Int32.toInt (i3z161_ + 1) = Int32.toInt i3z161_ + Int32.toInt 1) ∧ (1 ≤ Int32.toInt (i3z161_ + 1) ∧ Int32.toInt (i3z161_ + 1) ≤ 7) := zadd_r i3z161_ 1 1 7 b166_ (show 1 ≤ Int32.toInt 1 ∧ Int32.toInt 1 ≤ 1 from (by decide)) (by decide) (by decide) (by decide) (by decide)
              have u201_ : Int32.toInt 1 = 1 := by decide
              refine pw_blk hT 3 (S' := (11, [some (pvR 124), some (pvI i1z161_), some (pvI i2z161_), some (pvI (i3z161_ + 1)), some (pvI x179_)], [], M180_)) rfl ⟨trivial, trivial, trivial, trivial⟩ ?_
              exact ihz161_ i1z161_ i2z161_ (i3z161_ + 1) (some (pvI x179_)) M180_ o182_ f184_ (zr_wide b190_ (by decide) (by decide)) (zr_wide b197_ (by decide) (by decide)) (zr_wide b199_ (by decide) (by decide)) (by omega)
        · have b202_ : 1 ≤ Int32.toInt (Mz161_.1 131 (Int32.toNatClampNeg i3z161_)) ∧ Int32.toInt (Mz161_.1 131 (Int32.toNatClampNeg i3z161_)) ≤ 1 := (by have u0 := b168_; have u1 := (not_congr (zi_eq _ _)).mp c169_; have u2 := (show 0 ≤ Int32.toInt 0 ∧ Int32.toInt 0 ≤ 0 from (by decide)); omega)
          obtain ⟨q204_, b203_⟩ : (Int32.toInt (i3z161_ + 1) = Int32.toInt i3z161_ + Int32.toInt 1) ∧ (1 ≤ Int32.toInt (i3z161_ + 1) ∧ Int32.toInt (i3z161_ + 1) ≤ 7) := zadd_r i3z161_ 1 1 7 b166_ (show 1 ≤ Int32.toInt 1 ∧ Int32.toInt 1 ≤ 1 from (by decide)) (by decide) (by decide) (by decide) (by decide)
          have u205_ : Int32.toInt 1 = 1 := by decide
          refine pw_blk hT 3 (S' := (11, [some (pvR 124), some (pvI i1z161_), some (pvI i2z161_), some (pvI (i3z161_ + 1)), v4z161_], [], Mz161_)) rfl ⟨trivial, trivial, trivial, trivial⟩ ?_
          exact ihz161_ i1z161_ i2z161_ (i3z161_ + 1) v4z161_ Mz161_ oz161_ fz161_ h1z161_ h2z161_ (zr_wide b203_ (by decide) (by decide)) (by omega)
  exact hlz161_ _ (-5) 0 0 none M2_ o4_ f6_ (zr_wide (show (-5) ≤ Int32.toInt (-5) ∧ Int32.toInt (-5) ≤ (-5) from (by decide)) (by decide) (by decide)) (zr_wide (show 0 ≤ Int32.toInt 0 ∧ Int32.toInt 0 ≤ 0 from (by decide)) (by decide) (by decide)) (zr_wide (show 0 ≤ Int32.toInt 0 ∧ Int32.toInt 0 ≤ 0 from (by decide)) (by decide) (by decide)) (Nat.lt_succ_self _)
def fpL_X10_odds_124_x_x : List (Nat × Nat × Nat) := [(0, 124, 33), (0, 124, 36), (0, 124, 5), (0, 141, 0), (0, 142, 0), (0, 143, 0), (0, 144, 0)]
def fp_X10_odds_124_x_x (q k : Nat) : Bool := pvfp fpL_X10_odds_124_x_x q k
theorem fp_X10_odds_124_x_x_fp_X10_costOfRound_124_x (a b : Nat) (h : fp_X10_costOfRound_124_x a b = true) : fp_X10_odds_124_x_x a b = true := pvfp_sub (l1 := fpL_X10_costOfRound_124_x) (l2 := fpL_X10_odds_124_x_x) (by decide) a b h
set_option maxHeartbeats 4000000 in
set_option maxRecDepth 10000 in
theorem sf_X10_odds_124_x_x (M : pvM) (hok : pvOk M) (n1 : Int32) (n2 : Int32) (d : Nat) : PW 58 d (0, [some (pvR 124), some (pvI n1), some (pvI n2), none, none], [], M) (fun r X => (∃ x : Int64, r = some (pvJ x)) ∧ pvOk X ∧ pvFr fp_X10_odds_124_x_x M X) := by
  have hT : pvdom 58 = pvD_58 := rfl
  refine pw_blk hT 2 (S' := (2, [some (pvR 124), some (pvI n1), some (pvI n2), none, none], [pvI n1, pvR 124], M)) rfl ⟨trivial, trivial, trivial⟩ ?_
  refine pw_callT hT (as := [pvR 124, pvI n1]) (lo1 := [some (pvR 124), some (pvI n1)]) (d1 := d) (rest := []) rfl rfl rfl rfl rfl (fun _ => rfl) (Nat.zero_le _) rfl rfl rfl (sf_X10_isLimit_124_x M hok n1 d) ?_
  by_cases c6_ : n1 < 0
  · refine pw_eqI (if_pos c6_) ?_
    have b7_ : (-2147483648) ≤ Int32.toInt n1 ∧ Int32.toInt n1 ≤ (-1) := zr_lt_l (-1) c6_ (zbnd n1) (show 0 ≤ Int32.toInt 0 ∧ Int32.toInt 0 ≤ 0 from (by decide)) (by decide)
    show PW 58 d (5, [some (pvR 124), some (pvI n1), some (pvI n2), none, none], [pvI 0], M) _
    refine pw_if hT (c := 0 = 0) rfl rfl (fun c8_ => ?_) (fun c8_ => absurd (by decide) c8_)
    refine pw_blk hT 1 (S' := (21, [some (pvR 124), some (pvI n1), some (pvI n2), none, none], [pvJ (-9223372036854775808)], M)) rfl ⟨trivial, trivial⟩ ?_
    exact pw_ret hT rfl (r := some (pvJ (-9223372036854775808))) (M' := M) ⟨rfl, rfl⟩ ⟨⟨_, rfl⟩, hok, pvfr_0⟩
  · refine pw_eqI (if_neg c6_) ?_
    have b9_ : 0 ≤ Int32.toInt n1 ∧ Int32.toInt n1 ≤ 2147483647 := zr_nlt_l 0 c6_ (zbnd n1) (show 0 ≤ Int32.toInt 0 ∧ Int32.toInt 0 ≤ 0 from (by decide)) (by decide)
    by_cases c10_ : 99999 < n1
    · refine pw_eqI (if_pos c10_) ?_
      have b11_ : 100000 ≤ Int32.toInt n1 ∧ Int32.toInt n1 ≤ 2147483647 := zr_lt_r 100000 c10_ b9_ (show 99999 ≤ Int32.toInt 99999 ∧ Int32.toInt 99999 ≤ 99999 from (by decide)) (by decide)
      show PW 58 d (5, [some (pvR 124), some (pvI n1), some (pvI n2), none, none], [pvI 0], M) _
      refine pw_if hT (c := 0 = 0) rfl rfl (fun c12_ => ?_) (fun c12_ => absurd (by decide) c12_)
      refine pw_blk hT 1 (S' := (21, [some (pvR 124), some (pvI n1), some (pvI n2), none, none], [pvJ (-9223372036854775808)], M)) rfl ⟨trivial, trivial⟩ ?_
      exact pw_ret hT rfl (r := some (pvJ (-9223372036854775808))) (M' := M) ⟨rfl, rfl⟩ ⟨⟨_, rfl⟩, hok, pvfr_0⟩
    · refine pw_eqI (if_neg c10_) ?_
      have b13_ : 0 ≤ Int32.toInt n1 ∧ Int32.toInt n1 ≤ 99999 := zr_nlt_r 99999 c10_ b9_ (show 99999 ≤ Int32.toInt 99999 ∧ Int32.toInt 99999 ≤ 99999 from (by decide)) (by decide)
      show PW 58 d (5, [some (pvR 124), some (pvI n1), some (pvI n2), none, none], [pvI 1], M) _
      refine pw_if hT (c := 1 = 0) rfl rfl (fun c14_ => absurd c14_ (by decide)) (fun c14_ => ?_)
      refine pw_blk hT 4 (S' := (12, [some (pvR 124), some (pvI n1), some (pvI n2), none, none], [pvI 1, pvI 0, pvI n2, pvR 124], M)) rfl ⟨trivial, trivial, trivial, trivial, trivial⟩ ?_
      refine pw_callT hT (as := [pvR 124, pvI n2, pvI 0, pvI 1]) (lo1 := [some (pvR 124), some (pvI n2), some (pvI 0), some (pvI 1)]) (d1 := d) (rest := []) rfl rfl rfl rfl rfl (fun _ => rfl) (Nat.zero_le _) rfl rfl rfl (sf_X10_in_124_x_x_x M hok n2 0 1 d) ?_
      by_cases c20_ : n2 < 0
      · refine pw_eqI (if_pos c20_) ?_
        have b21_ : (-2147483648) ≤ Int32.toInt n2 ∧ Int32.toInt n2 ≤ (-1) := zr_lt_l (-1) c20_ (zbnd n2) (show 0 ≤ Int32.toInt 0 ∧ Int32.toInt 0 ≤ 0 from (by decide)) (by decide)
        show PW 58 d (15, [some (pvR 124), some (pvI n1), some (pvI n2), none, none], [pvI 0], M) _
        refine pw_ifn hT (c := 0 = 0) rfl rfl (fun c22_ => absurd (by decide) c22_) (fun c22_ => ?_)
        refine pw_blk hT 1 (S' := (21, [some (pvR 124), some (pvI n1), some (pvI n2), none, none], [pvJ (-9223372036854775808)], M)) rfl ⟨trivial, trivial⟩ ?_
        exact pw_ret hT rfl (r := some (pvJ (-9223372036854775808))) (M' := M) ⟨rfl, rfl⟩ ⟨⟨_, rfl⟩, hok, pvfr_0⟩
      · refine pw_eqI (if_neg c20_) ?_
        have b23_ : 0 ≤ Int32.toInt n2 ∧ Int32.toInt n2 ≤ 2147483647 := zr_nlt_l 0 c20_ (zbnd n2) (show 0 ≤ Int32.toInt 0 ∧ Int32.toInt 0 ≤ 0 from (by decide)) (by decide)
        by_cases c24_ : 1 < n2
        · refine pw_eqI (if_pos c24_) ?_
          have b25_ : 2 ≤ Int32.toInt n2 ∧ Int32.toInt n2 ≤ 2147483647 := zr_lt_r 2 c24_ b23_ (show 1 ≤ Int32.toInt 1 ∧ Int32.toInt 1 ≤ 1 from (by decide)) (by decide)
          show PW 58 d (15, [some (pvR 124), some (pvI n1), some (pvI n2), none, none], [pvI 0], M) _
          refine pw_ifn hT (c := 0 = 0) rfl rfl (fun c26_ => absurd (by decide) c26_) (fun c26_ => ?_)
          refine pw_blk hT 1 (S' := (21, [some (pvR 124), some (pvI n1), some (pvI n2), none, none], [pvJ (-9223372036854775808)], M)) rfl ⟨trivial, trivial⟩ ?_
          exact pw_ret hT rfl (r := some (pvJ (-9223372036854775808))) (M' := M) ⟨rfl, rfl⟩ ⟨⟨_, rfl⟩, hok, pvfr_0⟩
        · refine pw_eqI (if_neg c24_) ?_
          have b27_ : 0 ≤ Int32.toInt n2 ∧ Int32.toInt n2 ≤ 1 := zr_nlt_r 1 c24_ b23_ (show 1 ≤ Int32.toInt 1 ∧ Int32.toInt 1 ≤ 1 from (by decide)) (by decide)
          show PW 58 d (15, [some (pvR 124), some (pvI n1), some (pvI n2), none, none], [pvI 1], M) _
          refine pw_ifn hT (c := 1 = 0) rfl rfl (fun c28_ => ?_) (fun c28_ => absurd c28_ (by decide))
          have b29_ : 0 ≤ Int32.toInt (M.1 124 4) ∧ Int32.toInt (M.1 124 4) ≤ 4 := pvok_r hok 124 4 rfl
          refine pw_blkw hT 8 (pc := 35) (lo := [some (pvR 124), some (pvI n1), some (pvI n2), some (pvI (M.1 124 4)), some (pvI 0)]) (st := []) (M := pvu M 124 4 0) rfl ⟨trivial, rfl, trivial, trivial, trivial, trivial, trivial, rfl, trivial⟩ (fun M30_ e31_ => ?_)
          have o32_ : pvOk M30_ := pvok_u2 e31_ hok rfl (zr_wide (show 0 ≤ Int32.toInt 0 ∧ Int32.toInt 0 ≤ 0 from (by decide)) (by decide) (by decide))
          have f33_ : pvFr fp_X10_odds_124_x_x M M30_ := pvfr_u e31_ pvfr_0 rfl
          have hlz214_ : ∀ (nz214_ : Nat) (i4z214_ : Int32) (Mz214_ : pvM), (pvOk Mz214_) → (pvFr fp_X10_odds_124_x_x M Mz214_) → (0 ≤ Int32.toInt i4z214_ ∧ Int32.toInt i4z214_ ≤ 4) → (Int32.toInt i4z214_ ≤ Int32.toInt (Mz214_.1 124 4)) → ((5 - Int32.toInt (Mz214_.1 124 4)).toNat < nz214_) → PW 58 d (35, [some (pvR 124), some (pvI n1), some (pvI n2), some (pvI (M.1 124 4)), some (pvI i4z214_)], [], Mz214_) (fun r X => (∃ x : Int64, r = some (pvJ x)) ∧ pvOk X ∧ pvFr fp_X10_odds_124_x_x M X) := by
            intro nz214_
            induction nz214_ with
            | zero => intro i4z214_ Mz214_ oz214_ fz214_ h4z214_ j0z214_ hmz214_; exact absurd hmz214_ (Nat.not_lt_zero _)
            | succ nz214_ ihz214_ =>
              intro i4z214_ Mz214_ oz214_ fz214_ h4z214_ j0z214_ hmz214_
              have b215_ : 0 ≤ Int32.toInt (Mz214_.1 124 4) ∧ Int32.toInt (Mz214_.1 124 4) ≤ 4 := pvok_r oz214_ 124 4 rfl
              refine pw_blk hT 3 (S' := (40, [some (pvR 124), some (pvI n1), some (pvI n2), some (pvI (M.1 124 4)), some (pvI i4z214_)], [pvI 4, pvI (Mz214_.1 124 4)], Mz214_)) rfl ⟨trivial, rfl, trivial, trivial⟩ ?_
              refine pw_ic hT (c := 4 ≤ (Mz214_.1 124 4)) rfl rfl (fun c216_ => ?_) (fun c216_ => ?_)
              · have b217_ : 4 ≤ Int32.toInt (Mz214_.1 124 4) ∧ Int32.toInt (Mz214_.1 124 4) ≤ 4 := zr_le_r 4 c216_ b215_ (show 4 ≤ Int32.toInt 4 ∧ Int32.toInt 4 ≤ 4 from (by decide)) (by decide)
                refine pw_blkw hT 3 (pc := 80) (lo := [some (pvR 124), some (pvI n1), some (pvI n2), some (pvI (M.1 124 4)), some (pvI i4z214_)]) (st := []) (M := pvu Mz214_ 124 4 (M.1 124 4)) rfl ⟨trivial, trivial, rfl, trivial⟩ (fun M218_ e219_ => ?_)
                have o220_ : pvOk M218_ := pvok_u2 e219_ oz214_ rfl b29_
                have f221_ : pvFr fp_X10_odds_124_x_x M M218_ := pvfr_u e219_ fz214_ rfl
                refine pw_blk hT 4 (S' := (85, [some (pvR 124), some (pvI n1), some (pvI n2), some (pvI (M.1 124 4)), some (pvI i4z214_)], [pvI n2, pvI 4, pvI i4z214_, pvR 124], M218_)) rfl ⟨trivial, trivial, trivial, trivial, trivial⟩ ?_
                refine pw_callJp hT (as := [pvR 124, pvI i4z214_, pvI 4, pvI n2]) (lo1 := [some (pvR 124), some (pvI i4z214_), some (pvI 4), some (pvI n2), none]) (d1 := d) (rest := []) rfl rfl rfl rfl rfl (fun _ => rfl) (Nat.zero_le _) rfl rfl rfl (sf_X10_lowest_124_x_x_x M218_ o220_ i4z214_ 4 n2 (zr_wide h4z214_ (by decide) (by decide)) (zr_wide (show 4 ≤ Int32.toInt 4 ∧ Int32.toInt 4 ≤ 4 from (by decide)) (by decide) (by decide)) d) (fun x222_ b224_ => ?_)
                exact pw_ret hT rfl (r := some (pvJ x222_)) (M' := M218_) ⟨rfl, rfl⟩ ⟨⟨_, rfl⟩, o220_, f221_⟩
              · have b227_ : 0 ≤ Int32.toInt (Mz214_.1 124 4) ∧ Int32.toInt (Mz214_.1 124 4) ≤ 3 := zr_nle_r 3 c216_ b215_ (show 4 ≤ Int32.toInt 4 ∧ Int32.toInt 4 ≤ 4 from (by decide)) (by decide)
                refine pw_blk hT 3 (S' := (47, [some (pvR 124), some (pvI n1), some (pvI n2), some (pvI (M.1 124 4)), some (pvI i4z214_)], [pvI 0, pvR 124, pvI i4z214_], Mz214_)) rfl ⟨trivial, trivial, trivial, trivial⟩ ?_
                refine pw_callG hT (as := [pvR 124, pvI 0]) (lo1 := [some (pvR 124), some (pvI 0)]) (d1 := d) (rest := [pvI i4z214_]) rfl rfl rfl rfl rfl (fun _ => rfl) (Nat.zero_le _) rfl rfl rfl (sf_X10_costOfRound_124_x Mz214_ oz214_ 0 (zr_wide (show 0 ≤ Int32.toInt 0 ∧ Int32.toInt 0 ≤ 0 from (by decide)) (by decide) (by decide)) d) (fun x228_ M229_ b230_ o231_ g232_ => ?_)
                have f233_ : pvFr fp_X10_odds_124_x_x M M229_ := pvfr_t g232_ fz214_ fp_X10_odds_124_x_x_fp_X10_costOfRound_124_x
                refine pw_blk hT 1 (S' := (51, [some (pvR 124), some (pvI n1), some (pvI n2), some (pvI (M.1 124 4)), some (pvI i4z214_)], [pvI n1, pvI x228_, pvI i4z214_], M229_)) rfl ⟨trivial, trivial⟩ ?_
                refine pw_ic hT (c := n1 < x228_) rfl rfl (fun c234_ => ?_) (fun c234_ => ?_)
                · have b235_ : 1 ≤ Int32.toInt x228_ ∧ Int32.toInt x228_ ≤ 9000000 := zr_lt_r 1 c234_ b230_ b13_ (by decide)
                  have d236_ : Int32.toInt n1 < Int32.toInt x228_ := (zi_lt _ _).mp c234_
                  obtain ⟨q238_, b237_⟩ : (Int32.toInt (i4z214_ + 0) = Int32.toInt i4z214_ + Int32.toInt 0) ∧ (0 ≤ Int32.toInt (i4z214_ + 0) ∧ Int32.toInt (i4z214_ + 0) ≤ 4) := zadd_r i4z214_ 0 0 4 h4z214_ (show 0 ≤ Int32.toInt 0 ∧ Int32.toInt 0 ≤ 0 from (by decide)) (by decide) (by decide) (by decide) (by decide)
                  have u239_ : Int32.toInt 0 = 0 := by decide
                  have e240_ : (M229_.1 124 4) = (Mz214_.1 124 4) := (g232_ 124 4 rfl)
                  have b241_ : 0 ≤ Int32.toInt (M229_.1 124 4) ∧ Int32.toInt (M229_.1 124 4) ≤ 3 := (by rw [e240_]; exact b227_)
                  have d242_ : Int32.toInt (M229_.1 124 4) = Int32.toInt (Mz214_.1 124 4) := congrArg Int32.toInt e240_
                  obtain ⟨q244_, b243_⟩ : (Int32.toInt ((M229_.1 124 4) + 1) = Int32.toInt (M229_.1 124 4) + Int32.toInt 1) ∧ (1 ≤ Int32.toInt ((M229_.1 124 4) + 1) ∧ Int32.toInt ((M229_.1 124 4) + 1) ≤ 4) := zadd_r (M229_.1 124 4) 1 1 4 b241_ (show 1 ≤ Int32.toInt 1 ∧ Int32.toInt 1 ≤ 1 from (by decide)) (by decide) (by decide) (by decide) (by decide)
                  have u245_ : Int32.toInt 1 = 1 := by decide
                  refine pw_blkw hT 9 (pc := 72) (lo := [some (pvR 124), some (pvI n1), some (pvI n2), some (pvI (M.1 124 4)), some (pvI (i4z214_ + 0))]) (st := []) (M := pvu M229_ 124 4 ((M229_.1 124 4) + 1)) rfl ⟨trivial, trivial, trivial, trivial, trivial, rfl, trivial, trivial, rfl, trivial⟩ (fun M246_ e247_ => ?_)
                  have o248_ : pvOk M246_ := pvok_u2 e247_ o231_ rfl (zr_wide b243_ (by decide) (by decide))
                  have f249_ : pvFr fp_X10_odds_124_x_x M M246_ := pvfr_u e247_ f233_ rfl
                  refine pw_blk hT 1 (S' := (35, [some (pvR 124), some (pvI n1), some (pvI n2), some (pvI (M.1 124 4)), some (pvI (i4z214_ + 0))], [], M246_)) rfl ⟨trivial, trivial⟩ ?_
                  have j250_ : Int32.toInt (i4z214_ + 0) ≤ Int32.toInt (M246_.1 124 4) := by have z1 : Int32.toInt (M246_.1 124 4) = Int32.toInt ((M229_.1 124 4) + 1) := congrArg Int32.toInt (pvu_s e247_); have z2 : Int32.toInt (M229_.1 124 4) = Int32.toInt (Mz214_.1 124 4) := congrArg Int32.toInt (g232_ 124 4 rfl); have y01 : Int32.toInt (M246_.1 124 4) = Int32.toInt ((M229_.1 124 4) + 1) := congrArg Int32.toInt (pvu_s e247_); have y02 : Int32.toInt (M229_.1 124 4) = Int32.toInt (Mz214_.1 124 4) := congrArg Int32.toInt (g232_ 124 4 rfl); omega
                  exact ihz214_ (i4z214_ + 0) M246_ o248_ f249_ b237_ j250_ (by have z1 : Int32.toInt (M246_.1 124 4) = Int32.toInt ((M229_.1 124 4) + 1) := congrArg Int32.toInt (pvu_s e247_); have z2 : Int32.toInt (M229_.1 124 4) = Int32.toInt (Mz214_.1 124 4) := congrArg Int32.toInt (g232_ 124 4 rfl); have y01 : Int32.toInt (M246_.1 124 4) = Int32.toInt ((M229_.1 124 4) + 1) := congrArg Int32.toInt (pvu_s e247_); have y02 : Int32.toInt (M229_.1 124 4) = Int32.toInt (Mz214_.1 124 4) := congrArg Int32.toInt (g232_ 124 4 rfl); omega)
                · have b251_ : 0 ≤ Int32.toInt x228_ ∧ Int32.toInt x228_ ≤ 99999 := zr_nlt_r 99999 c234_ b230_ b13_ (by decide)
                  have d252_ : Int32.toInt n1 ≥ Int32.toInt x228_ := Int.not_lt.mp ((not_congr (zi_lt _ _)).mp c234_)
                  obtain ⟨q254_, b253_⟩ : (Int32.toInt (i4z214_ + 1) = Int32.toInt i4z214_ + Int32.toInt 1) ∧ (1 ≤ Int32.toInt (i4z214_ + 1) ∧ Int32.toInt (i4z214_ + 1) ≤ 5) := zadd_r i4z214_ 1 1 5 h4z214_ (show 1 ≤ Int32.toInt 1 ∧ Int32.toInt 1 ≤ 1 from (by decide)) (by decide) (by decide) (by decide) (by decide)
                  have u255_ : Int32.toInt 1 = 1 := by decide
                  have e256_ : (M229_.1 124 4) = (Mz214_.1 124 4) := (g232_ 124 4 rfl)
                  have b257_ : 0 ≤ Int32.toInt (M229_.1 124 4) ∧ Int32.toInt (M229_.1 124 4) ≤ 3 := (by rw [e256_]; exact b227_)
                  have d258_ : Int32.toInt (M229_.1 124 4) = Int32.toInt (Mz214_.1 124 4) := congrArg Int32.toInt e256_
                  obtain ⟨q260_, b259_⟩ : (Int32.toInt ((M229_.1 124 4) + 1) = Int32.toInt (M229_.1 124 4) + Int32.toInt 1) ∧ (1 ≤ Int32.toInt ((M229_.1 124 4) + 1) ∧ Int32.toInt ((M229_.1 124 4) + 1) ≤ 4) := zadd_r (M229_.1 124 4) 1 1 4 b257_ (show 1 ≤ Int32.toInt 1 ∧ Int32.toInt 1 ≤ 1 from (by decide)) (by decide) (by decide) (by decide) (by decide)
                  refine pw_blkw hT 10 (pc := 72) (lo := [some (pvR 124), some (pvI n1), some (pvI n2), some (pvI (M.1 124 4)), some (pvI (i4z214_ + 1))]) (st := []) (M := pvu M229_ 124 4 ((M229_.1 124 4) + 1)) rfl ⟨trivial, trivial, trivial, trivial, trivial, trivial, rfl, trivial, trivial, rfl, trivial⟩ (fun M261_ e262_ => ?_)
                  have o263_ : pvOk M261_ := pvok_u2 e262_ o231_ rfl (zr_wide b259_ (by decide) (by decide))
                  have f264_ : pvFr fp_X10_odds_124_x_x M M261_ := pvfr_u e262_ f233_ rfl
                  refine pw_blk hT 1 (S' := (35, [some (pvR 124), some (pvI n1), some (pvI n2), some (pvI (M.1 124 4)), some (pvI (i4z214_ + 1))], [], M261_)) rfl ⟨trivial, trivial⟩ ?_
                  have j265_ : Int32.toInt (i4z214_ + 1) ≤ Int32.toInt (M261_.1 124 4) := by have z1 : Int32.toInt (M261_.1 124 4) = Int32.toInt ((M229_.1 124 4) + 1) := congrArg Int32.toInt (pvu_s e262_); have z2 : Int32.toInt (M229_.1 124 4) = Int32.toInt (Mz214_.1 124 4) := congrArg Int32.toInt (g232_ 124 4 rfl); have y01 : Int32.toInt (M261_.1 124 4) = Int32.toInt ((M229_.1 124 4) + 1) := congrArg Int32.toInt (pvu_s e262_); have y02 : Int32.toInt (M229_.1 124 4) = Int32.toInt (Mz214_.1 124 4) := congrArg Int32.toInt (g232_ 124 4 rfl); omega
                  exact ihz214_ (i4z214_ + 1) M261_ o263_ f264_ (by have u0 := b253_; omega) j265_ (by have z1 : Int32.toInt (M261_.1 124 4) = Int32.toInt ((M229_.1 124 4) + 1) := congrArg Int32.toInt (pvu_s e262_); have z2 : Int32.toInt (M229_.1 124 4) = Int32.toInt (Mz214_.1 124 4) := congrArg Int32.toInt (g232_ 124 4 rfl); have y01 : Int32.toInt (M261_.1 124 4) = Int32.toInt ((M229_.1 124 4) + 1) := congrArg Int32.toInt (pvu_s e262_); have y02 : Int32.toInt (M229_.1 124 4) = Int32.toInt (Mz214_.1 124 4) := congrArg Int32.toInt (g232_ 124 4 rfl); omega)
          have u266_ : Int32.toInt 0 = 0 := by decide
          have j267_ : Int32.toInt 0 ≤ Int32.toInt (M30_.1 124 4) := by have y01 : Int32.toInt (M30_.1 124 4) = Int32.toInt 0 := congrArg Int32.toInt (pvu_s e31_); have y03 : Int32.toInt 0 = 0 := (by decide); omega
          exact hlz214_ _ 0 M30_ o32_ f33_ (zr_wide (show 0 ≤ Int32.toInt 0 ∧ Int32.toInt 0 ≤ 0 from (by decide)) (by decide) (by decide)) j267_ (Nat.lt_succ_self _)
def fpL_X10_of_124_x_x : List (Nat × Nat × Nat) := [(0, 124, 33), (0, 141, 0), (0, 142, 0), (0, 143, 0)]
def fp_X10_of_124_x_x (q k : Nat) : Bool := pvfp fpL_X10_of_124_x_x q k
theorem fp_X10_of_124_x_x_fp_X10_layOpen_124 (a b : Nat) (h : fp_X10_layOpen_124 a b = true) : fp_X10_of_124_x_x a b = true := pvfp_sub (l1 := fpL_X10_layOpen_124) (l2 := fpL_X10_of_124_x_x) (by decide) a b h
theorem fp_X10_of_124_x_x_fp_X10_layRain_124 (a b : Nat) (h : fp_X10_layRain_124 a b = true) : fp_X10_of_124_x_x a b = true := pvfp_sub (l1 := fpL_X10_layRain_124) (l2 := fpL_X10_of_124_x_x) (by decide) a b h
set_option maxHeartbeats 4000000 in
set_option maxRecDepth 10000 in
theorem sf_X10_of_124_x_x (M : pvM) (hok : pvOk M) (n1 : Int32) (n2 : Int32) (d : Nat) : PW 59 d (0, [some (pvR 124), some (pvI n1), some (pvI n2)], [], M) (fun r X => (∃ x : Int32, r = some (pvI x) ∧ (-1) ≤ Int32.toInt x ∧ Int32.toInt x ≤ 12009) ∧ pvOk X ∧ pvFr fp_X10_of_124_x_x M X) := by
  have hT : pvdom 59 = pvD_59 := rfl
  refine pw_blk hT 2 (S' := (2, [some (pvR 124), some (pvI n1), some (pvI n2)], [pvI n1, pvR 124], M)) rfl ⟨trivial, trivial, trivial⟩ ?_
  refine pw_callT hT (as := [pvR 124, pvI n1]) (lo1 := [some (pvR 124), some (pvI n1)]) (d1 := d) (rest := []) rfl rfl rfl rfl rfl (fun _ => rfl) (Nat.zero_le _) rfl rfl rfl (sf_X10_isWindow_124_x M hok n1 d) ?_
  by_cases c6_ : n1 < 0
  · refine pw_eqI (if_pos c6_) ?_
    have b7_ : (-2147483648) ≤ Int32.toInt n1 ∧ Int32.toInt n1 ≤ (-1) := zr_lt_l (-1) c6_ (zbnd n1) (show 0 ≤ Int32.toInt 0 ∧ Int32.toInt 0 ≤ 0 from (by decide)) (by decide)
    show PW 59 d (5, [some (pvR 124), some (pvI n1), some (pvI n2)], [pvI 0], M) _
    refine pw_ifn hT (c := 0 = 0) rfl rfl (fun c8_ => absurd (by decide) c8_) (fun c8_ => ?_)
    refine pw_blk hT 1 (S' := (9, [some (pvR 124), some (pvI n1), some (pvI n2)], [pvI (-1)], M)) rfl ⟨trivial, trivial⟩ ?_
    exact pw_ret hT rfl (r := some (pvI (-1))) (M' := M) ⟨rfl, rfl⟩ ⟨⟨_, rfl, (zr_wide (show (-1) ≤ Int32.toInt (-1) ∧ Int32.toInt (-1) ≤ (-1) from (by decide)) (by decide) (by decide))⟩, hok, pvfr_0⟩
  · refine pw_eqI (if_neg c6_) ?_
    have b9_ : 0 ≤ Int32.toInt n1 ∧ Int32.toInt n1 ≤ 2147483647 := zr_nlt_l 0 c6_ (zbnd n1) (show 0 ≤ Int32.toInt 0 ∧ Int32.toInt 0 ≤ 0 from (by decide)) (by decide)
    have b10_ : 0 ≤ Int32.toInt (M.1 124 0) ∧ Int32.toInt (M.1 124 0) ≤ 7 := pvok_r hok 124 0 rfl
    obtain ⟨q12_, b11_⟩ : (Int32.toInt ((M.1 124 0) - 1) = Int32.toInt (M.1 124 0) - Int32.toInt 1) ∧ ((-1) ≤ Int32.toInt ((M.1 124 0) - 1) ∧ Int32.toInt ((M.1 124 0) - 1) ≤ 6) := zsub_r (M.1 124 0) 1 (-1) 6 b10_ (show 1 ≤ Int32.toInt 1 ∧ Int32.toInt 1 ≤ 1 from (by decide)) (by decide) (by decide) (by decide) (by decide)
    have u13_ : Int32.toInt 1 = 1 := by decide
    by_cases c14_ : ((M.1 124 0) - 1) < n1
    · refine pw_eqI (if_pos c14_) ?_
      have d15_ : Int32.toInt ((M.1 124 0) - 1) < Int32.toInt n1 := (zi_lt _ _).mp c14_
      show PW 59 d (5, [some (pvR 124), some (pvI n1), some (pvI n2)], [pvI 0], M) _
      refine pw_ifn hT (c := 0 = 0) rfl rfl (fun c16_ => absurd (by decide) c16_) (fun c16_ => ?_)
      refine pw_blk hT 1 (S' := (9, [some (pvR 124), some (pvI n1), some (pvI n2)], [pvI (-1)], M)) rfl ⟨trivial, trivial⟩ ?_
      exact pw_ret hT rfl (r := some (pvI (-1))) (M' := M) ⟨rfl, rfl⟩ ⟨⟨_, rfl, (zr_wide (show (-1) ≤ Int32.toInt (-1) ∧ Int32.toInt (-1) ≤ (-1) from (by decide)) (by decide) (by decide))⟩, hok, pvfr_0⟩
    · refine pw_eqI (if_neg c14_) ?_
      have b17_ : 0 ≤ Int32.toInt ((M.1 124 0) - 1) ∧ Int32.toInt ((M.1 124 0) - 1) ≤ 6 := zr_nlt_l 0 c14_ b11_ b9_ (by decide)
      have b18_ : 0 ≤ Int32.toInt n1 ∧ Int32.toInt n1 ≤ 6 := zr_nlt_r 6 c14_ b9_ b17_ (by decide)
      have d19_ : Int32.toInt ((M.1 124 0) - 1) ≥ Int32.toInt n1 := Int.not_lt.mp ((not_congr (zi_lt _ _)).mp c14_)
      show PW 59 d (5, [some (pvR 124), some (pvI n1), some (pvI n2)], [pvI 1], M) _
      refine pw_ifn hT (c := 1 = 0) rfl rfl (fun c20_ => ?_) (fun c20_ => absurd c20_ (by decide))
      refine pw_blk hT 1 (S' := (11, [some (pvR 124), some (pvI n1), some (pvI n2)], [pvI n2], M)) rfl ⟨trivial, trivial⟩ ?_
      refine pw_sw hT rfl rfl ?_
      refine And.intro (fun c21_ => ?_) (fun c21_ => ?_)
      · show PW 59 d (56, [some (pvR 124), some (pvI n1), some (pvI n2)], [], M) _
        have b22_ : 0 ≤ Int32.toInt n2 ∧ Int32.toInt n2 ≤ 0 := (by have u0 := (zbnd n2); have u1 := (zi_eq _ _).mp c21_; have u2 := (show 0 ≤ Int32.toInt 0 ∧ Int32.toInt 0 ≤ 0 from (by decide)); omega)
        have b23_ : 0 ≤ Int32.toInt (M.1 125 (Int32.toNatClampNeg n1)) ∧ Int32.toInt (M.1 125 (Int32.toNatClampNeg n1)) ≤ 6 := pvok_r hok 125 (Int32.toNatClampNeg n1) rfl
        refine pw_blk hT 4 (S' := (62, [some (pvR 124), some (pvI n1), some (pvI n2)], [pvI (M.1 125 (Int32.toNatClampNeg n1))], M)) rfl ⟨trivial, rfl, trivial, ⟨rfl, (zr_in (n := 7) b18_ (by decide) (by decide))⟩, trivial⟩ ?_
        exact pw_ret hT rfl (r := some (pvI (M.1 125 (Int32.toNatClampNeg n1)))) (M' := M) ⟨rfl, rfl⟩ ⟨⟨_, rfl, (zr_wide b23_ (by decide) (by decide))⟩, hok, pvfr_0⟩
      · refine And.intro (fun c24_ => ?_) (fun c24_ => ?_)
        · show PW 59 d (63, [some (pvR 124), some (pvI n1), some (pvI n2)], [], M) _
          have b25_ : 1 ≤ Int32.toInt n2 ∧ Int32.toInt n2 ≤ 1 := (by have u0 := (zbnd n2); have u1 := (zi_eq _ _).mp c24_; have u2 := (show 1 ≤ Int32.toInt 1 ∧ Int32.toInt 1 ≤ 1 from (by decide)); omega)
          have b26_ : 0 ≤ Int32.toInt (M.1 126 (Int32.toNatClampNeg n1)) ∧ Int32.toInt (M.1 126 (Int32.toNatClampNeg n1)) ≤ 9 := pvok_r hok 126 (Int32.toNatClampNeg n1) rfl
          refine pw_blk hT 4 (S' := (69, [some (pvR 124), some (pvI n1), some (pvI n2)], [pvI (M.1 126 (Int32.toNatClampNeg n1))], M)) rfl ⟨trivial, rfl, trivial, ⟨rfl, (zr_in (n := 7) b18_ (by decide) (by decide))⟩, trivial⟩ ?_
          exact pw_ret hT rfl (r := some (pvI (M.1 126 (Int32.toNatClampNeg n1)))) (M' := M) ⟨rfl, rfl⟩ ⟨⟨_, rfl, (zr_wide b26_ (by decide) (by decide))⟩, hok, pvfr_0⟩
        · refine And.intro (fun c27_ => ?_) (fun c27_ => ?_)
          · show PW 59 d (70, [some (pvR 124), some (pvI n1), some (pvI n2)], [], M) _
            have b28_ : 2 ≤ Int32.toInt n2 ∧ Int32.toInt n2 ≤ 2 := (by have u0 := (zbnd n2); have u1 := (zi_eq _ _).mp c27_; have u2 := (show 2 ≤ Int32.toInt 2 ∧ Int32.toInt 2 ≤ 2 from (by decide)); omega)
            have b29_ : 0 ≤ Int32.toInt (M.1 127 (Int32.toNatClampNeg n1)) ∧ Int32.toInt (M.1 127 (Int32.toNatClampNeg n1)) ≤ 3 := pvok_r hok 127 (Int32.toNatClampNeg n1) rfl
            refine pw_blk hT 4 (S' := (76, [some (pvR 124), some (pvI n1), some (pvI n2)], [pvI (M.1 127 (Int32.toNatClampNeg n1))], M)) rfl ⟨trivial, rfl, trivial, ⟨rfl, (zr_in (n := 7) b18_ (by decide) (by decide))⟩, trivial⟩ ?_
            exact pw_ret hT rfl (r := some (pvI (M.1 127 (Int32.toNatClampNeg n1)))) (M' := M) ⟨rfl, rfl⟩ ⟨⟨_, rfl, (zr_wide b29_ (by decide) (by decide))⟩, hok, pvfr_0⟩
          · refine And.intro (fun c30_ => ?_) (fun c30_ => ?_)
            · show PW 59 d (77, [some (pvR 124), some (pvI n1), some (pvI n2)], [], M) _
              have b31_ : 3 ≤ Int32.toInt n2 ∧ Int32.toInt n2 ≤ 3 := (by have u0 := (zbnd n2); have u1 := (zi_eq _ _).mp c30_; have u2 := (show 3 ≤ Int32.toInt 3 ∧ Int32.toInt 3 ≤ 3 from (by decide)); omega)
              have b32_ : 0 ≤ Int32.toInt (M.1 128 (Int32.toNatClampNeg n1)) ∧ Int32.toInt (M.1 128 (Int32.toNatClampNeg n1)) ≤ 4 := pvok_r hok 128 (Int32.toNatClampNeg n1) rfl
              refine pw_blk hT 4 (S' := (83, [some (pvR 124), some (pvI n1), some (pvI n2)], [pvI (M.1 128 (Int32.toNatClampNeg n1))], M)) rfl ⟨trivial, rfl, trivial, ⟨rfl, (zr_in (n := 7) b18_ (by decide) (by decide))⟩, trivial⟩ ?_
              exact pw_ret hT rfl (r := some (pvI (M.1 128 (Int32.toNatClampNeg n1)))) (M' := M) ⟨rfl, rfl⟩ ⟨⟨_, rfl, (zr_wide b32_ (by decide) (by decide))⟩, hok, pvfr_0⟩
            · refine And.intro (fun c33_ => ?_) (fun c33_ => ?_)
              · show PW 59 d (84, [some (pvR 124), some (pvI n1), some (pvI n2)], [], M) _
                have b34_ : 4 ≤ Int32.toInt n2 ∧ Int32.toInt n2 ≤ 4 := (by have u0 := (zbnd n2); have u1 := (zi_eq _ _).mp c33_; have u2 := (show 4 ≤ Int32.toInt 4 ∧ Int32.toInt 4 ≤ 4 from (by decide)); omega)
                have b35_ : 0 ≤ Int32.toInt (M.1 129 (Int32.toNatClampNeg n1)) ∧ Int32.toInt (M.1 129 (Int32.toNatClampNeg n1)) ≤ 9 := pvok_r hok 129 (Int32.toNatClampNeg n1) rfl
                refine pw_blk hT 4 (S' := (90, [some (pvR 124), some (pvI n1), some (pvI n2)], [pvI (M.1 129 (Int32.toNatClampNeg n1))], M)) rfl ⟨trivial, rfl, trivial, ⟨rfl, (zr_in (n := 7) b18_ (by decide) (by decide))⟩, trivial⟩ ?_
                exact pw_ret hT rfl (r := some (pvI (M.1 129 (Int32.toNatClampNeg n1)))) (M' := M) ⟨rfl, rfl⟩ ⟨⟨_, rfl, (zr_wide b35_ (by decide) (by decide))⟩, hok, pvfr_0⟩
              · refine And.intro (fun c36_ => ?_) (fun c36_ => ?_)
                · show PW 59 d (91, [some (pvR 124), some (pvI n1), some (pvI n2)], [], M) _
                  have b37_ : 5 ≤ Int32.toInt n2 ∧ Int32.toInt n2 ≤ 5 := (by have u0 := (zbnd n2); have u1 := (zi_eq _ _).mp c36_; have u2 := (show 5 ≤ Int32.toInt 5 ∧ Int32.toInt 5 ≤ 5 from (by decide)); omega)
                  have b38_ : 0 ≤ Int32.toInt (M.1 131 (Int32.toNatClampNeg n1)) ∧ Int32.toInt (M.1 131 (Int32.toNatClampNeg n1)) ≤ 1 := pvok_r hok 131 (Int32.toNatClampNeg n1) rfl
                  refine pw_blk hT 4 (S' := (97, [some (pvR 124), some (pvI n1), some (pvI n2)], [pvI (M.1 131 (Int32.toNatClampNeg n1))], M)) rfl ⟨trivial, rfl, trivial, ⟨rfl, (zr_in (n := 7) b18_ (by decide) (by decide))⟩, trivial⟩ ?_
                  refine pw_if hT (c := (M.1 131 (Int32.toNatClampNeg n1)) = 0) rfl rfl (fun c39_ => ?_) (fun c39_ => ?_)
                  · have b40_ : 0 ≤ Int32.toInt (M.1 131 (Int32.toNatClampNeg n1)) ∧ Int32.toInt (M.1 131 (Int32.toNatClampNeg n1)) ≤ 0 := (by have u0 := b38_; have u1 := (zi_eq _ _).mp c39_; have u2 := (show 0 ≤ Int32.toInt 0 ∧ Int32.toInt 0 ≤ 0 from (by decide)); omega)
                    refine pw_blk hT 1 (S' := (105, [some (pvR 124), some (pvI n1), some (pvI n2)], [pvI 0], M)) rfl ⟨trivial, trivial⟩ ?_
                    exact pw_ret hT rfl (r := some (pvI 0)) (M' := M) ⟨rfl, rfl⟩ ⟨⟨_, rfl, (zr_wide (show 0 ≤ Int32.toInt 0 ∧ Int32.toInt 0 ≤ 0 from (by decide)) (by decide) (by decide))⟩, hok, pvfr_0⟩
                  · have b41_ : 1 ≤ Int32.toInt (M.1 131 (Int32.toNatClampNeg n1)) ∧ Int32.toInt (M.1 131 (Int32.toNatClampNeg n1)) ≤ 1 := (by have u0 := b38_; have u1 := (not_congr (zi_eq _ _)).mp c39_; have u2 := (show 0 ≤ Int32.toInt 0 ∧ Int32.toInt 0 ≤ 0 from (by decide)); omega)
                    refine pw_blk hT 2 (S' := (105, [some (pvR 124), some (pvI n1), some (pvI n2)], [pvI 1], M)) rfl ⟨trivial, trivial, trivial⟩ ?_
                    exact pw_ret hT rfl (r := some (pvI 1)) (M' := M) ⟨rfl, rfl⟩ ⟨⟨_, rfl, (zr_wide (show 1 ≤ Int32.toInt 1 ∧ Int32.toInt 1 ≤ 1 from (by decide)) (by decide) (by decide))⟩, hok, pvfr_0⟩
                · refine And.intro (fun c42_ => ?_) (fun c42_ => ?_)
                  · show PW 59 d (106, [some (pvR 124), some (pvI n1), some (pvI n2)], [], M) _
                    have b43_ : 6 ≤ Int32.toInt n2 ∧ Int32.toInt n2 ≤ 6 := (by have u0 := (zbnd n2); have u1 := (zi_eq _ _).mp c42_; have u2 := (show 6 ≤ Int32.toInt 6 ∧ Int32.toInt 6 ≤ 6 from (by decide)); omega)
                    have b44_ : 0 ≤ Int32.toInt (M.1 124 5) ∧ Int32.toInt (M.1 124 5) ≤ 3 := pvok_r hok 124 5 rfl
                    have b45_ : 0 ≤ Int32.toInt (M.1 124 6) ∧ Int32.toInt (M.1 124 6) ≤ 4 := pvok_r hok 124 6 rfl
                    refine pw_blk hT 6 (S' := (116, [some (pvR 124), some (pvI n1), some (pvI n2)], [pvI n1, pvI (M.1 124 6), pvI (M.1 124 5), pvR 124], M)) rfl ⟨trivial, trivial, rfl, trivial, rfl, trivial, trivial⟩ ?_
                    refine pw_callGp hT (as := [pvR 124, pvI (M.1 124 5), pvI (M.1 124 6), pvI n1]) (lo1 := [some (pvR 124), some (pvI (M.1 124 5)), some (pvI (M.1 124 6)), some (pvI n1)]) (d1 := d) (rest := []) rfl rfl rfl rfl rfl (fun _ => rfl) (Nat.zero_le _) rfl rfl rfl (sf_X10_way_124_x_x_x M hok (M.1 124 5) (M.1 124 6) n1 b44_ b45_ b18_ d) (fun x46_ b48_ => ?_)
                    exact pw_ret hT rfl (r := some (pvI x46_)) (M' := M) ⟨rfl, rfl⟩ ⟨⟨_, rfl, (zr_wide b48_ (by decide) (by decide))⟩, hok, pvfr_0⟩
                  · refine And.intro (fun c51_ => ?_) (fun c51_ => ?_)
                    · show PW 59 d (120, [some (pvR 124), some (pvI n1), some (pvI n2)], [], M) _
                      have b52_ : 7 ≤ Int32.toInt n2 ∧ Int32.toInt n2 ≤ 7 := (by have u0 := (zbnd n2); have u1 := (zi_eq _ _).mp c51_; have u2 := (show 7 ≤ Int32.toInt 7 ∧ Int32.toInt 7 ≤ 7 from (by decide)); omega)
                      refine pw_blk hT 1 (S' := (121, [some (pvR 124), some (pvI n1), some (pvI n2)], [pvR 124], M)) rfl ⟨trivial, trivial⟩ ?_
                      refine pw_callV hT (as := [pvR 124]) (lo1 := [some (pvR 124), none, none]) (d1 := d) (rest := []) rfl rfl rfl rfl rfl (fun _ => rfl) (Nat.zero_le _) rfl rfl rfl (sf_X10_layRain_124 M hok d) (fun M54_ o56_ g57_ => ?_)
                      have f58_ : pvFr fp_X10_of_124_x_x M M54_ := pvfr_t g57_ pvfr_0 fp_X10_of_124_x_x_fp_X10_layRain_124
                      refine pw_blk hT 1 (S' := (125, [some (pvR 124), some (pvI n1), some (pvI n2)], [pvR 124], M54_)) rfl ⟨trivial, trivial⟩ ?_
                      refine pw_callV hT (as := [pvR 124]) (lo1 := [some (pvR 124), none]) (d1 := d) (rest := []) rfl rfl rfl rfl rfl (fun _ => rfl) (Nat.zero_le _) rfl rfl rfl (sf_X10_layOpen_124 M54_ o56_ d) (fun M60_ o62_ g63_ => ?_)
                      have f64_ : pvFr fp_X10_of_124_x_x M M60_ := pvfr_t g63_ f58_ fp_X10_of_124_x_x_fp_X10_layOpen_124
                      have b65_ : 0 ≤ Int32.toInt (M60_.1 124 1) ∧ Int32.toInt (M60_.1 124 1) ≤ 9999 := pvok_r o62_ 124 1 rfl
                      refine pw_blk hT 4 (S' := (134, [some (pvR 124), some (pvI n1), some (pvI n2)], [pvI (M60_.1 124 1), pvI n1, pvR 124], M60_)) rfl ⟨trivial, trivial, trivial, rfl, trivial⟩ ?_
                      refine pw_callGp hT (as := [pvR 124, pvI n1, pvI (M60_.1 124 1)]) (lo1 := [some (pvR 124), some (pvI n1), some (pvI (M60_.1 124 1)), none, none]) (d1 := d) (rest := []) rfl rfl rfl rfl rfl (fun _ => rfl) (Nat.zero_le _) rfl rfl rfl (sf_X10_harm_124_x_x M60_ o62_ n1 (M60_.1 124 1) b18_ (zr_wide b65_ (by decide) (by decide)) d) (fun x66_ b68_ => ?_)
                      exact pw_ret hT rfl (r := some (pvI x66_)) (M' := M60_) ⟨rfl, rfl⟩ ⟨⟨_, rfl, (zr_wide b68_ (by decide) (by decide))⟩, o62_, f64_⟩
                    · show PW 59 d (138, [some (pvR 124), some (pvI n1), some (pvI n2)], [], M) _
                      refine pw_blk hT 1 (S' := (139, [some (pvR 124), some (pvI n1), some (pvI n2)], [pvI (-1)], M)) rfl ⟨trivial, trivial⟩ ?_
                      exact pw_ret hT rfl (r := some (pvI (-1))) (M' := M) ⟨rfl, rfl⟩ ⟨⟨_, rfl, (zr_wide (show (-1) ≤ Int32.toInt (-1) ∧ Int32.toInt (-1) ≤ (-1) from (by decide)) (by decide) (by decide))⟩, hok, pvfr_0⟩
def fpL_X10_on_124_x : List (Nat × Nat × Nat) := [(0, 124, 33), (0, 141, 0), (0, 142, 0), (0, 143, 0)]
def fp_X10_on_124_x (q k : Nat) : Bool := pvfp fpL_X10_on_124_x q k
theorem fp_X10_on_124_x_fp_X10_layOpen_124 (a b : Nat) (h : fp_X10_layOpen_124 a b = true) : fp_X10_on_124_x a b = true := pvfp_sub (l1 := fpL_X10_layOpen_124) (l2 := fpL_X10_on_124_x) (by decide) a b h
theorem fp_X10_on_124_x_fp_X10_layRain_124 (a b : Nat) (h : fp_X10_layRain_124 a b = true) : fp_X10_on_124_x a b = true := pvfp_sub (l1 := fpL_X10_layRain_124) (l2 := fpL_X10_on_124_x) (by decide) a b h
set_option maxHeartbeats 4000000 in
set_option maxRecDepth 10000 in
theorem sf_X10_on_124_x (M : pvM) (hok : pvOk M) (n1 : Int32) (d : Nat) : PW 60 d (0, [some (pvR 124), some (pvI n1)], [], M) (fun r X => (∃ x : Int32, r = some (pvI x) ∧ (-2) ≤ Int32.toInt x ∧ Int32.toInt x ≤ 9000000) ∧ pvOk X ∧ pvFr fp_X10_on_124_x M X) := by
  have hT : pvdom 60 = pvD_60 := rfl
  refine pw_blk hT 4 (S' := (5, [some (pvR 124), some (pvI n1)], [pvI 99, pvI 0, pvI n1, pvR 124], M)) rfl ⟨trivial, trivial, trivial, trivial, trivial⟩ ?_
  refine pw_callT hT (as := [pvR 124, pvI n1, pvI 0, pvI 99]) (lo1 := [some (pvR 124), some (pvI n1), some (pvI 0), some (pvI 99)]) (d1 := d) (rest := []) rfl rfl rfl rfl rfl (fun _ => rfl) (Nat.zero_le _) rfl rfl rfl (sf_X10_in_124_x_x_x M hok n1 0 99 d) ?_
  by_cases c6_ : n1 < 0
  · refine pw_eqI (if_pos c6_) ?_
    have b7_ : (-2147483648) ≤ Int32.toInt n1 ∧ Int32.toInt n1 ≤ (-1) := zr_lt_l (-1) c6_ (zbnd n1) (show 0 ≤ Int32.toInt 0 ∧ Int32.toInt 0 ≤ 0 from (by decide)) (by decide)
    show PW 60 d (8, [some (pvR 124), some (pvI n1)], [pvI 0], M) _
    refine pw_ifn hT (c := 0 = 0) rfl rfl (fun c8_ => absurd (by decide) c8_) (fun c8_ => ?_)
    refine pw_blk hT 1 (S' := (13, [some (pvR 124), some (pvI n1)], [pvI (-2)], M)) rfl ⟨trivial, trivial⟩ ?_
    exact pw_ret hT rfl (r := some (pvI (-2))) (M' := M) ⟨rfl, rfl⟩ ⟨⟨_, rfl, (zr_wide (show (-2) ≤ Int32.toInt (-2) ∧ Int32.toInt (-2) ≤ (-2) from (by decide)) (by decide) (by decide))⟩, hok, pvfr_0⟩
  · refine pw_eqI (if_neg c6_) ?_
    have b9_ : 0 ≤ Int32.toInt n1 ∧ Int32.toInt n1 ≤ 2147483647 := zr_nlt_l 0 c6_ (zbnd n1) (show 0 ≤ Int32.toInt 0 ∧ Int32.toInt 0 ≤ 0 from (by decide)) (by decide)
    by_cases c10_ : 99 < n1
    · refine pw_eqI (if_pos c10_) ?_
      have b11_ : 100 ≤ Int32.toInt n1 ∧ Int32.toInt n1 ≤ 2147483647 := zr_lt_r 100 c10_ b9_ (show 99 ≤ Int32.toInt 99 ∧ Int32.toInt 99 ≤ 99 from (by decide)) (by decide)
      show PW 60 d (8, [some (pvR 124), some (pvI n1)], [pvI 0], M) _
      refine pw_ifn hT (c := 0 = 0) rfl rfl (fun c12_ => absurd (by decide) c12_) (fun c12_ => ?_)
      refine pw_blk hT 1 (S' := (13, [some (pvR 124), some (pvI n1)], [pvI (-2)], M)) rfl ⟨trivial, trivial⟩ ?_
      exact pw_ret hT rfl (r := some (pvI (-2))) (M' := M) ⟨rfl, rfl⟩ ⟨⟨_, rfl, (zr_wide (show (-2) ≤ Int32.toInt (-2) ∧ Int32.toInt (-2) ≤ (-2) from (by decide)) (by decide) (by decide))⟩, hok, pvfr_0⟩
    · refine pw_eqI (if_neg c10_) ?_
      have b13_ : 0 ≤ Int32.toInt n1 ∧ Int32.toInt n1 ≤ 99 := zr_nlt_r 99 c10_ b9_ (show 99 ≤ Int32.toInt 99 ∧ Int32.toInt 99 ≤ 99 from (by decide)) (by decide)
      show PW 60 d (8, [some (pvR 124), some (pvI n1)], [pvI 1], M) _
      refine pw_ifn hT (c := 1 = 0) rfl rfl (fun c14_ => ?_) (fun c14_ => absurd c14_ (by decide))
      refine pw_blk hT 1 (S' := (15, [some (pvR 124), some (pvI n1)], [pvR 124], M)) rfl ⟨trivial, trivial⟩ ?_
      refine pw_callV hT (as := [pvR 124]) (lo1 := [some (pvR 124), none, none]) (d1 := d) (rest := []) rfl rfl rfl rfl rfl (fun _ => rfl) (Nat.zero_le _) rfl rfl rfl (sf_X10_layRain_124 M hok d) (fun M16_ o18_ g19_ => ?_)
      have f20_ : pvFr fp_X10_on_124_x M M16_ := pvfr_t g19_ pvfr_0 fp_X10_on_124_x_fp_X10_layRain_124
      refine pw_blk hT 1 (S' := (19, [some (pvR 124), some (pvI n1)], [pvR 124], M16_)) rfl ⟨trivial, trivial⟩ ?_
      refine pw_callV hT (as := [pvR 124]) (lo1 := [some (pvR 124), none]) (d1 := d) (rest := []) rfl rfl rfl rfl rfl (fun _ => rfl) (Nat.zero_le _) rfl rfl rfl (sf_X10_layOpen_124 M16_ o18_ d) (fun M22_ o24_ g25_ => ?_)
      have f26_ : pvFr fp_X10_on_124_x M M22_ := pvfr_t g25_ f20_ fp_X10_on_124_x_fp_X10_layOpen_124
      have b27_ : 0 ≤ Int32.toInt (M22_.1 124 1) ∧ Int32.toInt (M22_.1 124 1) ≤ 9999 := pvok_r o24_ 124 1 rfl
      obtain ⟨q29_, b28_⟩ : (Int32.toInt ((M22_.1 124 1) + n1) = Int32.toInt (M22_.1 124 1) + Int32.toInt n1) ∧ (0 ≤ Int32.toInt ((M22_.1 124 1) + n1) ∧ Int32.toInt ((M22_.1 124 1) + n1) ≤ 10098) := zadd_r (M22_.1 124 1) n1 0 10098 b27_ b13_ (by decide) (by decide) (by decide) (by decide)
      refine pw_blk hT 7 (S' := (33, [some (pvR 124), some (pvI n1)], [pvI ((M22_.1 124 1) + n1), pvI (M22_.1 124 1), pvR 124], M22_)) rfl ⟨trivial, trivial, rfl, trivial, rfl, trivial, trivial, trivial⟩ ?_
      refine pw_callGp hT (as := [pvR 124, pvI (M22_.1 124 1), pvI ((M22_.1 124 1) + n1)]) (lo1 := [some (pvR 124), some (pvI (M22_.1 124 1)), some (pvI ((M22_.1 124 1) + n1)), none, none]) (d1 := d) (rest := []) rfl rfl rfl rfl rfl (fun _ => rfl) (Nat.zero_le _) rfl rfl rfl (sf_X10_harmFrom_124_x_x M22_ o24_ (M22_.1 124 1) ((M22_.1 124 1) + n1) (zr_wide b27_ (by decide) (by decide)) (zr_wide b28_ (by decide) (by decide)) d) (fun x30_ b32_ => ?_)
      exact pw_ret hT rfl (r := some (pvI x30_)) (M' := M22_) ⟨rfl, rfl⟩ ⟨⟨_, rfl, (zr_wide b32_ (by decide) (by decide))⟩, o24_, f26_⟩
def fpL_X10_pass_124_x : List (Nat × Nat × Nat) := [(0, 124, 2), (0, 124, 3), (0, 124, 33), (0, 141, 0), (0, 142, 0), (0, 143, 0)]
def fp_X10_pass_124_x (q k : Nat) : Bool := pvfp fpL_X10_pass_124_x q k
theorem fp_X10_pass_124_x_fp_X10_goMinutes_124_x (a b : Nat) (h : fp_X10_goMinutes_124_x a b = true) : fp_X10_pass_124_x a b = true := pvfp_sub (l1 := fpL_X10_goMinutes_124_x) (l2 := fpL_X10_pass_124_x) (by decide) a b h
set_option maxHeartbeats 4000000 in
set_option maxRecDepth 10000 in
theorem sf_X10_pass_124_x (M : pvM) (hok : pvOk M) (n1 : Int32) (d : Nat) : PW 63 d (0, [some (pvR 124), some (pvI n1)], [], M) (fun r X => (∃ x : Int32, r = some (pvI x) ∧ (-3) ≤ Int32.toInt x ∧ Int32.toInt x ≤ 9000000) ∧ pvOk X ∧ pvFr fp_X10_pass_124_x M X) := by
  have hT : pvdom 63 = pvD_63 := rfl
  refine pw_blk hT 4 (S' := (5, [some (pvR 124), some (pvI n1)], [pvI 99, pvI 0, pvI n1, pvR 124], M)) rfl ⟨trivial, trivial, trivial, trivial, trivial⟩ ?_
  refine pw_callT hT (as := [pvR 124, pvI n1, pvI 0, pvI 99]) (lo1 := [some (pvR 124), some (pvI n1), some (pvI 0), some (pvI 99)]) (d1 := d) (rest := []) rfl rfl rfl rfl rfl (fun _ => rfl) (Nat.zero_le _) rfl rfl rfl (sf_X10_in_124_x_x_x M hok n1 0 99 d) ?_
  by_cases c6_ : n1 < 0
  · refine pw_eqI (if_pos c6_) ?_
    have b7_ : (-2147483648) ≤ Int32.toInt n1 ∧ Int32.toInt n1 ≤ (-1) := zr_lt_l (-1) c6_ (zbnd n1) (show 0 ≤ Int32.toInt 0 ∧ Int32.toInt 0 ≤ 0 from (by decide)) (by decide)
    show PW 63 d (8, [some (pvR 124), some (pvI n1)], [pvI 0], M) _
    refine pw_ifn hT (c := 0 = 0) rfl rfl (fun c8_ => absurd (by decide) c8_) (fun c8_ => ?_)
    refine pw_blk hT 1 (S' := (13, [some (pvR 124), some (pvI n1)], [pvI (-2)], M)) rfl ⟨trivial, trivial⟩ ?_
    exact pw_ret hT rfl (r := some (pvI (-2))) (M' := M) ⟨rfl, rfl⟩ ⟨⟨_, rfl, (zr_wide (show (-2) ≤ Int32.toInt (-2) ∧ Int32.toInt (-2) ≤ (-2) from (by decide)) (by decide) (by decide))⟩, hok, pvfr_0⟩
  · refine pw_eqI (if_neg c6_) ?_
    have b9_ : 0 ≤ Int32.toInt n1 ∧ Int32.toInt n1 ≤ 2147483647 := zr_nlt_l 0 c6_ (zbnd n1) (show 0 ≤ Int32.toInt 0 ∧ Int32.toInt 0 ≤ 0 from (by decide)) (by decide)
    by_cases c10_ : 99 < n1
    · refine pw_eqI (if_pos c10_) ?_
      have b11_ : 100 ≤ Int32.toInt n1 ∧ Int32.toInt n1 ≤ 2147483647 := zr_lt_r 100 c10_ b9_ (show 99 ≤ Int32.toInt 99 ∧ Int32.toInt 99 ≤ 99 from (by decide)) (by decide)
      show PW 63 d (8, [some (pvR 124), some (pvI n1)], [pvI 0], M) _
      refine pw_ifn hT (c := 0 = 0) rfl rfl (fun c12_ => absurd (by decide) c12_) (fun c12_ => ?_)
      refine pw_blk hT 1 (S' := (13, [some (pvR 124), some (pvI n1)], [pvI (-2)], M)) rfl ⟨trivial, trivial⟩ ?_
      exact pw_ret hT rfl (r := some (pvI (-2))) (M' := M) ⟨rfl, rfl⟩ ⟨⟨_, rfl, (zr_wide (show (-2) ≤ Int32.toInt (-2) ∧ Int32.toInt (-2) ≤ (-2) from (by decide)) (by decide) (by decide))⟩, hok, pvfr_0⟩
    · refine pw_eqI (if_neg c10_) ?_
      have b13_ : 0 ≤ Int32.toInt n1 ∧ Int32.toInt n1 ≤ 99 := zr_nlt_r 99 c10_ b9_ (show 99 ≤ Int32.toInt 99 ∧ Int32.toInt 99 ≤ 99 from (by decide)) (by decide)
      show PW 63 d (8, [some (pvR 124), some (pvI n1)], [pvI 1], M) _
      refine pw_ifn hT (c := 1 = 0) rfl rfl (fun c14_ => ?_) (fun c14_ => absurd c14_ (by decide))
      have b15_ : 0 ≤ Int32.toInt (M.1 124 1) ∧ Int32.toInt (M.1 124 1) ≤ 9999 := pvok_r hok 124 1 rfl
      obtain ⟨q17_, b16_⟩ : (Int32.toInt ((M.1 124 1) + n1) = Int32.toInt (M.1 124 1) + Int32.toInt n1) ∧ (0 ≤ Int32.toInt ((M.1 124 1) + n1) ∧ Int32.toInt ((M.1 124 1) + n1) ≤ 10098) := zadd_r (M.1 124 1) n1 0 10098 b15_ b13_ (by decide) (by decide) (by decide) (by decide)
      refine pw_blk hT 5 (S' := (23, [some (pvR 124), some (pvI n1)], [pvI 9999, pvI ((M.1 124 1) + n1)], M)) rfl ⟨trivial, rfl, trivial, trivial, trivial, trivial⟩ ?_
      refine pw_ic hT (c := ((M.1 124 1) + n1) ≤ 9999) rfl rfl (fun c18_ => ?_) (fun c18_ => ?_)
      · have b19_ : 0 ≤ Int32.toInt ((M.1 124 1) + n1) ∧ Int32.toInt ((M.1 124 1) + n1) ≤ 9999 := zr_le_l 9999 c18_ b16_ (show 9999 ≤ Int32.toInt 9999 ∧ Int32.toInt 9999 ≤ 9999 from (by decide)) (by decide)
        refine pw_blk hT 2 (S' := (33, [some (pvR 124), some (pvI n1)], [pvI n1, pvR 124], M)) rfl ⟨trivial, trivial, trivial⟩ ?_
        refine pw_callG hT (as := [pvR 124, pvI n1]) (lo1 := [some (pvR 124), some (pvI n1), none]) (d1 := d) (rest := []) rfl rfl rfl rfl rfl (fun _ => rfl) (Nat.zero_le _) rfl rfl rfl (sf_X10_goMinutes_124_x M hok n1 (zr_wide b13_ (by decide) (by decide)) (show Int32.toInt (M.1 124 1) + Int32.toInt n1 ≤ 9999 from (by omega)) d) (fun x20_ M21_ b22_ o23_ g24_ => ?_)
        have f25_ : pvFr fp_X10_pass_124_x M M21_ := pvfr_t g24_ pvfr_0 fp_X10_pass_124_x_fp_X10_goMinutes_124_x
        exact pw_ret hT rfl (r := some (pvI x20_)) (M' := M21_) ⟨rfl, rfl⟩ ⟨⟨_, rfl, (zr_wide b22_ (by decide) (by decide))⟩, o23_, f25_⟩
      · have b26_ : 10000 ≤ Int32.toInt ((M.1 124 1) + n1) ∧ Int32.toInt ((M.1 124 1) + n1) ≤ 10098 := zr_nle_l 10000 c18_ b16_ (show 9999 ≤ Int32.toInt 9999 ∧ Int32.toInt 9999 ≤ 9999 from (by decide)) (by decide)
        refine pw_blk hT 2 (S' := (36, [some (pvR 124), some (pvI n1)], [pvI (-3)], M)) rfl ⟨trivial, trivial, trivial⟩ ?_
        exact pw_ret hT rfl (r := some (pvI (-3))) (M' := M) ⟨rfl, rfl⟩ ⟨⟨_, rfl, (zr_wide (show (-3) ≤ Int32.toInt (-3) ∧ Int32.toInt (-3) ≤ (-3) from (by decide)) (by decide) (by decide))⟩, hok, pvfr_0⟩
set_option maxHeartbeats 4000000 in
set_option maxRecDepth 10000 in
theorem sf_X10_place_124_x (M : pvM) (hok : pvOk M) (n1 : Int32) (d : Nat) : PW 65 d (0, [some (pvR 124), some (pvI n1)], [], M) (fun r X => (∃ x : Int32, r = some (pvI x) ∧ (-1) ≤ Int32.toInt x ∧ Int32.toInt x ≤ 5) ∧ X = M) := by
  have hT : pvdom 65 = pvD_65 := rfl
  refine pw_blk hT 1 (S' := (1, [some (pvR 124), some (pvI n1)], [pvI n1], M)) rfl ⟨trivial, trivial⟩ ?_
  refine pw_sw hT rfl rfl ?_
  refine And.intro (fun c1_ => ?_) (fun c1_ => ?_)
  · show PW 65 d (92, [some (pvR 124), some (pvI n1)], [], M) _
    have b2_ : 102 ≤ Int32.toInt n1 ∧ Int32.toInt n1 ≤ 102 := (by have u0 := (zbnd n1); have u1 := (zi_eq _ _).mp c1_; have u2 := (show 102 ≤ Int32.toInt 102 ∧ Int32.toInt 102 ≤ 102 from (by decide)); omega)
    refine pw_blk hT 1 (S' := (93, [some (pvR 124), some (pvI n1)], [pvI 2], M)) rfl ⟨trivial, trivial⟩ ?_
    exact pw_ret hT rfl (r := some (pvI 2)) (M' := M) ⟨rfl, rfl⟩ ⟨⟨_, rfl, (zr_wide (show 2 ≤ Int32.toInt 2 ∧ Int32.toInt 2 ≤ 2 from (by decide)) (by decide) (by decide))⟩, rfl⟩
  · refine And.intro (fun c3_ => ?_) (fun c3_ => ?_)
    · show PW 65 d (100, [some (pvR 124), some (pvI n1)], [], M) _
      have b4_ : 103 ≤ Int32.toInt n1 ∧ Int32.toInt n1 ≤ 103 := (by have u0 := (zbnd n1); have u1 := (zi_eq _ _).mp c3_; have u2 := (show 103 ≤ Int32.toInt 103 ∧ Int32.toInt 103 ≤ 103 from (by decide)); omega)
      refine pw_blk hT 1 (S' := (101, [some (pvR 124), some (pvI n1)], [pvI (-1)], M)) rfl ⟨trivial, trivial⟩ ?_
      exact pw_ret hT rfl (r := some (pvI (-1))) (M' := M) ⟨rfl, rfl⟩ ⟨⟨_, rfl, (zr_wide (show (-1) ≤ Int32.toInt (-1) ∧ Int32.toInt (-1) ≤ (-1) from (by decide)) (by decide) (by decide))⟩, rfl⟩
    · refine And.intro (fun c5_ => ?_) (fun c5_ => ?_)
      · show PW 65 d (100, [some (pvR 124), some (pvI n1)], [], M) _
        have b6_ : 104 ≤ Int32.toInt n1 ∧ Int32.toInt n1 ≤ 104 := (by have u0 := (zbnd n1); have u1 := (zi_eq _ _).mp c5_; have u2 := (show 104 ≤ Int32.toInt 104 ∧ Int32.toInt 104 ≤ 104 from (by decide)); omega)
        refine pw_blk hT 1 (S' := (101, [some (pvR 124), some (pvI n1)], [pvI (-1)], M)) rfl ⟨trivial, trivial⟩ ?_
        exact pw_ret hT rfl (r := some (pvI (-1))) (M' := M) ⟨rfl, rfl⟩ ⟨⟨_, rfl, (zr_wide (show (-1) ≤ Int32.toInt (-1) ∧ Int32.toInt (-1) ≤ (-1) from (by decide)) (by decide) (by decide))⟩, rfl⟩
      · refine And.intro (fun c7_ => ?_) (fun c7_ => ?_)
        · show PW 65 d (100, [some (pvR 124), some (pvI n1)], [], M) _
          have b8_ : 105 ≤ Int32.toInt n1 ∧ Int32.toInt n1 ≤ 105 := (by have u0 := (zbnd n1); have u1 := (zi_eq _ _).mp c7_; have u2 := (show 105 ≤ Int32.toInt 105 ∧ Int32.toInt 105 ≤ 105 from (by decide)); omega)
          refine pw_blk hT 1 (S' := (101, [some (pvR 124), some (pvI n1)], [pvI (-1)], M)) rfl ⟨trivial, trivial⟩ ?_
          exact pw_ret hT rfl (r := some (pvI (-1))) (M' := M) ⟨rfl, rfl⟩ ⟨⟨_, rfl, (zr_wide (show (-1) ≤ Int32.toInt (-1) ∧ Int32.toInt (-1) ≤ (-1) from (by decide)) (by decide) (by decide))⟩, rfl⟩
        · refine And.intro (fun c9_ => ?_) (fun c9_ => ?_)
          · show PW 65 d (100, [some (pvR 124), some (pvI n1)], [], M) _
            have b10_ : 106 ≤ Int32.toInt n1 ∧ Int32.toInt n1 ≤ 106 := (by have u0 := (zbnd n1); have u1 := (zi_eq _ _).mp c9_; have u2 := (show 106 ≤ Int32.toInt 106 ∧ Int32.toInt 106 ≤ 106 from (by decide)); omega)
            refine pw_blk hT 1 (S' := (101, [some (pvR 124), some (pvI n1)], [pvI (-1)], M)) rfl ⟨trivial, trivial⟩ ?_
            exact pw_ret hT rfl (r := some (pvI (-1))) (M' := M) ⟨rfl, rfl⟩ ⟨⟨_, rfl, (zr_wide (show (-1) ≤ Int32.toInt (-1) ∧ Int32.toInt (-1) ≤ (-1) from (by decide)) (by decide) (by decide))⟩, rfl⟩
          · refine And.intro (fun c11_ => ?_) (fun c11_ => ?_)
            · show PW 65 d (90, [some (pvR 124), some (pvI n1)], [], M) _
              have b12_ : 107 ≤ Int32.toInt n1 ∧ Int32.toInt n1 ≤ 107 := (by have u0 := (zbnd n1); have u1 := (zi_eq _ _).mp c11_; have u2 := (show 107 ≤ Int32.toInt 107 ∧ Int32.toInt 107 ≤ 107 from (by decide)); omega)
              refine pw_blk hT 1 (S' := (91, [some (pvR 124), some (pvI n1)], [pvI 1], M)) rfl ⟨trivial, trivial⟩ ?_
              exact pw_ret hT rfl (r := some (pvI 1)) (M' := M) ⟨rfl, rfl⟩ ⟨⟨_, rfl, (zr_wide (show 1 ≤ Int32.toInt 1 ∧ Int32.toInt 1 ≤ 1 from (by decide)) (by decide) (by decide))⟩, rfl⟩
            · refine And.intro (fun c13_ => ?_) (fun c13_ => ?_)
              · show PW 65 d (100, [some (pvR 124), some (pvI n1)], [], M) _
                have b14_ : 108 ≤ Int32.toInt n1 ∧ Int32.toInt n1 ≤ 108 := (by have u0 := (zbnd n1); have u1 := (zi_eq _ _).mp c13_; have u2 := (show 108 ≤ Int32.toInt 108 ∧ Int32.toInt 108 ≤ 108 from (by decide)); omega)
                refine pw_blk hT 1 (S' := (101, [some (pvR 124), some (pvI n1)], [pvI (-1)], M)) rfl ⟨trivial, trivial⟩ ?_
                exact pw_ret hT rfl (r := some (pvI (-1))) (M' := M) ⟨rfl, rfl⟩ ⟨⟨_, rfl, (zr_wide (show (-1) ≤ Int32.toInt (-1) ∧ Int32.toInt (-1) ≤ (-1) from (by decide)) (by decide) (by decide))⟩, rfl⟩
              · refine And.intro (fun c15_ => ?_) (fun c15_ => ?_)
                · show PW 65 d (100, [some (pvR 124), some (pvI n1)], [], M) _
                  have b16_ : 109 ≤ Int32.toInt n1 ∧ Int32.toInt n1 ≤ 109 := (by have u0 := (zbnd n1); have u1 := (zi_eq _ _).mp c15_; have u2 := (show 109 ≤ Int32.toInt 109 ∧ Int32.toInt 109 ≤ 109 from (by decide)); omega)
                  refine pw_blk hT 1 (S' := (101, [some (pvR 124), some (pvI n1)], [pvI (-1)], M)) rfl ⟨trivial, trivial⟩ ?_
                  exact pw_ret hT rfl (r := some (pvI (-1))) (M' := M) ⟨rfl, rfl⟩ ⟨⟨_, rfl, (zr_wide (show (-1) ≤ Int32.toInt (-1) ∧ Int32.toInt (-1) ≤ (-1) from (by decide)) (by decide) (by decide))⟩, rfl⟩
                · refine And.intro (fun c17_ => ?_) (fun c17_ => ?_)
                  · show PW 65 d (100, [some (pvR 124), some (pvI n1)], [], M) _
                    have b18_ : 110 ≤ Int32.toInt n1 ∧ Int32.toInt n1 ≤ 110 := (by have u0 := (zbnd n1); have u1 := (zi_eq _ _).mp c17_; have u2 := (show 110 ≤ Int32.toInt 110 ∧ Int32.toInt 110 ≤ 110 from (by decide)); omega)
                    refine pw_blk hT 1 (S' := (101, [some (pvR 124), some (pvI n1)], [pvI (-1)], M)) rfl ⟨trivial, trivial⟩ ?_
                    exact pw_ret hT rfl (r := some (pvI (-1))) (M' := M) ⟨rfl, rfl⟩ ⟨⟨_, rfl, (zr_wide (show (-1) ≤ Int32.toInt (-1) ∧ Int32.toInt (-1) ≤ (-1) from (by decide)) (by decide) (by decide))⟩, rfl⟩
                  · refine And.intro (fun c19_ => ?_) (fun c19_ => ?_)
                    · show PW 65 d (100, [some (pvR 124), some (pvI n1)], [], M) _
                      have b20_ : 111 ≤ Int32.toInt n1 ∧ Int32.toInt n1 ≤ 111 := (by have u0 := (zbnd n1); have u1 := (zi_eq _ _).mp c19_; have u2 := (show 111 ≤ Int32.toInt 111 ∧ Int32.toInt 111 ≤ 111 from (by decide)); omega)
                      refine pw_blk hT 1 (S' := (101, [some (pvR 124), some (pvI n1)], [pvI (-1)], M)) rfl ⟨trivial, trivial⟩ ?_
                      exact pw_ret hT rfl (r := some (pvI (-1))) (M' := M) ⟨rfl, rfl⟩ ⟨⟨_, rfl, (zr_wide (show (-1) ≤ Int32.toInt (-1) ∧ Int32.toInt (-1) ≤ (-1) from (by decide)) (by decide) (by decide))⟩, rfl⟩
                    · refine And.intro (fun c21_ => ?_) (fun c21_ => ?_)
                      · show PW 65 d (100, [some (pvR 124), some (pvI n1)], [], M) _
                        have b22_ : 112 ≤ Int32.toInt n1 ∧ Int32.toInt n1 ≤ 112 := (by have u0 := (zbnd n1); have u1 := (zi_eq _ _).mp c21_; have u2 := (show 112 ≤ Int32.toInt 112 ∧ Int32.toInt 112 ≤ 112 from (by decide)); omega)
                        refine pw_blk hT 1 (S' := (101, [some (pvR 124), some (pvI n1)], [pvI (-1)], M)) rfl ⟨trivial, trivial⟩ ?_
                        exact pw_ret hT rfl (r := some (pvI (-1))) (M' := M) ⟨rfl, rfl⟩ ⟨⟨_, rfl, (zr_wide (show (-1) ≤ Int32.toInt (-1) ∧ Int32.toInt (-1) ≤ (-1) from (by decide)) (by decide) (by decide))⟩, rfl⟩
                      · refine And.intro (fun c23_ => ?_) (fun c23_ => ?_)
                        · show PW 65 d (100, [some (pvR 124), some (pvI n1)], [], M) _
                          have b24_ : 113 ≤ Int32.toInt n1 ∧ Int32.toInt n1 ≤ 113 := (by have u0 := (zbnd n1); have u1 := (zi_eq _ _).mp c23_; have u2 := (show 113 ≤ Int32.toInt 113 ∧ Int32.toInt 113 ≤ 113 from (by decide)); omega)
                          refine pw_blk hT 1 (S' := (101, [some (pvR 124), some (pvI n1)], [pvI (-1)], M)) rfl ⟨trivial, trivial⟩ ?_
                          exact pw_ret hT rfl (r := some (pvI (-1))) (M' := M) ⟨rfl, rfl⟩ ⟨⟨_, rfl, (zr_wide (show (-1) ≤ Int32.toInt (-1) ∧ Int32.toInt (-1) ≤ (-1) from (by decide)) (by decide) (by decide))⟩, rfl⟩
                        · refine And.intro (fun c25_ => ?_) (fun c25_ => ?_)
                          · show PW 65 d (94, [some (pvR 124), some (pvI n1)], [], M) _
                            have b26_ : 114 ≤ Int32.toInt n1 ∧ Int32.toInt n1 ≤ 114 := (by have u0 := (zbnd n1); have u1 := (zi_eq _ _).mp c25_; have u2 := (show 114 ≤ Int32.toInt 114 ∧ Int32.toInt 114 ≤ 114 from (by decide)); omega)
                            refine pw_blk hT 1 (S' := (95, [some (pvR 124), some (pvI n1)], [pvI 3], M)) rfl ⟨trivial, trivial⟩ ?_
                            exact pw_ret hT rfl (r := some (pvI 3)) (M' := M) ⟨rfl, rfl⟩ ⟨⟨_, rfl, (zr_wide (show 3 ≤ Int32.toInt 3 ∧ Int32.toInt 3 ≤ 3 from (by decide)) (by decide) (by decide))⟩, rfl⟩
                          · refine And.intro (fun c27_ => ?_) (fun c27_ => ?_)
                            · show PW 65 d (96, [some (pvR 124), some (pvI n1)], [], M) _
                              have b28_ : 115 ≤ Int32.toInt n1 ∧ Int32.toInt n1 ≤ 115 := (by have u0 := (zbnd n1); have u1 := (zi_eq _ _).mp c27_; have u2 := (show 115 ≤ Int32.toInt 115 ∧ Int32.toInt 115 ≤ 115 from (by decide)); omega)
                              refine pw_blk hT 1 (S' := (97, [some (pvR 124), some (pvI n1)], [pvI 4], M)) rfl ⟨trivial, trivial⟩ ?_
                              exact pw_ret hT rfl (r := some (pvI 4)) (M' := M) ⟨rfl, rfl⟩ ⟨⟨_, rfl, (zr_wide (show 4 ≤ Int32.toInt 4 ∧ Int32.toInt 4 ≤ 4 from (by decide)) (by decide) (by decide))⟩, rfl⟩
                            · refine And.intro (fun c29_ => ?_) (fun c29_ => ?_)
                              · show PW 65 d (98, [some (pvR 124), some (pvI n1)], [], M) _
                                have b30_ : 116 ≤ Int32.toInt n1 ∧ Int32.toInt n1 ≤ 116 := (by have u0 := (zbnd n1); have u1 := (zi_eq _ _).mp c29_; have u2 := (show 116 ≤ Int32.toInt 116 ∧ Int32.toInt 116 ≤ 116 from (by decide)); omega)
                                refine pw_blk hT 1 (S' := (99, [some (pvR 124), some (pvI n1)], [pvI 5], M)) rfl ⟨trivial, trivial⟩ ?_
                                exact pw_ret hT rfl (r := some (pvI 5)) (M' := M) ⟨rfl, rfl⟩ ⟨⟨_, rfl, (zr_wide (show 5 ≤ Int32.toInt 5 ∧ Int32.toInt 5 ≤ 5 from (by decide)) (by decide) (by decide))⟩, rfl⟩
                              · refine And.intro (fun c31_ => ?_) (fun c31_ => ?_)
                                · show PW 65 d (100, [some (pvR 124), some (pvI n1)], [], M) _
                                  have b32_ : 117 ≤ Int32.toInt n1 ∧ Int32.toInt n1 ≤ 117 := (by have u0 := (zbnd n1); have u1 := (zi_eq _ _).mp c31_; have u2 := (show 117 ≤ Int32.toInt 117 ∧ Int32.toInt 117 ≤ 117 from (by decide)); omega)
                                  refine pw_blk hT 1 (S' := (101, [some (pvR 124), some (pvI n1)], [pvI (-1)], M)) rfl ⟨trivial, trivial⟩ ?_
                                  exact pw_ret hT rfl (r := some (pvI (-1))) (M' := M) ⟨rfl, rfl⟩ ⟨⟨_, rfl, (zr_wide (show (-1) ≤ Int32.toInt (-1) ∧ Int32.toInt (-1) ≤ (-1) from (by decide)) (by decide) (by decide))⟩, rfl⟩
                                · refine And.intro (fun c33_ => ?_) (fun c33_ => ?_)
                                  · show PW 65 d (100, [some (pvR 124), some (pvI n1)], [], M) _
                                    have b34_ : 118 ≤ Int32.toInt n1 ∧ Int32.toInt n1 ≤ 118 := (by have u0 := (zbnd n1); have u1 := (zi_eq _ _).mp c33_; have u2 := (show 118 ≤ Int32.toInt 118 ∧ Int32.toInt 118 ≤ 118 from (by decide)); omega)
                                    refine pw_blk hT 1 (S' := (101, [some (pvR 124), some (pvI n1)], [pvI (-1)], M)) rfl ⟨trivial, trivial⟩ ?_
                                    exact pw_ret hT rfl (r := some (pvI (-1))) (M' := M) ⟨rfl, rfl⟩ ⟨⟨_, rfl, (zr_wide (show (-1) ≤ Int32.toInt (-1) ∧ Int32.toInt (-1) ≤ (-1) from (by decide)) (by decide) (by decide))⟩, rfl⟩
                                  · refine And.intro (fun c35_ => ?_) (fun c35_ => ?_)
                                    · show PW 65 d (88, [some (pvR 124), some (pvI n1)], [], M) _
                                      have b36_ : 119 ≤ Int32.toInt n1 ∧ Int32.toInt n1 ≤ 119 := (by have u0 := (zbnd n1); have u1 := (zi_eq _ _).mp c35_; have u2 := (show 119 ≤ Int32.toInt 119 ∧ Int32.toInt 119 ≤ 119 from (by decide)); omega)
                                      refine pw_blk hT 1 (S' := (89, [some (pvR 124), some (pvI n1)], [pvI 0], M)) rfl ⟨trivial, trivial⟩ ?_
                                      exact pw_ret hT rfl (r := some (pvI 0)) (M' := M) ⟨rfl, rfl⟩ ⟨⟨_, rfl, (zr_wide (show 0 ≤ Int32.toInt 0 ∧ Int32.toInt 0 ≤ 0 from (by decide)) (by decide) (by decide))⟩, rfl⟩
                                    · show PW 65 d (100, [some (pvR 124), some (pvI n1)], [], M) _
                                      refine pw_blk hT 1 (S' := (101, [some (pvR 124), some (pvI n1)], [pvI (-1)], M)) rfl ⟨trivial, trivial⟩ ?_
                                      exact pw_ret hT rfl (r := some (pvI (-1))) (M' := M) ⟨rfl, rfl⟩ ⟨⟨_, rfl, (zr_wide (show (-1) ≤ Int32.toInt (-1) ∧ Int32.toInt (-1) ≤ (-1) from (by decide)) (by decide) (by decide))⟩, rfl⟩
def fpL_X10_put_124_x_x : List (Nat × Nat × Nat) := [(0, 131, 0)]
def fp_X10_put_124_x_x (q k : Nat) : Bool := pvfp fpL_X10_put_124_x_x q k
set_option maxHeartbeats 4000000 in
set_option maxRecDepth 10000 in
theorem sf_X10_put_124_x_x (M : pvM) (hok : pvOk M) (n1 : Int32) (n2 : Int32) (hn2 : 0 ≤ Int32.toInt n2 ∧ Int32.toInt n2 ≤ 1) (d : Nat) : PW 66 d (0, [some (pvR 124), some (pvI n1), some (pvI n2), none], [], M) (fun r X => (∃ x : Int32, r = some (pvI x) ∧ (-1) ≤ Int32.toInt x ∧ Int32.toInt x ≤ 1) ∧ pvOk X ∧ pvFr fp_X10_put_124_x_x M X) := by
  have hT : pvdom 66 = pvD_66 := rfl
  refine pw_blk hT 2 (S' := (2, [some (pvR 124), some (pvI n1), some (pvI n2), none], [pvI n1, pvR 124], M)) rfl ⟨trivial, trivial, trivial⟩ ?_
  refine pw_callT hT (as := [pvR 124, pvI n1]) (lo1 := [some (pvR 124), some (pvI n1)]) (d1 := d) (rest := []) rfl rfl rfl rfl rfl (fun _ => rfl) (Nat.zero_le _) rfl rfl rfl (sf_X10_isWindow_124_x M hok n1 d) ?_
  by_cases c6_ : n1 < 0
  · refine pw_eqI (if_pos c6_) ?_
    have b7_ : (-2147483648) ≤ Int32.toInt n1 ∧ Int32.toInt n1 ≤ (-1) := zr_lt_l (-1) c6_ (zbnd n1) (show 0 ≤ Int32.toInt 0 ∧ Int32.toInt 0 ≤ 0 from (by decide)) (by decide)
    show PW 66 d (5, [some (pvR 124), some (pvI n1), some (pvI n2), none], [pvI 0], M) _
    refine pw_ifn hT (c := 0 = 0) rfl rfl (fun c8_ => absurd (by decide) c8_) (fun c8_ => ?_)
    refine pw_blk hT 1 (S' := (9, [some (pvR 124), some (pvI n1), some (pvI n2), none], [pvI (-1)], M)) rfl ⟨trivial, trivial⟩ ?_
    exact pw_ret hT rfl (r := some (pvI (-1))) (M' := M) ⟨rfl, rfl⟩ ⟨⟨_, rfl, (zr_wide (show (-1) ≤ Int32.toInt (-1) ∧ Int32.toInt (-1) ≤ (-1) from (by decide)) (by decide) (by decide))⟩, hok, pvfr_0⟩
  · refine pw_eqI (if_neg c6_) ?_
    have b9_ : 0 ≤ Int32.toInt n1 ∧ Int32.toInt n1 ≤ 2147483647 := zr_nlt_l 0 c6_ (zbnd n1) (show 0 ≤ Int32.toInt 0 ∧ Int32.toInt 0 ≤ 0 from (by decide)) (by decide)
    have b10_ : 0 ≤ Int32.toInt (M.1 124 0) ∧ Int32.toInt (M.1 124 0) ≤ 7 := pvok_r hok 124 0 rfl
    obtain ⟨q12_, b11_⟩ : (Int32.toInt ((M.1 124 0) - 1) = Int32.toInt (M.1 124 0) - Int32.toInt 1) ∧ ((-1) ≤ Int32.toInt ((M.1 124 0) - 1) ∧ Int32.toInt ((M.1 124 0) - 1) ≤ 6) := zsub_r (M.1 124 0) 1 (-1) 6 b10_ (show 1 ≤ Int32.toInt 1 ∧ Int32.toInt 1 ≤ 1 from (by decide)) (by decide) (by decide) (by decide) (by decide)
    have u13_ : Int32.toInt 1 = 1 := by decide
    by_cases c14_ : ((M.1 124 0) - 1) < n1
    · refine pw_eqI (if_pos c14_) ?_
      have d15_ : Int32.toInt ((M.1 124 0) - 1) < Int32.toInt n1 := (zi_lt _ _).mp c14_
      show PW 66 d (5, [some (pvR 124), some (pvI n1), some (pvI n2), none], [pvI 0], M) _
      refine pw_ifn hT (c := 0 = 0) rfl rfl (fun c16_ => absurd (by decide) c16_) (fun c16_ => ?_)
      refine pw_blk hT 1 (S' := (9, [some (pvR 124), some (pvI n1), some (pvI n2), none], [pvI (-1)], M)) rfl ⟨trivial, trivial⟩ ?_
      exact pw_ret hT rfl (r := some (pvI (-1))) (M' := M) ⟨rfl, rfl⟩ ⟨⟨_, rfl, (zr_wide (show (-1) ≤ Int32.toInt (-1) ∧ Int32.toInt (-1) ≤ (-1) from (by decide)) (by decide) (by decide))⟩, hok, pvfr_0⟩
    · refine pw_eqI (if_neg c14_) ?_
      have b17_ : 0 ≤ Int32.toInt ((M.1 124 0) - 1) ∧ Int32.toInt ((M.1 124 0) - 1) ≤ 6 := zr_nlt_l 0 c14_ b11_ b9_ (by decide)
      have b18_ : 0 ≤ Int32.toInt n1 ∧ Int32.toInt n1 ≤ 6 := zr_nlt_r 6 c14_ b9_ b17_ (by decide)
      have d19_ : Int32.toInt ((M.1 124 0) - 1) ≥ Int32.toInt n1 := Int.not_lt.mp ((not_congr (zi_lt _ _)).mp c14_)
      show PW 66 d (5, [some (pvR 124), some (pvI n1), some (pvI n2), none], [pvI 1], M) _
      refine pw_ifn hT (c := 1 = 0) rfl rfl (fun c20_ => ?_) (fun c20_ => absurd c20_ (by decide))
      have b21_ : 0 ≤ Int32.toInt (M.1 131 (Int32.toNatClampNeg n1)) ∧ Int32.toInt (M.1 131 (Int32.toNatClampNeg n1)) ≤ 1 := pvok_r hok 131 (Int32.toNatClampNeg n1) rfl
      refine pw_blk hT 4 (S' := (16, [some (pvR 124), some (pvI n1), some (pvI n2), none], [pvI (M.1 131 (Int32.toNatClampNeg n1))], M)) rfl ⟨trivial, rfl, trivial, ⟨rfl, (zr_in (n := 7) b18_ (by decide) (by decide))⟩, trivial⟩ ?_
      refine pw_if hT (c := (M.1 131 (Int32.toNatClampNeg n1)) = 0) rfl rfl (fun c22_ => ?_) (fun c22_ => ?_)
      · have b23_ : 0 ≤ Int32.toInt (M.1 131 (Int32.toNatClampNeg n1)) ∧ Int32.toInt (M.1 131 (Int32.toNatClampNeg n1)) ≤ 0 := (by have u0 := b21_; have u1 := (zi_eq _ _).mp c22_; have u2 := (show 0 ≤ Int32.toInt 0 ∧ Int32.toInt 0 ≤ 0 from (by decide)); omega)
        refine pw_blkw hT 7 (pc := 32) (lo := [some (pvR 124), some (pvI n1), some (pvI n2), some (pvI 0)]) (st := []) (M := pvu M 131 (Int32.toNatClampNeg n1) (vp_nar .boolean n2)) rfl ⟨trivial, trivial, trivial, rfl, trivial, trivial, ⟨rfl, (zr_in (n := 7) b18_ (by decide) (by decide))⟩, trivial⟩ (fun M24_ e25_ => ?_)
        have o26_ : pvOk M24_ := pvok_u2 e25_ hok rfl (zboolr n2)
        have f27_ : pvFr fp_X10_put_124_x_x M M24_ := pvfr_u e25_ pvfr_0 rfl
        refine pw_blk hT 1 (S' := (33, [some (pvR 124), some (pvI n1), some (pvI n2), some (pvI 0)], [pvI 0], M24_)) rfl ⟨trivial, trivial⟩ ?_
        exact pw_ret hT rfl (r := some (pvI 0)) (M' := M24_) ⟨rfl, rfl⟩ ⟨⟨_, rfl, (zr_wide (show 0 ≤ Int32.toInt 0 ∧ Int32.toInt 0 ≤ 0 from (by decide)) (by decide) (by decide))⟩, o26_, f27_⟩
      · have b28_ : 1 ≤ Int32.toInt (M.1 131 (Int32.toNatClampNeg n1)) ∧ Int32.toInt (M.1 131 (Int32.toNatClampNeg n1)) ≤ 1 := (by have u0 := b21_; have u1 := (not_congr (zi_eq _ _)).mp c22_; have u2 := (show 0 ≤ Int32.toInt 0 ∧ Int32.toInt 0 ≤ 0 from (by decide)); omega)
        refine pw_blkw hT 8 (pc := 32) (lo := [some (pvR 124), some (pvI n1), some (pvI n2), some (pvI 1)]) (st := []) (M := pvu M 131 (Int32.toNatClampNeg n1) (vp_nar .boolean n2)) rfl ⟨trivial, trivial, trivial, trivial, rfl, trivial, trivial, ⟨rfl, (zr_in (n := 7) b18_ (by decide) (by decide))⟩, trivial⟩ (fun M29_ e30_ => ?_)
        have o31_ : pvOk M29_ := pvok_u2 e30_ hok rfl (zboolr n2)
        have f32_ : pvFr fp_X10_put_124_x_x M M29_ := pvfr_u e30_ pvfr_0 rfl
        refine pw_blk hT 1 (S' := (33, [some (pvR 124), some (pvI n1), some (pvI n2), some (pvI 1)], [pvI 1], M29_)) rfl ⟨trivial, trivial⟩ ?_
        exact pw_ret hT rfl (r := some (pvI 1)) (M' := M29_) ⟨rfl, rfl⟩ ⟨⟨_, rfl, (zr_wide (show 1 ≤ Int32.toInt 1 ∧ Int32.toInt 1 ≤ 1 from (by decide)) (by decide) (by decide))⟩, o31_, f32_⟩
set_option maxHeartbeats 4000000 in
set_option maxRecDepth 10000 in
theorem sf_X10_read_124_x_x (M : pvM) (hok : pvOk M) (n1 : Int32) (n2 : Int32) (d : Nat) : PW 68 d (0, [some (pvR 124), some (pvI n1), some (pvI n2)], [], M) (fun r X => (∃ x : Int64, r = some (pvJ x)) ∧ X = M) := by
  have hT : pvdom 68 = pvD_68 := rfl
  refine pw_blk hT 2 (S' := (2, [some (pvR 124), some (pvI n1), some (pvI n2)], [pvI n1, pvR 124], M)) rfl ⟨trivial, trivial, trivial⟩ ?_
  refine pw_callT hT (as := [pvR 124, pvI n1]) (lo1 := [some (pvR 124), some (pvI n1)]) (d1 := d) (rest := []) rfl rfl rfl rfl rfl (fun _ => rfl) (Nat.zero_le _) rfl rfl rfl (sf_X10_isTape_124_x M hok n1 d) ?_
  by_cases c6_ : n1 < 0
  · refine pw_eqI (if_pos c6_) ?_
    have b7_ : (-2147483648) ≤ Int32.toInt n1 ∧ Int32.toInt n1 ≤ (-1) := zr_lt_l (-1) c6_ (zbnd n1) (show 0 ≤ Int32.toInt 0 ∧ Int32.toInt 0 ≤ 0 from (by decide)) (by decide)
    show PW 68 d (5, [some (pvR 124), some (pvI n1), some (pvI n2)], [pvI 0], M) _
    refine pw_if hT (c := 0 = 0) rfl rfl (fun c8_ => ?_) (fun c8_ => absurd (by decide) c8_)
    refine pw_blk hT 2 (S' := (51, [some (pvR 124), some (pvI n1), some (pvI n2)], [pvJ (-9223372036854775808)], M)) rfl ⟨trivial, trivial, trivial⟩ ?_
    exact pw_ret hT rfl (r := some (pvJ (-9223372036854775808))) (M' := M) ⟨rfl, rfl⟩ ⟨⟨_, rfl⟩, rfl⟩
  · refine pw_eqI (if_neg c6_) ?_
    have b9_ : 0 ≤ Int32.toInt n1 ∧ Int32.toInt n1 ≤ 2147483647 := zr_nlt_l 0 c6_ (zbnd n1) (show 0 ≤ Int32.toInt 0 ∧ Int32.toInt 0 ≤ 0 from (by decide)) (by decide)
    by_cases c10_ : 5 < n1
    · refine pw_eqI (if_pos c10_) ?_
      have b11_ : 6 ≤ Int32.toInt n1 ∧ Int32.toInt n1 ≤ 2147483647 := zr_lt_r 6 c10_ b9_ (show 5 ≤ Int32.toInt 5 ∧ Int32.toInt 5 ≤ 5 from (by decide)) (by decide)
      show PW 68 d (5, [some (pvR 124), some (pvI n1), some (pvI n2)], [pvI 0], M) _
      refine pw_if hT (c := 0 = 0) rfl rfl (fun c12_ => ?_) (fun c12_ => absurd (by decide) c12_)
      refine pw_blk hT 2 (S' := (51, [some (pvR 124), some (pvI n1), some (pvI n2)], [pvJ (-9223372036854775808)], M)) rfl ⟨trivial, trivial, trivial⟩ ?_
      exact pw_ret hT rfl (r := some (pvJ (-9223372036854775808))) (M' := M) ⟨rfl, rfl⟩ ⟨⟨_, rfl⟩, rfl⟩
    · refine pw_eqI (if_neg c10_) ?_
      have b13_ : 0 ≤ Int32.toInt n1 ∧ Int32.toInt n1 ≤ 5 := zr_nlt_r 5 c10_ b9_ (show 5 ≤ Int32.toInt 5 ∧ Int32.toInt 5 ≤ 5 from (by decide)) (by decide)
      show PW 68 d (5, [some (pvR 124), some (pvI n1), some (pvI n2)], [pvI 1], M) _
      refine pw_if hT (c := 1 = 0) rfl rfl (fun c14_ => absurd c14_ (by decide)) (fun c14_ => ?_)
      have b15_ : (-1) ≤ Int32.toInt (M.1 164 (Int32.toNatClampNeg n1)) ∧ Int32.toInt (M.1 164 (Int32.toNatClampNeg n1)) ≤ 4 := pvok_r hok 164 (Int32.toNatClampNeg n1) rfl
      refine pw_blk hT 4 (S' := (14, [some (pvR 124), some (pvI n1), some (pvI n2)], [pvI (M.1 164 (Int32.toNatClampNeg n1))], M)) rfl ⟨trivial, rfl, trivial, ⟨rfl, (zr_in (n := 6) b13_ (by decide) (by decide))⟩, trivial⟩ ?_
      refine pw_if hT (c := (M.1 164 (Int32.toNatClampNeg n1)) < 0) rfl rfl (fun c16_ => ?_) (fun c16_ => ?_)
      · have b17_ : (-1) ≤ Int32.toInt (M.1 164 (Int32.toNatClampNeg n1)) ∧ Int32.toInt (M.1 164 (Int32.toNatClampNeg n1)) ≤ (-1) := zr_lt_l (-1) c16_ b15_ (show 0 ≤ Int32.toInt 0 ∧ Int32.toInt 0 ≤ 0 from (by decide)) (by decide)
        refine pw_blk hT 2 (S' := (51, [some (pvR 124), some (pvI n1), some (pvI n2)], [pvJ (-9223372036854775808)], M)) rfl ⟨trivial, trivial, trivial⟩ ?_
        exact pw_ret hT rfl (r := some (pvJ (-9223372036854775808))) (M' := M) ⟨rfl, rfl⟩ ⟨⟨_, rfl⟩, rfl⟩
      · have b18_ : 0 ≤ Int32.toInt (M.1 164 (Int32.toNatClampNeg n1)) ∧ Int32.toInt (M.1 164 (Int32.toNatClampNeg n1)) ≤ 4 := zr_nlt_l 0 c16_ b15_ (show 0 ≤ Int32.toInt 0 ∧ Int32.toInt 0 ≤ 0 from (by decide)) (by decide)
        have b19_ : 0 ≤ Int32.toInt (M.1 165 (Int32.toNatClampNeg n1)) ∧ Int32.toInt (M.1 165 (Int32.toNatClampNeg n1)) ≤ 60 := pvok_r hok 165 (Int32.toNatClampNeg n1) rfl
        obtain ⟨q21_, b20_⟩ : (Int32.toInt ((M.1 165 (Int32.toNatClampNeg n1)) - 1) = Int32.toInt (M.1 165 (Int32.toNatClampNeg n1)) - Int32.toInt 1) ∧ ((-1) ≤ Int32.toInt ((M.1 165 (Int32.toNatClampNeg n1)) - 1) ∧ Int32.toInt ((M.1 165 (Int32.toNatClampNeg n1)) - 1) ≤ 59) := zsub_r (M.1 165 (Int32.toNatClampNeg n1)) 1 (-1) 59 b19_ (show 1 ≤ Int32.toInt 1 ∧ Int32.toInt 1 ≤ 1 from (by decide)) (by decide) (by decide) (by decide) (by decide)
        have u22_ : Int32.toInt 1 = 1 := by decide
        refine pw_blk hT 9 (S' := (28, [some (pvR 124), some (pvI n1), some (pvI n2)], [pvI ((M.1 165 (Int32.toNatClampNeg n1)) - 1), pvI 0, pvI n2, pvR 124], M)) rfl ⟨trivial, trivial, trivial, trivial, rfl, trivial, ⟨rfl, (zr_in (n := 6) b13_ (by decide) (by decide))⟩, trivial, trivial, trivial⟩ ?_
        refine pw_callT hT (as := [pvR 124, pvI n2, pvI 0, pvI ((M.1 165 (Int32.toNatClampNeg n1)) - 1)]) (lo1 := [some (pvR 124), some (pvI n2), some (pvI 0), some (pvI ((M.1 165 (Int32.toNatClampNeg n1)) - 1))]) (d1 := d) (rest := []) rfl rfl rfl rfl rfl (fun _ => rfl) (Nat.zero_le _) rfl rfl rfl (sf_X10_in_124_x_x_x M hok n2 0 ((M.1 165 (Int32.toNatClampNeg n1)) - 1) d) ?_
        by_cases c28_ : n2 < 0
        · refine pw_eqI (if_pos c28_) ?_
          have b29_ : (-2147483648) ≤ Int32.toInt n2 ∧ Int32.toInt n2 ≤ (-1) := zr_lt_l (-1) c28_ (zbnd n2) (show 0 ≤ Int32.toInt 0 ∧ Int32.toInt 0 ≤ 0 from (by decide)) (by decide)
          show PW 68 d (31, [some (pvR 124), some (pvI n1), some (pvI n2)], [pvI 0], M) _
          refine pw_ifn hT (c := 0 = 0) rfl rfl (fun c30_ => absurd (by decide) c30_) (fun c30_ => ?_)
          refine pw_blk hT 2 (S' := (51, [some (pvR 124), some (pvI n1), some (pvI n2)], [pvJ (-9223372036854775808)], M)) rfl ⟨trivial, trivial, trivial⟩ ?_
          exact pw_ret hT rfl (r := some (pvJ (-9223372036854775808))) (M' := M) ⟨rfl, rfl⟩ ⟨⟨_, rfl⟩, rfl⟩
        · refine pw_eqI (if_neg c28_) ?_
          have b31_ : 0 ≤ Int32.toInt n2 ∧ Int32.toInt n2 ≤ 2147483647 := zr_nlt_l 0 c28_ (zbnd n2) (show 0 ≤ Int32.toInt 0 ∧ Int32.toInt 0 ≤ 0 from (by decide)) (by decide)
          by_cases c32_ : ((M.1 165 (Int32.toNatClampNeg n1)) - 1) < n2
          · refine pw_eqI (if_pos c32_) ?_
            have d33_ : Int32.toInt ((M.1 165 (Int32.toNatClampNeg n1)) - 1) < Int32.toInt n2 := (zi_lt _ _).mp c32_
            show PW 68 d (31, [some (pvR 124), some (pvI n1), some (pvI n2)], [pvI 0], M) _
            refine pw_ifn hT (c := 0 = 0) rfl rfl (fun c34_ => absurd (by decide) c34_) (fun c34_ => ?_)
            refine pw_blk hT 2 (S' := (51, [some (pvR 124), some (pvI n1), some (pvI n2)], [pvJ (-9223372036854775808)], M)) rfl ⟨trivial, trivial, trivial⟩ ?_
            exact pw_ret hT rfl (r := some (pvJ (-9223372036854775808))) (M' := M) ⟨rfl, rfl⟩ ⟨⟨_, rfl⟩, rfl⟩
          · refine pw_eqI (if_neg c32_) ?_
            have b35_ : 0 ≤ Int32.toInt ((M.1 165 (Int32.toNatClampNeg n1)) - 1) ∧ Int32.toInt ((M.1 165 (Int32.toNatClampNeg n1)) - 1) ≤ 59 := zr_nlt_l 0 c32_ b20_ b31_ (by decide)
            have b36_ : 0 ≤ Int32.toInt n2 ∧ Int32.toInt n2 ≤ 59 := zr_nlt_r 59 c32_ b31_ b35_ (by decide)
            have d37_ : Int32.toInt ((M.1 165 (Int32.toNatClampNeg n1)) - 1) ≥ Int32.toInt n2 := Int.not_lt.mp ((not_congr (zi_lt _ _)).mp c32_)
            show PW 68 d (31, [some (pvR 124), some (pvI n1), some (pvI n2)], [pvI 1], M) _
            refine pw_ifn hT (c := 1 = 0) rfl rfl (fun c38_ => ?_) (fun c38_ => absurd c38_ (by decide))
            have q39_ : Int32.toInt (60 * n1) = 60 * Int32.toInt n1 := by have u0 : Int32.toInt 60 = 60 := (by decide); have u1 := b13_; have u2 := zmul 60 n1 (by rw [u0]; omega) (by rw [u0]; omega); rw [u0] at u2; omega
            have b40_ : 0 ≤ Int32.toInt (60 * n1) ∧ Int32.toInt (60 * n1) ≤ 300 := (by have u1 := b13_; omega)
            obtain ⟨q42_, b41_⟩ : (Int32.toInt ((60 * n1) + n2) = Int32.toInt (60 * n1) + Int32.toInt n2) ∧ (0 ≤ Int32.toInt ((60 * n1) + n2) ∧ Int32.toInt ((60 * n1) + n2) ≤ 359) := zadd_r (60 * n1) n2 0 359 b40_ b36_ (by decide) (by decide) (by decide) (by decide)
            refine pw_blk hT 8 (S' := (51, [some (pvR 124), some (pvI n1), some (pvI n2)], [pvJ (M.2 166 (Int32.toNatClampNeg ((60 * n1) + n2)))], M)) rfl ⟨trivial, rfl, trivial, trivial, trivial, trivial, trivial, ⟨rfl, (zr_in (n := 360) b41_ (by decide) (by decide))⟩, trivial⟩ ?_
            exact pw_ret hT rfl (r := some (pvJ (M.2 166 (Int32.toNatClampNeg ((60 * n1) + n2))))) (M' := M) ⟨rfl, rfl⟩ ⟨⟨_, rfl⟩, rfl⟩
def fpL_X10_round_124_x : List (Nat × Nat × Nat) := [(0, 124, 33), (0, 124, 36), (0, 141, 0), (0, 142, 0), (0, 143, 0), (0, 144, 0)]
def fp_X10_round_124_x (q k : Nat) : Bool := pvfp fpL_X10_round_124_x q k
theorem fp_X10_round_124_x_fp_X10_costOfRound_124_x (a b : Nat) (h : fp_X10_costOfRound_124_x a b = true) : fp_X10_round_124_x a b = true := pvfp_sub (l1 := fpL_X10_costOfRound_124_x) (l2 := fpL_X10_round_124_x) (by decide) a b h
theorem fp_X10_round_124_x_fp_X10_goes_124_x_x_x (a b : Nat) (h : fp_X10_goes_124_x_x_x a b = true) : fp_X10_round_124_x a b = true := pvfp_sub (l1 := fpL_X10_goes_124_x_x_x) (l2 := fpL_X10_round_124_x) (by decide) a b h
theorem fp_X10_round_124_x_fp_X10_layOpen_124 (a b : Nat) (h : fp_X10_layOpen_124 a b = true) : fp_X10_round_124_x a b = true := pvfp_sub (l1 := fpL_X10_layOpen_124) (l2 := fpL_X10_round_124_x) (by decide) a b h
theorem fp_X10_round_124_x_fp_X10_layRound_124 (a b : Nat) (h : fp_X10_layRound_124 a b = true) : fp_X10_round_124_x a b = true := pvfp_sub (l1 := fpL_X10_layRound_124) (l2 := fpL_X10_round_124_x) (by decide) a b h
set_option maxHeartbeats 4000000 in
set_option maxRecDepth 10000 in
theorem sf_X10_round_124_x (M : pvM) (hok : pvOk M) (n1 : Int32) (d : Nat) : PW 69 d (0, [some (pvR 124), some (pvI n1), none, none, none], [], M) (fun r X => (∃ x : Int32, r = some (pvI x) ∧ True) ∧ pvOk X ∧ pvFr fp_X10_round_124_x M X) := by
  have hT : pvdom 69 = pvD_69 := rfl
  refine pw_blk hT 4 (S' := (4, [some (pvR 124), some (pvI n1), none, none, none], [pvI 2, pvI 0, pvI n1, pvR 124], M)) rfl ⟨trivial, trivial, trivial, trivial, trivial⟩ ?_
  refine pw_callT hT (as := [pvR 124, pvI n1, pvI 0, pvI 2]) (lo1 := [some (pvR 124), some (pvI n1), some (pvI 0), some (pvI 2)]) (d1 := d) (rest := []) rfl rfl rfl rfl rfl (fun _ => rfl) (Nat.zero_le _) rfl rfl rfl (sf_X10_in_124_x_x_x M hok n1 0 2 d) ?_
  by_cases c6_ : n1 < 0
  · refine pw_eqI (if_pos c6_) ?_
    have b7_ : (-2147483648) ≤ Int32.toInt n1 ∧ Int32.toInt n1 ≤ (-1) := zr_lt_l (-1) c6_ (zbnd n1) (show 0 ≤ Int32.toInt 0 ∧ Int32.toInt 0 ≤ 0 from (by decide)) (by decide)
    show PW 69 d (7, [some (pvR 124), some (pvI n1), none, none, none], [pvI 0], M) _
    refine pw_ifn hT (c := 0 = 0) rfl rfl (fun c8_ => absurd (by decide) c8_) (fun c8_ => ?_)
    refine pw_blk hT 1 (S' := (11, [some (pvR 124), some (pvI n1), none, none, none], [pvI (-1)], M)) rfl ⟨trivial, trivial⟩ ?_
    exact pw_ret hT rfl (r := some (pvI (-1))) (M' := M) ⟨rfl, rfl⟩ ⟨⟨_, rfl, trivial⟩, hok, pvfr_0⟩
  · refine pw_eqI (if_neg c6_) ?_
    have b9_ : 0 ≤ Int32.toInt n1 ∧ Int32.toInt n1 ≤ 2147483647 := zr_nlt_l 0 c6_ (zbnd n1) (show 0 ≤ Int32.toInt 0 ∧ Int32.toInt 0 ≤ 0 from (by decide)) (by decide)
    by_cases c10_ : 2 < n1
    · refine pw_eqI (if_pos c10_) ?_
      have b11_ : 3 ≤ Int32.toInt n1 ∧ Int32.toInt n1 ≤ 2147483647 := zr_lt_r 3 c10_ b9_ (show 2 ≤ Int32.toInt 2 ∧ Int32.toInt 2 ≤ 2 from (by decide)) (by decide)
      show PW 69 d (7, [some (pvR 124), some (pvI n1), none, none, none], [pvI 0], M) _
      refine pw_ifn hT (c := 0 = 0) rfl rfl (fun c12_ => absurd (by decide) c12_) (fun c12_ => ?_)
      refine pw_blk hT 1 (S' := (11, [some (pvR 124), some (pvI n1), none, none, none], [pvI (-1)], M)) rfl ⟨trivial, trivial⟩ ?_
      exact pw_ret hT rfl (r := some (pvI (-1))) (M' := M) ⟨rfl, rfl⟩ ⟨⟨_, rfl, trivial⟩, hok, pvfr_0⟩
    · refine pw_eqI (if_neg c10_) ?_
      have b13_ : 0 ≤ Int32.toInt n1 ∧ Int32.toInt n1 ≤ 2 := zr_nlt_r 2 c10_ b9_ (show 2 ≤ Int32.toInt 2 ∧ Int32.toInt 2 ≤ 2 from (by decide)) (by decide)
      show PW 69 d (7, [some (pvR 124), some (pvI n1), none, none, none], [pvI 1], M) _
      refine pw_ifn hT (c := 1 = 0) rfl rfl (fun c14_ => ?_) (fun c14_ => absurd c14_ (by decide))
      refine pw_blk hT 1 (S' := (13, [some (pvR 124), some (pvI n1), none, none, none], [pvI n1], M)) rfl ⟨trivial, trivial⟩ ?_
      refine pw_ifn hT (c := n1 = 0) rfl rfl (fun c15_ => ?_) (fun c15_ => ?_)
      · have b16_ : 1 ≤ Int32.toInt n1 ∧ Int32.toInt n1 ≤ 2 := (by have u0 := b13_; have u1 := (not_congr (zi_eq _ _)).mp c15_; have u2 := (show 0 ≤ Int32.toInt 0 ∧ Int32.toInt 0 ≤ 0 from (by decide)); omega)
        refine pw_blk hT 1 (S' := (23, [some (pvR 124), some (pvI n1), none, none, none], [pvR 124], M)) rfl ⟨trivial, trivial⟩ ?_
        refine pw_callV hT (as := [pvR 124]) (lo1 := [some (pvR 124), none]) (d1 := d) (rest := []) rfl rfl rfl rfl rfl (fun _ => rfl) (Nat.zero_le _) rfl rfl rfl (sf_X10_layRound_124 M hok d) (fun M18_ o20_ g21_ => ?_)
        have f22_ : pvFr fp_X10_round_124_x M M18_ := pvfr_t g21_ pvfr_0 fp_X10_round_124_x_fp_X10_layRound_124
        refine pw_blk hT 1 (S' := (27, [some (pvR 124), some (pvI n1), none, none, none], [pvR 124], M18_)) rfl ⟨trivial, trivial⟩ ?_
        refine pw_callV hT (as := [pvR 124]) (lo1 := [some (pvR 124), none]) (d1 := d) (rest := []) rfl rfl rfl rfl rfl (fun _ => rfl) (Nat.zero_le _) rfl rfl rfl (sf_X10_layOpen_124 M18_ o20_ d) (fun M24_ o26_ g27_ => ?_)
        have f28_ : pvFr fp_X10_round_124_x M M24_ := pvfr_t g27_ f22_ fp_X10_round_124_x_fp_X10_layOpen_124
        have b29_ : 0 ≤ Int32.toInt (M24_.1 124 35) ∧ Int32.toInt (M24_.1 124 35) ≤ 7 := pvok_r o26_ 124 35 rfl
        have b30_ : 0 ≤ Int32.toInt (M24_.1 124 1) ∧ Int32.toInt (M24_.1 124 1) ≤ 9999 := pvok_r o26_ 124 1 rfl
        refine pw_blk hT 6 (S' := (40, [some (pvR 124), some (pvI n1), none, none, none], [pvI (M24_.1 124 1), pvI (M24_.1 124 35), pvI 0, pvR 124], M24_)) rfl ⟨trivial, trivial, trivial, rfl, trivial, rfl, trivial⟩ ?_
        refine pw_callG hT (as := [pvR 124, pvI 0, pvI (M24_.1 124 35), pvI (M24_.1 124 1)]) (lo1 := [some (pvR 124), some (pvI 0), some (pvI (M24_.1 124 35)), some (pvI (M24_.1 124 1)), none, none, none, none, none]) (d1 := d) (rest := []) rfl rfl rfl rfl rfl (fun _ => rfl) (Nat.zero_le _) rfl rfl rfl (sf_X10_goes_124_x_x_x M24_ o26_ 0 (M24_.1 124 35) (M24_.1 124 1) (zr_wide (show 0 ≤ Int32.toInt 0 ∧ Int32.toInt 0 ≤ 0 from (by decide)) (by decide) (by decide)) b29_ (zr_wide b30_ (by decide) (by decide)) d) (fun x31_ M32_ b33_ o34_ g35_ => ?_)
        have f36_ : pvFr fp_X10_round_124_x M M32_ := pvfr_t g35_ f28_ fp_X10_round_124_x_fp_X10_goes_124_x_x_x
        refine pw_blk hT 3 (S' := (46, [some (pvR 124), some (pvI n1), some (pvI x31_), none, none], [pvI 1, pvI n1], M32_)) rfl ⟨trivial, trivial, trivial, trivial⟩ ?_
        refine pw_icn hT (c := n1 = 1) rfl rfl (fun c37_ => ?_) (fun c37_ => ?_)
        · have b38_ : 2 ≤ Int32.toInt n1 ∧ Int32.toInt n1 ≤ 2 := (by have u0 := b16_; have u1 := (not_congr (zi_eq _ _)).mp c37_; have u2 := (show 1 ≤ Int32.toInt 1 ∧ Int32.toInt 1 ≤ 1 from (by decide)); omega)
          refine pw_blk hT 4 (S' := (56, [some (pvR 124), some (pvI n1), some (pvI x31_), some (pvI 0), some (pvI 0)], [], M32_)) rfl ⟨trivial, trivial, trivial, trivial, trivial⟩ ?_
          have hlz113_ : ∀ (nz113_ : Nat) (i3z113_ : Int32) (i4z113_ : Int32), (0 ≤ Int32.toInt i4z113_ ∧ Int32.toInt i4z113_ ≤ 7) → ((8 - Int32.toInt i4z113_).toNat < nz113_) → PW 69 d (56, [some (pvR 124), some (pvI n1), some (pvI x31_), some (pvI i3z113_), some (pvI i4z113_)], [], M32_) (fun r X => (∃ x : Int32, r = some (pvI x) ∧ True) ∧ pvOk X ∧ pvFr fp_X10_round_124_x M X) := by
            intro nz113_
            induction nz113_ with
            | zero => intro i3z113_ i4z113_ h4z113_ hmz113_; exact absurd hmz113_ (Nat.not_lt_zero _)
            | succ nz113_ ihz113_ =>
              intro i3z113_ i4z113_ h4z113_ hmz113_
              have b114_ : 0 ≤ Int32.toInt (M32_.1 124 37) ∧ Int32.toInt (M32_.1 124 37) ≤ 7 := pvok_r o34_ 124 37 rfl
              refine pw_blk hT 3 (S' := (62, [some (pvR 124), some (pvI n1), some (pvI x31_), some (pvI i3z113_), some (pvI i4z113_)], [pvI (M32_.1 124 37), pvI i4z113_], M32_)) rfl ⟨trivial, trivial, rfl, trivial⟩ ?_
              refine pw_ic hT (c := (M32_.1 124 37) ≤ i4z113_) rfl rfl (fun c115_ => ?_) (fun c115_ => ?_)
              · have d116_ : Int32.toInt (M32_.1 124 37) ≤ Int32.toInt i4z113_ := (zi_le _ _).mp c115_
                refine pw_blk hT 1 (S' := (99, [some (pvR 124), some (pvI n1), some (pvI x31_), some (pvI i3z113_), some (pvI i4z113_)], [pvI i3z113_], M32_)) rfl ⟨trivial, trivial⟩ ?_
                exact pw_ret hT rfl (r := some (pvI i3z113_)) (M' := M32_) ⟨rfl, rfl⟩ ⟨⟨_, rfl, trivial⟩, o34_, f36_⟩
              · have b117_ : 1 ≤ Int32.toInt (M32_.1 124 37) ∧ Int32.toInt (M32_.1 124 37) ≤ 7 := zr_nle_l 1 c115_ b114_ h4z113_ (by decide)
                have b118_ : 0 ≤ Int32.toInt i4z113_ ∧ Int32.toInt i4z113_ ≤ 6 := zr_nle_r 6 c115_ h4z113_ b117_ (by decide)
                have d119_ : Int32.toInt (M32_.1 124 37) > Int32.toInt i4z113_ := Int.not_le.mp ((not_congr (zi_le _ _)).mp c115_)
                have b120_ : 0 ≤ Int32.toInt (M32_.1 145 (Int32.toNatClampNeg i4z113_)) ∧ Int32.toInt (M32_.1 145 (Int32.toNatClampNeg i4z113_)) ≤ 6 := pvok_r o34_ 145 (Int32.toNatClampNeg i4z113_) rfl
                have b121_ : (-1) ≤ Int32.toInt (M32_.1 143 (Int32.toNatClampNeg (M32_.1 145 (Int32.toNatClampNeg i4z113_)))) ∧ Int32.toInt (M32_.1 143 (Int32.toNatClampNeg (M32_.1 145 (Int32.toNatClampNeg i4z113_)))) ≤ 99999 := pvok_r o34_ 143 (Int32.toNatClampNeg (M32_.1 145 (Int32.toNatClampNeg i4z113_))) rfl
                have b122_ : 0 ≤ Int32.toInt (M32_.1 124 3) ∧ Int32.toInt (M32_.1 124 3) ≤ 108 := pvok_r o34_ 124 3 rfl
                refine pw_blk hT 10 (S' := (82, [some (pvR 124), some (pvI n1), some (pvI x31_), some (pvI i3z113_), some (pvI i4z113_)], [pvI (M32_.1 124 3), pvI (M32_.1 143 (Int32.toNatClampNeg (M32_.1 145 (Int32.toNatClampNeg i4z113_)))), pvI i3z113_], M32_)) rfl ⟨trivial, trivial, rfl, trivial, rfl, trivial, ⟨rfl, (zr_in (n := 7) b118_ (by decide) (by decide))⟩, ⟨rfl, (zr_in (n := 7) b120_ (by decide) (by decide))⟩, trivial, rfl, trivial⟩ ?_
                refine pw_ic hT (c := (M32_.1 124 3) < (M32_.1 143 (Int32.toNatClampNeg (M32_.1 145 (Int32.toNatClampNeg i4z113_))))) rfl rfl (fun c123_ => ?_) (fun c123_ => ?_)
                · have b124_ : 1 ≤ Int32.toInt (M32_.1 143 (Int32.toNatClampNeg (M32_.1 145 (Int32.toNatClampNeg i4z113_)))) ∧ Int32.toInt (M32_.1 143 (Int32.toNatClampNeg (M32_.1 145 (Int32.toNatClampNeg i4z113_)))) ≤ 99999 := zr_lt_r 1 c123_ b121_ b122_ (by decide)
                  have d125_ : Int32.toInt (M32_.1 124 3) < Int32.toInt (M32_.1 143 (Int32.toNatClampNeg (M32_.1 145 (Int32.toNatClampNeg i4z113_)))) := (zi_lt _ _).mp c123_
                  obtain ⟨q127_, b126_⟩ : (Int32.toInt (i3z113_ + 0) = Int32.toInt i3z113_ + Int32.toInt 0) ∧ ((-2147483648) ≤ Int32.toInt (i3z113_ + 0) ∧ Int32.toInt (i3z113_ + 0) ≤ 2147483647) := zadd_r i3z113_ 0 (-2147483648) 2147483647 (zbnd i3z113_) (show 0 ≤ Int32.toInt 0 ∧ Int32.toInt 0 ≤ 0 from (by decide)) (by decide) (by decide) (by decide) (by decide)
                  have u128_ : Int32.toInt 0 = 0 := by decide
                  obtain ⟨q130_, b129_⟩ : (Int32.toInt (i4z113_ + 1) = Int32.toInt i4z113_ + Int32.toInt 1) ∧ (1 ≤ Int32.toInt (i4z113_ + 1) ∧ Int32.toInt (i4z113_ + 1) ≤ 7) := zadd_r i4z113_ 1 1 7 b118_ (show 1 ≤ Int32.toInt 1 ∧ Int32.toInt 1 ≤ 1 from (by decide)) (by decide) (by decide) (by decide) (by decide)
                  have u131_ : Int32.toInt 1 = 1 := by decide
                  refine pw_blk hT 5 (S' := (56, [some (pvR 124), some (pvI n1), some (pvI x31_), some (pvI (i3z113_ + 0)), some (pvI (i4z113_ + 1))], [], M32_)) rfl ⟨trivial, trivial, trivial, trivial, trivial, trivial⟩ ?_
                  exact ihz113_ (i3z113_ + 0) (i4z113_ + 1) (zr_wide b129_ (by decide) (by decide)) (by omega)
                · have b132_ : (-1) ≤ Int32.toInt (M32_.1 143 (Int32.toNatClampNeg (M32_.1 145 (Int32.toNatClampNeg i4z113_)))) ∧ Int32.toInt (M32_.1 143 (Int32.toNatClampNeg (M32_.1 145 (Int32.toNatClampNeg i4z113_)))) ≤ 108 := zr_nlt_r 108 c123_ b121_ b122_ (by decide)
                  have d133_ : Int32.toInt (M32_.1 124 3) ≥ Int32.toInt (M32_.1 143 (Int32.toNatClampNeg (M32_.1 145 (Int32.toNatClampNeg i4z113_)))) := Int.not_lt.mp ((not_congr (zi_lt _ _)).mp c123_)
                  obtain ⟨q135_, b134_⟩ : (Int32.toInt (i4z113_ + 1) = Int32.toInt i4z113_ + Int32.toInt 1) ∧ (1 ≤ Int32.toInt (i4z113_ + 1) ∧ Int32.toInt (i4z113_ + 1) ≤ 7) := zadd_r i4z113_ 1 1 7 b118_ (show 1 ≤ Int32.toInt 1 ∧ Int32.toInt 1 ≤ 1 from (by decide)) (by decide) (by decide) (by decide) (by decide)
                  have u136_ : Int32.toInt 1 = 1 := by decide
                  refine pw_blk hT 6 (S' := (56, [some (pvR 124), some (pvI n1), some (pvI x31_), some (pvI (i3z113_ + 1)), some (pvI (i4z113_ + 1))], [], M32_)) rfl ⟨trivial, trivial, trivial, trivial, trivial, trivial, trivial⟩ ?_
                  exact ihz113_ (i3z113_ + 1) (i4z113_ + 1) (zr_wide b134_ (by decide) (by decide)) (by omega)
          exact hlz113_ _ 0 0 (zr_wide (show 0 ≤ Int32.toInt 0 ∧ Int32.toInt 0 ≤ 0 from (by decide)) (by decide) (by decide)) (Nat.lt_succ_self _)
        · have b137_ : 1 ≤ Int32.toInt n1 ∧ Int32.toInt n1 ≤ 1 := (by have u0 := b16_; have u1 := (zi_eq _ _).mp c37_; have u2 := (show 1 ≤ Int32.toInt 1 ∧ Int32.toInt 1 ≤ 1 from (by decide)); omega)
          refine pw_blk hT 1 (S' := (50, [some (pvR 124), some (pvI n1), some (pvI x31_), none, none], [pvI x31_], M32_)) rfl ⟨trivial, trivial⟩ ?_
          exact pw_ret hT rfl (r := some (pvI x31_)) (M' := M32_) ⟨rfl, rfl⟩ ⟨⟨_, rfl, trivial⟩, o34_, f36_⟩
      · have b138_ : 0 ≤ Int32.toInt n1 ∧ Int32.toInt n1 ≤ 0 := (by have u0 := b13_; have u1 := (zi_eq _ _).mp c15_; have u2 := (show 0 ≤ Int32.toInt 0 ∧ Int32.toInt 0 ≤ 0 from (by decide)); omega)
        refine pw_blk hT 2 (S' := (18, [some (pvR 124), some (pvI n1), none, none, none], [pvI 0, pvR 124], M)) rfl ⟨trivial, trivial, trivial⟩ ?_
        refine pw_callG hT (as := [pvR 124, pvI 0]) (lo1 := [some (pvR 124), some (pvI 0)]) (d1 := d) (rest := []) rfl rfl rfl rfl rfl (fun _ => rfl) (Nat.zero_le _) rfl rfl rfl (sf_X10_costOfRound_124_x M hok 0 (zr_wide (show 0 ≤ Int32.toInt 0 ∧ Int32.toInt 0 ≤ 0 from (by decide)) (by decide) (by decide)) d) (fun x139_ M140_ b141_ o142_ g143_ => ?_)
        have f144_ : pvFr fp_X10_round_124_x M M140_ := pvfr_t g143_ pvfr_0 fp_X10_round_124_x_fp_X10_costOfRound_124_x
        exact pw_ret hT rfl (r := some (pvI x139_)) (M' := M140_) ⟨rfl, rfl⟩ ⟨⟨_, rfl, trivial⟩, o142_, f144_⟩
