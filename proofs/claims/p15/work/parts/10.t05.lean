set_option maxHeartbeats 4000000 in
set_option maxRecDepth 10000 in
theorem sf_X10_isDigit_124 (M : pvM) (hok : pvOk M) (d : Nat) : PW 37 d (0, [some (pvR 124)], [], M) (fun r X => r = some (pvI ((if (M.1 124 16) ≤ (M.1 124 17) then 0 else (if (M.1 132 (Int32.toNatClampNeg (M.1 124 17))) < 48 then 0 else (if 57 < (M.1 132 (Int32.toNatClampNeg (M.1 124 17))) then 0 else 1))))) ∧ X = M) := by
  have hT : pvdom 37 = pvD_37 := rfl
  refine pw_blk hT 2 (S' := (2, [some (pvR 124)], [pvR 124, pvR 124], M)) rfl ⟨trivial, trivial, trivial⟩ ?_
  refine pw_callT hT (as := [pvR 124]) (lo1 := [some (pvR 124)]) (d1 := d) (rest := [pvR 124]) rfl rfl rfl rfl rfl (fun _ => rfl) (Nat.zero_le _) rfl rfl rfl (sf_X10_peek_124 M hok d) ?_
  have b6_ : 0 ≤ Int32.toInt (M.1 124 16) ∧ Int32.toInt (M.1 124 16) ≤ 100 := pvok_r hok 124 16 rfl
  have b7_ : 0 ≤ Int32.toInt (M.1 124 17) ∧ Int32.toInt (M.1 124 17) ≤ 100 := pvok_r hok 124 17 rfl
  by_cases c8_ : (M.1 124 16) ≤ (M.1 124 17)
  · refine pw_eqI (if_pos c8_) ?_
    have d9_ : Int32.toInt (M.1 124 16) ≤ Int32.toInt (M.1 124 17) := (zi_le _ _).mp c8_
    show PW 37 d (5, [some (pvR 124)], [pvI (-1), pvR 124], M) _
    refine pw_blk hT 2 (S' := (9, [some (pvR 124)], [pvI 57, pvI 48, pvI (-1), pvR 124], M)) rfl ⟨trivial, trivial, trivial⟩ ?_
    refine pw_callT hT (as := [pvR 124, pvI (-1), pvI 48, pvI 57]) (lo1 := [some (pvR 124), some (pvI (-1)), some (pvI 48), some (pvI 57)]) (d1 := d) (rest := []) rfl rfl rfl rfl rfl (fun _ => rfl) (Nat.zero_le _) rfl rfl rfl (sf_X10_in_124_x_x_x M hok (-1) 48 57 d) ?_
    refine pw_eqI (if_pos (by decide)) ?_
    show PW 37 d (12, [some (pvR 124)], [pvI 0], M) _
    exact pw_ret hT rfl (r := some (pvI 0)) (M' := M) ⟨Or.inl rfl, rfl, rfl⟩ ⟨(by rw [if_pos c8_]), rfl⟩
  · refine pw_eqI (if_neg c8_) ?_
    have b15_ : 1 ≤ Int32.toInt (M.1 124 16) ∧ Int32.toInt (M.1 124 16) ≤ 100 := zr_nle_l 1 c8_ b6_ b7_ (by decide)
    have b16_ : 0 ≤ Int32.toInt (M.1 124 17) ∧ Int32.toInt (M.1 124 17) ≤ 99 := zr_nle_r 99 c8_ b7_ b15_ (by decide)
    have d17_ : Int32.toInt (M.1 124 16) > Int32.toInt (M.1 124 17) := Int.not_le.mp ((not_congr (zi_le _ _)).mp c8_)
    have b18_ : 0 ≤ Int32.toInt (M.1 132 (Int32.toNatClampNeg (M.1 124 17))) ∧ Int32.toInt (M.1 132 (Int32.toNatClampNeg (M.1 124 17))) ≤ 127 := pvok_r hok 132 (Int32.toNatClampNeg (M.1 124 17)) rfl
    show PW 37 d (5, [some (pvR 124)], [pvI (M.1 132 (Int32.toNatClampNeg (M.1 124 17))), pvR 124], M) _
    refine pw_blk hT 2 (S' := (9, [some (pvR 124)], [pvI 57, pvI 48, pvI (M.1 132 (Int32.toNatClampNeg (M.1 124 17))), pvR 124], M)) rfl ⟨trivial, trivial, trivial⟩ ?_
    refine pw_callT hT (as := [pvR 124, pvI (M.1 132 (Int32.toNatClampNeg (M.1 124 17))), pvI 48, pvI 57]) (lo1 := [some (pvR 124), some (pvI (M.1 132 (Int32.toNatClampNeg (M.1 124 17)))), some (pvI 48), some (pvI 57)]) (d1 := d) (rest := []) rfl rfl rfl rfl rfl (fun _ => rfl) (Nat.zero_le _) rfl rfl rfl (sf_X10_in_124_x_x_x M hok (M.1 132 (Int32.toNatClampNeg (M.1 124 17))) 48 57 d) ?_
    by_cases c24_ : (M.1 132 (Int32.toNatClampNeg (M.1 124 17))) < 48
    · refine pw_eqI (if_pos c24_) ?_
      have b25_ : 0 ≤ Int32.toInt (M.1 132 (Int32.toNatClampNeg (M.1 124 17))) ∧ Int32.toInt (M.1 132 (Int32.toNatClampNeg (M.1 124 17))) ≤ 47 := zr_lt_l 47 c24_ b18_ (show 48 ≤ Int32.toInt 48 ∧ Int32.toInt 48 ≤ 48 from (by decide)) (by decide)
      show PW 37 d (12, [some (pvR 124)], [pvI 0], M) _
      exact pw_ret hT rfl (r := some (pvI 0)) (M' := M) ⟨Or.inl rfl, rfl, rfl⟩ ⟨(by rw [if_neg c8_, if_pos c24_]), rfl⟩
    · refine pw_eqI (if_neg c24_) ?_
      have b26_ : 48 ≤ Int32.toInt (M.1 132 (Int32.toNatClampNeg (M.1 124 17))) ∧ Int32.toInt (M.1 132 (Int32.toNatClampNeg (M.1 124 17))) ≤ 127 := zr_nlt_l 48 c24_ b18_ (show 48 ≤ Int32.toInt 48 ∧ Int32.toInt 48 ≤ 48 from (by decide)) (by decide)
      by_cases c27_ : 57 < (M.1 132 (Int32.toNatClampNeg (M.1 124 17)))
      · refine pw_eqI (if_pos c27_) ?_
        have b28_ : 58 ≤ Int32.toInt (M.1 132 (Int32.toNatClampNeg (M.1 124 17))) ∧ Int32.toInt (M.1 132 (Int32.toNatClampNeg (M.1 124 17))) ≤ 127 := zr_lt_r 58 c27_ b26_ (show 57 ≤ Int32.toInt 57 ∧ Int32.toInt 57 ≤ 57 from (by decide)) (by decide)
        show PW 37 d (12, [some (pvR 124)], [pvI 0], M) _
        exact pw_ret hT rfl (r := some (pvI 0)) (M' := M) ⟨Or.inl rfl, rfl, rfl⟩ ⟨(by rw [if_neg c8_, if_neg c24_, if_pos c27_]), rfl⟩
      · refine pw_eqI (if_neg c27_) ?_
        have b29_ : 48 ≤ Int32.toInt (M.1 132 (Int32.toNatClampNeg (M.1 124 17))) ∧ Int32.toInt (M.1 132 (Int32.toNatClampNeg (M.1 124 17))) ≤ 57 := zr_nlt_r 57 c27_ b26_ (show 57 ≤ Int32.toInt 57 ∧ Int32.toInt 57 ≤ 57 from (by decide)) (by decide)
        show PW 37 d (12, [some (pvR 124)], [pvI 1], M) _
        exact pw_ret hT rfl (r := some (pvI 1)) (M' := M) ⟨Or.inr rfl, rfl, rfl⟩ ⟨(by rw [if_neg c8_, if_neg c24_, if_neg c27_]), rfl⟩
def fpL_X10_takesNumber_124 : List (Nat × Nat × Nat) := [(0, 124, 18), (0, 124, 19)]
def fp_X10_takesNumber_124 (q k : Nat) : Bool := pvfp fpL_X10_takesNumber_124 q k
set_option maxHeartbeats 4000000 in
set_option maxRecDepth 10000 in
theorem sf_X10_takesNumber_124 (M : pvM) (hok : pvOk M) (d : Nat) : PW 86 d (0, [some (pvR 124), none], [], M) (fun r X => (∃ x : Int32, r = some (pvI x) ∧ 0 ≤ Int32.toInt x ∧ Int32.toInt x ≤ 1) ∧ pvOk X ∧ pvFr fp_X10_takesNumber_124 M X ∧ Int32.toInt (M.1 124 17) ≤ Int32.toInt (X.1 124 17)) := by
  have hT : pvdom 86 = pvD_86 := rfl
  refine pw_blk hT 1 (S' := (1, [some (pvR 124), none], [pvR 124], M)) rfl ⟨trivial, trivial⟩ ?_
  refine pw_callT hT (as := [pvR 124]) (lo1 := [some (pvR 124)]) (d1 := d) (rest := []) rfl rfl rfl rfl rfl (fun _ => rfl) (Nat.zero_le _) rfl rfl rfl (sf_X10_isDigit_124 M hok d) ?_
  have b6_ : 0 ≤ Int32.toInt (M.1 124 16) ∧ Int32.toInt (M.1 124 16) ≤ 100 := pvok_r hok 124 16 rfl
  have b7_ : 0 ≤ Int32.toInt (M.1 124 17) ∧ Int32.toInt (M.1 124 17) ≤ 100 := pvok_r hok 124 17 rfl
  by_cases c8_ : (M.1 124 16) ≤ (M.1 124 17)
  · refine pw_eqI (if_pos c8_) ?_
    have d9_ : Int32.toInt (M.1 124 16) ≤ Int32.toInt (M.1 124 17) := (zi_le _ _).mp c8_
    show PW 86 d (4, [some (pvR 124), none], [pvI 0], M) _
    refine pw_ifn hT (c := 0 = 0) rfl rfl (fun c10_ => absurd (by decide) c10_) (fun c10_ => ?_)
    refine pw_blk hT 1 (S' := (8, [some (pvR 124), none], [pvI 0], M)) rfl ⟨trivial, trivial⟩ ?_
    exact pw_ret hT rfl (r := some (pvI 0)) (M' := M) ⟨Or.inl rfl, rfl, rfl⟩ ⟨⟨_, rfl, (zr_wide (show 0 ≤ Int32.toInt 0 ∧ Int32.toInt 0 ≤ 0 from (by decide)) (by decide) (by decide))⟩, hok, pvfr_0, (by omega)⟩
  · refine pw_eqI (if_neg c8_) ?_
    have b11_ : 1 ≤ Int32.toInt (M.1 124 16) ∧ Int32.toInt (M.1 124 16) ≤ 100 := zr_nle_l 1 c8_ b6_ b7_ (by decide)
    have b12_ : 0 ≤ Int32.toInt (M.1 124 17) ∧ Int32.toInt (M.1 124 17) ≤ 99 := zr_nle_r 99 c8_ b7_ b11_ (by decide)
    have d13_ : Int32.toInt (M.1 124 16) > Int32.toInt (M.1 124 17) := Int.not_le.mp ((not_congr (zi_le _ _)).mp c8_)
    have b14_ : 0 ≤ Int32.toInt (M.1 132 (Int32.toNatClampNeg (M.1 124 17))) ∧ Int32.toInt (M.1 132 (Int32.toNatClampNeg (M.1 124 17))) ≤ 127 := pvok_r hok 132 (Int32.toNatClampNeg (M.1 124 17)) rfl
    by_cases c15_ : (M.1 132 (Int32.toNatClampNeg (M.1 124 17))) < 48
    · refine pw_eqI (if_pos c15_) ?_
      have b16_ : 0 ≤ Int32.toInt (M.1 132 (Int32.toNatClampNeg (M.1 124 17))) ∧ Int32.toInt (M.1 132 (Int32.toNatClampNeg (M.1 124 17))) ≤ 47 := zr_lt_l 47 c15_ b14_ (show 48 ≤ Int32.toInt 48 ∧ Int32.toInt 48 ≤ 48 from (by decide)) (by decide)
      show PW 86 d (4, [some (pvR 124), none], [pvI 0], M) _
      refine pw_ifn hT (c := 0 = 0) rfl rfl (fun c17_ => absurd (by decide) c17_) (fun c17_ => ?_)
      refine pw_blk hT 1 (S' := (8, [some (pvR 124), none], [pvI 0], M)) rfl ⟨trivial, trivial⟩ ?_
      exact pw_ret hT rfl (r := some (pvI 0)) (M' := M) ⟨Or.inl rfl, rfl, rfl⟩ ⟨⟨_, rfl, (zr_wide (show 0 ≤ Int32.toInt 0 ∧ Int32.toInt 0 ≤ 0 from (by decide)) (by decide) (by decide))⟩, hok, pvfr_0, (by omega)⟩
    · refine pw_eqI (if_neg c15_) ?_
      have b18_ : 48 ≤ Int32.toInt (M.1 132 (Int32.toNatClampNeg (M.1 124 17))) ∧ Int32.toInt (M.1 132 (Int32.toNatClampNeg (M.1 124 17))) ≤ 127 := zr_nlt_l 48 c15_ b14_ (show 48 ≤ Int32.toInt 48 ∧ Int32.toInt 48 ≤ 48 from (by decide)) (by decide)
      by_cases c19_ : 57 < (M.1 132 (Int32.toNatClampNeg (M.1 124 17)))
      · refine pw_eqI (if_pos c19_) ?_
        have b20_ : 58 ≤ Int32.toInt (M.1 132 (Int32.toNatClampNeg (M.1 124 17))) ∧ Int32.toInt (M.1 132 (Int32.toNatClampNeg (M.1 124 17))) ≤ 127 := zr_lt_r 58 c19_ b18_ (show 57 ≤ Int32.toInt 57 ∧ Int32.toInt 57 ≤ 57 from (by decide)) (by decide)
        show PW 86 d (4, [some (pvR 124), none], [pvI 0], M) _
        refine pw_ifn hT (c := 0 = 0) rfl rfl (fun c21_ => absurd (by decide) c21_) (fun c21_ => ?_)
        refine pw_blk hT 1 (S' := (8, [some (pvR 124), none], [pvI 0], M)) rfl ⟨trivial, trivial⟩ ?_
        exact pw_ret hT rfl (r := some (pvI 0)) (M' := M) ⟨Or.inl rfl, rfl, rfl⟩ ⟨⟨_, rfl, (zr_wide (show 0 ≤ Int32.toInt 0 ∧ Int32.toInt 0 ≤ 0 from (by decide)) (by decide) (by decide))⟩, hok, pvfr_0, (by omega)⟩
      · refine pw_eqI (if_neg c19_) ?_
        have b22_ : 48 ≤ Int32.toInt (M.1 132 (Int32.toNatClampNeg (M.1 124 17))) ∧ Int32.toInt (M.1 132 (Int32.toNatClampNeg (M.1 124 17))) ≤ 57 := zr_nlt_r 57 c19_ b18_ (show 57 ≤ Int32.toInt 57 ∧ Int32.toInt 57 ≤ 57 from (by decide)) (by decide)
        show PW 86 d (4, [some (pvR 124), none], [pvI 1], M) _
        refine pw_ifn hT (c := 1 = 0) rfl rfl (fun c23_ => ?_) (fun c23_ => absurd c23_ (by decide))
        refine pw_blkw hT 3 (pc := 14) (lo := [some (pvR 124), none]) (st := []) (M := pvu M 124 18 0) rfl ⟨trivial, trivial, rfl, trivial⟩ (fun M24_ e25_ => ?_)
        have o26_ : pvOk M24_ := pvok_u2 e25_ hok rfl (zr_wide (show 0 ≤ Int32.toInt 0 ∧ Int32.toInt 0 ≤ 0 from (by decide)) (by decide) (by decide))
        have f27_ : pvFr fp_X10_takesNumber_124 M M24_ := pvfr_u e25_ pvfr_0 rfl
        refine pw_blk hT 2 (S' := (16, [some (pvR 124), some (pvI 0)], [], M24_)) rfl ⟨trivial, trivial, trivial⟩ ?_
        refine pw_blk hT 2 (S' := (18, [some (pvR 124), some (pvI 0)], [pvI 2, pvI 0], M24_)) rfl ⟨trivial, trivial, trivial⟩ ?_
        refine pw_ic hT (c := 2 ≤ 0) rfl rfl (fun c28_ => absurd c28_ (by decide)) (fun c28_ => ?_)
        refine pw_blk hT 1 (S' := (22, [some (pvR 124), some (pvI 0)], [pvR 124], M24_)) rfl ⟨trivial, trivial⟩ ?_
        refine pw_callT hT (as := [pvR 124]) (lo1 := [some (pvR 124)]) (d1 := d) (rest := []) rfl rfl rfl rfl rfl (fun _ => rfl) (Nat.zero_le _) rfl rfl rfl (sf_X10_isDigit_124 M24_ o26_ d) ?_
        have e34_ : (M24_.1 124 16) = (M.1 124 16) := (pvu_n e25_ 124 16 (Or.inr (by decide)))
        have b35_ : 1 ≤ Int32.toInt (M24_.1 124 16) ∧ Int32.toInt (M24_.1 124 16) ≤ 100 := (by rw [e34_]; exact b11_)
        have e36_ : (M24_.1 124 17) = (M.1 124 17) := (pvu_n e25_ 124 17 (Or.inr (by decide)))
        have b37_ : 0 ≤ Int32.toInt (M24_.1 124 17) ∧ Int32.toInt (M24_.1 124 17) ≤ 99 := (by rw [e36_]; exact b12_)
        by_cases c38_ : (M24_.1 124 16) ≤ (M24_.1 124 17)
        · refine pw_eqI (if_pos c38_) ?_
          have b39_ : 1 ≤ Int32.toInt (M24_.1 124 16) ∧ Int32.toInt (M24_.1 124 16) ≤ 99 := zr_le_l 99 c38_ b35_ b37_ (by decide)
          have b40_ : 1 ≤ Int32.toInt (M24_.1 124 17) ∧ Int32.toInt (M24_.1 124 17) ≤ 99 := zr_le_r 1 c38_ b37_ b39_ (by decide)
          have d41_ : Int32.toInt (M24_.1 124 16) ≤ Int32.toInt (M24_.1 124 17) := (zi_le _ _).mp c38_
          show PW 86 d (25, [some (pvR 124), some (pvI 0)], [pvI 0], M24_) _
          refine pw_if hT (c := 0 = 0) rfl rfl (fun c42_ => ?_) (fun c42_ => absurd (by decide) c42_)
          refine pw_blk hT 1 (S' := (64, [some (pvR 124), some (pvI 0)], [pvI 1], M24_)) rfl ⟨trivial, trivial⟩ ?_
          exact pw_ret hT rfl (r := some (pvI 1)) (M' := M24_) ⟨Or.inr rfl, rfl, rfl⟩ ⟨⟨_, rfl, (zr_wide (show 1 ≤ Int32.toInt 1 ∧ Int32.toInt 1 ≤ 1 from (by decide)) (by decide) (by decide))⟩, o26_, f27_, (by have w0 : Int32.toInt (M24_.1 124 17) = Int32.toInt (M.1 124 17) := congrArg Int32.toInt (pvu_n e25_ 124 17 (Or.inr (by decide))); omega)⟩
        · refine pw_eqI (if_neg c38_) ?_
          have d43_ : Int32.toInt (M24_.1 124 16) > Int32.toInt (M24_.1 124 17) := Int.not_le.mp ((not_congr (zi_le _ _)).mp c38_)
          have b44_ : 0 ≤ Int32.toInt (M24_.1 132 (Int32.toNatClampNeg (M24_.1 124 17))) ∧ Int32.toInt (M24_.1 132 (Int32.toNatClampNeg (M24_.1 124 17))) ≤ 127 := pvok_r o26_ 132 (Int32.toNatClampNeg (M24_.1 124 17)) rfl
          by_cases c45_ : (M24_.1 132 (Int32.toNatClampNeg (M24_.1 124 17))) < 48
          · refine pw_eqI (if_pos c45_) ?_
            have b46_ : 0 ≤ Int32.toInt (M24_.1 132 (Int32.toNatClampNeg (M24_.1 124 17))) ∧ Int32.toInt (M24_.1 132 (Int32.toNatClampNeg (M24_.1 124 17))) ≤ 47 := zr_lt_l 47 c45_ b44_ (show 48 ≤ Int32.toInt 48 ∧ Int32.toInt 48 ≤ 48 from (by decide)) (by decide)
            show PW 86 d (25, [some (pvR 124), some (pvI 0)], [pvI 0], M24_) _
            refine pw_if hT (c := 0 = 0) rfl rfl (fun c47_ => ?_) (fun c47_ => absurd (by decide) c47_)
            refine pw_blk hT 1 (S' := (64, [some (pvR 124), some (pvI 0)], [pvI 1], M24_)) rfl ⟨trivial, trivial⟩ ?_
            exact pw_ret hT rfl (r := some (pvI 1)) (M' := M24_) ⟨Or.inr rfl, rfl, rfl⟩ ⟨⟨_, rfl, (zr_wide (show 1 ≤ Int32.toInt 1 ∧ Int32.toInt 1 ≤ 1 from (by decide)) (by decide) (by decide))⟩, o26_, f27_, (by have w0 : Int32.toInt (M24_.1 124 17) = Int32.toInt (M.1 124 17) := congrArg Int32.toInt (pvu_n e25_ 124 17 (Or.inr (by decide))); omega)⟩
          · refine pw_eqI (if_neg c45_) ?_
            have b48_ : 48 ≤ Int32.toInt (M24_.1 132 (Int32.toNatClampNeg (M24_.1 124 17))) ∧ Int32.toInt (M24_.1 132 (Int32.toNatClampNeg (M24_.1 124 17))) ≤ 127 := zr_nlt_l 48 c45_ b44_ (show 48 ≤ Int32.toInt 48 ∧ Int32.toInt 48 ≤ 48 from (by decide)) (by decide)
            by_cases c49_ : 57 < (M24_.1 132 (Int32.toNatClampNeg (M24_.1 124 17)))
            · refine pw_eqI (if_pos c49_) ?_
              have b50_ : 58 ≤ Int32.toInt (M24_.1 132 (Int32.toNatClampNeg (M24_.1 124 17))) ∧ Int32.toInt (M24_.1 132 (Int32.toNatClampNeg (M24_.1 124 17))) ≤ 127 := zr_lt_r 58 c49_ b48_ (show 57 ≤ Int32.toInt 57 ∧ Int32.toInt 57 ≤ 57 from (by decide)) (by decide)
              show PW 86 d (25, [some (pvR 124), some (pvI 0)], [pvI 0], M24_) _
              refine pw_if hT (c := 0 = 0) rfl rfl (fun c51_ => ?_) (fun c51_ => absurd (by decide) c51_)
              refine pw_blk hT 1 (S' := (64, [some (pvR 124), some (pvI 0)], [pvI 1], M24_)) rfl ⟨trivial, trivial⟩ ?_
              exact pw_ret hT rfl (r := some (pvI 1)) (M' := M24_) ⟨Or.inr rfl, rfl, rfl⟩ ⟨⟨_, rfl, (zr_wide (show 1 ≤ Int32.toInt 1 ∧ Int32.toInt 1 ≤ 1 from (by decide)) (by decide) (by decide))⟩, o26_, f27_, (by have w0 : Int32.toInt (M24_.1 124 17) = Int32.toInt (M.1 124 17) := congrArg Int32.toInt (pvu_n e25_ 124 17 (Or.inr (by decide))); omega)⟩
            · refine pw_eqI (if_neg c49_) ?_
              have b52_ : 48 ≤ Int32.toInt (M24_.1 132 (Int32.toNatClampNeg (M24_.1 124 17))) ∧ Int32.toInt (M24_.1 132 (Int32.toNatClampNeg (M24_.1 124 17))) ≤ 57 := zr_nlt_r 57 c49_ b48_ (show 57 ≤ Int32.toInt 57 ∧ Int32.toInt 57 ≤ 57 from (by decide)) (by decide)
              show PW 86 d (25, [some (pvR 124), some (pvI 0)], [pvI 1], M24_) _
              refine pw_if hT (c := 1 = 0) rfl rfl (fun c53_ => absurd c53_ (by decide)) (fun c53_ => ?_)
              have e54_ : (M24_.1 124 18) = 0 := (pvu_s e25_)
              have b55_ : 0 ≤ Int32.toInt (M24_.1 124 18) ∧ Int32.toInt (M24_.1 124 18) ≤ 0 := (by rw [e54_]; exact (show 0 ≤ Int32.toInt 0 ∧ Int32.toInt 0 ≤ 0 from (by decide)))
              have q56_ : Int32.toInt (10 * (M24_.1 124 18)) = 10 * Int32.toInt (M24_.1 124 18) := by have u0 : Int32.toInt 10 = 10 := (by decide); have u1 := b55_; have u2 := zmul 10 (M24_.1 124 18) (by rw [u0]; omega) (by rw [u0]; omega); rw [u0] at u2; omega
              have b57_ : 0 ≤ Int32.toInt (10 * (M24_.1 124 18)) ∧ Int32.toInt (10 * (M24_.1 124 18)) ≤ 0 := (by have u1 := b55_; omega)
              refine pw_blk hT 6 (S' := (37, [some (pvR 124), some (pvI 0)], [pvR 124, pvI (10 * (M24_.1 124 18)), pvR 124], M24_)) rfl ⟨trivial, trivial, trivial, rfl, trivial, trivial, trivial⟩ ?_
              refine pw_callT hT (as := [pvR 124]) (lo1 := [some (pvR 124)]) (d1 := d) (rest := [pvI (10 * (M24_.1 124 18)), pvR 124]) rfl rfl rfl rfl rfl (fun _ => rfl) (Nat.zero_le _) rfl rfl rfl (sf_X10_peek_124 M24_ o26_ d) ?_
              refine pw_eqI (if_neg c38_) ?_
              show PW 86 d (40, [some (pvR 124), some (pvI 0)], [pvI (M24_.1 132 (Int32.toNatClampNeg (M24_.1 124 17))), pvI (10 * (M24_.1 124 18)), pvR 124], M24_) _
              obtain ⟨q64_, b63_⟩ : (Int32.toInt ((10 * (M24_.1 124 18)) + (M24_.1 132 (Int32.toNatClampNeg (M24_.1 124 17)))) = Int32.toInt (10 * (M24_.1 124 18)) + Int32.toInt (M24_.1 132 (Int32.toNatClampNeg (M24_.1 124 17)))) ∧ (48 ≤ Int32.toInt ((10 * (M24_.1 124 18)) + (M24_.1 132 (Int32.toNatClampNeg (M24_.1 124 17)))) ∧ Int32.toInt ((10 * (M24_.1 124 18)) + (M24_.1 132 (Int32.toNatClampNeg (M24_.1 124 17)))) ≤ 57) := zadd_r (10 * (M24_.1 124 18)) (M24_.1 132 (Int32.toNatClampNeg (M24_.1 124 17))) 48 57 b57_ b52_ (by decide) (by decide) (by decide) (by decide)
              obtain ⟨q66_, b65_⟩ : (Int32.toInt (((10 * (M24_.1 124 18)) + (M24_.1 132 (Int32.toNatClampNeg (M24_.1 124 17)))) - 48) = Int32.toInt ((10 * (M24_.1 124 18)) + (M24_.1 132 (Int32.toNatClampNeg (M24_.1 124 17)))) - 48) ∧ (0 ≤ Int32.toInt (((10 * (M24_.1 124 18)) + (M24_.1 132 (Int32.toNatClampNeg (M24_.1 124 17)))) - 48) ∧ Int32.toInt (((10 * (M24_.1 124 18)) + (M24_.1 132 (Int32.toNatClampNeg (M24_.1 124 17)))) - 48) ≤ 9) := zsub_k ((10 * (M24_.1 124 18)) + (M24_.1 132 (Int32.toNatClampNeg (M24_.1 124 17)))) 48 48 0 9 b63_ (by decide) (by decide) (by decide) (by decide) (by decide)
              refine pw_blkw hT 4 (pc := 47) (lo := [some (pvR 124), some (pvI 0)]) (st := []) (M := pvu M24_ 124 18 (((10 * (M24_.1 124 18)) + (M24_.1 132 (Int32.toNatClampNeg (M24_.1 124 17)))) - 48)) rfl ⟨trivial, trivial, trivial, rfl, trivial⟩ (fun M67_ e68_ => ?_)
              have o69_ : pvOk M67_ := pvok_u2 e68_ o26_ rfl (zr_wide b65_ (by decide) (by decide))
              have f70_ : pvFr fp_X10_takesNumber_124 M M67_ := pvfr_u e68_ f27_ rfl
              have e71_ : (M67_.1 124 17) = (M24_.1 124 17) := (pvu_n e68_ 124 17 (Or.inr (by decide)))
              have b72_ : 0 ≤ Int32.toInt (M67_.1 124 17) ∧ Int32.toInt (M67_.1 124 17) ≤ 99 := (by rw [e71_]; exact b37_)
              obtain ⟨q74_, b73_⟩ : (Int32.toInt ((M67_.1 124 17) + 1) = Int32.toInt (M67_.1 124 17) + 1) ∧ (1 ≤ Int32.toInt ((M67_.1 124 17) + 1) ∧ Int32.toInt ((M67_.1 124 17) + 1) ≤ 100) := zadd_k (M67_.1 124 17) 1 1 1 100 b72_ (by decide) (by decide) (by decide) (by decide) (by decide)
              refine pw_blkw hT 6 (pc := 57) (lo := [some (pvR 124), some (pvI 0)]) (st := []) (M := pvu M67_ 124 17 ((M67_.1 124 17) + 1)) rfl ⟨trivial, trivial, rfl, trivial, trivial, rfl, trivial⟩ (fun M75_ e76_ => ?_)
              have o77_ : pvOk M75_ := pvok_u2 e76_ o69_ rfl (zr_wide b73_ (by decide) (by decide))
              have f78_ : pvFr fp_X10_takesNumber_124 M M75_ := pvfr_u e76_ f70_ rfl
              refine pw_blk hT 2 (S' := (16, [some (pvR 124), some (pvI (0 + 1))], [], M75_)) rfl ⟨trivial, trivial, trivial⟩ ?_
              refine pw_blk hT 2 (S' := (18, [some (pvR 124), some (pvI (0 + 1))], [pvI 2, pvI (0 + 1)], M75_)) rfl ⟨trivial, trivial, trivial⟩ ?_
              refine pw_ic hT (c := 2 ≤ (0 + 1)) rfl rfl (fun c79_ => absurd c79_ (by decide)) (fun c79_ => ?_)
              refine pw_blk hT 1 (S' := (22, [some (pvR 124), some (pvI (0 + 1))], [pvR 124], M75_)) rfl ⟨trivial, trivial⟩ ?_
              refine pw_callT hT (as := [pvR 124]) (lo1 := [some (pvR 124)]) (d1 := d) (rest := []) rfl rfl rfl rfl rfl (fun _ => rfl) (Nat.zero_le _) rfl rfl rfl (sf_X10_isDigit_124 M75_ o77_ d) ?_
              have e85_ : (M75_.1 124 16) = (M24_.1 124 16) := ((pvu_n e76_ 124 16 (Or.inr (by decide))).trans (pvu_n e68_ 124 16 (Or.inr (by decide))))
              have b86_ : 1 ≤ Int32.toInt (M75_.1 124 16) ∧ Int32.toInt (M75_.1 124 16) ≤ 100 := (by rw [e85_]; exact b35_)
              have e87_ : (M75_.1 124 17) = ((M67_.1 124 17) + 1) := (pvu_s e76_)
              have b88_ : 1 ≤ Int32.toInt (M75_.1 124 17) ∧ Int32.toInt (M75_.1 124 17) ≤ 100 := (by rw [e87_]; exact b73_)
              by_cases c89_ : (M75_.1 124 16) ≤ (M75_.1 124 17)
              · refine pw_eqI (if_pos c89_) ?_
                have d90_ : Int32.toInt (M75_.1 124 16) ≤ Int32.toInt (M75_.1 124 17) := (zi_le _ _).mp c89_
                show PW 86 d (25, [some (pvR 124), some (pvI (0 + 1))], [pvI 0], M75_) _
                refine pw_if hT (c := 0 = 0) rfl rfl (fun c91_ => ?_) (fun c91_ => absurd (by decide) c91_)
                refine pw_blk hT 1 (S' := (64, [some (pvR 124), some (pvI (0 + 1))], [pvI 1], M75_)) rfl ⟨trivial, trivial⟩ ?_
                exact pw_ret hT rfl (r := some (pvI 1)) (M' := M75_) ⟨Or.inr rfl, rfl, rfl⟩ ⟨⟨_, rfl, (zr_wide (show 1 ≤ Int32.toInt 1 ∧ Int32.toInt 1 ≤ 1 from (by decide)) (by decide) (by decide))⟩, o77_, f78_, (by have w0 : Int32.toInt (M75_.1 124 17) = Int32.toInt ((M67_.1 124 17) + 1) := congrArg Int32.toInt (pvu_s e76_); have w1 : Int32.toInt (M67_.1 124 17) = Int32.toInt (M24_.1 124 17) := congrArg Int32.toInt (pvu_n e68_ 124 17 (Or.inr (by decide))); have w2 : Int32.toInt (M24_.1 124 17) = Int32.toInt (M.1 124 17) := congrArg Int32.toInt (pvu_n e25_ 124 17 (Or.inr (by decide))); omega)⟩
              · refine pw_eqI (if_neg c89_) ?_
                have b92_ : 2 ≤ Int32.toInt (M75_.1 124 16) ∧ Int32.toInt (M75_.1 124 16) ≤ 100 := zr_nle_l 2 c89_ b86_ b88_ (by decide)
                have b93_ : 1 ≤ Int32.toInt (M75_.1 124 17) ∧ Int32.toInt (M75_.1 124 17) ≤ 99 := zr_nle_r 99 c89_ b88_ b92_ (by decide)
                have d94_ : Int32.toInt (M75_.1 124 16) > Int32.toInt (M75_.1 124 17) := Int.not_le.mp ((not_congr (zi_le _ _)).mp c89_)
                have b95_ : 0 ≤ Int32.toInt (M75_.1 132 (Int32.toNatClampNeg (M75_.1 124 17))) ∧ Int32.toInt (M75_.1 132 (Int32.toNatClampNeg (M75_.1 124 17))) ≤ 127 := pvok_r o77_ 132 (Int32.toNatClampNeg (M75_.1 124 17)) rfl
                by_cases c96_ : (M75_.1 132 (Int32.toNatClampNeg (M75_.1 124 17))) < 48
                · refine pw_eqI (if_pos c96_) ?_
                  have b97_ : 0 ≤ Int32.toInt (M75_.1 132 (Int32.toNatClampNeg (M75_.1 124 17))) ∧ Int32.toInt (M75_.1 132 (Int32.toNatClampNeg (M75_.1 124 17))) ≤ 47 := zr_lt_l 47 c96_ b95_ (show 48 ≤ Int32.toInt 48 ∧ Int32.toInt 48 ≤ 48 from (by decide)) (by decide)
                  show PW 86 d (25, [some (pvR 124), some (pvI (0 + 1))], [pvI 0], M75_) _
                  refine pw_if hT (c := 0 = 0) rfl rfl (fun c98_ => ?_) (fun c98_ => absurd (by decide) c98_)
                  refine pw_blk hT 1 (S' := (64, [some (pvR 124), some (pvI (0 + 1))], [pvI 1], M75_)) rfl ⟨trivial, trivial⟩ ?_
                  exact pw_ret hT rfl (r := some (pvI 1)) (M' := M75_) ⟨Or.inr rfl, rfl, rfl⟩ ⟨⟨_, rfl, (zr_wide (show 1 ≤ Int32.toInt 1 ∧ Int32.toInt 1 ≤ 1 from (by decide)) (by decide) (by decide))⟩, o77_, f78_, (by have w0 : Int32.toInt (M75_.1 124 17) = Int32.toInt ((M67_.1 124 17) + 1) := congrArg Int32.toInt (pvu_s e76_); have w1 : Int32.toInt (M67_.1 124 17) = Int32.toInt (M24_.1 124 17) := congrArg Int32.toInt (pvu_n e68_ 124 17 (Or.inr (by decide))); have w2 : Int32.toInt (M24_.1 124 17) = Int32.toInt (M.1 124 17) := congrArg Int32.toInt (pvu_n e25_ 124 17 (Or.inr (by decide))); omega)⟩
                · refine pw_eqI (if_neg c96_) ?_
                  have b99_ : 48 ≤ Int32.toInt (M75_.1 132 (Int32.toNatClampNeg (M75_.1 124 17))) ∧ Int32.toInt (M75_.1 132 (Int32.toNatClampNeg (M75_.1 124 17))) ≤ 127 := zr_nlt_l 48 c96_ b95_ (show 48 ≤ Int32.toInt 48 ∧ Int32.toInt 48 ≤ 48 from (by decide)) (by decide)
                  by_cases c100_ : 57 < (M75_.1 132 (Int32.toNatClampNeg (M75_.1 124 17)))
                  · refine pw_eqI (if_pos c100_) ?_
                    have b101_ : 58 ≤ Int32.toInt (M75_.1 132 (Int32.toNatClampNeg (M75_.1 124 17))) ∧ Int32.toInt (M75_.1 132 (Int32.toNatClampNeg (M75_.1 124 17))) ≤ 127 := zr_lt_r 58 c100_ b99_ (show 57 ≤ Int32.toInt 57 ∧ Int32.toInt 57 ≤ 57 from (by decide)) (by decide)
                    show PW 86 d (25, [some (pvR 124), some (pvI (0 + 1))], [pvI 0], M75_) _
                    refine pw_if hT (c := 0 = 0) rfl rfl (fun c102_ => ?_) (fun c102_ => absurd (by decide) c102_)
                    refine pw_blk hT 1 (S' := (64, [some (pvR 124), some (pvI (0 + 1))], [pvI 1], M75_)) rfl ⟨trivial, trivial⟩ ?_
                    exact pw_ret hT rfl (r := some (pvI 1)) (M' := M75_) ⟨Or.inr rfl, rfl, rfl⟩ ⟨⟨_, rfl, (zr_wide (show 1 ≤ Int32.toInt 1 ∧ Int32.toInt 1 ≤ 1 from (by decide)) (by decide) (by decide))⟩, o77_, f78_, (by have w0 : Int32.toInt (M75_.1 124 17) = Int32.toInt ((M67_.1 124 17) + 1) := congrArg Int32.toInt (pvu_s e76_); have w1 : Int32.toInt (M67_.1 124 17) = Int32.toInt (M24_.1 124 17) := congrArg Int32.toInt (pvu_n e68_ 124 17 (Or.inr (by decide))); have w2 : Int32.toInt (M24_.1 124 17) = Int32.toInt (M.1 124 17) := congrArg Int32.toInt (pvu_n e25_ 124 17 (Or.inr (by decide))); omega)⟩
                  · refine pw_eqI (if_neg c100_) ?_
                    have b103_ : 48 ≤ Int32.toInt (M75_.1 132 (Int32.toNatClampNeg (M75_.1 124 17))) ∧ Int32.toInt (M75_.1 132 (Int32.toNatClampNeg (M75_.1 124 17))) ≤ 57 := zr_nlt_r 57 c100_ b99_ (show 57 ≤ Int32.toInt 57 ∧ Int32.toInt 57 ≤ 57 from (by decide)) (by decide)
                    show PW 86 d (25, [some (pvR 124), some (pvI (0 + 1))], [pvI 1], M75_) _
                    refine pw_if hT (c := 1 = 0) rfl rfl (fun c104_ => absurd c104_ (by decide)) (fun c104_ => ?_)
                    have e105_ : (M75_.1 124 18) = (((10 * (M24_.1 124 18)) + (M24_.1 132 (Int32.toNatClampNeg (M24_.1 124 17)))) - 48) := ((pvu_n e76_ 124 18 (Or.inr (by decide))).trans (pvu_s e68_))
                    have b106_ : 0 ≤ Int32.toInt (M75_.1 124 18) ∧ Int32.toInt (M75_.1 124 18) ≤ 9 := (by rw [e105_]; exact b65_)
                    have q107_ : Int32.toInt (10 * (M75_.1 124 18)) = 10 * Int32.toInt (M75_.1 124 18) := by have u0 : Int32.toInt 10 = 10 := (by decide); have u1 := b106_; have u2 := zmul 10 (M75_.1 124 18) (by rw [u0]; omega) (by rw [u0]; omega); rw [u0] at u2; omega
                    have b108_ : 0 ≤ Int32.toInt (10 * (M75_.1 124 18)) ∧ Int32.toInt (10 * (M75_.1 124 18)) ≤ 90 := (by have u1 := b106_; omega)
                    refine pw_blk hT 6 (S' := (37, [some (pvR 124), some (pvI (0 + 1))], [pvR 124, pvI (10 * (M75_.1 124 18)), pvR 124], M75_)) rfl ⟨trivial, trivial, trivial, rfl, trivial, trivial, trivial⟩ ?_
                    refine pw_callT hT (as := [pvR 124]) (lo1 := [some (pvR 124)]) (d1 := d) (rest := [pvI (10 * (M75_.1 124 18)), pvR 124]) rfl rfl rfl rfl rfl (fun _ => rfl) (Nat.zero_le _) rfl rfl rfl (sf_X10_peek_124 M75_ o77_ d) ?_
                    refine pw_eqI (if_neg c89_) ?_
                    show PW 86 d (40, [some (pvR 124), some (pvI (0 + 1))], [pvI (M75_.1 132 (Int32.toNatClampNeg (M75_.1 124 17))), pvI (10 * (M75_.1 124 18)), pvR 124], M75_) _
                    obtain ⟨q115_, b114_⟩ : (Int32.toInt ((10 * (M75_.1 124 18)) + (M75_.1 132 (Int32.toNatClampNeg (M75_.1 124 17)))) = Int32.toInt (10 * (M75_.1 124 18)) + Int32.toInt (M75_.1 132 (Int32.toNatClampNeg (M75_.1 124 17)))) ∧ (48 ≤ Int32.toInt ((10 * (M75_.1 124 18)) + (M75_.1 132 (Int32.toNatClampNeg (M75_.1 124 17)))) ∧ Int32.toInt ((10 * (M75_.1 124 18)) + (M75_.1 132 (Int32.toNatClampNeg (M75_.1 124 17)))) ≤ 147) := zadd_r (10 * (M75_.1 124 18)) (M75_.1 132 (Int32.toNatClampNeg (M75_.1 124 17))) 48 147 b108_ b103_ (by decide) (by decide) (by decide) (by decide)
                    obtain ⟨q117_, b116_⟩ : (Int32.toInt (((10 * (M75_.1 124 18)) + (M75_.1 132 (Int32.toNatClampNeg (M75_.1 124 17)))) - 48) = Int32.toInt ((10 * (M75_.1 124 18)) + (M75_.1 132 (Int32.toNatClampNeg (M75_.1 124 17)))) - 48) ∧ (0 ≤ Int32.toInt (((10 * (M75_.1 124 18)) + (M75_.1 132 (Int32.toNatClampNeg (M75_.1 124 17)))) - 48) ∧ Int32.toInt (((10 * (M75_.1 124 18)) + (M75_.1 132 (Int32.toNatClampNeg (M75_.1 124 17)))) - 48) ≤ 99) := zsub_k ((10 * (M75_.1 124 18)) + (M75_.1 132 (Int32.toNatClampNeg (M75_.1 124 17)))) 48 48 0 99 b114_ (by decide) (by decide) (by decide) (by decide) (by decide)
                    refine pw_blkw hT 4 (pc := 47) (lo := [some (pvR 124), some (pvI (0 + 1))]) (st := []) (M := pvu M75_ 124 18 (((10 * (M75_.1 124 18)) + (M75_.1 132 (Int32.toNatClampNeg (M75_.1 124 17)))) - 48)) rfl ⟨trivial, trivial, trivial, rfl, trivial⟩ (fun M118_ e119_ => ?_)
                    have o120_ : pvOk M118_ := pvok_u2 e119_ o77_ rfl b116_
                    have f121_ : pvFr fp_X10_takesNumber_124 M M118_ := pvfr_u e119_ f78_ rfl
                    have e122_ : (M118_.1 124 17) = (M75_.1 124 17) := (pvu_n e119_ 124 17 (Or.inr (by decide)))
                    have b123_ : 1 ≤ Int32.toInt (M118_.1 124 17) ∧ Int32.toInt (M118_.1 124 17) ≤ 99 := (by rw [e122_]; exact b93_)
                    obtain ⟨q125_, b124_⟩ : (Int32.toInt ((M118_.1 124 17) + 1) = Int32.toInt (M118_.1 124 17) + 1) ∧ (2 ≤ Int32.toInt ((M118_.1 124 17) + 1) ∧ Int32.toInt ((M118_.1 124 17) + 1) ≤ 100) := zadd_k (M118_.1 124 17) 1 1 2 100 b123_ (by decide) (by decide) (by decide) (by decide) (by decide)
                    refine pw_blkw hT 6 (pc := 57) (lo := [some (pvR 124), some (pvI (0 + 1))]) (st := []) (M := pvu M118_ 124 17 ((M118_.1 124 17) + 1)) rfl ⟨trivial, trivial, rfl, trivial, trivial, rfl, trivial⟩ (fun M126_ e127_ => ?_)
                    have o128_ : pvOk M126_ := pvok_u2 e127_ o120_ rfl (zr_wide b124_ (by decide) (by decide))
                    have f129_ : pvFr fp_X10_takesNumber_124 M M126_ := pvfr_u e127_ f121_ rfl
                    refine pw_blk hT 2 (S' := (16, [some (pvR 124), some (pvI ((0 + 1) + 1))], [], M126_)) rfl ⟨trivial, trivial, trivial⟩ ?_
                    refine pw_blk hT 2 (S' := (18, [some (pvR 124), some (pvI ((0 + 1) + 1))], [pvI 2, pvI ((0 + 1) + 1)], M126_)) rfl ⟨trivial, trivial, trivial⟩ ?_
                    refine pw_ic hT (c := 2 ≤ ((0 + 1) + 1)) rfl rfl (fun c130_ => ?_) (fun c130_ => absurd (by decide) c130_)
                    refine pw_blk hT 1 (S' := (64, [some (pvR 124), some (pvI ((0 + 1) + 1))], [pvI 1], M126_)) rfl ⟨trivial, trivial⟩ ?_
                    exact pw_ret hT rfl (r := some (pvI 1)) (M' := M126_) ⟨Or.inr rfl, rfl, rfl⟩ ⟨⟨_, rfl, (zr_wide (show 1 ≤ Int32.toInt 1 ∧ Int32.toInt 1 ≤ 1 from (by decide)) (by decide) (by decide))⟩, o128_, f129_, (by have w0 : Int32.toInt (M126_.1 124 17) = Int32.toInt ((M118_.1 124 17) + 1) := congrArg Int32.toInt (pvu_s e127_); have w1 : Int32.toInt (M118_.1 124 17) = Int32.toInt (M75_.1 124 17) := congrArg Int32.toInt (pvu_n e119_ 124 17 (Or.inr (by decide))); have w2 : Int32.toInt (M75_.1 124 17) = Int32.toInt ((M67_.1 124 17) + 1) := congrArg Int32.toInt (pvu_s e76_); have w3 : Int32.toInt (M67_.1 124 17) = Int32.toInt (M24_.1 124 17) := congrArg Int32.toInt (pvu_n e68_ 124 17 (Or.inr (by decide))); have w4 : Int32.toInt (M24_.1 124 17) = Int32.toInt (M.1 124 17) := congrArg Int32.toInt (pvu_n e25_ 124 17 (Or.inr (by decide))); omega)⟩
set_option maxHeartbeats 4000000 in
set_option maxRecDepth 10000 in
theorem sf_X10_place_124_x (M : pvM) (hok : pvOk M) (n1 : Int32) (d : Nat) : PW 65 d (0, [some (pvR 124), some (pvI n1)], [], M) (fun r X => (∃ x : Int32, r = some (pvI x) ∧ ((-1) ≤ Int32.toInt x ∧ Int32.toInt x ≤ 5) ∧ (0 ≤ Int32.toInt n1 ∨ Int32.toInt x ≤ -1)) ∧ X = M) := by
  have hT : pvdom 65 = pvD_65 := rfl
  refine pw_blk hT 1 (S' := (1, [some (pvR 124), some (pvI n1)], [pvI n1], M)) rfl ⟨trivial, trivial⟩ ?_
  refine pw_sw hT rfl rfl ?_
  refine And.intro (fun c1_ => ?_) (fun c1_ => ?_)
  · show PW 65 d (92, [some (pvR 124), some (pvI n1)], [], M) _
    have b2_ : 102 ≤ Int32.toInt n1 ∧ Int32.toInt n1 ≤ 102 := (by have u0 := (zbnd n1); have u1 := (zi_eq _ _).mp c1_; have u2 := (show 102 ≤ Int32.toInt 102 ∧ Int32.toInt 102 ≤ 102 from (by decide)); omega)
    refine pw_blk hT 1 (S' := (93, [some (pvR 124), some (pvI n1)], [pvI 2], M)) rfl ⟨trivial, trivial⟩ ?_
    exact pw_ret hT rfl (r := some (pvI 2)) (M' := M) ⟨rfl, rfl⟩ ⟨⟨_, rfl, (zr_wide (show 2 ≤ Int32.toInt 2 ∧ Int32.toInt 2 ≤ 2 from (by decide)) (by decide) (by decide)), (by have u9 : Int32.toInt 0 = 0 := (by decide); have u8 : Int32.toInt (-1) = -1 := (by decide); omega)⟩, rfl⟩
  · refine And.intro (fun c3_ => ?_) (fun c3_ => ?_)
    · show PW 65 d (100, [some (pvR 124), some (pvI n1)], [], M) _
      have b4_ : 103 ≤ Int32.toInt n1 ∧ Int32.toInt n1 ≤ 103 := (by have u0 := (zbnd n1); have u1 := (zi_eq _ _).mp c3_; have u2 := (show 103 ≤ Int32.toInt 103 ∧ Int32.toInt 103 ≤ 103 from (by decide)); omega)
      refine pw_blk hT 1 (S' := (101, [some (pvR 124), some (pvI n1)], [pvI (-1)], M)) rfl ⟨trivial, trivial⟩ ?_
      exact pw_ret hT rfl (r := some (pvI (-1))) (M' := M) ⟨rfl, rfl⟩ ⟨⟨_, rfl, (zr_wide (show (-1) ≤ Int32.toInt (-1) ∧ Int32.toInt (-1) ≤ (-1) from (by decide)) (by decide) (by decide)), (by have u9 : Int32.toInt 0 = 0 := (by decide); have u8 : Int32.toInt (-1) = -1 := (by decide); omega)⟩, rfl⟩
    · refine And.intro (fun c5_ => ?_) (fun c5_ => ?_)
      · show PW 65 d (100, [some (pvR 124), some (pvI n1)], [], M) _
        have b6_ : 104 ≤ Int32.toInt n1 ∧ Int32.toInt n1 ≤ 104 := (by have u0 := (zbnd n1); have u1 := (zi_eq _ _).mp c5_; have u2 := (show 104 ≤ Int32.toInt 104 ∧ Int32.toInt 104 ≤ 104 from (by decide)); omega)
        refine pw_blk hT 1 (S' := (101, [some (pvR 124), some (pvI n1)], [pvI (-1)], M)) rfl ⟨trivial, trivial⟩ ?_
        exact pw_ret hT rfl (r := some (pvI (-1))) (M' := M) ⟨rfl, rfl⟩ ⟨⟨_, rfl, (zr_wide (show (-1) ≤ Int32.toInt (-1) ∧ Int32.toInt (-1) ≤ (-1) from (by decide)) (by decide) (by decide)), (by have u9 : Int32.toInt 0 = 0 := (by decide); have u8 : Int32.toInt (-1) = -1 := (by decide); omega)⟩, rfl⟩
      · refine And.intro (fun c7_ => ?_) (fun c7_ => ?_)
        · show PW 65 d (100, [some (pvR 124), some (pvI n1)], [], M) _
          have b8_ : 105 ≤ Int32.toInt n1 ∧ Int32.toInt n1 ≤ 105 := (by have u0 := (zbnd n1); have u1 := (zi_eq _ _).mp c7_; have u2 := (show 105 ≤ Int32.toInt 105 ∧ Int32.toInt 105 ≤ 105 from (by decide)); omega)
          refine pw_blk hT 1 (S' := (101, [some (pvR 124), some (pvI n1)], [pvI (-1)], M)) rfl ⟨trivial, trivial⟩ ?_
          exact pw_ret hT rfl (r := some (pvI (-1))) (M' := M) ⟨rfl, rfl⟩ ⟨⟨_, rfl, (zr_wide (show (-1) ≤ Int32.toInt (-1) ∧ Int32.toInt (-1) ≤ (-1) from (by decide)) (by decide) (by decide)), (by have u9 : Int32.toInt 0 = 0 := (by decide); have u8 : Int32.toInt (-1) = -1 := (by decide); omega)⟩, rfl⟩
        · refine And.intro (fun c9_ => ?_) (fun c9_ => ?_)
          · show PW 65 d (100, [some (pvR 124), some (pvI n1)], [], M) _
            have b10_ : 106 ≤ Int32.toInt n1 ∧ Int32.toInt n1 ≤ 106 := (by have u0 := (zbnd n1); have u1 := (zi_eq _ _).mp c9_; have u2 := (show 106 ≤ Int32.toInt 106 ∧ Int32.toInt 106 ≤ 106 from (by decide)); omega)
            refine pw_blk hT 1 (S' := (101, [some (pvR 124), some (pvI n1)], [pvI (-1)], M)) rfl ⟨trivial, trivial⟩ ?_
            exact pw_ret hT rfl (r := some (pvI (-1))) (M' := M) ⟨rfl, rfl⟩ ⟨⟨_, rfl, (zr_wide (show (-1) ≤ Int32.toInt (-1) ∧ Int32.toInt (-1) ≤ (-1) from (by decide)) (by decide) (by decide)), (by have u9 : Int32.toInt 0 = 0 := (by decide); have u8 : Int32.toInt (-1) = -1 := (by decide); omega)⟩, rfl⟩
          · refine And.intro (fun c11_ => ?_) (fun c11_ => ?_)
            · show PW 65 d (90, [some (pvR 124), some (pvI n1)], [], M) _
              have b12_ : 107 ≤ Int32.toInt n1 ∧ Int32.toInt n1 ≤ 107 := (by have u0 := (zbnd n1); have u1 := (zi_eq _ _).mp c11_; have u2 := (show 107 ≤ Int32.toInt 107 ∧ Int32.toInt 107 ≤ 107 from (by decide)); omega)
              refine pw_blk hT 1 (S' := (91, [some (pvR 124), some (pvI n1)], [pvI 1], M)) rfl ⟨trivial, trivial⟩ ?_
              exact pw_ret hT rfl (r := some (pvI 1)) (M' := M) ⟨rfl, rfl⟩ ⟨⟨_, rfl, (zr_wide (show 1 ≤ Int32.toInt 1 ∧ Int32.toInt 1 ≤ 1 from (by decide)) (by decide) (by decide)), (by have u9 : Int32.toInt 0 = 0 := (by decide); have u8 : Int32.toInt (-1) = -1 := (by decide); omega)⟩, rfl⟩
            · refine And.intro (fun c13_ => ?_) (fun c13_ => ?_)
              · show PW 65 d (100, [some (pvR 124), some (pvI n1)], [], M) _
                have b14_ : 108 ≤ Int32.toInt n1 ∧ Int32.toInt n1 ≤ 108 := (by have u0 := (zbnd n1); have u1 := (zi_eq _ _).mp c13_; have u2 := (show 108 ≤ Int32.toInt 108 ∧ Int32.toInt 108 ≤ 108 from (by decide)); omega)
                refine pw_blk hT 1 (S' := (101, [some (pvR 124), some (pvI n1)], [pvI (-1)], M)) rfl ⟨trivial, trivial⟩ ?_
                exact pw_ret hT rfl (r := some (pvI (-1))) (M' := M) ⟨rfl, rfl⟩ ⟨⟨_, rfl, (zr_wide (show (-1) ≤ Int32.toInt (-1) ∧ Int32.toInt (-1) ≤ (-1) from (by decide)) (by decide) (by decide)), (by have u9 : Int32.toInt 0 = 0 := (by decide); have u8 : Int32.toInt (-1) = -1 := (by decide); omega)⟩, rfl⟩
              · refine And.intro (fun c15_ => ?_) (fun c15_ => ?_)
                · show PW 65 d (100, [some (pvR 124), some (pvI n1)], [], M) _
                  have b16_ : 109 ≤ Int32.toInt n1 ∧ Int32.toInt n1 ≤ 109 := (by have u0 := (zbnd n1); have u1 := (zi_eq _ _).mp c15_; have u2 := (show 109 ≤ Int32.toInt 109 ∧ Int32.toInt 109 ≤ 109 from (by decide)); omega)
                  refine pw_blk hT 1 (S' := (101, [some (pvR 124), some (pvI n1)], [pvI (-1)], M)) rfl ⟨trivial, trivial⟩ ?_
                  exact pw_ret hT rfl (r := some (pvI (-1))) (M' := M) ⟨rfl, rfl⟩ ⟨⟨_, rfl, (zr_wide (show (-1) ≤ Int32.toInt (-1) ∧ Int32.toInt (-1) ≤ (-1) from (by decide)) (by decide) (by decide)), (by have u9 : Int32.toInt 0 = 0 := (by decide); have u8 : Int32.toInt (-1) = -1 := (by decide); omega)⟩, rfl⟩
                · refine And.intro (fun c17_ => ?_) (fun c17_ => ?_)
                  · show PW 65 d (100, [some (pvR 124), some (pvI n1)], [], M) _
                    have b18_ : 110 ≤ Int32.toInt n1 ∧ Int32.toInt n1 ≤ 110 := (by have u0 := (zbnd n1); have u1 := (zi_eq _ _).mp c17_; have u2 := (show 110 ≤ Int32.toInt 110 ∧ Int32.toInt 110 ≤ 110 from (by decide)); omega)
                    refine pw_blk hT 1 (S' := (101, [some (pvR 124), some (pvI n1)], [pvI (-1)], M)) rfl ⟨trivial, trivial⟩ ?_
                    exact pw_ret hT rfl (r := some (pvI (-1))) (M' := M) ⟨rfl, rfl⟩ ⟨⟨_, rfl, (zr_wide (show (-1) ≤ Int32.toInt (-1) ∧ Int32.toInt (-1) ≤ (-1) from (by decide)) (by decide) (by decide)), (by have u9 : Int32.toInt 0 = 0 := (by decide); have u8 : Int32.toInt (-1) = -1 := (by decide); omega)⟩, rfl⟩
                  · refine And.intro (fun c19_ => ?_) (fun c19_ => ?_)
                    · show PW 65 d (100, [some (pvR 124), some (pvI n1)], [], M) _
                      have b20_ : 111 ≤ Int32.toInt n1 ∧ Int32.toInt n1 ≤ 111 := (by have u0 := (zbnd n1); have u1 := (zi_eq _ _).mp c19_; have u2 := (show 111 ≤ Int32.toInt 111 ∧ Int32.toInt 111 ≤ 111 from (by decide)); omega)
                      refine pw_blk hT 1 (S' := (101, [some (pvR 124), some (pvI n1)], [pvI (-1)], M)) rfl ⟨trivial, trivial⟩ ?_
                      exact pw_ret hT rfl (r := some (pvI (-1))) (M' := M) ⟨rfl, rfl⟩ ⟨⟨_, rfl, (zr_wide (show (-1) ≤ Int32.toInt (-1) ∧ Int32.toInt (-1) ≤ (-1) from (by decide)) (by decide) (by decide)), (by have u9 : Int32.toInt 0 = 0 := (by decide); have u8 : Int32.toInt (-1) = -1 := (by decide); omega)⟩, rfl⟩
                    · refine And.intro (fun c21_ => ?_) (fun c21_ => ?_)
                      · show PW 65 d (100, [some (pvR 124), some (pvI n1)], [], M) _
                        have b22_ : 112 ≤ Int32.toInt n1 ∧ Int32.toInt n1 ≤ 112 := (by have u0 := (zbnd n1); have u1 := (zi_eq _ _).mp c21_; have u2 := (show 112 ≤ Int32.toInt 112 ∧ Int32.toInt 112 ≤ 112 from (by decide)); omega)
                        refine pw_blk hT 1 (S' := (101, [some (pvR 124), some (pvI n1)], [pvI (-1)], M)) rfl ⟨trivial, trivial⟩ ?_
                        exact pw_ret hT rfl (r := some (pvI (-1))) (M' := M) ⟨rfl, rfl⟩ ⟨⟨_, rfl, (zr_wide (show (-1) ≤ Int32.toInt (-1) ∧ Int32.toInt (-1) ≤ (-1) from (by decide)) (by decide) (by decide)), (by have u9 : Int32.toInt 0 = 0 := (by decide); have u8 : Int32.toInt (-1) = -1 := (by decide); omega)⟩, rfl⟩
                      · refine And.intro (fun c23_ => ?_) (fun c23_ => ?_)
                        · show PW 65 d (100, [some (pvR 124), some (pvI n1)], [], M) _
                          have b24_ : 113 ≤ Int32.toInt n1 ∧ Int32.toInt n1 ≤ 113 := (by have u0 := (zbnd n1); have u1 := (zi_eq _ _).mp c23_; have u2 := (show 113 ≤ Int32.toInt 113 ∧ Int32.toInt 113 ≤ 113 from (by decide)); omega)
                          refine pw_blk hT 1 (S' := (101, [some (pvR 124), some (pvI n1)], [pvI (-1)], M)) rfl ⟨trivial, trivial⟩ ?_
                          exact pw_ret hT rfl (r := some (pvI (-1))) (M' := M) ⟨rfl, rfl⟩ ⟨⟨_, rfl, (zr_wide (show (-1) ≤ Int32.toInt (-1) ∧ Int32.toInt (-1) ≤ (-1) from (by decide)) (by decide) (by decide)), (by have u9 : Int32.toInt 0 = 0 := (by decide); have u8 : Int32.toInt (-1) = -1 := (by decide); omega)⟩, rfl⟩
                        · refine And.intro (fun c25_ => ?_) (fun c25_ => ?_)
                          · show PW 65 d (94, [some (pvR 124), some (pvI n1)], [], M) _
                            have b26_ : 114 ≤ Int32.toInt n1 ∧ Int32.toInt n1 ≤ 114 := (by have u0 := (zbnd n1); have u1 := (zi_eq _ _).mp c25_; have u2 := (show 114 ≤ Int32.toInt 114 ∧ Int32.toInt 114 ≤ 114 from (by decide)); omega)
                            refine pw_blk hT 1 (S' := (95, [some (pvR 124), some (pvI n1)], [pvI 3], M)) rfl ⟨trivial, trivial⟩ ?_
                            exact pw_ret hT rfl (r := some (pvI 3)) (M' := M) ⟨rfl, rfl⟩ ⟨⟨_, rfl, (zr_wide (show 3 ≤ Int32.toInt 3 ∧ Int32.toInt 3 ≤ 3 from (by decide)) (by decide) (by decide)), (by have u9 : Int32.toInt 0 = 0 := (by decide); have u8 : Int32.toInt (-1) = -1 := (by decide); omega)⟩, rfl⟩
                          · refine And.intro (fun c27_ => ?_) (fun c27_ => ?_)
                            · show PW 65 d (96, [some (pvR 124), some (pvI n1)], [], M) _
                              have b28_ : 115 ≤ Int32.toInt n1 ∧ Int32.toInt n1 ≤ 115 := (by have u0 := (zbnd n1); have u1 := (zi_eq _ _).mp c27_; have u2 := (show 115 ≤ Int32.toInt 115 ∧ Int32.toInt 115 ≤ 115 from (by decide)); omega)
                              refine pw_blk hT 1 (S' := (97, [some (pvR 124), some (pvI n1)], [pvI 4], M)) rfl ⟨trivial, trivial⟩ ?_
                              exact pw_ret hT rfl (r := some (pvI 4)) (M' := M) ⟨rfl, rfl⟩ ⟨⟨_, rfl, (zr_wide (show 4 ≤ Int32.toInt 4 ∧ Int32.toInt 4 ≤ 4 from (by decide)) (by decide) (by decide)), (by have u9 : Int32.toInt 0 = 0 := (by decide); have u8 : Int32.toInt (-1) = -1 := (by decide); omega)⟩, rfl⟩
                            · refine And.intro (fun c29_ => ?_) (fun c29_ => ?_)
                              · show PW 65 d (98, [some (pvR 124), some (pvI n1)], [], M) _
                                have b30_ : 116 ≤ Int32.toInt n1 ∧ Int32.toInt n1 ≤ 116 := (by have u0 := (zbnd n1); have u1 := (zi_eq _ _).mp c29_; have u2 := (show 116 ≤ Int32.toInt 116 ∧ Int32.toInt 116 ≤ 116 from (by decide)); omega)
                                refine pw_blk hT 1 (S' := (99, [some (pvR 124), some (pvI n1)], [pvI 5], M)) rfl ⟨trivial, trivial⟩ ?_
                                exact pw_ret hT rfl (r := some (pvI 5)) (M' := M) ⟨rfl, rfl⟩ ⟨⟨_, rfl, (zr_wide (show 5 ≤ Int32.toInt 5 ∧ Int32.toInt 5 ≤ 5 from (by decide)) (by decide) (by decide)), (by have u9 : Int32.toInt 0 = 0 := (by decide); have u8 : Int32.toInt (-1) = -1 := (by decide); omega)⟩, rfl⟩
                              · refine And.intro (fun c31_ => ?_) (fun c31_ => ?_)
                                · show PW 65 d (100, [some (pvR 124), some (pvI n1)], [], M) _
                                  have b32_ : 117 ≤ Int32.toInt n1 ∧ Int32.toInt n1 ≤ 117 := (by have u0 := (zbnd n1); have u1 := (zi_eq _ _).mp c31_; have u2 := (show 117 ≤ Int32.toInt 117 ∧ Int32.toInt 117 ≤ 117 from (by decide)); omega)
                                  refine pw_blk hT 1 (S' := (101, [some (pvR 124), some (pvI n1)], [pvI (-1)], M)) rfl ⟨trivial, trivial⟩ ?_
                                  exact pw_ret hT rfl (r := some (pvI (-1))) (M' := M) ⟨rfl, rfl⟩ ⟨⟨_, rfl, (zr_wide (show (-1) ≤ Int32.toInt (-1) ∧ Int32.toInt (-1) ≤ (-1) from (by decide)) (by decide) (by decide)), (by have u9 : Int32.toInt 0 = 0 := (by decide); have u8 : Int32.toInt (-1) = -1 := (by decide); omega)⟩, rfl⟩
                                · refine And.intro (fun c33_ => ?_) (fun c33_ => ?_)
                                  · show PW 65 d (100, [some (pvR 124), some (pvI n1)], [], M) _
                                    have b34_ : 118 ≤ Int32.toInt n1 ∧ Int32.toInt n1 ≤ 118 := (by have u0 := (zbnd n1); have u1 := (zi_eq _ _).mp c33_; have u2 := (show 118 ≤ Int32.toInt 118 ∧ Int32.toInt 118 ≤ 118 from (by decide)); omega)
                                    refine pw_blk hT 1 (S' := (101, [some (pvR 124), some (pvI n1)], [pvI (-1)], M)) rfl ⟨trivial, trivial⟩ ?_
                                    exact pw_ret hT rfl (r := some (pvI (-1))) (M' := M) ⟨rfl, rfl⟩ ⟨⟨_, rfl, (zr_wide (show (-1) ≤ Int32.toInt (-1) ∧ Int32.toInt (-1) ≤ (-1) from (by decide)) (by decide) (by decide)), (by have u9 : Int32.toInt 0 = 0 := (by decide); have u8 : Int32.toInt (-1) = -1 := (by decide); omega)⟩, rfl⟩
                                  · refine And.intro (fun c35_ => ?_) (fun c35_ => ?_)
                                    · show PW 65 d (88, [some (pvR 124), some (pvI n1)], [], M) _
                                      have b36_ : 119 ≤ Int32.toInt n1 ∧ Int32.toInt n1 ≤ 119 := (by have u0 := (zbnd n1); have u1 := (zi_eq _ _).mp c35_; have u2 := (show 119 ≤ Int32.toInt 119 ∧ Int32.toInt 119 ≤ 119 from (by decide)); omega)
                                      refine pw_blk hT 1 (S' := (89, [some (pvR 124), some (pvI n1)], [pvI 0], M)) rfl ⟨trivial, trivial⟩ ?_
                                      exact pw_ret hT rfl (r := some (pvI 0)) (M' := M) ⟨rfl, rfl⟩ ⟨⟨_, rfl, (zr_wide (show 0 ≤ Int32.toInt 0 ∧ Int32.toInt 0 ≤ 0 from (by decide)) (by decide) (by decide)), (by have u9 : Int32.toInt 0 = 0 := (by decide); have u8 : Int32.toInt (-1) = -1 := (by decide); omega)⟩, rfl⟩
                                    · show PW 65 d (100, [some (pvR 124), some (pvI n1)], [], M) _
                                      refine pw_blk hT 1 (S' := (101, [some (pvR 124), some (pvI n1)], [pvI (-1)], M)) rfl ⟨trivial, trivial⟩ ?_
                                      exact pw_ret hT rfl (r := some (pvI (-1))) (M' := M) ⟨rfl, rfl⟩ ⟨⟨_, rfl, (zr_wide (show (-1) ≤ Int32.toInt (-1) ∧ Int32.toInt (-1) ≤ (-1) from (by decide)) (by decide) (by decide)), (by have u9 : Int32.toInt 0 = 0 := (by decide); have u8 : Int32.toInt (-1) = -1 := (by decide); omega)⟩, rfl⟩
def fpL_X10_whole_124 : List (Nat × Nat × Nat) := [(0, 124, 28), (0, 124, 29), (0, 124, 30), (0, 138, 0)]
def fp_X10_whole_124 (q k : Nat) : Bool := pvfp fpL_X10_whole_124 q k
theorem fp_X10_whole_124_fp_X10_emits_124_x (a b : Nat) (h : fp_X10_emits_124_x a b = true) : fp_X10_whole_124 a b = true := pvfp_sub (l1 := fpL_X10_emits_124_x) (l2 := fpL_X10_whole_124) (by decide) a b h
set_option maxHeartbeats 4000000 in
set_option maxRecDepth 10000 in
theorem sf_X10_whole_124 (M : pvM) (hok : pvOk M) (gg : Nat → Int32) (gf : Nat) (ga : Nat) (hg : zG gg gf ga 1 M) (d : Nat) : PW 96 d (0, [some (pvR 124)], [], M) (fun r X => r = none ∧ pvOk X ∧ pvFr fp_X10_whole_124 M X ∧ zG gg gf ga 1 X) := by
  have hT : pvdom 96 = pvD_96 := rfl
  have hlz63_ : ∀ (nz63_ : Nat) (Mz63_ : pvM), (pvOk Mz63_) → (pvFr fp_X10_whole_124 M Mz63_) → (zG gg gf ga 1 Mz63_) → (zhide ((Int32.toInt (Mz63_.1 124 28)).toNat < nz63_)) → PW 96 d (0, [some (pvR 124)], [], Mz63_) (fun r X => r = none ∧ pvOk X ∧ pvFr fp_X10_whole_124 M X ∧ zG gg gf ga 1 X) := by
    intro nz63_
    induction nz63_ with
    | zero => intro Mz63_ oz63_ fz63_ j0z63_ hmz63_; exact absurd (zshow hmz63_) (Nat.not_lt_zero _)
    | succ nz63_ ihz63_ =>
      intro Mz63_ oz63_ fz63_ j0z63_ hmz63_
      have b64_ : 0 ≤ Int32.toInt (Mz63_.1 124 28) ∧ Int32.toInt (Mz63_.1 124 28) ≤ 101 := pvok_r oz63_ 124 28 rfl
      refine pw_blk hT 2 (S' := (4, [some (pvR 124)], [pvI (Mz63_.1 124 28)], Mz63_)) rfl ⟨trivial, rfl, trivial⟩ ?_
      refine pw_if hT (c := (Mz63_.1 124 28) ≤ 0) rfl rfl (fun c65_ => ?_) (fun c65_ => ?_)
      · have b66_ : 0 ≤ Int32.toInt (Mz63_.1 124 28) ∧ Int32.toInt (Mz63_.1 124 28) ≤ 0 := zr_le_l 0 c65_ b64_ (show 0 ≤ Int32.toInt 0 ∧ Int32.toInt 0 ≤ 0 from (by decide)) (by decide)
        exact pw_ret hT rfl (r := none) (M' := Mz63_) ⟨rfl, rfl⟩ ⟨rfl, oz63_, fz63_, j0z63_⟩
      · have b67_ : 1 ≤ Int32.toInt (Mz63_.1 124 28) ∧ Int32.toInt (Mz63_.1 124 28) ≤ 101 := zr_nle_l 1 c65_ b64_ (show 0 ≤ Int32.toInt 0 ∧ Int32.toInt 0 ≤ 0 from (by decide)) (by decide)
        obtain ⟨q69_, b68_⟩ : (Int32.toInt ((Mz63_.1 124 28) - 1) = Int32.toInt (Mz63_.1 124 28) - 1) ∧ (0 ≤ Int32.toInt ((Mz63_.1 124 28) - 1) ∧ Int32.toInt ((Mz63_.1 124 28) - 1) ≤ 100) := zsub_k (Mz63_.1 124 28) 1 1 0 100 b67_ (by decide) (by decide) (by decide) (by decide) (by decide)
        have b70_ : 0 ≤ Int32.toInt (Mz63_.1 139 (Int32.toNatClampNeg ((Mz63_.1 124 28) - 1))) ∧ Int32.toInt (Mz63_.1 139 (Int32.toNatClampNeg ((Mz63_.1 124 28) - 1))) ≤ 127 := pvok_r oz63_ 139 (Int32.toNatClampNeg ((Mz63_.1 124 28) - 1)) rfl
        refine pw_blk hT 8 (S' := (20, [some (pvR 124)], [pvI 33, pvI (Mz63_.1 139 (Int32.toNatClampNeg ((Mz63_.1 124 28) - 1)))], Mz63_)) rfl ⟨trivial, rfl, trivial, rfl, trivial, trivial, ⟨rfl, (zr_in (n := 101) b68_ (by decide) (by decide))⟩, trivial, trivial⟩ ?_
        refine pw_icn hT (c := (Mz63_.1 139 (Int32.toNatClampNeg ((Mz63_.1 124 28) - 1))) = 33) rfl rfl (fun c71_ => ?_) (fun c71_ => ?_)
        · exact pw_ret hT rfl (r := none) (M' := Mz63_) ⟨rfl, rfl⟩ ⟨rfl, oz63_, fz63_, j0z63_⟩
        · have b72_ : 33 ≤ Int32.toInt (Mz63_.1 139 (Int32.toNatClampNeg ((Mz63_.1 124 28) - 1))) ∧ Int32.toInt (Mz63_.1 139 (Int32.toNatClampNeg ((Mz63_.1 124 28) - 1))) ≤ 33 := (by have u0 := b70_; have u1 := (zi_eq _ _).mp c71_; have u2 := (show 33 ≤ Int32.toInt 33 ∧ Int32.toInt 33 ≤ 33 from (by decide)); omega)
          refine pw_blk hT 2 (S' := (26, [some (pvR 124)], [pvI (-33), pvR 124], Mz63_)) rfl ⟨trivial, trivial, trivial⟩ ?_
          have u73_ : Int32.toInt (-33) = (-33) := by decide
          have b74_ : 0 ≤ Int32.toInt (Mz63_.1 124 27) ∧ Int32.toInt (Mz63_.1 124 27) ≤ 600 := pvok_r oz63_ 124 27 rfl
          refine pw_callVd hT (as := [pvR 124, pvI (-33)]) (lo1 := [some (pvR 124), some (pvI (-33))]) (d1 := d) (rest := []) rfl rfl rfl rfl rfl (fun _ => rfl) (Nat.zero_le _) rfl rfl rfl (sf_X10_emits_124_x Mz63_ oz63_ (-33) (zr_wide (show (-33) ≤ Int32.toInt (-33) ∧ Int32.toInt (-33) ≤ (-33) from (by decide)) (by decide) (by decide)) (show Int32.toInt (Mz63_.1 124 27) ≤ 599 ∧ 0 ≤ Int32.toInt (Mz63_.1 124 27) from (by have q0 := zG_n j0z63_; omega)) d) (fun M77_ o79_ g80_ d75_ => ?_)
          have f81_ : pvFr fp_X10_whole_124 M M77_ := pvfr_t g80_ fz63_ fp_X10_whole_124_fp_X10_emits_124_x
          have e82_ : (M77_.1 124 28) = (Mz63_.1 124 28) := (g80_ 124 28 rfl)
          have b83_ : 1 ≤ Int32.toInt (M77_.1 124 28) ∧ Int32.toInt (M77_.1 124 28) ≤ 101 := (by rw [e82_]; exact b67_)
          obtain ⟨q85_, b84_⟩ : (Int32.toInt ((M77_.1 124 28) - 1) = Int32.toInt (M77_.1 124 28) - 1) ∧ (0 ≤ Int32.toInt ((M77_.1 124 28) - 1) ∧ Int32.toInt ((M77_.1 124 28) - 1) ≤ 100) := zsub_k (M77_.1 124 28) 1 1 0 100 b83_ (by decide) (by decide) (by decide) (by decide) (by decide)
          refine pw_blkw hT 6 (pc := 39) (lo := [some (pvR 124)]) (st := []) (M := pvu M77_ 124 28 ((M77_.1 124 28) - 1)) rfl ⟨trivial, trivial, rfl, trivial, trivial, rfl, trivial⟩ (fun M86_ e87_ => ?_)
          have o88_ : pvOk M86_ := pvok_u2 e87_ o79_ rfl (zr_wide b84_ (by decide) (by decide))
          have f89_ : pvFr fp_X10_whole_124 M M86_ := pvfr_u e87_ f81_ rfl
          refine pw_blkw hT 6 (pc := 49) (lo := [some (pvR 124)]) (st := []) (M := pvu M86_ 124 29 ((M86_.1 124 29) - 1)) rfl ⟨trivial, trivial, rfl, trivial, trivial, rfl, trivial⟩ (fun M90_ e91_ => ?_)
          have o92_ : pvOk M90_ := pvok_u2 e91_ o88_ rfl (zbnd ((M86_.1 124 29) - 1))
          have f93_ : pvFr fp_X10_whole_124 M M90_ := pvfr_u e91_ f89_ rfl
          refine pw_blk hT 1 (S' := (0, [some (pvR 124)], [], M90_)) rfl ⟨trivial, trivial⟩ ?_
          have j94_ : zG gg gf ga 1 M90_ := (zG_w j0z63_ d75_ e87_ e91_ (by omega) (by omega))
          exact ihz63_ M90_ o92_ f93_ j94_ (zhid (by have hm0 := zshow hmz63_; have w0 : Int32.toInt (M90_.1 124 28) = Int32.toInt (M86_.1 124 28) := congrArg Int32.toInt (pvu_n e91_ 124 28 (Or.inr (by decide))); have w1 : Int32.toInt (M86_.1 124 28) = Int32.toInt ((M77_.1 124 28) - 1) := congrArg Int32.toInt (pvu_s e87_); have w2 : Int32.toInt (M77_.1 124 28) = Int32.toInt (Mz63_.1 124 28) := congrArg Int32.toInt (g80_ 124 28 rfl); omega))
  have j95_ : zG gg gf ga 1 M := hg
  exact hlz63_ _ M hok pvfr_0 j95_ (zhid (Nat.lt_succ_self _))
def fpL_X10_takesTest_124 : List (Nat × Nat × Nat) := [(0, 124, 18), (0, 124, 19), (0, 124, 28), (0, 124, 29), (0, 124, 30), (0, 138, 0)]
def fp_X10_takesTest_124 (q k : Nat) : Bool := pvfp fpL_X10_takesTest_124 q k
theorem fp_X10_takesTest_124_fp_X10_emits_124_x (a b : Nat) (h : fp_X10_emits_124_x a b = true) : fp_X10_takesTest_124 a b = true := pvfp_sub (l1 := fpL_X10_emits_124_x) (l2 := fpL_X10_takesTest_124) (by decide) a b h
theorem fp_X10_takesTest_124_fp_X10_takesNumber_124 (a b : Nat) (h : fp_X10_takesNumber_124 a b = true) : fp_X10_takesTest_124 a b = true := pvfp_sub (l1 := fpL_X10_takesNumber_124) (l2 := fpL_X10_takesTest_124) (by decide) a b h
theorem fp_X10_takesTest_124_fp_X10_whole_124 (a b : Nat) (h : fp_X10_whole_124 a b = true) : fp_X10_takesTest_124 a b = true := pvfp_sub (l1 := fpL_X10_whole_124) (l2 := fpL_X10_takesTest_124) (by decide) a b h
set_option maxHeartbeats 4000000 in
set_option maxRecDepth 10000 in
theorem sf_X10_takesTest_124 (M : pvM) (hok : pvOk M) (gg : Nat → Int32) (gf : Nat) (ga : Nat) (hg : zG gg gf ga 0 M) (d : Nat) : PW 87 d (0, [some (pvR 124), none, none], [], M) (fun r X => (∃ x : Int32, r = some (pvI x) ∧ 0 ≤ Int32.toInt x ∧ Int32.toInt x ≤ 1) ∧ pvOk X ∧ pvFr fp_X10_takesTest_124 M X ∧ (∀ k, k < ga → X.1 138 k = gg k) ∧ (r = some (pvI 1) → zG gg gf ga 1 X ∧ Int32.toInt (M.1 124 17) + 1 ≤ Int32.toInt (X.1 124 17))) := by
  have hT : pvdom 87 = pvD_87 := rfl
  refine pw_blk hT 2 (S' := (2, [some (pvR 124), none, none], [pvR 124, pvR 124], M)) rfl ⟨trivial, trivial, trivial⟩ ?_
  refine pw_callT hT (as := [pvR 124]) (lo1 := [some (pvR 124)]) (d1 := d) (rest := [pvR 124]) rfl rfl rfl rfl rfl (fun _ => rfl) (Nat.zero_le _) rfl rfl rfl (sf_X10_peek_124 M hok d) ?_
  have b6_ : 0 ≤ Int32.toInt (M.1 124 16) ∧ Int32.toInt (M.1 124 16) ≤ 100 := pvok_r hok 124 16 rfl
  have b7_ : 0 ≤ Int32.toInt (M.1 124 17) ∧ Int32.toInt (M.1 124 17) ≤ 100 := pvok_r hok 124 17 rfl
  by_cases c8_ : (M.1 124 16) ≤ (M.1 124 17)
  · refine pw_eqI (if_pos c8_) ?_
    have d9_ : Int32.toInt (M.1 124 16) ≤ Int32.toInt (M.1 124 17) := (zi_le _ _).mp c8_
    show PW 87 d (5, [some (pvR 124), none, none], [pvI (-1), pvR 124], M) _
    refine pw_callGp hT (as := [pvR 124, pvI (-1)]) (lo1 := [some (pvR 124), some (pvI (-1))]) (d1 := d) (rest := []) rfl rfl rfl rfl rfl (fun _ => rfl) (Nat.zero_le _) rfl rfl rfl (sf_X10_place_124_x M hok (-1) d) (fun x10_ b12_ => ?_)
    have u15_ : Int32.toInt (-1) = (-1) := by decide
    obtain ⟨b16_, d17_⟩ := b12_
    refine pw_blk hT 2 (S' := (10, [some (pvR 124), some (pvI x10_), none], [pvI x10_], M)) rfl ⟨trivial, trivial, trivial⟩ ?_
    refine pw_if hT (c := 0 ≤ x10_) rfl rfl (fun c18_ => ?_) (fun c18_ => ?_)
    · have b19_ : 0 ≤ Int32.toInt x10_ ∧ Int32.toInt x10_ ≤ 5 := zr_le_r 0 c18_ b16_ (show 0 ≤ Int32.toInt 0 ∧ Int32.toInt 0 ≤ 0 from (by decide)) (by decide)
      obtain ⟨q21_, b20_⟩ : (Int32.toInt ((M.1 124 17) + 1) = Int32.toInt (M.1 124 17) + 1) ∧ (1 ≤ Int32.toInt ((M.1 124 17) + 1) ∧ Int32.toInt ((M.1 124 17) + 1) ≤ 101) := zadd_k (M.1 124 17) 1 1 1 101 b7_ (by decide) (by decide) (by decide) (by decide) (by decide)
      refine pw_blkw hT 6 (pc := 25) (lo := [some (pvR 124), some (pvI x10_), none]) (st := []) (M := pvu M 124 17 ((M.1 124 17) + 1)) rfl ⟨trivial, trivial, rfl, trivial, trivial, rfl, trivial⟩ (fun M22_ e23_ => ?_)
      have o24_ : pvOk M22_ := pvok_u2 e23_ hok rfl (by have u0 := b20_; omega)
      have f25_ : pvFr fp_X10_takesTest_124 M M22_ := pvfr_u e23_ pvfr_0 rfl
      refine pw_blk hT 1 (S' := (26, [some (pvR 124), some (pvI x10_), none], [pvR 124], M22_)) rfl ⟨trivial, trivial⟩ ?_
      refine pw_callT hT (as := [pvR 124]) (lo1 := [some (pvR 124)]) (d1 := d) (rest := []) rfl rfl rfl rfl rfl (fun _ => rfl) (Nat.zero_le _) rfl rfl rfl (sf_X10_peek_124 M22_ o24_ d) ?_
      have b31_ : 0 ≤ Int32.toInt (M22_.1 124 16) ∧ Int32.toInt (M22_.1 124 16) ≤ 100 := pvok_r o24_ 124 16 rfl
      have e32_ : (M22_.1 124 17) = ((M.1 124 17) + 1) := (pvu_s e23_)
      have b33_ : 1 ≤ Int32.toInt (M22_.1 124 17) ∧ Int32.toInt (M22_.1 124 17) ≤ 100 := (by rw [e32_]; exact (by have u0 := b20_; omega))
      by_cases c34_ : (M22_.1 124 16) ≤ (M22_.1 124 17)
      · refine pw_eqI (if_pos c34_) ?_
        have d35_ : Int32.toInt (M22_.1 124 16) ≤ Int32.toInt (M22_.1 124 17) := (zi_le _ _).mp c34_
        show PW 87 d (29, [some (pvR 124), some (pvI x10_), none], [pvI (-1)], M22_) _
        refine pw_blk hT 5 (S' := (36, [some (pvR 124), some (pvI x10_), some (pvI (-1))], [pvI 62, pvI 60, pvI (-1), pvR 124], M22_)) rfl ⟨trivial, trivial, trivial, trivial, trivial, trivial⟩ ?_
        refine pw_callT hT (as := [pvR 124, pvI (-1), pvI 60, pvI 62]) (lo1 := [some (pvR 124), some (pvI (-1)), some (pvI 60), some (pvI 62)]) (d1 := d) (rest := []) rfl rfl rfl rfl rfl (fun _ => rfl) (Nat.zero_le _) rfl rfl rfl (sf_X10_in_124_x_x_x M22_ o24_ (-1) 60 62 d) ?_
        refine pw_eqI (if_pos (by decide)) ?_
        show PW 87 d (39, [some (pvR 124), some (pvI x10_), some (pvI (-1))], [pvI 0], M22_) _
        refine pw_ifn hT (c := 0 = 0) rfl rfl (fun c41_ => absurd (by decide) c41_) (fun c41_ => ?_)
        refine pw_blk hT 1 (S' := (43, [some (pvR 124), some (pvI x10_), some (pvI (-1))], [pvI 0], M22_)) rfl ⟨trivial, trivial⟩ ?_
        exact pw_ret hT rfl (r := some (pvI 0)) (M' := M22_) ⟨Or.inl rfl, rfl, rfl⟩ ⟨⟨_, rfl, (zr_wide (show 0 ≤ Int32.toInt 0 ∧ Int32.toInt 0 ≤ 0 from (by decide)) (by decide) (by decide))⟩, o24_, f25_, ⟨fun k hk => (congrFun (pvu_row e23_ (by decide)) k).trans (zG_r hg k hk), fun z => absurd z pvno⟩⟩
      · refine pw_eqI (if_neg c34_) ?_
        have b42_ : 2 ≤ Int32.toInt (M22_.1 124 16) ∧ Int32.toInt (M22_.1 124 16) ≤ 100 := zr_nle_l 2 c34_ b31_ b33_ (by decide)
        have b43_ : 1 ≤ Int32.toInt (M22_.1 124 17) ∧ Int32.toInt (M22_.1 124 17) ≤ 99 := zr_nle_r 99 c34_ b33_ b42_ (by decide)
        have d44_ : Int32.toInt (M22_.1 124 16) > Int32.toInt (M22_.1 124 17) := Int.not_le.mp ((not_congr (zi_le _ _)).mp c34_)
        have b45_ : 0 ≤ Int32.toInt (M22_.1 132 (Int32.toNatClampNeg (M22_.1 124 17))) ∧ Int32.toInt (M22_.1 132 (Int32.toNatClampNeg (M22_.1 124 17))) ≤ 127 := pvok_r o24_ 132 (Int32.toNatClampNeg (M22_.1 124 17)) rfl
        show PW 87 d (29, [some (pvR 124), some (pvI x10_), none], [pvI (M22_.1 132 (Int32.toNatClampNeg (M22_.1 124 17)))], M22_) _
        refine pw_blk hT 5 (S' := (36, [some (pvR 124), some (pvI x10_), some (pvI (M22_.1 132 (Int32.toNatClampNeg (M22_.1 124 17))))], [pvI 62, pvI 60, pvI (M22_.1 132 (Int32.toNatClampNeg (M22_.1 124 17))), pvR 124], M22_)) rfl ⟨trivial, trivial, trivial, trivial, trivial, trivial⟩ ?_
        refine pw_callT hT (as := [pvR 124, pvI (M22_.1 132 (Int32.toNatClampNeg (M22_.1 124 17))), pvI 60, pvI 62]) (lo1 := [some (pvR 124), some (pvI (M22_.1 132 (Int32.toNatClampNeg (M22_.1 124 17)))), some (pvI 60), some (pvI 62)]) (d1 := d) (rest := []) rfl rfl rfl rfl rfl (fun _ => rfl) (Nat.zero_le _) rfl rfl rfl (sf_X10_in_124_x_x_x M22_ o24_ (M22_.1 132 (Int32.toNatClampNeg (M22_.1 124 17))) 60 62 d) ?_
        by_cases c51_ : (M22_.1 132 (Int32.toNatClampNeg (M22_.1 124 17))) < 60
        · refine pw_eqI (if_pos c51_) ?_
          have b52_ : 0 ≤ Int32.toInt (M22_.1 132 (Int32.toNatClampNeg (M22_.1 124 17))) ∧ Int32.toInt (M22_.1 132 (Int32.toNatClampNeg (M22_.1 124 17))) ≤ 59 := zr_lt_l 59 c51_ b45_ (show 60 ≤ Int32.toInt 60 ∧ Int32.toInt 60 ≤ 60 from (by decide)) (by decide)
          show PW 87 d (39, [some (pvR 124), some (pvI x10_), some (pvI (M22_.1 132 (Int32.toNatClampNeg (M22_.1 124 17))))], [pvI 0], M22_) _
          refine pw_ifn hT (c := 0 = 0) rfl rfl (fun c53_ => absurd (by decide) c53_) (fun c53_ => ?_)
          refine pw_blk hT 1 (S' := (43, [some (pvR 124), some (pvI x10_), some (pvI (M22_.1 132 (Int32.toNatClampNeg (M22_.1 124 17))))], [pvI 0], M22_)) rfl ⟨trivial, trivial⟩ ?_
          exact pw_ret hT rfl (r := some (pvI 0)) (M' := M22_) ⟨Or.inl rfl, rfl, rfl⟩ ⟨⟨_, rfl, (zr_wide (show 0 ≤ Int32.toInt 0 ∧ Int32.toInt 0 ≤ 0 from (by decide)) (by decide) (by decide))⟩, o24_, f25_, ⟨fun k hk => (congrFun (pvu_row e23_ (by decide)) k).trans (zG_r hg k hk), fun z => absurd z pvno⟩⟩
        · refine pw_eqI (if_neg c51_) ?_
          have b54_ : 60 ≤ Int32.toInt (M22_.1 132 (Int32.toNatClampNeg (M22_.1 124 17))) ∧ Int32.toInt (M22_.1 132 (Int32.toNatClampNeg (M22_.1 124 17))) ≤ 127 := zr_nlt_l 60 c51_ b45_ (show 60 ≤ Int32.toInt 60 ∧ Int32.toInt 60 ≤ 60 from (by decide)) (by decide)
          by_cases c55_ : 62 < (M22_.1 132 (Int32.toNatClampNeg (M22_.1 124 17)))
          · refine pw_eqI (if_pos c55_) ?_
            have b56_ : 63 ≤ Int32.toInt (M22_.1 132 (Int32.toNatClampNeg (M22_.1 124 17))) ∧ Int32.toInt (M22_.1 132 (Int32.toNatClampNeg (M22_.1 124 17))) ≤ 127 := zr_lt_r 63 c55_ b54_ (show 62 ≤ Int32.toInt 62 ∧ Int32.toInt 62 ≤ 62 from (by decide)) (by decide)
            show PW 87 d (39, [some (pvR 124), some (pvI x10_), some (pvI (M22_.1 132 (Int32.toNatClampNeg (M22_.1 124 17))))], [pvI 0], M22_) _
            refine pw_ifn hT (c := 0 = 0) rfl rfl (fun c57_ => absurd (by decide) c57_) (fun c57_ => ?_)
            refine pw_blk hT 1 (S' := (43, [some (pvR 124), some (pvI x10_), some (pvI (M22_.1 132 (Int32.toNatClampNeg (M22_.1 124 17))))], [pvI 0], M22_)) rfl ⟨trivial, trivial⟩ ?_
            exact pw_ret hT rfl (r := some (pvI 0)) (M' := M22_) ⟨Or.inl rfl, rfl, rfl⟩ ⟨⟨_, rfl, (zr_wide (show 0 ≤ Int32.toInt 0 ∧ Int32.toInt 0 ≤ 0 from (by decide)) (by decide) (by decide))⟩, o24_, f25_, ⟨fun k hk => (congrFun (pvu_row e23_ (by decide)) k).trans (zG_r hg k hk), fun z => absurd z pvno⟩⟩
          · refine pw_eqI (if_neg c55_) ?_
            have b58_ : 60 ≤ Int32.toInt (M22_.1 132 (Int32.toNatClampNeg (M22_.1 124 17))) ∧ Int32.toInt (M22_.1 132 (Int32.toNatClampNeg (M22_.1 124 17))) ≤ 62 := zr_nlt_r 62 c55_ b54_ (show 62 ≤ Int32.toInt 62 ∧ Int32.toInt 62 ≤ 62 from (by decide)) (by decide)
            show PW 87 d (39, [some (pvR 124), some (pvI x10_), some (pvI (M22_.1 132 (Int32.toNatClampNeg (M22_.1 124 17))))], [pvI 1], M22_) _
            refine pw_ifn hT (c := 1 = 0) rfl rfl (fun c59_ => ?_) (fun c59_ => absurd c59_ (by decide))
            obtain ⟨q61_, b60_⟩ : (Int32.toInt ((M22_.1 124 17) + 1) = Int32.toInt (M22_.1 124 17) + 1) ∧ (2 ≤ Int32.toInt ((M22_.1 124 17) + 1) ∧ Int32.toInt ((M22_.1 124 17) + 1) ≤ 100) := zadd_k (M22_.1 124 17) 1 1 2 100 b43_ (by decide) (by decide) (by decide) (by decide) (by decide)
            refine pw_blkw hT 6 (pc := 54) (lo := [some (pvR 124), some (pvI x10_), some (pvI (M22_.1 132 (Int32.toNatClampNeg (M22_.1 124 17))))]) (st := []) (M := pvu M22_ 124 17 ((M22_.1 124 17) + 1)) rfl ⟨trivial, trivial, rfl, trivial, trivial, rfl, trivial⟩ (fun M62_ e63_ => ?_)
            have o64_ : pvOk M62_ := pvok_u2 e63_ o24_ rfl (zr_wide b60_ (by decide) (by decide))
            have f65_ : pvFr fp_X10_takesTest_124 M M62_ := pvfr_u e63_ f25_ rfl
            refine pw_blk hT 1 (S' := (55, [some (pvR 124), some (pvI x10_), some (pvI (M22_.1 132 (Int32.toNatClampNeg (M22_.1 124 17))))], [pvR 124], M62_)) rfl ⟨trivial, trivial⟩ ?_
            refine pw_callGd hT (as := [pvR 124]) (lo1 := [some (pvR 124), none]) (d1 := d) (rest := []) rfl rfl rfl rfl rfl (fun _ => rfl) (Nat.zero_le _) rfl rfl rfl (sf_X10_takesNumber_124 M62_ o64_ d) (fun x67_ M68_ b69_ o70_ g71_ d66_ => ?_)
            have f72_ : pvFr fp_X10_takesTest_124 M M68_ := pvfr_t g71_ f65_ fp_X10_takesTest_124_fp_X10_takesNumber_124
            refine pw_ifn hT (c := x67_ = 0) rfl rfl (fun c73_ => ?_) (fun c73_ => ?_)
            · have b74_ : 1 ≤ Int32.toInt x67_ ∧ Int32.toInt x67_ ≤ 1 := (by have u0 := b69_; have u1 := (not_congr (zi_eq _ _)).mp c73_; have u2 := (show 0 ≤ Int32.toInt 0 ∧ Int32.toInt 0 ≤ 0 from (by decide)); omega)
              have q75_ : Int32.toInt (1000 * x10_) = 1000 * Int32.toInt x10_ := by have u0 : Int32.toInt 1000 = 1000 := (by decide); have u1 := b19_; have u2 := zmul 1000 x10_ (by rw [u0]; omega) (by rw [u0]; omega); rw [u0] at u2; omega
              have b76_ : 0 ≤ Int32.toInt (1000 * x10_) ∧ Int32.toInt (1000 * x10_) ≤ 5000 := (by have u1 := b19_; omega)
              obtain ⟨q78_, b77_⟩ : (Int32.toInt ((M22_.1 132 (Int32.toNatClampNeg (M22_.1 124 17))) - 60) = Int32.toInt (M22_.1 132 (Int32.toNatClampNeg (M22_.1 124 17))) - 60) ∧ (0 ≤ Int32.toInt ((M22_.1 132 (Int32.toNatClampNeg (M22_.1 124 17))) - 60) ∧ Int32.toInt ((M22_.1 132 (Int32.toNatClampNeg (M22_.1 124 17))) - 60) ≤ 2) := zsub_k (M22_.1 132 (Int32.toNatClampNeg (M22_.1 124 17))) 60 60 0 2 b58_ (by decide) (by decide) (by decide) (by decide) (by decide)
              have q79_ : Int32.toInt (100 * ((M22_.1 132 (Int32.toNatClampNeg (M22_.1 124 17))) - 60)) = 100 * Int32.toInt ((M22_.1 132 (Int32.toNatClampNeg (M22_.1 124 17))) - 60) := by have u0 : Int32.toInt 100 = 100 := (by decide); have u1 := b77_; have u2 := zmul 100 ((M22_.1 132 (Int32.toNatClampNeg (M22_.1 124 17))) - 60) (by rw [u0]; omega) (by rw [u0]; omega); rw [u0] at u2; omega
              have b80_ : 0 ≤ Int32.toInt (100 * ((M22_.1 132 (Int32.toNatClampNeg (M22_.1 124 17))) - 60)) ∧ Int32.toInt (100 * ((M22_.1 132 (Int32.toNatClampNeg (M22_.1 124 17))) - 60)) ≤ 200 := (by have u1 := b77_; omega)
              obtain ⟨q82_, b81_⟩ : (Int32.toInt ((1000 * x10_) + (100 * ((M22_.1 132 (Int32.toNatClampNeg (M22_.1 124 17))) - 60))) = Int32.toInt (1000 * x10_) + Int32.toInt (100 * ((M22_.1 132 (Int32.toNatClampNeg (M22_.1 124 17))) - 60))) ∧ (0 ≤ Int32.toInt ((1000 * x10_) + (100 * ((M22_.1 132 (Int32.toNatClampNeg (M22_.1 124 17))) - 60))) ∧ Int32.toInt ((1000 * x10_) + (100 * ((M22_.1 132 (Int32.toNatClampNeg (M22_.1 124 17))) - 60))) ≤ 5200) := zadd_r (1000 * x10_) (100 * ((M22_.1 132 (Int32.toNatClampNeg (M22_.1 124 17))) - 60)) 0 5200 b76_ b80_ (by decide) (by decide) (by decide) (by decide)
              have b83_ : 0 ≤ Int32.toInt (M68_.1 124 18) ∧ Int32.toInt (M68_.1 124 18) ≤ 99 := pvok_r o70_ 124 18 rfl
              obtain ⟨q85_, b84_⟩ : (Int32.toInt (((1000 * x10_) + (100 * ((M22_.1 132 (Int32.toNatClampNeg (M22_.1 124 17))) - 60))) + (M68_.1 124 18)) = Int32.toInt ((1000 * x10_) + (100 * ((M22_.1 132 (Int32.toNatClampNeg (M22_.1 124 17))) - 60))) + Int32.toInt (M68_.1 124 18)) ∧ (0 ≤ Int32.toInt (((1000 * x10_) + (100 * ((M22_.1 132 (Int32.toNatClampNeg (M22_.1 124 17))) - 60))) + (M68_.1 124 18)) ∧ Int32.toInt (((1000 * x10_) + (100 * ((M22_.1 132 (Int32.toNatClampNeg (M22_.1 124 17))) - 60))) + (M68_.1 124 18)) ≤ 5299) := zadd_r ((1000 * x10_) + (100 * ((M22_.1 132 (Int32.toNatClampNeg (M22_.1 124 17))) - 60))) (M68_.1 124 18) 0 5299 b81_ b83_ (by decide) (by decide) (by decide) (by decide)
              refine pw_blk hT 13 (S' := (82, [some (pvR 124), some (pvI x10_), some (pvI (M22_.1 132 (Int32.toNatClampNeg (M22_.1 124 17))))], [pvI (((1000 * x10_) + (100 * ((M22_.1 132 (Int32.toNatClampNeg (M22_.1 124 17))) - 60))) + (M68_.1 124 18)), pvR 124], M68_)) rfl ⟨trivial, trivial, trivial, trivial, trivial, trivial, trivial, trivial, trivial, trivial, trivial, rfl, trivial, trivial⟩ ?_
              have b86_ : 0 ≤ Int32.toInt (M68_.1 124 27) ∧ Int32.toInt (M68_.1 124 27) ≤ 600 := pvok_r o70_ 124 27 rfl
              refine pw_callVd hT (as := [pvR 124, pvI (((1000 * x10_) + (100 * ((M22_.1 132 (Int32.toNatClampNeg (M22_.1 124 17))) - 60))) + (M68_.1 124 18))]) (lo1 := [some (pvR 124), some (pvI (((1000 * x10_) + (100 * ((M22_.1 132 (Int32.toNatClampNeg (M22_.1 124 17))) - 60))) + (M68_.1 124 18)))]) (d1 := d) (rest := []) rfl rfl rfl rfl rfl (fun _ => rfl) (Nat.zero_le _) rfl rfl rfl (sf_X10_emits_124_x M68_ o70_ (((1000 * x10_) + (100 * ((M22_.1 132 (Int32.toNatClampNeg (M22_.1 124 17))) - 60))) + (M68_.1 124 18)) (zr_wide b84_ (by decide) (by decide)) (show Int32.toInt (M68_.1 124 27) ≤ 599 ∧ 0 ≤ Int32.toInt (M68_.1 124 27) from (by have q0 := zG_n hg; have w0 : Int32.toInt (M68_.1 124 27) = Int32.toInt (M62_.1 124 27) := congrArg Int32.toInt (g71_ 124 27 rfl); have w1 : Int32.toInt (M62_.1 124 27) = Int32.toInt (M22_.1 124 27) := congrArg Int32.toInt (pvu_n e63_ 124 27 (Or.inr (by decide))); have w2 : Int32.toInt (M22_.1 124 27) = Int32.toInt (M.1 124 27) := congrArg Int32.toInt (pvu_n e23_ 124 27 (Or.inr (by decide))); have v1 : Int32.toInt (M62_.1 124 17) = Int32.toInt ((M22_.1 124 17) + 1) := congrArg Int32.toInt (pvu_s e63_); have v2 : Int32.toInt (M22_.1 124 17) = Int32.toInt ((M.1 124 17) + 1) := congrArg Int32.toInt (pvu_s e23_); omega)) d) (fun M89_ o91_ g92_ d87_ => ?_)
              have f93_ : pvFr fp_X10_takesTest_124 M M89_ := pvfr_t g92_ f72_ fp_X10_takesTest_124_fp_X10_emits_124_x
              refine pw_blk hT 1 (S' := (86, [some (pvR 124), some (pvI x10_), some (pvI (M22_.1 132 (Int32.toNatClampNeg (M22_.1 124 17))))], [pvR 124], M89_)) rfl ⟨trivial, trivial⟩ ?_
              refine pw_callVd hT (as := [pvR 124]) (lo1 := [some (pvR 124)]) (d1 := d) (rest := []) rfl rfl rfl rfl rfl (fun _ => rfl) (Nat.zero_le _) rfl rfl rfl (sf_X10_whole_124 M89_ o91_ gg gf ga (zG_test hg (((g71_ 124 27 rfl).trans (pvu_n e63_ 124 27 (Or.inr (by decide)))).trans (pvu_n e23_ 124 27 (Or.inr (by decide)))) (((g71_ 124 28 rfl).trans (pvu_n e63_ 124 28 (Or.inr (by decide)))).trans (pvu_n e23_ 124 28 (Or.inr (by decide)))) (((pvfr_row (L := fpL_X10_takesNumber_124) g71_ rfl).trans (pvu_row e63_ (by decide))).trans (pvu_row e23_ (by decide))) (((pvfr_row (L := fpL_X10_takesNumber_124) g71_ rfl).trans (pvu_row e63_ (by decide))).trans (pvu_row e23_ (by decide))) (by have w1 : Int32.toInt (M62_.1 124 17) = Int32.toInt ((M22_.1 124 17) + 1) := congrArg Int32.toInt (pvu_s e63_); have w2 : Int32.toInt (M22_.1 124 17) = Int32.toInt ((M.1 124 17) + 1) := congrArg Int32.toInt (pvu_s e23_); omega) (by have q9 := pvok_r o70_ 124 17 (lo := 0) (hi := 100) rfl; omega) d87_ (by have u := b84_; omega)) d) (fun M96_ o98_ g99_ d94_ => ?_)
              have f100_ : pvFr fp_X10_takesTest_124 M M96_ := pvfr_t g99_ f93_ fp_X10_takesTest_124_fp_X10_whole_124
              refine pw_blk hT 1 (S' := (90, [some (pvR 124), some (pvI x10_), some (pvI (M22_.1 132 (Int32.toNatClampNeg (M22_.1 124 17))))], [pvI 1], M96_)) rfl ⟨trivial, trivial⟩ ?_
              exact pw_ret hT rfl (r := some (pvI 1)) (M' := M96_) ⟨Or.inr rfl, rfl, rfl⟩ ⟨⟨_, rfl, (zr_wide (show 1 ≤ Int32.toInt 1 ∧ Int32.toInt 1 ≤ 1 from (by decide)) (by decide) (by decide))⟩, o98_, f100_, ⟨zG_r d94_, fun _ => ⟨d94_, by have w0 : Int32.toInt (M96_.1 124 17) = Int32.toInt (M89_.1 124 17) := congrArg Int32.toInt (g99_ 124 17 rfl); have w1 : Int32.toInt (M89_.1 124 17) = Int32.toInt (M68_.1 124 17) := congrArg Int32.toInt (g92_ 124 17 rfl); have w3 : Int32.toInt (M62_.1 124 17) = Int32.toInt ((M22_.1 124 17) + 1) := congrArg Int32.toInt (pvu_s e63_); have w4 : Int32.toInt (M22_.1 124 17) = Int32.toInt ((M.1 124 17) + 1) := congrArg Int32.toInt (pvu_s e23_); omega⟩⟩⟩
            · have b101_ : 0 ≤ Int32.toInt x67_ ∧ Int32.toInt x67_ ≤ 0 := (by have u0 := b69_; have u1 := (zi_eq _ _).mp c73_; have u2 := (show 0 ≤ Int32.toInt 0 ∧ Int32.toInt 0 ≤ 0 from (by decide)); omega)
              refine pw_blk hT 1 (S' := (62, [some (pvR 124), some (pvI x10_), some (pvI (M22_.1 132 (Int32.toNatClampNeg (M22_.1 124 17))))], [pvI 0], M68_)) rfl ⟨trivial, trivial⟩ ?_
              exact pw_ret hT rfl (r := some (pvI 0)) (M' := M68_) ⟨Or.inl rfl, rfl, rfl⟩ ⟨⟨_, rfl, (zr_wide (show 0 ≤ Int32.toInt 0 ∧ Int32.toInt 0 ≤ 0 from (by decide)) (by decide) (by decide))⟩, o70_, f72_, ⟨fun k hk => (congrFun (((pvfr_row (L := fpL_X10_takesNumber_124) g71_ rfl).trans (pvu_row e63_ (by decide))).trans (pvu_row e23_ (by decide))) k).trans (zG_r hg k hk), fun z => absurd z pvno⟩⟩
    · have b102_ : (-1) ≤ Int32.toInt x10_ ∧ Int32.toInt x10_ ≤ (-1) := zr_nle_r (-1) c18_ b16_ (show 0 ≤ Int32.toInt 0 ∧ Int32.toInt 0 ≤ 0 from (by decide)) (by decide)
      refine pw_blk hT 1 (S' := (14, [some (pvR 124), some (pvI x10_), none], [pvI 0], M)) rfl ⟨trivial, trivial⟩ ?_
      exact pw_ret hT rfl (r := some (pvI 0)) (M' := M) ⟨Or.inl rfl, rfl, rfl⟩ ⟨⟨_, rfl, (zr_wide (show 0 ≤ Int32.toInt 0 ∧ Int32.toInt 0 ≤ 0 from (by decide)) (by decide) (by decide))⟩, hok, pvfr_0, ⟨fun k hk => (congrFun rfl k).trans (zG_r hg k hk), fun z => absurd z pvno⟩⟩
  · refine pw_eqI (if_neg c8_) ?_
    have b103_ : 1 ≤ Int32.toInt (M.1 124 16) ∧ Int32.toInt (M.1 124 16) ≤ 100 := zr_nle_l 1 c8_ b6_ b7_ (by decide)
    have b104_ : 0 ≤ Int32.toInt (M.1 124 17) ∧ Int32.toInt (M.1 124 17) ≤ 99 := zr_nle_r 99 c8_ b7_ b103_ (by decide)
    have d105_ : Int32.toInt (M.1 124 16) > Int32.toInt (M.1 124 17) := Int.not_le.mp ((not_congr (zi_le _ _)).mp c8_)
    have b106_ : 0 ≤ Int32.toInt (M.1 132 (Int32.toNatClampNeg (M.1 124 17))) ∧ Int32.toInt (M.1 132 (Int32.toNatClampNeg (M.1 124 17))) ≤ 127 := pvok_r hok 132 (Int32.toNatClampNeg (M.1 124 17)) rfl
    show PW 87 d (5, [some (pvR 124), none, none], [pvI (M.1 132 (Int32.toNatClampNeg (M.1 124 17))), pvR 124], M) _
    refine pw_callGp hT (as := [pvR 124, pvI (M.1 132 (Int32.toNatClampNeg (M.1 124 17)))]) (lo1 := [some (pvR 124), some (pvI (M.1 132 (Int32.toNatClampNeg (M.1 124 17))))]) (d1 := d) (rest := []) rfl rfl rfl rfl rfl (fun _ => rfl) (Nat.zero_le _) rfl rfl rfl (sf_X10_place_124_x M hok (M.1 132 (Int32.toNatClampNeg (M.1 124 17))) d) (fun x107_ b109_ => ?_)
    obtain ⟨b112_, d113_⟩ := b109_
    refine pw_blk hT 2 (S' := (10, [some (pvR 124), some (pvI x107_), none], [pvI x107_], M)) rfl ⟨trivial, trivial, trivial⟩ ?_
    refine pw_if hT (c := 0 ≤ x107_) rfl rfl (fun c114_ => ?_) (fun c114_ => ?_)
    · have b115_ : 0 ≤ Int32.toInt x107_ ∧ Int32.toInt x107_ ≤ 5 := zr_le_r 0 c114_ b112_ (show 0 ≤ Int32.toInt 0 ∧ Int32.toInt 0 ≤ 0 from (by decide)) (by decide)
      obtain ⟨q117_, b116_⟩ : (Int32.toInt ((M.1 124 17) + 1) = Int32.toInt (M.1 124 17) + 1) ∧ (1 ≤ Int32.toInt ((M.1 124 17) + 1) ∧ Int32.toInt ((M.1 124 17) + 1) ≤ 100) := zadd_k (M.1 124 17) 1 1 1 100 b104_ (by decide) (by decide) (by decide) (by decide) (by decide)
      refine pw_blkw hT 6 (pc := 25) (lo := [some (pvR 124), some (pvI x107_), none]) (st := []) (M := pvu M 124 17 ((M.1 124 17) + 1)) rfl ⟨trivial, trivial, rfl, trivial, trivial, rfl, trivial⟩ (fun M118_ e119_ => ?_)
      have o120_ : pvOk M118_ := pvok_u2 e119_ hok rfl (zr_wide b116_ (by decide) (by decide))
      have f121_ : pvFr fp_X10_takesTest_124 M M118_ := pvfr_u e119_ pvfr_0 rfl
      refine pw_blk hT 1 (S' := (26, [some (pvR 124), some (pvI x107_), none], [pvR 124], M118_)) rfl ⟨trivial, trivial⟩ ?_
      refine pw_callT hT (as := [pvR 124]) (lo1 := [some (pvR 124)]) (d1 := d) (rest := []) rfl rfl rfl rfl rfl (fun _ => rfl) (Nat.zero_le _) rfl rfl rfl (sf_X10_peek_124 M118_ o120_ d) ?_
      have e127_ : (M118_.1 124 16) = (M.1 124 16) := (pvu_n e119_ 124 16 (Or.inr (by decide)))
      have b128_ : 1 ≤ Int32.toInt (M118_.1 124 16) ∧ Int32.toInt (M118_.1 124 16) ≤ 100 := (by rw [e127_]; exact b103_)
      have e129_ : (M118_.1 124 17) = ((M.1 124 17) + 1) := (pvu_s e119_)
      have b130_ : 1 ≤ Int32.toInt (M118_.1 124 17) ∧ Int32.toInt (M118_.1 124 17) ≤ 100 := (by rw [e129_]; exact b116_)
      by_cases c131_ : (M118_.1 124 16) ≤ (M118_.1 124 17)
      · refine pw_eqI (if_pos c131_) ?_
        have d132_ : Int32.toInt (M118_.1 124 16) ≤ Int32.toInt (M118_.1 124 17) := (zi_le _ _).mp c131_
        show PW 87 d (29, [some (pvR 124), some (pvI x107_), none], [pvI (-1)], M118_) _
        refine pw_blk hT 5 (S' := (36, [some (pvR 124), some (pvI x107_), some (pvI (-1))], [pvI 62, pvI 60, pvI (-1), pvR 124], M118_)) rfl ⟨trivial, trivial, trivial, trivial, trivial, trivial⟩ ?_
        refine pw_callT hT (as := [pvR 124, pvI (-1), pvI 60, pvI 62]) (lo1 := [some (pvR 124), some (pvI (-1)), some (pvI 60), some (pvI 62)]) (d1 := d) (rest := []) rfl rfl rfl rfl rfl (fun _ => rfl) (Nat.zero_le _) rfl rfl rfl (sf_X10_in_124_x_x_x M118_ o120_ (-1) 60 62 d) ?_
        refine pw_eqI (if_pos (by decide)) ?_
        show PW 87 d (39, [some (pvR 124), some (pvI x107_), some (pvI (-1))], [pvI 0], M118_) _
        refine pw_ifn hT (c := 0 = 0) rfl rfl (fun c138_ => absurd (by decide) c138_) (fun c138_ => ?_)
        refine pw_blk hT 1 (S' := (43, [some (pvR 124), some (pvI x107_), some (pvI (-1))], [pvI 0], M118_)) rfl ⟨trivial, trivial⟩ ?_
        exact pw_ret hT rfl (r := some (pvI 0)) (M' := M118_) ⟨Or.inl rfl, rfl, rfl⟩ ⟨⟨_, rfl, (zr_wide (show 0 ≤ Int32.toInt 0 ∧ Int32.toInt 0 ≤ 0 from (by decide)) (by decide) (by decide))⟩, o120_, f121_, ⟨fun k hk => (congrFun (pvu_row e119_ (by decide)) k).trans (zG_r hg k hk), fun z => absurd z pvno⟩⟩
      · refine pw_eqI (if_neg c131_) ?_
        have b139_ : 2 ≤ Int32.toInt (M118_.1 124 16) ∧ Int32.toInt (M118_.1 124 16) ≤ 100 := zr_nle_l 2 c131_ b128_ b130_ (by decide)
        have b140_ : 1 ≤ Int32.toInt (M118_.1 124 17) ∧ Int32.toInt (M118_.1 124 17) ≤ 99 := zr_nle_r 99 c131_ b130_ b139_ (by decide)
        have d141_ : Int32.toInt (M118_.1 124 16) > Int32.toInt (M118_.1 124 17) := Int.not_le.mp ((not_congr (zi_le _ _)).mp c131_)
        have b142_ : 0 ≤ Int32.toInt (M118_.1 132 (Int32.toNatClampNeg (M118_.1 124 17))) ∧ Int32.toInt (M118_.1 132 (Int32.toNatClampNeg (M118_.1 124 17))) ≤ 127 := pvok_r o120_ 132 (Int32.toNatClampNeg (M118_.1 124 17)) rfl
        show PW 87 d (29, [some (pvR 124), some (pvI x107_), none], [pvI (M118_.1 132 (Int32.toNatClampNeg (M118_.1 124 17)))], M118_) _
        refine pw_blk hT 5 (S' := (36, [some (pvR 124), some (pvI x107_), some (pvI (M118_.1 132 (Int32.toNatClampNeg (M118_.1 124 17))))], [pvI 62, pvI 60, pvI (M118_.1 132 (Int32.toNatClampNeg (M118_.1 124 17))), pvR 124], M118_)) rfl ⟨trivial, trivial, trivial, trivial, trivial, trivial⟩ ?_
        refine pw_callT hT (as := [pvR 124, pvI (M118_.1 132 (Int32.toNatClampNeg (M118_.1 124 17))), pvI 60, pvI 62]) (lo1 := [some (pvR 124), some (pvI (M118_.1 132 (Int32.toNatClampNeg (M118_.1 124 17)))), some (pvI 60), some (pvI 62)]) (d1 := d) (rest := []) rfl rfl rfl rfl rfl (fun _ => rfl) (Nat.zero_le _) rfl rfl rfl (sf_X10_in_124_x_x_x M118_ o120_ (M118_.1 132 (Int32.toNatClampNeg (M118_.1 124 17))) 60 62 d) ?_
        by_cases c148_ : (M118_.1 132 (Int32.toNatClampNeg (M118_.1 124 17))) < 60
        · refine pw_eqI (if_pos c148_) ?_
          have b149_ : 0 ≤ Int32.toInt (M118_.1 132 (Int32.toNatClampNeg (M118_.1 124 17))) ∧ Int32.toInt (M118_.1 132 (Int32.toNatClampNeg (M118_.1 124 17))) ≤ 59 := zr_lt_l 59 c148_ b142_ (show 60 ≤ Int32.toInt 60 ∧ Int32.toInt 60 ≤ 60 from (by decide)) (by decide)
          show PW 87 d (39, [some (pvR 124), some (pvI x107_), some (pvI (M118_.1 132 (Int32.toNatClampNeg (M118_.1 124 17))))], [pvI 0], M118_) _
          refine pw_ifn hT (c := 0 = 0) rfl rfl (fun c150_ => absurd (by decide) c150_) (fun c150_ => ?_)
          refine pw_blk hT 1 (S' := (43, [some (pvR 124), some (pvI x107_), some (pvI (M118_.1 132 (Int32.toNatClampNeg (M118_.1 124 17))))], [pvI 0], M118_)) rfl ⟨trivial, trivial⟩ ?_
          exact pw_ret hT rfl (r := some (pvI 0)) (M' := M118_) ⟨Or.inl rfl, rfl, rfl⟩ ⟨⟨_, rfl, (zr_wide (show 0 ≤ Int32.toInt 0 ∧ Int32.toInt 0 ≤ 0 from (by decide)) (by decide) (by decide))⟩, o120_, f121_, ⟨fun k hk => (congrFun (pvu_row e119_ (by decide)) k).trans (zG_r hg k hk), fun z => absurd z pvno⟩⟩
        · refine pw_eqI (if_neg c148_) ?_
          have b151_ : 60 ≤ Int32.toInt (M118_.1 132 (Int32.toNatClampNeg (M118_.1 124 17))) ∧ Int32.toInt (M118_.1 132 (Int32.toNatClampNeg (M118_.1 124 17))) ≤ 127 := zr_nlt_l 60 c148_ b142_ (show 60 ≤ Int32.toInt 60 ∧ Int32.toInt 60 ≤ 60 from (by decide)) (by decide)
          by_cases c152_ : 62 < (M118_.1 132 (Int32.toNatClampNeg (M118_.1 124 17)))
          · refine pw_eqI (if_pos c152_) ?_
            have b153_ : 63 ≤ Int32.toInt (M118_.1 132 (Int32.toNatClampNeg (M118_.1 124 17))) ∧ Int32.toInt (M118_.1 132 (Int32.toNatClampNeg (M118_.1 124 17))) ≤ 127 := zr_lt_r 63 c152_ b151_ (show 62 ≤ Int32.toInt 62 ∧ Int32.toInt 62 ≤ 62 from (by decide)) (by decide)
            show PW 87 d (39, [some (pvR 124), some (pvI x107_), some (pvI (M118_.1 132 (Int32.toNatClampNeg (M118_.1 124 17))))], [pvI 0], M118_) _
            refine pw_ifn hT (c := 0 = 0) rfl rfl (fun c154_ => absurd (by decide) c154_) (fun c154_ => ?_)
            refine pw_blk hT 1 (S' := (43, [some (pvR 124), some (pvI x107_), some (pvI (M118_.1 132 (Int32.toNatClampNeg (M118_.1 124 17))))], [pvI 0], M118_)) rfl ⟨trivial, trivial⟩ ?_
            exact pw_ret hT rfl (r := some (pvI 0)) (M' := M118_) ⟨Or.inl rfl, rfl, rfl⟩ ⟨⟨_, rfl, (zr_wide (show 0 ≤ Int32.toInt 0 ∧ Int32.toInt 0 ≤ 0 from (by decide)) (by decide) (by decide))⟩, o120_, f121_, ⟨fun k hk => (congrFun (pvu_row e119_ (by decide)) k).trans (zG_r hg k hk), fun z => absurd z pvno⟩⟩
          · refine pw_eqI (if_neg c152_) ?_
            have b155_ : 60 ≤ Int32.toInt (M118_.1 132 (Int32.toNatClampNeg (M118_.1 124 17))) ∧ Int32.toInt (M118_.1 132 (Int32.toNatClampNeg (M118_.1 124 17))) ≤ 62 := zr_nlt_r 62 c152_ b151_ (show 62 ≤ Int32.toInt 62 ∧ Int32.toInt 62 ≤ 62 from (by decide)) (by decide)
            show PW 87 d (39, [some (pvR 124), some (pvI x107_), some (pvI (M118_.1 132 (Int32.toNatClampNeg (M118_.1 124 17))))], [pvI 1], M118_) _
            refine pw_ifn hT (c := 1 = 0) rfl rfl (fun c156_ => ?_) (fun c156_ => absurd c156_ (by decide))
            obtain ⟨q158_, b157_⟩ : (Int32.toInt ((M118_.1 124 17) + 1) = Int32.toInt (M118_.1 124 17) + 1) ∧ (2 ≤ Int32.toInt ((M118_.1 124 17) + 1) ∧ Int32.toInt ((M118_.1 124 17) + 1) ≤ 100) := zadd_k (M118_.1 124 17) 1 1 2 100 b140_ (by decide) (by decide) (by decide) (by decide) (by decide)
            refine pw_blkw hT 6 (pc := 54) (lo := [some (pvR 124), some (pvI x107_), some (pvI (M118_.1 132 (Int32.toNatClampNeg (M118_.1 124 17))))]) (st := []) (M := pvu M118_ 124 17 ((M118_.1 124 17) + 1)) rfl ⟨trivial, trivial, rfl, trivial, trivial, rfl, trivial⟩ (fun M159_ e160_ => ?_)
            have o161_ : pvOk M159_ := pvok_u2 e160_ o120_ rfl (zr_wide b157_ (by decide) (by decide))
            have f162_ : pvFr fp_X10_takesTest_124 M M159_ := pvfr_u e160_ f121_ rfl
            refine pw_blk hT 1 (S' := (55, [some (pvR 124), some (pvI x107_), some (pvI (M118_.1 132 (Int32.toNatClampNeg (M118_.1 124 17))))], [pvR 124], M159_)) rfl ⟨trivial, trivial⟩ ?_
            refine pw_callGd hT (as := [pvR 124]) (lo1 := [some (pvR 124), none]) (d1 := d) (rest := []) rfl rfl rfl rfl rfl (fun _ => rfl) (Nat.zero_le _) rfl rfl rfl (sf_X10_takesNumber_124 M159_ o161_ d) (fun x164_ M165_ b166_ o167_ g168_ d163_ => ?_)
            have f169_ : pvFr fp_X10_takesTest_124 M M165_ := pvfr_t g168_ f162_ fp_X10_takesTest_124_fp_X10_takesNumber_124
            refine pw_ifn hT (c := x164_ = 0) rfl rfl (fun c170_ => ?_) (fun c170_ => ?_)
            · have b171_ : 1 ≤ Int32.toInt x164_ ∧ Int32.toInt x164_ ≤ 1 := (by have u0 := b166_; have u1 := (not_congr (zi_eq _ _)).mp c170_; have u2 := (show 0 ≤ Int32.toInt 0 ∧ Int32.toInt 0 ≤ 0 from (by decide)); omega)
              have q172_ : Int32.toInt (1000 * x107_) = 1000 * Int32.toInt x107_ := by have u0 : Int32.toInt 1000 = 1000 := (by decide); have u1 := b115_; have u2 := zmul 1000 x107_ (by rw [u0]; omega) (by rw [u0]; omega); rw [u0] at u2; omega
              have b173_ : 0 ≤ Int32.toInt (1000 * x107_) ∧ Int32.toInt (1000 * x107_) ≤ 5000 := (by have u1 := b115_; omega)
              obtain ⟨q175_, b174_⟩ : (Int32.toInt ((M118_.1 132 (Int32.toNatClampNeg (M118_.1 124 17))) - 60) = Int32.toInt (M118_.1 132 (Int32.toNatClampNeg (M118_.1 124 17))) - 60) ∧ (0 ≤ Int32.toInt ((M118_.1 132 (Int32.toNatClampNeg (M118_.1 124 17))) - 60) ∧ Int32.toInt ((M118_.1 132 (Int32.toNatClampNeg (M118_.1 124 17))) - 60) ≤ 2) := zsub_k (M118_.1 132 (Int32.toNatClampNeg (M118_.1 124 17))) 60 60 0 2 b155_ (by decide) (by decide) (by decide) (by decide) (by decide)
              have q176_ : Int32.toInt (100 * ((M118_.1 132 (Int32.toNatClampNeg (M118_.1 124 17))) - 60)) = 100 * Int32.toInt ((M118_.1 132 (Int32.toNatClampNeg (M118_.1 124 17))) - 60) := by have u0 : Int32.toInt 100 = 100 := (by decide); have u1 := b174_; have u2 := zmul 100 ((M118_.1 132 (Int32.toNatClampNeg (M118_.1 124 17))) - 60) (by rw [u0]; omega) (by rw [u0]; omega); rw [u0] at u2; omega
              have b177_ : 0 ≤ Int32.toInt (100 * ((M118_.1 132 (Int32.toNatClampNeg (M118_.1 124 17))) - 60)) ∧ Int32.toInt (100 * ((M118_.1 132 (Int32.toNatClampNeg (M118_.1 124 17))) - 60)) ≤ 200 := (by have u1 := b174_; omega)
              obtain ⟨q179_, b178_⟩ : (Int32.toInt ((1000 * x107_) + (100 * ((M118_.1 132 (Int32.toNatClampNeg (M118_.1 124 17))) - 60))) = Int32.toInt (1000 * x107_) + Int32.toInt (100 * ((M118_.1 132 (Int32.toNatClampNeg (M118_.1 124 17))) - 60))) ∧ (0 ≤ Int32.toInt ((1000 * x107_) + (100 * ((M118_.1 132 (Int32.toNatClampNeg (M118_.1 124 17))) - 60))) ∧ Int32.toInt ((1000 * x107_) + (100 * ((M118_.1 132 (Int32.toNatClampNeg (M118_.1 124 17))) - 60))) ≤ 5200) := zadd_r (1000 * x107_) (100 * ((M118_.1 132 (Int32.toNatClampNeg (M118_.1 124 17))) - 60)) 0 5200 b173_ b177_ (by decide) (by decide) (by decide) (by decide)
              have b180_ : 0 ≤ Int32.toInt (M165_.1 124 18) ∧ Int32.toInt (M165_.1 124 18) ≤ 99 := pvok_r o167_ 124 18 rfl
              obtain ⟨q182_, b181_⟩ : (Int32.toInt (((1000 * x107_) + (100 * ((M118_.1 132 (Int32.toNatClampNeg (M118_.1 124 17))) - 60))) + (M165_.1 124 18)) = Int32.toInt ((1000 * x107_) + (100 * ((M118_.1 132 (Int32.toNatClampNeg (M118_.1 124 17))) - 60))) + Int32.toInt (M165_.1 124 18)) ∧ (0 ≤ Int32.toInt (((1000 * x107_) + (100 * ((M118_.1 132 (Int32.toNatClampNeg (M118_.1 124 17))) - 60))) + (M165_.1 124 18)) ∧ Int32.toInt (((1000 * x107_) + (100 * ((M118_.1 132 (Int32.toNatClampNeg (M118_.1 124 17))) - 60))) + (M165_.1 124 18)) ≤ 5299) := zadd_r ((1000 * x107_) + (100 * ((M118_.1 132 (Int32.toNatClampNeg (M118_.1 124 17))) - 60))) (M165_.1 124 18) 0 5299 b178_ b180_ (by decide) (by decide) (by decide) (by decide)
              refine pw_blk hT 13 (S' := (82, [some (pvR 124), some (pvI x107_), some (pvI (M118_.1 132 (Int32.toNatClampNeg (M118_.1 124 17))))], [pvI (((1000 * x107_) + (100 * ((M118_.1 132 (Int32.toNatClampNeg (M118_.1 124 17))) - 60))) + (M165_.1 124 18)), pvR 124], M165_)) rfl ⟨trivial, trivial, trivial, trivial, trivial, trivial, trivial, trivial, trivial, trivial, trivial, rfl, trivial, trivial⟩ ?_
              have b183_ : 0 ≤ Int32.toInt (M165_.1 124 27) ∧ Int32.toInt (M165_.1 124 27) ≤ 600 := pvok_r o167_ 124 27 rfl
              refine pw_callVd hT (as := [pvR 124, pvI (((1000 * x107_) + (100 * ((M118_.1 132 (Int32.toNatClampNeg (M118_.1 124 17))) - 60))) + (M165_.1 124 18))]) (lo1 := [some (pvR 124), some (pvI (((1000 * x107_) + (100 * ((M118_.1 132 (Int32.toNatClampNeg (M118_.1 124 17))) - 60))) + (M165_.1 124 18)))]) (d1 := d) (rest := []) rfl rfl rfl rfl rfl (fun _ => rfl) (Nat.zero_le _) rfl rfl rfl (sf_X10_emits_124_x M165_ o167_ (((1000 * x107_) + (100 * ((M118_.1 132 (Int32.toNatClampNeg (M118_.1 124 17))) - 60))) + (M165_.1 124 18)) (zr_wide b181_ (by decide) (by decide)) (show Int32.toInt (M165_.1 124 27) ≤ 599 ∧ 0 ≤ Int32.toInt (M165_.1 124 27) from (by have q0 := zG_n hg; have w0 : Int32.toInt (M165_.1 124 27) = Int32.toInt (M159_.1 124 27) := congrArg Int32.toInt (g168_ 124 27 rfl); have w1 : Int32.toInt (M159_.1 124 27) = Int32.toInt (M118_.1 124 27) := congrArg Int32.toInt (pvu_n e160_ 124 27 (Or.inr (by decide))); have w2 : Int32.toInt (M118_.1 124 27) = Int32.toInt (M.1 124 27) := congrArg Int32.toInt (pvu_n e119_ 124 27 (Or.inr (by decide))); have v1 : Int32.toInt (M159_.1 124 17) = Int32.toInt ((M118_.1 124 17) + 1) := congrArg Int32.toInt (pvu_s e160_); have v2 : Int32.toInt (M118_.1 124 17) = Int32.toInt ((M.1 124 17) + 1) := congrArg Int32.toInt (pvu_s e119_); omega)) d) (fun M186_ o188_ g189_ d184_ => ?_)
              have f190_ : pvFr fp_X10_takesTest_124 M M186_ := pvfr_t g189_ f169_ fp_X10_takesTest_124_fp_X10_emits_124_x
              refine pw_blk hT 1 (S' := (86, [some (pvR 124), some (pvI x107_), some (pvI (M118_.1 132 (Int32.toNatClampNeg (M118_.1 124 17))))], [pvR 124], M186_)) rfl ⟨trivial, trivial⟩ ?_
              refine pw_callVd hT (as := [pvR 124]) (lo1 := [some (pvR 124)]) (d1 := d) (rest := []) rfl rfl rfl rfl rfl (fun _ => rfl) (Nat.zero_le _) rfl rfl rfl (sf_X10_whole_124 M186_ o188_ gg gf ga (zG_test hg (((g168_ 124 27 rfl).trans (pvu_n e160_ 124 27 (Or.inr (by decide)))).trans (pvu_n e119_ 124 27 (Or.inr (by decide)))) (((g168_ 124 28 rfl).trans (pvu_n e160_ 124 28 (Or.inr (by decide)))).trans (pvu_n e119_ 124 28 (Or.inr (by decide)))) (((pvfr_row (L := fpL_X10_takesNumber_124) g168_ rfl).trans (pvu_row e160_ (by decide))).trans (pvu_row e119_ (by decide))) (((pvfr_row (L := fpL_X10_takesNumber_124) g168_ rfl).trans (pvu_row e160_ (by decide))).trans (pvu_row e119_ (by decide))) (by have w1 : Int32.toInt (M159_.1 124 17) = Int32.toInt ((M118_.1 124 17) + 1) := congrArg Int32.toInt (pvu_s e160_); have w2 : Int32.toInt (M118_.1 124 17) = Int32.toInt ((M.1 124 17) + 1) := congrArg Int32.toInt (pvu_s e119_); omega) (by have q9 := pvok_r o167_ 124 17 (lo := 0) (hi := 100) rfl; omega) d184_ (by have u := b181_; omega)) d) (fun M193_ o195_ g196_ d191_ => ?_)
              have f197_ : pvFr fp_X10_takesTest_124 M M193_ := pvfr_t g196_ f190_ fp_X10_takesTest_124_fp_X10_whole_124
              refine pw_blk hT 1 (S' := (90, [some (pvR 124), some (pvI x107_), some (pvI (M118_.1 132 (Int32.toNatClampNeg (M118_.1 124 17))))], [pvI 1], M193_)) rfl ⟨trivial, trivial⟩ ?_
              exact pw_ret hT rfl (r := some (pvI 1)) (M' := M193_) ⟨Or.inr rfl, rfl, rfl⟩ ⟨⟨_, rfl, (zr_wide (show 1 ≤ Int32.toInt 1 ∧ Int32.toInt 1 ≤ 1 from (by decide)) (by decide) (by decide))⟩, o195_, f197_, ⟨zG_r d191_, fun _ => ⟨d191_, by have w0 : Int32.toInt (M193_.1 124 17) = Int32.toInt (M186_.1 124 17) := congrArg Int32.toInt (g196_ 124 17 rfl); have w1 : Int32.toInt (M186_.1 124 17) = Int32.toInt (M165_.1 124 17) := congrArg Int32.toInt (g189_ 124 17 rfl); have w3 : Int32.toInt (M159_.1 124 17) = Int32.toInt ((M118_.1 124 17) + 1) := congrArg Int32.toInt (pvu_s e160_); have w4 : Int32.toInt (M118_.1 124 17) = Int32.toInt ((M.1 124 17) + 1) := congrArg Int32.toInt (pvu_s e119_); omega⟩⟩⟩
            · have b198_ : 0 ≤ Int32.toInt x164_ ∧ Int32.toInt x164_ ≤ 0 := (by have u0 := b166_; have u1 := (zi_eq _ _).mp c170_; have u2 := (show 0 ≤ Int32.toInt 0 ∧ Int32.toInt 0 ≤ 0 from (by decide)); omega)
              refine pw_blk hT 1 (S' := (62, [some (pvR 124), some (pvI x107_), some (pvI (M118_.1 132 (Int32.toNatClampNeg (M118_.1 124 17))))], [pvI 0], M165_)) rfl ⟨trivial, trivial⟩ ?_
              exact pw_ret hT rfl (r := some (pvI 0)) (M' := M165_) ⟨Or.inl rfl, rfl, rfl⟩ ⟨⟨_, rfl, (zr_wide (show 0 ≤ Int32.toInt 0 ∧ Int32.toInt 0 ≤ 0 from (by decide)) (by decide) (by decide))⟩, o167_, f169_, ⟨fun k hk => (congrFun (((pvfr_row (L := fpL_X10_takesNumber_124) g168_ rfl).trans (pvu_row e160_ (by decide))).trans (pvu_row e119_ (by decide))) k).trans (zG_r hg k hk), fun z => absurd z pvno⟩⟩
    · have b199_ : (-1) ≤ Int32.toInt x107_ ∧ Int32.toInt x107_ ≤ (-1) := zr_nle_r (-1) c114_ b112_ (show 0 ≤ Int32.toInt 0 ∧ Int32.toInt 0 ≤ 0 from (by decide)) (by decide)
      refine pw_blk hT 1 (S' := (14, [some (pvR 124), some (pvI x107_), none], [pvI 0], M)) rfl ⟨trivial, trivial⟩ ?_
      exact pw_ret hT rfl (r := some (pvI 0)) (M' := M) ⟨Or.inl rfl, rfl, rfl⟩ ⟨⟨_, rfl, (zr_wide (show 0 ≤ Int32.toInt 0 ∧ Int32.toInt 0 ≤ 0 from (by decide)) (by decide) (by decide))⟩, hok, pvfr_0, ⟨fun k hk => (congrFun rfl k).trans (zG_r hg k hk), fun z => absurd z pvno⟩⟩
