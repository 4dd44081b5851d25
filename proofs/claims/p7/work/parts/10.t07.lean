def fpL_X10_stand_124_x_x : List (Nat × Nat × Nat) := [(0, 124, 6), (0, 124, 7)]
def fp_X10_stand_124_x_x (q k : Nat) : Bool := pvfp fpL_X10_stand_124_x_x q k
set_option maxHeartbeats 4000000 in
set_option maxRecDepth 10000 in
theorem sf_X10_stand_124_x_x (M : pvM) (hok : pvOk M) (n1 : Int32) (n2 : Int32) (d : Nat) : PW 78 d (0, [some (pvR 124), some (pvI n1), some (pvI n2)], [], M) (fun r X => (∃ x : Int32, r = some (pvI x) ∧ (-2) ≤ Int32.toInt x ∧ Int32.toInt x ≤ 1) ∧ pvOk X ∧ pvFr fp_X10_stand_124_x_x M X) := by
  have hT : pvdom 78 = pvD_78 := rfl
  refine pw_blk hT 3 (S' := (3, [some (pvR 124), some (pvI n1), some (pvI n2)], [pvI n2, pvI n1, pvR 124], M)) rfl ⟨trivial, trivial, trivial, trivial⟩ ?_
  refine pw_callT hT (as := [pvR 124, pvI n1, pvI n2]) (lo1 := [some (pvR 124), some (pvI n1), some (pvI n2)]) (d1 := d) (rest := []) rfl rfl rfl rfl rfl (fun _ => rfl) (Nat.zero_le _) rfl rfl rfl (sf_X10_isPlace_124_x_x M hok n1 n2 d) ?_
  by_cases c6_ : n1 < 0
  · refine pw_eqI (if_pos c6_) ?_
    have b7_ : (-2147483648) ≤ Int32.toInt n1 ∧ Int32.toInt n1 ≤ (-1) := zr_lt_l (-1) c6_ (zbnd n1) (show 0 ≤ Int32.toInt 0 ∧ Int32.toInt 0 ≤ 0 from (by decide)) (by decide)
    show PW 78 d (6, [some (pvR 124), some (pvI n1), some (pvI n2)], [pvI 0], M) _
    refine pw_ifn hT (c := 0 = 0) rfl rfl (fun c8_ => absurd (by decide) c8_) (fun c8_ => ?_)
    refine pw_blk hT 1 (S' := (11, [some (pvR 124), some (pvI n1), some (pvI n2)], [pvI (-2)], M)) rfl ⟨trivial, trivial⟩ ?_
    exact pw_ret hT rfl (r := some (pvI (-2))) (M' := M) ⟨rfl, rfl⟩ ⟨⟨_, rfl, (zr_wide (show (-2) ≤ Int32.toInt (-2) ∧ Int32.toInt (-2) ≤ (-2) from (by decide)) (by decide) (by decide))⟩, hok, pvfr_0⟩
  · refine pw_eqI (if_neg c6_) ?_
    have b9_ : 0 ≤ Int32.toInt n1 ∧ Int32.toInt n1 ≤ 2147483647 := zr_nlt_l 0 c6_ (zbnd n1) (show 0 ≤ Int32.toInt 0 ∧ Int32.toInt 0 ≤ 0 from (by decide)) (by decide)
    by_cases c10_ : 3 < n1
    · refine pw_eqI (if_pos c10_) ?_
      have b11_ : 4 ≤ Int32.toInt n1 ∧ Int32.toInt n1 ≤ 2147483647 := zr_lt_r 4 c10_ b9_ (show 3 ≤ Int32.toInt 3 ∧ Int32.toInt 3 ≤ 3 from (by decide)) (by decide)
      show PW 78 d (6, [some (pvR 124), some (pvI n1), some (pvI n2)], [pvI 0], M) _
      refine pw_ifn hT (c := 0 = 0) rfl rfl (fun c12_ => absurd (by decide) c12_) (fun c12_ => ?_)
      refine pw_blk hT 1 (S' := (11, [some (pvR 124), some (pvI n1), some (pvI n2)], [pvI (-2)], M)) rfl ⟨trivial, trivial⟩ ?_
      exact pw_ret hT rfl (r := some (pvI (-2))) (M' := M) ⟨rfl, rfl⟩ ⟨⟨_, rfl, (zr_wide (show (-2) ≤ Int32.toInt (-2) ∧ Int32.toInt (-2) ≤ (-2) from (by decide)) (by decide) (by decide))⟩, hok, pvfr_0⟩
    · refine pw_eqI (if_neg c10_) ?_
      have b13_ : 0 ≤ Int32.toInt n1 ∧ Int32.toInt n1 ≤ 3 := zr_nlt_r 3 c10_ b9_ (show 3 ≤ Int32.toInt 3 ∧ Int32.toInt 3 ≤ 3 from (by decide)) (by decide)
      by_cases c14_ : n2 < 0
      · refine pw_eqI (if_pos c14_) ?_
        have b15_ : (-2147483648) ≤ Int32.toInt n2 ∧ Int32.toInt n2 ≤ (-1) := zr_lt_l (-1) c14_ (zbnd n2) (show 0 ≤ Int32.toInt 0 ∧ Int32.toInt 0 ≤ 0 from (by decide)) (by decide)
        show PW 78 d (6, [some (pvR 124), some (pvI n1), some (pvI n2)], [pvI 0], M) _
        refine pw_ifn hT (c := 0 = 0) rfl rfl (fun c16_ => absurd (by decide) c16_) (fun c16_ => ?_)
        refine pw_blk hT 1 (S' := (11, [some (pvR 124), some (pvI n1), some (pvI n2)], [pvI (-2)], M)) rfl ⟨trivial, trivial⟩ ?_
        exact pw_ret hT rfl (r := some (pvI (-2))) (M' := M) ⟨rfl, rfl⟩ ⟨⟨_, rfl, (zr_wide (show (-2) ≤ Int32.toInt (-2) ∧ Int32.toInt (-2) ≤ (-2) from (by decide)) (by decide) (by decide))⟩, hok, pvfr_0⟩
      · refine pw_eqI (if_neg c14_) ?_
        have b17_ : 0 ≤ Int32.toInt n2 ∧ Int32.toInt n2 ≤ 2147483647 := zr_nlt_l 0 c14_ (zbnd n2) (show 0 ≤ Int32.toInt 0 ∧ Int32.toInt 0 ≤ 0 from (by decide)) (by decide)
        by_cases c18_ : 4 < n2
        · refine pw_eqI (if_pos c18_) ?_
          have b19_ : 5 ≤ Int32.toInt n2 ∧ Int32.toInt n2 ≤ 2147483647 := zr_lt_r 5 c18_ b17_ (show 4 ≤ Int32.toInt 4 ∧ Int32.toInt 4 ≤ 4 from (by decide)) (by decide)
          show PW 78 d (6, [some (pvR 124), some (pvI n1), some (pvI n2)], [pvI 0], M) _
          refine pw_ifn hT (c := 0 = 0) rfl rfl (fun c20_ => absurd (by decide) c20_) (fun c20_ => ?_)
          refine pw_blk hT 1 (S' := (11, [some (pvR 124), some (pvI n1), some (pvI n2)], [pvI (-2)], M)) rfl ⟨trivial, trivial⟩ ?_
          exact pw_ret hT rfl (r := some (pvI (-2))) (M' := M) ⟨rfl, rfl⟩ ⟨⟨_, rfl, (zr_wide (show (-2) ≤ Int32.toInt (-2) ∧ Int32.toInt (-2) ≤ (-2) from (by decide)) (by decide) (by decide))⟩, hok, pvfr_0⟩
        · refine pw_eqI (if_neg c18_) ?_
          have b21_ : 0 ≤ Int32.toInt n2 ∧ Int32.toInt n2 ≤ 4 := zr_nlt_r 4 c18_ b17_ (show 4 ≤ Int32.toInt 4 ∧ Int32.toInt 4 ≤ 4 from (by decide)) (by decide)
          show PW 78 d (6, [some (pvR 124), some (pvI n1), some (pvI n2)], [pvI 1], M) _
          refine pw_ifn hT (c := 1 = 0) rfl rfl (fun c22_ => ?_) (fun c22_ => absurd c22_ (by decide))
          refine pw_blkw hT 3 (pc := 17) (lo := [some (pvR 124), some (pvI n1), some (pvI n2)]) (st := []) (M := pvu M 124 5 n1) rfl ⟨trivial, trivial, rfl, trivial⟩ (fun M23_ e24_ => ?_)
          have o25_ : pvOk M23_ := pvok_u2 e24_ hok rfl b13_
          have f26_ : pvFr fp_X10_stand_124_x_x M M23_ := pvfr_u e24_ pvfr_0 rfl
          refine pw_blkw hT 3 (pc := 22) (lo := [some (pvR 124), some (pvI n1), some (pvI n2)]) (st := []) (M := pvu M23_ 124 6 n2) rfl ⟨trivial, trivial, rfl, trivial⟩ (fun M27_ e28_ => ?_)
          have o29_ : pvOk M27_ := pvok_u2 e28_ o25_ rfl b21_
          have f30_ : pvFr fp_X10_stand_124_x_x M M27_ := pvfr_u e28_ f26_ rfl
          refine pw_blk hT 1 (S' := (23, [some (pvR 124), some (pvI n1), some (pvI n2)], [pvI 1], M27_)) rfl ⟨trivial, trivial⟩ ?_
          exact pw_ret hT rfl (r := some (pvI 1)) (M' := M27_) ⟨rfl, rfl⟩ ⟨⟨_, rfl, (zr_wide (show 1 ≤ Int32.toInt 1 ∧ Int32.toInt 1 ≤ 1 from (by decide)) (by decide) (by decide))⟩, o29_, f30_⟩
def fpL_X10_storm_124_x_x : List (Nat × Nat × Nat) := [(0, 124, 4), (0, 124, 5)]
def fp_X10_storm_124_x_x (q k : Nat) : Bool := pvfp fpL_X10_storm_124_x_x q k
set_option maxHeartbeats 4000000 in
set_option maxRecDepth 10000 in
theorem sf_X10_storm_124_x_x (M : pvM) (hok : pvOk M) (n1 : Int32) (n2 : Int32) (d : Nat) : PW 80 d (0, [some (pvR 124), some (pvI n1), some (pvI n2), none], [], M) (fun r X => (∃ x : Int32, r = some (pvI x) ∧ (-2) ≤ Int32.toInt x ∧ Int32.toInt x ≤ 108) ∧ pvOk X ∧ pvFr fp_X10_storm_124_x_x M X) := by
  have hT : pvdom 80 = pvD_80 := rfl
  refine pw_blk hT 4 (S' := (4, [some (pvR 124), some (pvI n1), some (pvI n2), none], [pvI 3, pvI 0, pvI n2, pvR 124], M)) rfl ⟨trivial, trivial, trivial, trivial, trivial⟩ ?_
  refine pw_callT hT (as := [pvR 124, pvI n2, pvI 0, pvI 3]) (lo1 := [some (pvR 124), some (pvI n2), some (pvI 0), some (pvI 3)]) (d1 := d) (rest := []) rfl rfl rfl rfl rfl (fun _ => rfl) (Nat.zero_le _) rfl rfl rfl (sf_X10_in_124_x_x_x M hok n2 0 3 d) ?_
  by_cases c6_ : n2 < 0
  · refine pw_eqI (if_pos c6_) ?_
    have b7_ : (-2147483648) ≤ Int32.toInt n2 ∧ Int32.toInt n2 ≤ (-1) := zr_lt_l (-1) c6_ (zbnd n2) (show 0 ≤ Int32.toInt 0 ∧ Int32.toInt 0 ≤ 0 from (by decide)) (by decide)
    show PW 80 d (7, [some (pvR 124), some (pvI n1), some (pvI n2), none], [pvI 0], M) _
    refine pw_ifn hT (c := 0 = 0) rfl rfl (fun c8_ => absurd (by decide) c8_) (fun c8_ => ?_)
    refine pw_blk hT 1 (S' := (11, [some (pvR 124), some (pvI n1), some (pvI n2), none], [pvI (-1)], M)) rfl ⟨trivial, trivial⟩ ?_
    exact pw_ret hT rfl (r := some (pvI (-1))) (M' := M) ⟨rfl, rfl⟩ ⟨⟨_, rfl, (zr_wide (show (-1) ≤ Int32.toInt (-1) ∧ Int32.toInt (-1) ≤ (-1) from (by decide)) (by decide) (by decide))⟩, hok, pvfr_0⟩
  · refine pw_eqI (if_neg c6_) ?_
    have b9_ : 0 ≤ Int32.toInt n2 ∧ Int32.toInt n2 ≤ 2147483647 := zr_nlt_l 0 c6_ (zbnd n2) (show 0 ≤ Int32.toInt 0 ∧ Int32.toInt 0 ≤ 0 from (by decide)) (by decide)
    by_cases c10_ : 3 < n2
    · refine pw_eqI (if_pos c10_) ?_
      have b11_ : 4 ≤ Int32.toInt n2 ∧ Int32.toInt n2 ≤ 2147483647 := zr_lt_r 4 c10_ b9_ (show 3 ≤ Int32.toInt 3 ∧ Int32.toInt 3 ≤ 3 from (by decide)) (by decide)
      show PW 80 d (7, [some (pvR 124), some (pvI n1), some (pvI n2), none], [pvI 0], M) _
      refine pw_ifn hT (c := 0 = 0) rfl rfl (fun c12_ => absurd (by decide) c12_) (fun c12_ => ?_)
      refine pw_blk hT 1 (S' := (11, [some (pvR 124), some (pvI n1), some (pvI n2), none], [pvI (-1)], M)) rfl ⟨trivial, trivial⟩ ?_
      exact pw_ret hT rfl (r := some (pvI (-1))) (M' := M) ⟨rfl, rfl⟩ ⟨⟨_, rfl, (zr_wide (show (-1) ≤ Int32.toInt (-1) ∧ Int32.toInt (-1) ≤ (-1) from (by decide)) (by decide) (by decide))⟩, hok, pvfr_0⟩
    · refine pw_eqI (if_neg c10_) ?_
      have b13_ : 0 ≤ Int32.toInt n2 ∧ Int32.toInt n2 ≤ 3 := zr_nlt_r 3 c10_ b9_ (show 3 ≤ Int32.toInt 3 ∧ Int32.toInt 3 ≤ 3 from (by decide)) (by decide)
      show PW 80 d (7, [some (pvR 124), some (pvI n1), some (pvI n2), none], [pvI 1], M) _
      refine pw_ifn hT (c := 1 = 0) rfl rfl (fun c14_ => ?_) (fun c14_ => absurd c14_ (by decide))
      refine pw_blk hT 4 (S' := (17, [some (pvR 124), some (pvI n1), some (pvI n2), none], [pvI 99, pvI 0, pvI n1, pvR 124], M)) rfl ⟨trivial, trivial, trivial, trivial, trivial⟩ ?_
      refine pw_callT hT (as := [pvR 124, pvI n1, pvI 0, pvI 99]) (lo1 := [some (pvR 124), some (pvI n1), some (pvI 0), some (pvI 99)]) (d1 := d) (rest := []) rfl rfl rfl rfl rfl (fun _ => rfl) (Nat.zero_le _) rfl rfl rfl (sf_X10_in_124_x_x_x M hok n1 0 99 d) ?_
      by_cases c20_ : n1 < 0
      · refine pw_eqI (if_pos c20_) ?_
        have b21_ : (-2147483648) ≤ Int32.toInt n1 ∧ Int32.toInt n1 ≤ (-1) := zr_lt_l (-1) c20_ (zbnd n1) (show 0 ≤ Int32.toInt 0 ∧ Int32.toInt 0 ≤ 0 from (by decide)) (by decide)
        show PW 80 d (20, [some (pvR 124), some (pvI n1), some (pvI n2), none], [pvI 0], M) _
        refine pw_ifn hT (c := 0 = 0) rfl rfl (fun c22_ => absurd (by decide) c22_) (fun c22_ => ?_)
        refine pw_blk hT 1 (S' := (25, [some (pvR 124), some (pvI n1), some (pvI n2), none], [pvI (-2)], M)) rfl ⟨trivial, trivial⟩ ?_
        exact pw_ret hT rfl (r := some (pvI (-2))) (M' := M) ⟨rfl, rfl⟩ ⟨⟨_, rfl, (zr_wide (show (-2) ≤ Int32.toInt (-2) ∧ Int32.toInt (-2) ≤ (-2) from (by decide)) (by decide) (by decide))⟩, hok, pvfr_0⟩
      · refine pw_eqI (if_neg c20_) ?_
        have b23_ : 0 ≤ Int32.toInt n1 ∧ Int32.toInt n1 ≤ 2147483647 := zr_nlt_l 0 c20_ (zbnd n1) (show 0 ≤ Int32.toInt 0 ∧ Int32.toInt 0 ≤ 0 from (by decide)) (by decide)
        by_cases c24_ : 99 < n1
        · refine pw_eqI (if_pos c24_) ?_
          have b25_ : 100 ≤ Int32.toInt n1 ∧ Int32.toInt n1 ≤ 2147483647 := zr_lt_r 100 c24_ b23_ (show 99 ≤ Int32.toInt 99 ∧ Int32.toInt 99 ≤ 99 from (by decide)) (by decide)
          show PW 80 d (20, [some (pvR 124), some (pvI n1), some (pvI n2), none], [pvI 0], M) _
          refine pw_ifn hT (c := 0 = 0) rfl rfl (fun c26_ => absurd (by decide) c26_) (fun c26_ => ?_)
          refine pw_blk hT 1 (S' := (25, [some (pvR 124), some (pvI n1), some (pvI n2), none], [pvI (-2)], M)) rfl ⟨trivial, trivial⟩ ?_
          exact pw_ret hT rfl (r := some (pvI (-2))) (M' := M) ⟨rfl, rfl⟩ ⟨⟨_, rfl, (zr_wide (show (-2) ≤ Int32.toInt (-2) ∧ Int32.toInt (-2) ≤ (-2) from (by decide)) (by decide) (by decide))⟩, hok, pvfr_0⟩
        · refine pw_eqI (if_neg c24_) ?_
          have b27_ : 0 ≤ Int32.toInt n1 ∧ Int32.toInt n1 ≤ 99 := zr_nlt_r 99 c24_ b23_ (show 99 ≤ Int32.toInt 99 ∧ Int32.toInt 99 ≤ 99 from (by decide)) (by decide)
          show PW 80 d (20, [some (pvR 124), some (pvI n1), some (pvI n2), none], [pvI 1], M) _
          refine pw_ifn hT (c := 1 = 0) rfl rfl (fun c28_ => ?_) (fun c28_ => absurd c28_ (by decide))
          have b29_ : 0 ≤ Int32.toInt (M.1 124 3) ∧ Int32.toInt (M.1 124 3) ≤ 108 := pvok_r hok 124 3 rfl
          refine pw_blkw hT 6 (pc := 36) (lo := [some (pvR 124), some (pvI n1), some (pvI n2), some (pvI (M.1 124 3))]) (st := []) (M := pvu M 124 3 n1) rfl ⟨trivial, rfl, trivial, trivial, trivial, rfl, trivial⟩ (fun M30_ e31_ => ?_)
          have o32_ : pvOk M30_ := pvok_u2 e31_ hok rfl (zr_wide b27_ (by decide) (by decide))
          have f33_ : pvFr fp_X10_storm_124_x_x M M30_ := pvfr_u e31_ pvfr_0 rfl
          refine pw_blkw hT 3 (pc := 41) (lo := [some (pvR 124), some (pvI n1), some (pvI n2), some (pvI (M.1 124 3))]) (st := []) (M := pvu M30_ 124 4 n2) rfl ⟨trivial, trivial, rfl, trivial⟩ (fun M34_ e35_ => ?_)
          have o36_ : pvOk M34_ := pvok_u2 e35_ o32_ rfl (zr_wide b13_ (by decide) (by decide))
          have f37_ : pvFr fp_X10_storm_124_x_x M M34_ := pvfr_u e35_ f33_ rfl
          refine pw_blk hT 1 (S' := (42, [some (pvR 124), some (pvI n1), some (pvI n2), some (pvI (M.1 124 3))], [pvI (M.1 124 3)], M34_)) rfl ⟨trivial, trivial⟩ ?_
          exact pw_ret hT rfl (r := some (pvI (M.1 124 3))) (M' := M34_) ⟨rfl, rfl⟩ ⟨⟨_, rfl, (zr_wide b29_ (by decide) (by decide))⟩, o36_, f37_⟩
set_option maxHeartbeats 4000000 in
set_option maxRecDepth 10000 in
theorem sf_X10_taken_124_x_x (M : pvM) (hok : pvOk M) (n1 : Int32) (n2 : Int32) (d : Nat) : PW 81 d (0, [some (pvR 124), some (pvI n1), some (pvI n2), none], [], M) (fun r X => (∃ x : Int32, r = some (pvI x) ∧ (-12) ≤ Int32.toInt x ∧ Int32.toInt x ≤ 6) ∧ X = M) := by
  have hT : pvdom 81 = pvD_81 := rfl
  refine pw_blk hT 4 (S' := (5, [some (pvR 124), some (pvI n1), some (pvI n2), none], [pvI 6, pvI 0, pvI n2, pvR 124], M)) rfl ⟨trivial, trivial, trivial, trivial, trivial⟩ ?_
  refine pw_callT hT (as := [pvR 124, pvI n2, pvI 0, pvI 6]) (lo1 := [some (pvR 124), some (pvI n2), some (pvI 0), some (pvI 6)]) (d1 := d) (rest := []) rfl rfl rfl rfl rfl (fun _ => rfl) (Nat.zero_le _) rfl rfl rfl (sf_X10_in_124_x_x_x M hok n2 0 6 d) ?_
  by_cases c6_ : n2 < 0
  · refine pw_eqI (if_pos c6_) ?_
    have b7_ : (-2147483648) ≤ Int32.toInt n2 ∧ Int32.toInt n2 ≤ (-1) := zr_lt_l (-1) c6_ (zbnd n2) (show 0 ≤ Int32.toInt 0 ∧ Int32.toInt 0 ≤ 0 from (by decide)) (by decide)
    show PW 81 d (8, [some (pvR 124), some (pvI n1), some (pvI n2), none], [pvI 0], M) _
    refine pw_ifn hT (c := 0 = 0) rfl rfl (fun c8_ => absurd (by decide) c8_) (fun c8_ => ?_)
    refine pw_blk hT 1 (S' := (13, [some (pvR 124), some (pvI n1), some (pvI n2), none], [pvI (-2)], M)) rfl ⟨trivial, trivial⟩ ?_
    exact pw_ret hT rfl (r := some (pvI (-2))) (M' := M) ⟨rfl, rfl⟩ ⟨⟨_, rfl, (zr_wide (show (-2) ≤ Int32.toInt (-2) ∧ Int32.toInt (-2) ≤ (-2) from (by decide)) (by decide) (by decide))⟩, rfl⟩
  · refine pw_eqI (if_neg c6_) ?_
    have b9_ : 0 ≤ Int32.toInt n2 ∧ Int32.toInt n2 ≤ 2147483647 := zr_nlt_l 0 c6_ (zbnd n2) (show 0 ≤ Int32.toInt 0 ∧ Int32.toInt 0 ≤ 0 from (by decide)) (by decide)
    by_cases c10_ : 6 < n2
    · refine pw_eqI (if_pos c10_) ?_
      have b11_ : 7 ≤ Int32.toInt n2 ∧ Int32.toInt n2 ≤ 2147483647 := zr_lt_r 7 c10_ b9_ (show 6 ≤ Int32.toInt 6 ∧ Int32.toInt 6 ≤ 6 from (by decide)) (by decide)
      show PW 81 d (8, [some (pvR 124), some (pvI n1), some (pvI n2), none], [pvI 0], M) _
      refine pw_ifn hT (c := 0 = 0) rfl rfl (fun c12_ => absurd (by decide) c12_) (fun c12_ => ?_)
      refine pw_blk hT 1 (S' := (13, [some (pvR 124), some (pvI n1), some (pvI n2), none], [pvI (-2)], M)) rfl ⟨trivial, trivial⟩ ?_
      exact pw_ret hT rfl (r := some (pvI (-2))) (M' := M) ⟨rfl, rfl⟩ ⟨⟨_, rfl, (zr_wide (show (-2) ≤ Int32.toInt (-2) ∧ Int32.toInt (-2) ≤ (-2) from (by decide)) (by decide) (by decide))⟩, rfl⟩
    · refine pw_eqI (if_neg c10_) ?_
      have b13_ : 0 ≤ Int32.toInt n2 ∧ Int32.toInt n2 ≤ 6 := zr_nlt_r 6 c10_ b9_ (show 6 ≤ Int32.toInt 6 ∧ Int32.toInt 6 ≤ 6 from (by decide)) (by decide)
      show PW 81 d (8, [some (pvR 124), some (pvI n1), some (pvI n2), none], [pvI 1], M) _
      refine pw_ifn hT (c := 1 = 0) rfl rfl (fun c14_ => ?_) (fun c14_ => absurd c14_ (by decide))
      refine pw_blk hT 2 (S' := (16, [some (pvR 124), some (pvI n1), some (pvI n2), none], [pvI n1, pvR 124], M)) rfl ⟨trivial, trivial, trivial⟩ ?_
      refine pw_callT hT (as := [pvR 124, pvI n1]) (lo1 := [some (pvR 124), some (pvI n1)]) (d1 := d) (rest := []) rfl rfl rfl rfl rfl (fun _ => rfl) (Nat.zero_le _) rfl rfl rfl (sf_X10_isWindow_124_x M hok n1 d) ?_
      by_cases c20_ : n1 < 0
      · refine pw_eqI (if_pos c20_) ?_
        have b21_ : (-2147483648) ≤ Int32.toInt n1 ∧ Int32.toInt n1 ≤ (-1) := zr_lt_l (-1) c20_ (zbnd n1) (show 0 ≤ Int32.toInt 0 ∧ Int32.toInt 0 ≤ 0 from (by decide)) (by decide)
        show PW 81 d (19, [some (pvR 124), some (pvI n1), some (pvI n2), none], [pvI 0], M) _
        refine pw_ifn hT (c := 0 = 0) rfl rfl (fun c22_ => absurd (by decide) c22_) (fun c22_ => ?_)
        refine pw_blk hT 1 (S' := (24, [some (pvR 124), some (pvI n1), some (pvI n2), none], [pvI (-11)], M)) rfl ⟨trivial, trivial⟩ ?_
        exact pw_ret hT rfl (r := some (pvI (-11))) (M' := M) ⟨rfl, rfl⟩ ⟨⟨_, rfl, (zr_wide (show (-11) ≤ Int32.toInt (-11) ∧ Int32.toInt (-11) ≤ (-11) from (by decide)) (by decide) (by decide))⟩, rfl⟩
      · refine pw_eqI (if_neg c20_) ?_
        have b23_ : 0 ≤ Int32.toInt n1 ∧ Int32.toInt n1 ≤ 2147483647 := zr_nlt_l 0 c20_ (zbnd n1) (show 0 ≤ Int32.toInt 0 ∧ Int32.toInt 0 ≤ 0 from (by decide)) (by decide)
        have b24_ : 0 ≤ Int32.toInt (M.1 124 0) ∧ Int32.toInt (M.1 124 0) ≤ 7 := pvok_r hok 124 0 rfl
        obtain ⟨q26_, b25_⟩ : (Int32.toInt ((M.1 124 0) - 1) = Int32.toInt (M.1 124 0) - Int32.toInt 1) ∧ ((-1) ≤ Int32.toInt ((M.1 124 0) - 1) ∧ Int32.toInt ((M.1 124 0) - 1) ≤ 6) := zsub_r (M.1 124 0) 1 (-1) 6 b24_ (show 1 ≤ Int32.toInt 1 ∧ Int32.toInt 1 ≤ 1 from (by decide)) (by decide) (by decide) (by decide) (by decide)
        have u27_ : Int32.toInt 1 = 1 := by decide
        by_cases c28_ : ((M.1 124 0) - 1) < n1
        · refine pw_eqI (if_pos c28_) ?_
          have d29_ : Int32.toInt ((M.1 124 0) - 1) < Int32.toInt n1 := (zi_lt _ _).mp c28_
          show PW 81 d (19, [some (pvR 124), some (pvI n1), some (pvI n2), none], [pvI 0], M) _
          refine pw_ifn hT (c := 0 = 0) rfl rfl (fun c30_ => absurd (by decide) c30_) (fun c30_ => ?_)
          refine pw_blk hT 1 (S' := (24, [some (pvR 124), some (pvI n1), some (pvI n2), none], [pvI (-11)], M)) rfl ⟨trivial, trivial⟩ ?_
          exact pw_ret hT rfl (r := some (pvI (-11))) (M' := M) ⟨rfl, rfl⟩ ⟨⟨_, rfl, (zr_wide (show (-11) ≤ Int32.toInt (-11) ∧ Int32.toInt (-11) ≤ (-11) from (by decide)) (by decide) (by decide))⟩, rfl⟩
        · refine pw_eqI (if_neg c28_) ?_
          have b31_ : 0 ≤ Int32.toInt ((M.1 124 0) - 1) ∧ Int32.toInt ((M.1 124 0) - 1) ≤ 6 := zr_nlt_l 0 c28_ b25_ b23_ (by decide)
          have b32_ : 0 ≤ Int32.toInt n1 ∧ Int32.toInt n1 ≤ 6 := zr_nlt_r 6 c28_ b23_ b31_ (by decide)
          have d33_ : Int32.toInt ((M.1 124 0) - 1) ≥ Int32.toInt n1 := Int.not_lt.mp ((not_congr (zi_lt _ _)).mp c28_)
          show PW 81 d (19, [some (pvR 124), some (pvI n1), some (pvI n2), none], [pvI 1], M) _
          refine pw_ifn hT (c := 1 = 0) rfl rfl (fun c34_ => ?_) (fun c34_ => absurd c34_ (by decide))
          have b35_ : 0 ≤ Int32.toInt (M.1 125 (Int32.toNatClampNeg n1)) ∧ Int32.toInt (M.1 125 (Int32.toNatClampNeg n1)) ≤ 6 := pvok_r hok 125 (Int32.toNatClampNeg n1) rfl
          refine pw_blk hT 6 (S' := (33, [some (pvR 124), some (pvI n1), some (pvI n2), some (pvI (M.1 125 (Int32.toNatClampNeg n1)))], [pvI n2], M)) rfl ⟨trivial, rfl, trivial, ⟨rfl, (zr_in (n := 7) b32_ (by decide) (by decide))⟩, trivial, trivial, trivial⟩ ?_
          refine pw_if hT (c := n2 = 0) rfl rfl (fun c36_ => ?_) (fun c36_ => ?_)
          · have b37_ : 0 ≤ Int32.toInt n2 ∧ Int32.toInt n2 ≤ 0 := (by have u0 := b13_; have u1 := (zi_eq _ _).mp c36_; have u2 := (show 0 ≤ Int32.toInt 0 ∧ Int32.toInt 0 ≤ 0 from (by decide)); omega)
            refine pw_blk hT 2 (S' := (78, [some (pvR 124), some (pvI n1), some (pvI n2), some (pvI (M.1 125 (Int32.toNatClampNeg n1)))], [pvI (M.1 125 (Int32.toNatClampNeg n1))], M)) rfl ⟨trivial, trivial, trivial⟩ ?_
            exact pw_ret hT rfl (r := some (pvI (M.1 125 (Int32.toNatClampNeg n1)))) (M' := M) ⟨rfl, rfl⟩ ⟨⟨_, rfl, (zr_wide b35_ (by decide) (by decide))⟩, rfl⟩
          · have b38_ : 1 ≤ Int32.toInt n2 ∧ Int32.toInt n2 ≤ 6 := (by have u0 := b13_; have u1 := (not_congr (zi_eq _ _)).mp c36_; have u2 := (show 0 ≤ Int32.toInt 0 ∧ Int32.toInt 0 ≤ 0 from (by decide)); omega)
            refine pw_blk hT 2 (S' := (38, [some (pvR 124), some (pvI n1), some (pvI n2), some (pvI (M.1 125 (Int32.toNatClampNeg n1)))], [pvI n2, pvI (M.1 125 (Int32.toNatClampNeg n1))], M)) rfl ⟨trivial, trivial, trivial⟩ ?_
            refine pw_ic hT (c := (M.1 125 (Int32.toNatClampNeg n1)) = n2) rfl rfl (fun c39_ => ?_) (fun c39_ => ?_)
            · have b40_ : 1 ≤ Int32.toInt (M.1 125 (Int32.toNatClampNeg n1)) ∧ Int32.toInt (M.1 125 (Int32.toNatClampNeg n1)) ≤ 6 := (by have u0 := b35_; have u1 := (zi_eq _ _).mp c39_; have u2 := b38_; omega)
              have d41_ : Int32.toInt (M.1 125 (Int32.toNatClampNeg n1)) = Int32.toInt n2 := (zi_eq _ _).mp c39_
              refine pw_blk hT 2 (S' := (78, [some (pvR 124), some (pvI n1), some (pvI n2), some (pvI (M.1 125 (Int32.toNatClampNeg n1)))], [pvI (M.1 125 (Int32.toNatClampNeg n1))], M)) rfl ⟨trivial, trivial, trivial⟩ ?_
              exact pw_ret hT rfl (r := some (pvI (M.1 125 (Int32.toNatClampNeg n1)))) (M' := M) ⟨rfl, rfl⟩ ⟨⟨_, rfl, (zr_wide b40_ (by decide) (by decide))⟩, rfl⟩
            · refine pw_blk hT 2 (S' := (43, [some (pvR 124), some (pvI n1), some (pvI n2), some (pvI (M.1 125 (Int32.toNatClampNeg n1)))], [pvI 1, pvI n2], M)) rfl ⟨trivial, trivial, trivial⟩ ?_
              refine pw_icn hT (c := n2 = 1) rfl rfl (fun c42_ => ?_) (fun c42_ => ?_)
              · have b43_ : 2 ≤ Int32.toInt n2 ∧ Int32.toInt n2 ≤ 6 := (by have u0 := b38_; have u1 := (not_congr (zi_eq _ _)).mp c42_; have u2 := (show 1 ≤ Int32.toInt 1 ∧ Int32.toInt 1 ≤ 1 from (by decide)); omega)
                refine pw_blk hT 2 (S' := (53, [some (pvR 124), some (pvI n1), some (pvI n2), some (pvI (M.1 125 (Int32.toNatClampNeg n1)))], [pvI 2, pvI n2], M)) rfl ⟨trivial, trivial, trivial⟩ ?_
                refine pw_icn hT (c := n2 = 2) rfl rfl (fun c44_ => ?_) (fun c44_ => ?_)
                · have b45_ : 3 ≤ Int32.toInt n2 ∧ Int32.toInt n2 ≤ 6 := (by have u0 := b43_; have u1 := (not_congr (zi_eq _ _)).mp c44_; have u2 := (show 2 ≤ Int32.toInt 2 ∧ Int32.toInt 2 ≤ 2 from (by decide)); omega)
                  refine pw_blk hT 2 (S' := (63, [some (pvR 124), some (pvI n1), some (pvI n2), some (pvI (M.1 125 (Int32.toNatClampNeg n1)))], [pvI 3, pvI n2], M)) rfl ⟨trivial, trivial, trivial⟩ ?_
                  refine pw_icn hT (c := n2 = 3) rfl rfl (fun c46_ => ?_) (fun c46_ => ?_)
                  · have b47_ : 4 ≤ Int32.toInt n2 ∧ Int32.toInt n2 ≤ 6 := (by have u0 := b45_; have u1 := (not_congr (zi_eq _ _)).mp c46_; have u2 := (show 3 ≤ Int32.toInt 3 ∧ Int32.toInt 3 ≤ 3 from (by decide)); omega)
                    refine pw_blk hT 1 (S' := (78, [some (pvR 124), some (pvI n1), some (pvI n2), some (pvI (M.1 125 (Int32.toNatClampNeg n1)))], [pvI (-12)], M)) rfl ⟨trivial, trivial⟩ ?_
                    exact pw_ret hT rfl (r := some (pvI (-12))) (M' := M) ⟨rfl, rfl⟩ ⟨⟨_, rfl, (zr_wide (show (-12) ≤ Int32.toInt (-12) ∧ Int32.toInt (-12) ≤ (-12) from (by decide)) (by decide) (by decide))⟩, rfl⟩
                  · have b48_ : 3 ≤ Int32.toInt n2 ∧ Int32.toInt n2 ≤ 3 := (by have u0 := b45_; have u1 := (zi_eq _ _).mp c46_; have u2 := (show 3 ≤ Int32.toInt 3 ∧ Int32.toInt 3 ≤ 3 from (by decide)); omega)
                    refine pw_blk hT 2 (S' := (69, [some (pvR 124), some (pvI n1), some (pvI n2), some (pvI (M.1 125 (Int32.toNatClampNeg n1)))], [pvI 6, pvI (M.1 125 (Int32.toNatClampNeg n1))], M)) rfl ⟨trivial, trivial, trivial⟩ ?_
                    refine pw_icn hT (c := (M.1 125 (Int32.toNatClampNeg n1)) = 6) rfl rfl (fun c49_ => ?_) (fun c49_ => ?_)
                    · have b50_ : 0 ≤ Int32.toInt (M.1 125 (Int32.toNatClampNeg n1)) ∧ Int32.toInt (M.1 125 (Int32.toNatClampNeg n1)) ≤ 5 := (by have u0 := b35_; have u1 := (not_congr (zi_eq _ _)).mp c49_; have u2 := (show 6 ≤ Int32.toInt 6 ∧ Int32.toInt 6 ≤ 6 from (by decide)); omega)
                      refine pw_blk hT 1 (S' := (78, [some (pvR 124), some (pvI n1), some (pvI n2), some (pvI (M.1 125 (Int32.toNatClampNeg n1)))], [pvI (-12)], M)) rfl ⟨trivial, trivial⟩ ?_
                      exact pw_ret hT rfl (r := some (pvI (-12))) (M' := M) ⟨rfl, rfl⟩ ⟨⟨_, rfl, (zr_wide (show (-12) ≤ Int32.toInt (-12) ∧ Int32.toInt (-12) ≤ (-12) from (by decide)) (by decide) (by decide))⟩, rfl⟩
                    · have b51_ : 6 ≤ Int32.toInt (M.1 125 (Int32.toNatClampNeg n1)) ∧ Int32.toInt (M.1 125 (Int32.toNatClampNeg n1)) ≤ 6 := (by have u0 := b35_; have u1 := (zi_eq _ _).mp c49_; have u2 := (show 6 ≤ Int32.toInt 6 ∧ Int32.toInt 6 ≤ 6 from (by decide)); omega)
                      refine pw_blk hT 2 (S' := (78, [some (pvR 124), some (pvI n1), some (pvI n2), some (pvI (M.1 125 (Int32.toNatClampNeg n1)))], [pvI (M.1 125 (Int32.toNatClampNeg n1))], M)) rfl ⟨trivial, trivial, trivial⟩ ?_
                      exact pw_ret hT rfl (r := some (pvI (M.1 125 (Int32.toNatClampNeg n1)))) (M' := M) ⟨rfl, rfl⟩ ⟨⟨_, rfl, (zr_wide b51_ (by decide) (by decide))⟩, rfl⟩
                · have b52_ : 2 ≤ Int32.toInt n2 ∧ Int32.toInt n2 ≤ 2 := (by have u0 := b43_; have u1 := (zi_eq _ _).mp c44_; have u2 := (show 2 ≤ Int32.toInt 2 ∧ Int32.toInt 2 ≤ 2 from (by decide)); omega)
                  refine pw_blk hT 2 (S' := (58, [some (pvR 124), some (pvI n1), some (pvI n2), some (pvI (M.1 125 (Int32.toNatClampNeg n1)))], [pvI 5, pvI (M.1 125 (Int32.toNatClampNeg n1))], M)) rfl ⟨trivial, trivial, trivial⟩ ?_
                  refine pw_ic hT (c := (M.1 125 (Int32.toNatClampNeg n1)) = 5) rfl rfl (fun c53_ => ?_) (fun c53_ => ?_)
                  · have b54_ : 5 ≤ Int32.toInt (M.1 125 (Int32.toNatClampNeg n1)) ∧ Int32.toInt (M.1 125 (Int32.toNatClampNeg n1)) ≤ 5 := (by have u0 := b35_; have u1 := (zi_eq _ _).mp c53_; have u2 := (show 5 ≤ Int32.toInt 5 ∧ Int32.toInt 5 ≤ 5 from (by decide)); omega)
                    refine pw_blk hT 2 (S' := (78, [some (pvR 124), some (pvI n1), some (pvI n2), some (pvI (M.1 125 (Int32.toNatClampNeg n1)))], [pvI (M.1 125 (Int32.toNatClampNeg n1))], M)) rfl ⟨trivial, trivial, trivial⟩ ?_
                    exact pw_ret hT rfl (r := some (pvI (M.1 125 (Int32.toNatClampNeg n1)))) (M' := M) ⟨rfl, rfl⟩ ⟨⟨_, rfl, (zr_wide b54_ (by decide) (by decide))⟩, rfl⟩
                  · refine pw_blk hT 2 (S' := (63, [some (pvR 124), some (pvI n1), some (pvI n2), some (pvI (M.1 125 (Int32.toNatClampNeg n1)))], [pvI 3, pvI n2], M)) rfl ⟨trivial, trivial, trivial⟩ ?_
                    refine pw_icn hT (c := n2 = 3) rfl rfl (fun c55_ => ?_) (fun c55_ => absurd c55_ (by have z0 := b52_; have z1 := (show 3 ≤ Int32.toInt 3 ∧ Int32.toInt 3 ≤ 3 from (by decide)); rw [zi_eq]; omega))
                    refine pw_blk hT 1 (S' := (78, [some (pvR 124), some (pvI n1), some (pvI n2), some (pvI (M.1 125 (Int32.toNatClampNeg n1)))], [pvI (-12)], M)) rfl ⟨trivial, trivial⟩ ?_
                    exact pw_ret hT rfl (r := some (pvI (-12))) (M' := M) ⟨rfl, rfl⟩ ⟨⟨_, rfl, (zr_wide (show (-12) ≤ Int32.toInt (-12) ∧ Int32.toInt (-12) ≤ (-12) from (by decide)) (by decide) (by decide))⟩, rfl⟩
              · have b56_ : 1 ≤ Int32.toInt n2 ∧ Int32.toInt n2 ≤ 1 := (by have u0 := b38_; have u1 := (zi_eq _ _).mp c42_; have u2 := (show 1 ≤ Int32.toInt 1 ∧ Int32.toInt 1 ≤ 1 from (by decide)); omega)
                refine pw_blk hT 2 (S' := (48, [some (pvR 124), some (pvI n1), some (pvI n2), some (pvI (M.1 125 (Int32.toNatClampNeg n1)))], [pvI 4, pvI (M.1 125 (Int32.toNatClampNeg n1))], M)) rfl ⟨trivial, trivial, trivial⟩ ?_
                refine pw_ic hT (c := (M.1 125 (Int32.toNatClampNeg n1)) = 4) rfl rfl (fun c57_ => ?_) (fun c57_ => ?_)
                · have b58_ : 4 ≤ Int32.toInt (M.1 125 (Int32.toNatClampNeg n1)) ∧ Int32.toInt (M.1 125 (Int32.toNatClampNeg n1)) ≤ 4 := (by have u0 := b35_; have u1 := (zi_eq _ _).mp c57_; have u2 := (show 4 ≤ Int32.toInt 4 ∧ Int32.toInt 4 ≤ 4 from (by decide)); omega)
                  refine pw_blk hT 2 (S' := (78, [some (pvR 124), some (pvI n1), some (pvI n2), some (pvI (M.1 125 (Int32.toNatClampNeg n1)))], [pvI (M.1 125 (Int32.toNatClampNeg n1))], M)) rfl ⟨trivial, trivial, trivial⟩ ?_
                  exact pw_ret hT rfl (r := some (pvI (M.1 125 (Int32.toNatClampNeg n1)))) (M' := M) ⟨rfl, rfl⟩ ⟨⟨_, rfl, (zr_wide b58_ (by decide) (by decide))⟩, rfl⟩
                · refine pw_blk hT 2 (S' := (53, [some (pvR 124), some (pvI n1), some (pvI n2), some (pvI (M.1 125 (Int32.toNatClampNeg n1)))], [pvI 2, pvI n2], M)) rfl ⟨trivial, trivial, trivial⟩ ?_
                  refine pw_icn hT (c := n2 = 2) rfl rfl (fun c59_ => ?_) (fun c59_ => absurd c59_ (by have z0 := b56_; have z1 := (show 2 ≤ Int32.toInt 2 ∧ Int32.toInt 2 ≤ 2 from (by decide)); rw [zi_eq]; omega))
                  refine pw_blk hT 2 (S' := (63, [some (pvR 124), some (pvI n1), some (pvI n2), some (pvI (M.1 125 (Int32.toNatClampNeg n1)))], [pvI 3, pvI n2], M)) rfl ⟨trivial, trivial, trivial⟩ ?_
                  refine pw_icn hT (c := n2 = 3) rfl rfl (fun c60_ => ?_) (fun c60_ => absurd c60_ (by have z0 := b56_; have z1 := (show 3 ≤ Int32.toInt 3 ∧ Int32.toInt 3 ≤ 3 from (by decide)); rw [zi_eq]; omega))
                  refine pw_blk hT 1 (S' := (78, [some (pvR 124), some (pvI n1), some (pvI n2), some (pvI (M.1 125 (Int32.toNatClampNeg n1)))], [pvI (-12)], M)) rfl ⟨trivial, trivial⟩ ?_
                  exact pw_ret hT rfl (r := some (pvI (-12))) (M' := M) ⟨rfl, rfl⟩ ⟨⟨_, rfl, (zr_wide (show (-12) ≤ Int32.toInt (-12) ∧ Int32.toInt (-12) ≤ (-12) from (by decide)) (by decide) (by decide))⟩, rfl⟩
def fpL_X10_takes_124_x : List (Nat × Nat × Nat) := [(0, 124, 18)]
def fp_X10_takes_124_x (q k : Nat) : Bool := pvfp fpL_X10_takes_124_x q k
set_option maxHeartbeats 4000000 in
set_option maxRecDepth 10000 in
theorem sf_X10_takes_124_x (M : pvM) (hok : pvOk M) (n1 : Int32) (hn1 : 0 ≤ Int32.toInt n1 ∧ Int32.toInt n1 ≤ 127) (d : Nat) : PW 82 d (0, [some (pvR 124), some (pvI n1)], [], M) (fun r X => (∃ x : Int32, r = some (pvI x) ∧ 0 ≤ Int32.toInt x ∧ Int32.toInt x ≤ 1) ∧ pvOk X ∧ pvFr fp_X10_takes_124_x M X) := by
  have hT : pvdom 82 = pvD_82 := rfl
  refine pw_blk hT 1 (S' := (1, [some (pvR 124), some (pvI n1)], [pvR 124], M)) rfl ⟨trivial, trivial⟩ ?_
  refine pw_callT hT (as := [pvR 124]) (lo1 := [some (pvR 124)]) (d1 := d) (rest := []) rfl rfl rfl rfl rfl (fun _ => rfl) (Nat.zero_le _) rfl rfl rfl (sf_X10_peek_124 M hok d) ?_
  have b6_ : 0 ≤ Int32.toInt (M.1 124 16) ∧ Int32.toInt (M.1 124 16) ≤ 100 := pvok_r hok 124 16 rfl
  have b7_ : 0 ≤ Int32.toInt (M.1 124 17) ∧ Int32.toInt (M.1 124 17) ≤ 100 := pvok_r hok 124 17 rfl
  by_cases c8_ : (M.1 124 16) ≤ (M.1 124 17)
  · refine pw_eqI (if_pos c8_) ?_
    have d9_ : Int32.toInt (M.1 124 16) ≤ Int32.toInt (M.1 124 17) := (zi_le _ _).mp c8_
    show PW 82 d (4, [some (pvR 124), some (pvI n1)], [pvI (-1)], M) _
    refine pw_blk hT 1 (S' := (5, [some (pvR 124), some (pvI n1)], [pvI n1, pvI (-1)], M)) rfl ⟨trivial, trivial⟩ ?_
    refine pw_ic hT (c := (-1) = n1) rfl rfl (fun c10_ => absurd c10_ (by have z0 := (show (-1) ≤ Int32.toInt (-1) ∧ Int32.toInt (-1) ≤ (-1) from (by decide)); have z1 := hn1; rw [zi_eq]; omega)) (fun c10_ => ?_)
    refine pw_blk hT 1 (S' := (9, [some (pvR 124), some (pvI n1)], [pvI 0], M)) rfl ⟨trivial, trivial⟩ ?_
    exact pw_ret hT rfl (r := some (pvI 0)) (M' := M) ⟨Or.inl rfl, rfl, rfl⟩ ⟨⟨_, rfl, (zr_wide (show 0 ≤ Int32.toInt 0 ∧ Int32.toInt 0 ≤ 0 from (by decide)) (by decide) (by decide))⟩, hok, pvfr_0⟩
  · refine pw_eqI (if_neg c8_) ?_
    have b11_ : 1 ≤ Int32.toInt (M.1 124 16) ∧ Int32.toInt (M.1 124 16) ≤ 100 := zr_nle_l 1 c8_ b6_ b7_ (by decide)
    have b12_ : 0 ≤ Int32.toInt (M.1 124 17) ∧ Int32.toInt (M.1 124 17) ≤ 99 := zr_nle_r 99 c8_ b7_ b11_ (by decide)
    have d13_ : Int32.toInt (M.1 124 16) > Int32.toInt (M.1 124 17) := Int.not_le.mp ((not_congr (zi_le _ _)).mp c8_)
    have b14_ : 0 ≤ Int32.toInt (M.1 132 (Int32.toNatClampNeg (M.1 124 17))) ∧ Int32.toInt (M.1 132 (Int32.toNatClampNeg (M.1 124 17))) ≤ 127 := pvok_r hok 132 (Int32.toNatClampNeg (M.1 124 17)) rfl
    show PW 82 d (4, [some (pvR 124), some (pvI n1)], [pvI (M.1 132 (Int32.toNatClampNeg (M.1 124 17)))], M) _
    refine pw_blk hT 1 (S' := (5, [some (pvR 124), some (pvI n1)], [pvI n1, pvI (M.1 132 (Int32.toNatClampNeg (M.1 124 17)))], M)) rfl ⟨trivial, trivial⟩ ?_
    refine pw_ic hT (c := (M.1 132 (Int32.toNatClampNeg (M.1 124 17))) = n1) rfl rfl (fun c15_ => ?_) (fun c15_ => ?_)
    · have d16_ : Int32.toInt (M.1 132 (Int32.toNatClampNeg (M.1 124 17))) = Int32.toInt n1 := (zi_eq _ _).mp c15_
      obtain ⟨q18_, b17_⟩ : (Int32.toInt ((M.1 124 17) + 1) = Int32.toInt (M.1 124 17) + Int32.toInt 1) ∧ (1 ≤ Int32.toInt ((M.1 124 17) + 1) ∧ Int32.toInt ((M.1 124 17) + 1) ≤ 100) := zadd_r (M.1 124 17) 1 1 100 b12_ (show 1 ≤ Int32.toInt 1 ∧ Int32.toInt 1 ≤ 1 from (by decide)) (by decide) (by decide) (by decide) (by decide)
      have u19_ : Int32.toInt 1 = 1 := by decide
      refine pw_blkw hT 6 (pc := 20) (lo := [some (pvR 124), some (pvI n1)]) (st := []) (M := pvu M 124 17 ((M.1 124 17) + 1)) rfl ⟨trivial, trivial, rfl, trivial, trivial, rfl, trivial⟩ (fun M20_ e21_ => ?_)
      have o22_ : pvOk M20_ := pvok_u2 e21_ hok rfl (zr_wide b17_ (by decide) (by decide))
      have f23_ : pvFr fp_X10_takes_124_x M M20_ := pvfr_u e21_ pvfr_0 rfl
      refine pw_blk hT 1 (S' := (21, [some (pvR 124), some (pvI n1)], [pvI 1], M20_)) rfl ⟨trivial, trivial⟩ ?_
      exact pw_ret hT rfl (r := some (pvI 1)) (M' := M20_) ⟨Or.inr rfl, rfl, rfl⟩ ⟨⟨_, rfl, (zr_wide (show 1 ≤ Int32.toInt 1 ∧ Int32.toInt 1 ≤ 1 from (by decide)) (by decide) (by decide))⟩, o22_, f23_⟩
    · refine pw_blk hT 1 (S' := (9, [some (pvR 124), some (pvI n1)], [pvI 0], M)) rfl ⟨trivial, trivial⟩ ?_
      exact pw_ret hT rfl (r := some (pvI 0)) (M' := M) ⟨Or.inl rfl, rfl, rfl⟩ ⟨⟨_, rfl, (zr_wide (show 0 ≤ Int32.toInt 0 ∧ Int32.toInt 0 ≤ 0 from (by decide)) (by decide) (by decide))⟩, hok, pvfr_0⟩
def fpL_X10_takesWord_124_x_x : List (Nat × Nat × Nat) := [(0, 124, 18)]
def fp_X10_takesWord_124_x_x (q k : Nat) : Bool := pvfp fpL_X10_takesWord_124_x_x q k
theorem fp_X10_takesWord_124_x_x_fp_X10_takes_124_x (a b : Nat) (h : fp_X10_takes_124_x a b = true) : fp_X10_takesWord_124_x_x a b = true := pvfp_sub (l1 := fpL_X10_takes_124_x) (l2 := fpL_X10_takesWord_124_x_x) (by decide) a b h
set_option maxHeartbeats 4000000 in
set_option maxRecDepth 10000 in
theorem sf_X10_takesWord_124_x_x (M : pvM) (hok : pvOk M) (n1 : Int32) (n2 : Int32) (hn1 : 0 ≤ Int32.toInt n1 ∧ Int32.toInt n1 ≤ 11) (hn2 : 0 ≤ Int32.toInt n2 ∧ Int32.toInt n2 ≤ 5) (hx0 : Int32.toInt n1 + Int32.toInt n2 ≤ 15) (d : Nat) : PW 88 d (0, [some (pvR 124), some (pvI n1), some (pvI n2), none], [], M) (fun r X => (∃ x : Int32, r = some (pvI x) ∧ 0 ≤ Int32.toInt x ∧ Int32.toInt x ≤ 1) ∧ pvOk X ∧ pvFr fp_X10_takesWord_124_x_x M X) := by
  have hT : pvdom 88 = pvD_88 := rfl
  refine pw_blk hT 2 (S' := (2, [some (pvR 124), some (pvI n1), some (pvI n2), some (pvI 0)], [], M)) rfl ⟨trivial, trivial, trivial⟩ ?_
  have hlz109_ : ∀ (nz109_ : Nat) (i3z109_ : Int32) (Mz109_ : pvM), (pvOk Mz109_) → (pvFr fp_X10_takesWord_124_x_x M Mz109_) → (0 ≤ Int32.toInt i3z109_ ∧ Int32.toInt i3z109_ ≤ 5) → ((6 - Int32.toInt i3z109_).toNat < nz109_) → PW 88 d (2, [some (pvR 124), some (pvI n1), some (pvI n2), some (pvI i3z109_)], [], Mz109_) (fun r X => (∃ x : Int32, r = some (pvI x) ∧ 0 ≤ Int32.toInt x ∧ Int32.toInt x ≤ 1) ∧ pvOk X ∧ pvFr fp_X10_takesWord_124_x_x M X) := by
    intro nz109_
    induction nz109_ with
    | zero => intro i3z109_ Mz109_ oz109_ fz109_ h3z109_ hmz109_; exact absurd hmz109_ (Nat.not_lt_zero _)
    | succ nz109_ ihz109_ =>
      intro i3z109_ Mz109_ oz109_ fz109_ h3z109_ hmz109_
      refine pw_blk hT 2 (S' := (4, [some (pvR 124), some (pvI n1), some (pvI n2), some (pvI i3z109_)], [pvI n2, pvI i3z109_], Mz109_)) rfl ⟨trivial, trivial, trivial⟩ ?_
      refine pw_ic hT (c := n2 ≤ i3z109_) rfl rfl (fun c110_ => ?_) (fun c110_ => ?_)
      · have d111_ : Int32.toInt n2 ≤ Int32.toInt i3z109_ := (zi_le _ _).mp c110_
        refine pw_blk hT 2 (S' := (33, [some (pvR 124), some (pvI n1), some (pvI n2), some (pvI i3z109_)], [pvI 32, pvR 124], Mz109_)) rfl ⟨trivial, trivial, trivial⟩ ?_
        refine pw_callG hT (as := [pvR 124, pvI 32]) (lo1 := [some (pvR 124), some (pvI 32)]) (d1 := d) (rest := []) rfl rfl rfl rfl rfl (fun _ => rfl) (Nat.zero_le _) rfl rfl rfl (sf_X10_takes_124_x Mz109_ oz109_ 32 (zr_wide (show 32 ≤ Int32.toInt 32 ∧ Int32.toInt 32 ≤ 32 from (by decide)) (by decide) (by decide)) d) (fun x112_ M113_ b114_ o115_ g116_ => ?_)
        have f117_ : pvFr fp_X10_takesWord_124_x_x M M113_ := pvfr_t g116_ fz109_ fp_X10_takesWord_124_x_x_fp_X10_takes_124_x
        exact pw_ret hT rfl (r := some (pvI x112_)) (M' := M113_) ⟨pv01 b114_, rfl, rfl⟩ ⟨⟨_, rfl, b114_⟩, o115_, f117_⟩
      · have b118_ : 1 ≤ Int32.toInt n2 ∧ Int32.toInt n2 ≤ 5 := zr_nle_l 1 c110_ hn2 h3z109_ (by decide)
        have b119_ : 0 ≤ Int32.toInt i3z109_ ∧ Int32.toInt i3z109_ ≤ 4 := zr_nle_r 4 c110_ h3z109_ b118_ (by decide)
        have d120_ : Int32.toInt n2 > Int32.toInt i3z109_ := Int.not_le.mp ((not_congr (zi_le _ _)).mp c110_)
        obtain ⟨q122_, b121_⟩ : (Int32.toInt (n1 + i3z109_) = Int32.toInt n1 + Int32.toInt i3z109_) ∧ (0 ≤ Int32.toInt (n1 + i3z109_) ∧ Int32.toInt (n1 + i3z109_) ≤ 15) := zadd_r n1 i3z109_ 0 15 hn1 b119_ (by decide) (by decide) (by decide) (by decide)
        have b123_ : 0 ≤ Int32.toInt (Mz109_.1 140 (Int32.toNatClampNeg (n1 + i3z109_))) ∧ Int32.toInt (Mz109_.1 140 (Int32.toNatClampNeg (n1 + i3z109_))) ≤ 127 := pvok_r oz109_ 140 (Int32.toNatClampNeg (n1 + i3z109_)) rfl
        refine pw_blk hT 7 (S' := (16, [some (pvR 124), some (pvI n1), some (pvI n2), some (pvI i3z109_)], [pvI (Mz109_.1 140 (Int32.toNatClampNeg (n1 + i3z109_))), pvR 124], Mz109_)) rfl ⟨trivial, trivial, rfl, trivial, trivial, trivial, ⟨rfl, (vp_in_iff.mpr (show 0 ≤ Int32.toInt (n1 + i3z109_) ∧ Int32.toInt (n1 + i3z109_) < ((15 : Nat) : Int) from (by have u0 := b121_; omega)))⟩, trivial⟩ ?_
        refine pw_callG hT (as := [pvR 124, pvI (Mz109_.1 140 (Int32.toNatClampNeg (n1 + i3z109_)))]) (lo1 := [some (pvR 124), some (pvI (Mz109_.1 140 (Int32.toNatClampNeg (n1 + i3z109_))))]) (d1 := d) (rest := []) rfl rfl rfl rfl rfl (fun _ => rfl) (Nat.zero_le _) rfl rfl rfl (sf_X10_takes_124_x Mz109_ oz109_ (Mz109_.1 140 (Int32.toNatClampNeg (n1 + i3z109_))) b123_ d) (fun x124_ M125_ b126_ o127_ g128_ => ?_)
        have f129_ : pvFr fp_X10_takesWord_124_x_x M M125_ := pvfr_t g128_ fz109_ fp_X10_takesWord_124_x_x_fp_X10_takes_124_x
        refine pw_ifn hT (c := x124_ = 0) rfl rfl (fun c130_ => ?_) (fun c130_ => ?_)
        · have b131_ : 1 ≤ Int32.toInt x124_ ∧ Int32.toInt x124_ ≤ 1 := (by have u0 := b126_; have u1 := (not_congr (zi_eq _ _)).mp c130_; have u2 := (show 0 ≤ Int32.toInt 0 ∧ Int32.toInt 0 ≤ 0 from (by decide)); omega)
          obtain ⟨q133_, b132_⟩ : (Int32.toInt (i3z109_ + 1) = Int32.toInt i3z109_ + Int32.toInt 1) ∧ (1 ≤ Int32.toInt (i3z109_ + 1) ∧ Int32.toInt (i3z109_ + 1) ≤ 5) := zadd_r i3z109_ 1 1 5 b119_ (show 1 ≤ Int32.toInt 1 ∧ Int32.toInt 1 ≤ 1 from (by decide)) (by decide) (by decide) (by decide) (by decide)
          have u134_ : Int32.toInt 1 = 1 := by decide
          refine pw_blk hT 2 (S' := (2, [some (pvR 124), some (pvI n1), some (pvI n2), some (pvI (i3z109_ + 1))], [], M125_)) rfl ⟨trivial, trivial, trivial⟩ ?_
          exact ihz109_ (i3z109_ + 1) M125_ o127_ f129_ (zr_wide b132_ (by decide) (by decide)) (by omega)
        · have b135_ : 0 ≤ Int32.toInt x124_ ∧ Int32.toInt x124_ ≤ 0 := (by have u0 := b126_; have u1 := (zi_eq _ _).mp c130_; have u2 := (show 0 ≤ Int32.toInt 0 ∧ Int32.toInt 0 ≤ 0 from (by decide)); omega)
          refine pw_blk hT 1 (S' := (23, [some (pvR 124), some (pvI n1), some (pvI n2), some (pvI i3z109_)], [pvI 0], M125_)) rfl ⟨trivial, trivial⟩ ?_
          exact pw_ret hT rfl (r := some (pvI 0)) (M' := M125_) ⟨Or.inl rfl, rfl, rfl⟩ ⟨⟨_, rfl, (zr_wide (show 0 ≤ Int32.toInt 0 ∧ Int32.toInt 0 ≤ 0 from (by decide)) (by decide) (by decide))⟩, o127_, f129_⟩
  exact hlz109_ _ 0 M hok pvfr_0 (zr_wide (show 0 ≤ Int32.toInt 0 ∧ Int32.toInt 0 ≤ 0 from (by decide)) (by decide) (by decide)) (Nat.lt_succ_self _)
def fpL_X10_takesHead_124_x : List (Nat × Nat × Nat) := [(0, 124, 18), (0, 134, 0)]
def fp_X10_takesHead_124_x (q k : Nat) : Bool := pvfp fpL_X10_takesHead_124_x q k
theorem fp_X10_takesHead_124_x_fp_X10_takesWord_124_x_x (a b : Nat) (h : fp_X10_takesWord_124_x_x a b = true) : fp_X10_takesHead_124_x a b = true := pvfp_sub (l1 := fpL_X10_takesWord_124_x_x) (l2 := fpL_X10_takesHead_124_x) (by decide) a b h
set_option maxHeartbeats 4000000 in
set_option maxRecDepth 10000 in
theorem sf_X10_takesHead_124_x (M : pvM) (hok : pvOk M) (n1 : Int32) (hn1 : 0 ≤ Int32.toInt n1 ∧ Int32.toInt n1 ≤ 59) (d : Nat) : PW 85 d (0, [some (pvR 124), some (pvI n1)], [], M) (fun r X => (∃ x : Int32, r = some (pvI x) ∧ 0 ≤ Int32.toInt x ∧ Int32.toInt x ≤ 1) ∧ pvOk X ∧ pvFr fp_X10_takesHead_124_x M X) := by
  have hT : pvdom 85 = pvD_85 := rfl
  refine pw_blk hT 1 (S' := (1, [some (pvR 124), some (pvI n1)], [pvR 124], M)) rfl ⟨trivial, trivial⟩ ?_
  refine pw_callT hT (as := [pvR 124]) (lo1 := [some (pvR 124)]) (d1 := d) (rest := []) rfl rfl rfl rfl rfl (fun _ => rfl) (Nat.zero_le _) rfl rfl rfl (sf_X10_peek_124 M hok d) ?_
  have b6_ : 0 ≤ Int32.toInt (M.1 124 16) ∧ Int32.toInt (M.1 124 16) ≤ 100 := pvok_r hok 124 16 rfl
  have b7_ : 0 ≤ Int32.toInt (M.1 124 17) ∧ Int32.toInt (M.1 124 17) ≤ 100 := pvok_r hok 124 17 rfl
  by_cases c8_ : (M.1 124 16) ≤ (M.1 124 17)
  · refine pw_eqI (if_pos c8_) ?_
    have d9_ : Int32.toInt (M.1 124 16) ≤ Int32.toInt (M.1 124 17) := (zi_le _ _).mp c8_
    show PW 85 d (4, [some (pvR 124), some (pvI n1)], [pvI (-1)], M) _
    refine pw_sw hT rfl rfl ?_
    refine And.intro (fun c10_ => absurd c10_ (by decide)) (fun c10_ => ?_)
    refine And.intro (fun c11_ => absurd c11_ (by decide)) (fun c11_ => ?_)
    refine And.intro (fun c12_ => absurd c12_ (by decide)) (fun c12_ => ?_)
    show PW 85 d (83, [some (pvR 124), some (pvI n1)], [], M) _
    refine pw_blkw hT 5 (pc := 90) (lo := [some (pvR 124), some (pvI n1)]) (st := []) (M := pvu M 134 (Int32.toNatClampNeg n1) 3) rfl ⟨trivial, rfl, trivial, trivial, ⟨rfl, (zr_in (n := 60) hn1 (by decide) (by decide))⟩, trivial⟩ (fun M13_ e14_ => ?_)
    have o15_ : pvOk M13_ := pvok_u2 e14_ hok rfl (zr_wide (show 3 ≤ Int32.toInt 3 ∧ Int32.toInt 3 ≤ 3 from (by decide)) (by decide) (by decide))
    have f16_ : pvFr fp_X10_takesHead_124_x M M13_ := pvfr_u e14_ pvfr_0 rfl
    refine pw_blk hT 3 (S' := (94, [some (pvR 124), some (pvI n1)], [pvI 4, pvI 11, pvR 124], M13_)) rfl ⟨trivial, trivial, trivial, trivial⟩ ?_
    have u17_ : Int32.toInt 11 = 11 := by decide
    have u18_ : Int32.toInt 4 = 4 := by decide
    refine pw_callG hT (as := [pvR 124, pvI 11, pvI 4]) (lo1 := [some (pvR 124), some (pvI 11), some (pvI 4), none]) (d1 := d) (rest := []) rfl rfl rfl rfl rfl (fun _ => rfl) (Nat.zero_le _) rfl rfl rfl (sf_X10_takesWord_124_x_x M13_ o15_ 11 4 (zr_wide (show 11 ≤ Int32.toInt 11 ∧ Int32.toInt 11 ≤ 11 from (by decide)) (by decide) (by decide)) (zr_wide (show 4 ≤ Int32.toInt 4 ∧ Int32.toInt 4 ≤ 4 from (by decide)) (by decide) (by decide)) (show Int32.toInt 11 + Int32.toInt 4 ≤ 15 from (by omega)) d) (fun x19_ M20_ b21_ o22_ g23_ => ?_)
    have f24_ : pvFr fp_X10_takesHead_124_x M M20_ := pvfr_t g23_ f16_ fp_X10_takesHead_124_x_fp_X10_takesWord_124_x_x
    exact pw_ret hT rfl (r := some (pvI x19_)) (M' := M20_) ⟨pv01 b21_, rfl, rfl⟩ ⟨⟨_, rfl, b21_⟩, o22_, f24_⟩
  · refine pw_eqI (if_neg c8_) ?_
    have b25_ : 1 ≤ Int32.toInt (M.1 124 16) ∧ Int32.toInt (M.1 124 16) ≤ 100 := zr_nle_l 1 c8_ b6_ b7_ (by decide)
    have b26_ : 0 ≤ Int32.toInt (M.1 124 17) ∧ Int32.toInt (M.1 124 17) ≤ 99 := zr_nle_r 99 c8_ b7_ b25_ (by decide)
    have d27_ : Int32.toInt (M.1 124 16) > Int32.toInt (M.1 124 17) := Int.not_le.mp ((not_congr (zi_le _ _)).mp c8_)
    have b28_ : 0 ≤ Int32.toInt (M.1 132 (Int32.toNatClampNeg (M.1 124 17))) ∧ Int32.toInt (M.1 132 (Int32.toNatClampNeg (M.1 124 17))) ≤ 127 := pvok_r hok 132 (Int32.toNatClampNeg (M.1 124 17)) rfl
    show PW 85 d (4, [some (pvR 124), some (pvI n1)], [pvI (M.1 132 (Int32.toNatClampNeg (M.1 124 17)))], M) _
    refine pw_sw hT rfl rfl ?_
    refine And.intro (fun c29_ => ?_) (fun c29_ => ?_)
    · show PW 85 d (54, [some (pvR 124), some (pvI n1)], [], M) _
      have b30_ : 100 ≤ Int32.toInt (M.1 132 (Int32.toNatClampNeg (M.1 124 17))) ∧ Int32.toInt (M.1 132 (Int32.toNatClampNeg (M.1 124 17))) ≤ 100 := (by have u0 := b28_; have u1 := (zi_eq _ _).mp c29_; have u2 := (show 100 ≤ Int32.toInt 100 ∧ Int32.toInt 100 ≤ 100 from (by decide)); omega)
      refine pw_blkw hT 5 (pc := 61) (lo := [some (pvR 124), some (pvI n1)]) (st := []) (M := pvu M 134 (Int32.toNatClampNeg n1) 1) rfl ⟨trivial, rfl, trivial, trivial, ⟨rfl, (zr_in (n := 60) hn1 (by decide) (by decide))⟩, trivial⟩ (fun M31_ e32_ => ?_)
      have o33_ : pvOk M31_ := pvok_u2 e32_ hok rfl (zr_wide (show 1 ≤ Int32.toInt 1 ∧ Int32.toInt 1 ≤ 1 from (by decide)) (by decide) (by decide))
      have f34_ : pvFr fp_X10_takesHead_124_x M M31_ := pvfr_u e32_ pvfr_0 rfl
      refine pw_blk hT 3 (S' := (64, [some (pvR 124), some (pvI n1)], [pvI 3, pvI 3, pvR 124], M31_)) rfl ⟨trivial, trivial, trivial, trivial⟩ ?_
      have u35_ : Int32.toInt 3 = 3 := by decide
      refine pw_callG hT (as := [pvR 124, pvI 3, pvI 3]) (lo1 := [some (pvR 124), some (pvI 3), some (pvI 3), none]) (d1 := d) (rest := []) rfl rfl rfl rfl rfl (fun _ => rfl) (Nat.zero_le _) rfl rfl rfl (sf_X10_takesWord_124_x_x M31_ o33_ 3 3 (zr_wide (show 3 ≤ Int32.toInt 3 ∧ Int32.toInt 3 ≤ 3 from (by decide)) (by decide) (by decide)) (zr_wide (show 3 ≤ Int32.toInt 3 ∧ Int32.toInt 3 ≤ 3 from (by decide)) (by decide) (by decide)) (show Int32.toInt 3 + Int32.toInt 3 ≤ 15 from (by omega)) d) (fun x36_ M37_ b38_ o39_ g40_ => ?_)
      have f41_ : pvFr fp_X10_takesHead_124_x M M37_ := pvfr_t g40_ f34_ fp_X10_takesHead_124_x_fp_X10_takesWord_124_x_x
      exact pw_ret hT rfl (r := some (pvI x36_)) (M' := M37_) ⟨pv01 b38_, rfl, rfl⟩ ⟨⟨_, rfl, b38_⟩, o39_, f41_⟩
    · refine And.intro (fun c42_ => ?_) (fun c42_ => ?_)
      · show PW 85 d (68, [some (pvR 124), some (pvI n1)], [], M) _
        have b43_ : 115 ≤ Int32.toInt (M.1 132 (Int32.toNatClampNeg (M.1 124 17))) ∧ Int32.toInt (M.1 132 (Int32.toNatClampNeg (M.1 124 17))) ≤ 115 := (by have u0 := b28_; have u1 := (zi_eq _ _).mp c42_; have u2 := (show 115 ≤ Int32.toInt 115 ∧ Int32.toInt 115 ≤ 115 from (by decide)); omega)
        refine pw_blkw hT 5 (pc := 75) (lo := [some (pvR 124), some (pvI n1)]) (st := []) (M := pvu M 134 (Int32.toNatClampNeg n1) 2) rfl ⟨trivial, rfl, trivial, trivial, ⟨rfl, (zr_in (n := 60) hn1 (by decide) (by decide))⟩, trivial⟩ (fun M44_ e45_ => ?_)
        have o46_ : pvOk M44_ := pvok_u2 e45_ hok rfl (zr_wide (show 2 ≤ Int32.toInt 2 ∧ Int32.toInt 2 ≤ 2 from (by decide)) (by decide) (by decide))
        have f47_ : pvFr fp_X10_takesHead_124_x M M44_ := pvfr_u e45_ pvfr_0 rfl
        refine pw_blk hT 3 (S' := (79, [some (pvR 124), some (pvI n1)], [pvI 5, pvI 6, pvR 124], M44_)) rfl ⟨trivial, trivial, trivial, trivial⟩ ?_
        have u48_ : Int32.toInt 6 = 6 := by decide
        have u49_ : Int32.toInt 5 = 5 := by decide
        refine pw_callG hT (as := [pvR 124, pvI 6, pvI 5]) (lo1 := [some (pvR 124), some (pvI 6), some (pvI 5), none]) (d1 := d) (rest := []) rfl rfl rfl rfl rfl (fun _ => rfl) (Nat.zero_le _) rfl rfl rfl (sf_X10_takesWord_124_x_x M44_ o46_ 6 5 (zr_wide (show 6 ≤ Int32.toInt 6 ∧ Int32.toInt 6 ≤ 6 from (by decide)) (by decide) (by decide)) (zr_wide (show 5 ≤ Int32.toInt 5 ∧ Int32.toInt 5 ≤ 5 from (by decide)) (by decide) (by decide)) (show Int32.toInt 6 + Int32.toInt 5 ≤ 15 from (by omega)) d) (fun x50_ M51_ b52_ o53_ g54_ => ?_)
        have f55_ : pvFr fp_X10_takesHead_124_x M M51_ := pvfr_t g54_ f47_ fp_X10_takesHead_124_x_fp_X10_takesWord_124_x_x
        exact pw_ret hT rfl (r := some (pvI x50_)) (M' := M51_) ⟨pv01 b52_, rfl, rfl⟩ ⟨⟨_, rfl, b52_⟩, o53_, f55_⟩
      · refine And.intro (fun c56_ => ?_) (fun c56_ => ?_)
        · show PW 85 d (40, [some (pvR 124), some (pvI n1)], [], M) _
          have b57_ : 119 ≤ Int32.toInt (M.1 132 (Int32.toNatClampNeg (M.1 124 17))) ∧ Int32.toInt (M.1 132 (Int32.toNatClampNeg (M.1 124 17))) ≤ 119 := (by have u0 := b28_; have u1 := (zi_eq _ _).mp c56_; have u2 := (show 119 ≤ Int32.toInt 119 ∧ Int32.toInt 119 ≤ 119 from (by decide)); omega)
          refine pw_blkw hT 5 (pc := 47) (lo := [some (pvR 124), some (pvI n1)]) (st := []) (M := pvu M 134 (Int32.toNatClampNeg n1) 0) rfl ⟨trivial, rfl, trivial, trivial, ⟨rfl, (zr_in (n := 60) hn1 (by decide) (by decide))⟩, trivial⟩ (fun M58_ e59_ => ?_)
          have o60_ : pvOk M58_ := pvok_u2 e59_ hok rfl (zr_wide (show 0 ≤ Int32.toInt 0 ∧ Int32.toInt 0 ≤ 0 from (by decide)) (by decide) (by decide))
          have f61_ : pvFr fp_X10_takesHead_124_x M M58_ := pvfr_u e59_ pvfr_0 rfl
          refine pw_blk hT 3 (S' := (50, [some (pvR 124), some (pvI n1)], [pvI 3, pvI 0, pvR 124], M58_)) rfl ⟨trivial, trivial, trivial, trivial⟩ ?_
          have u62_ : Int32.toInt 0 = 0 := by decide
          have u63_ : Int32.toInt 3 = 3 := by decide
          refine pw_callG hT (as := [pvR 124, pvI 0, pvI 3]) (lo1 := [some (pvR 124), some (pvI 0), some (pvI 3), none]) (d1 := d) (rest := []) rfl rfl rfl rfl rfl (fun _ => rfl) (Nat.zero_le _) rfl rfl rfl (sf_X10_takesWord_124_x_x M58_ o60_ 0 3 (zr_wide (show 0 ≤ Int32.toInt 0 ∧ Int32.toInt 0 ≤ 0 from (by decide)) (by decide) (by decide)) (zr_wide (show 3 ≤ Int32.toInt 3 ∧ Int32.toInt 3 ≤ 3 from (by decide)) (by decide) (by decide)) (show Int32.toInt 0 + Int32.toInt 3 ≤ 15 from (by omega)) d) (fun x64_ M65_ b66_ o67_ g68_ => ?_)
          have f69_ : pvFr fp_X10_takesHead_124_x M M65_ := pvfr_t g68_ f61_ fp_X10_takesHead_124_x_fp_X10_takesWord_124_x_x
          exact pw_ret hT rfl (r := some (pvI x64_)) (M' := M65_) ⟨pv01 b66_, rfl, rfl⟩ ⟨⟨_, rfl, b66_⟩, o67_, f69_⟩
        · show PW 85 d (83, [some (pvR 124), some (pvI n1)], [], M) _
          refine pw_blkw hT 5 (pc := 90) (lo := [some (pvR 124), some (pvI n1)]) (st := []) (M := pvu M 134 (Int32.toNatClampNeg n1) 3) rfl ⟨trivial, rfl, trivial, trivial, ⟨rfl, (zr_in (n := 60) hn1 (by decide) (by decide))⟩, trivial⟩ (fun M70_ e71_ => ?_)
          have o72_ : pvOk M70_ := pvok_u2 e71_ hok rfl (zr_wide (show 3 ≤ Int32.toInt 3 ∧ Int32.toInt 3 ≤ 3 from (by decide)) (by decide) (by decide))
          have f73_ : pvFr fp_X10_takesHead_124_x M M70_ := pvfr_u e71_ pvfr_0 rfl
          refine pw_blk hT 3 (S' := (94, [some (pvR 124), some (pvI n1)], [pvI 4, pvI 11, pvR 124], M70_)) rfl ⟨trivial, trivial, trivial, trivial⟩ ?_
          have u74_ : Int32.toInt 11 = 11 := by decide
          have u75_ : Int32.toInt 4 = 4 := by decide
          refine pw_callG hT (as := [pvR 124, pvI 11, pvI 4]) (lo1 := [some (pvR 124), some (pvI 11), some (pvI 4), none]) (d1 := d) (rest := []) rfl rfl rfl rfl rfl (fun _ => rfl) (Nat.zero_le _) rfl rfl rfl (sf_X10_takesWord_124_x_x M70_ o72_ 11 4 (zr_wide (show 11 ≤ Int32.toInt 11 ∧ Int32.toInt 11 ≤ 11 from (by decide)) (by decide) (by decide)) (zr_wide (show 4 ≤ Int32.toInt 4 ∧ Int32.toInt 4 ≤ 4 from (by decide)) (by decide) (by decide)) (show Int32.toInt 11 + Int32.toInt 4 ≤ 15 from (by omega)) d) (fun x76_ M77_ b78_ o79_ g80_ => ?_)
          have f81_ : pvFr fp_X10_takesHead_124_x M M77_ := pvfr_t g80_ f73_ fp_X10_takesHead_124_x_fp_X10_takesWord_124_x_x
          exact pw_ret hT rfl (r := some (pvI x76_)) (M' := M77_) ⟨pv01 b78_, rfl, rfl⟩ ⟨⟨_, rfl, b78_⟩, o79_, f81_⟩
def fpL_X10_takesNumber_124 : List (Nat × Nat × Nat) := [(0, 124, 18), (0, 124, 19)]
def fp_X10_takesNumber_124 (q k : Nat) : Bool := pvfp fpL_X10_takesNumber_124 q k
set_option maxHeartbeats 4000000 in
set_option maxRecDepth 10000 in
theorem sf_X10_takesNumber_124 (M : pvM) (hok : pvOk M) (d : Nat) : PW 86 d (0, [some (pvR 124), none], [], M) (fun r X => (∃ x : Int32, r = some (pvI x) ∧ 0 ≤ Int32.toInt x ∧ Int32.toInt x ≤ 1) ∧ pvOk X ∧ pvFr fp_X10_takesNumber_124 M X) := by
  have hT : pvdom 86 = pvD_86 := rfl
  refine pw_blk hT 1 (S' := (1, [some (pvR 124), none], [pvR 124], M)) rfl ⟨trivial, trivial⟩ ?_
  refine pw_callT hT (as := [pvR 124]) (lo1 := [some (pvR 124)]) (d1 := d) (rest := []) rfl rfl rfl rfl rfl (fun _ => rfl) (Nat.zero_le _) rfl rfl rfl (sf_X10_isDigit_124 M hok d) ?_
  have b6_ : 0 ≤ Int32.toInt (M.1 124 16) ∧ Int32.toInt (M.1 124 16) ≤ 100 := pvok_r hok 124 16 rfl
  have b7_ : 0 ≤ Int32.toInt (M.1 124 17) ∧ Int32.toInt (M.1 124 17) ≤ 100 := pvok_r hok 124 17 rfl
  by_cases c8_ : (M.1 124 16) ≤ (M.1 124 17)
  · refine pw_eqI (if_pos c8_) ?_
    have d9_ : Int32.toInt (M.1 124 16) ≤ Int32.toInt (M.1 124 17) := (zi_le _ _).mp c8_
    show PW 86 d (4, [some (pvR 124), none], [pvI 0], M) _
    refine pw_ifn hT (c := 0 = 0) rfl rfl (fun c10_ => absurd (by decide) c10_) (fun c10_ => ?_)
    refine pw_blk hT 1 (S' := (8, [some (pvR 124), none], [pvI 0], M)) rfl ⟨trivial, trivial⟩ ?_
    exact pw_ret hT rfl (r := some (pvI 0)) (M' := M) ⟨Or.inl rfl, rfl, rfl⟩ ⟨⟨_, rfl, (zr_wide (show 0 ≤ Int32.toInt 0 ∧ Int32.toInt 0 ≤ 0 from (by decide)) (by decide) (by decide))⟩, hok, pvfr_0⟩
  · refine pw_eqI (if_neg c8_) ?_
    have b11_ : 1 ≤ Int32.toInt (M.1 124 16) ∧ Int32.toInt (M.1 124 16) ≤ 100 := zr_nle_l 1 c8_ b6_ b7_ (by decide)
    have b12_ : 0 ≤ Int32.toInt (M.1 124 17) ∧ Int32.toInt (M.1 124 17) ≤ 99 := zr_nle_r 99 c8_ b7_ b11_ (by decide)
    have d13_ : Int32.toInt (M.1 124 16) > Int32.toInt (M.1 124 17) := Int.not_le.mp ((not_congr (zi_le _ _)).mp c8_)
    have b14_ : 0 ≤ Int32.toInt (M.1 132 (Int32.toNatClampNeg (M.1 124 17))) ∧ Int32.toInt (M.1 132 (Int32.toNatClampNeg (M.1 124 17))) ≤ 127 := pvok_r hok 132 (Int32.toNatClampNeg (M.1 124 17)) rfl
    by_cases c15_ : (M.1 132 (Int32.toNatClampNeg (M.1 124 17))) < 48
    · refine pw_eqI (if_pos c15_) ?_
      have b16_ : 0 ≤ Int32.toInt (M.1 132 (Int32.toNatClampNeg (M.1 124 17))) ∧ Int32.toInt (M.1 132 (Int32.toNatClampNeg (M.1 124 17))) ≤ 47 := zr_lt_l 47 c15_ b14_ (show 48 ≤ Int32.toInt 48 ∧ Int32.toInt 48 ≤ 48 from (by decide)) (by decide)
      show PW 86 d (4, [some (pvR 124), none], [pvI 0], M) _
      refine pw_ifn hT (c := 0 = 0) rfl rfl (fun c17_ => absurd (by decide) c17_) (fun c17_ => ?_)
      refine pw_blk hT 1 (S' := (8, [some (pvR 124), none], [pvI 0], M)) rfl ⟨trivial, trivial⟩ ?_
      exact pw_ret hT rfl (r := some (pvI 0)) (M' := M) ⟨Or.inl rfl, rfl, rfl⟩ ⟨⟨_, rfl, (zr_wide (show 0 ≤ Int32.toInt 0 ∧ Int32.toInt 0 ≤ 0 from (by decide)) (by decide) (by decide))⟩, hok, pvfr_0⟩
    · refine pw_eqI (if_neg c15_) ?_
      have b18_ : 48 ≤ Int32.toInt (M.1 132 (Int32.toNatClampNeg (M.1 124 17))) ∧ Int32.toInt (M.1 132 (Int32.toNatClampNeg (M.1 124 17))) ≤ 127 := zr_nlt_l 48 c15_ b14_ (show 48 ≤ Int32.toInt 48 ∧ Int32.toInt 48 ≤ 48 from (by decide)) (by decide)
      by_cases c19_ : 57 < (M.1 132 (Int32.toNatClampNeg (M.1 124 17)))
      · refine pw_eqI (if_pos c19_) ?_
        have b20_ : 58 ≤ Int32.toInt (M.1 132 (Int32.toNatClampNeg (M.1 124 17))) ∧ Int32.toInt (M.1 132 (Int32.toNatClampNeg (M.1 124 17))) ≤ 127 := zr_lt_r 58 c19_ b18_ (show 57 ≤ Int32.toInt 57 ∧ Int32.toInt 57 ≤ 57 from (by decide)) (by decide)
        show PW 86 d (4, [some (pvR 124), none], [pvI 0], M) _
        refine pw_ifn hT (c := 0 = 0) rfl rfl (fun c21_ => absurd (by decide) c21_) (fun c21_ => ?_)
        refine pw_blk hT 1 (S' := (8, [some (pvR 124), none], [pvI 0], M)) rfl ⟨trivial, trivial⟩ ?_
        exact pw_ret hT rfl (r := some (pvI 0)) (M' := M) ⟨Or.inl rfl, rfl, rfl⟩ ⟨⟨_, rfl, (zr_wide (show 0 ≤ Int32.toInt 0 ∧ Int32.toInt 0 ≤ 0 from (by decide)) (by decide) (by decide))⟩, hok, pvfr_0⟩
      · refine pw_eqI (if_neg c19_) ?_
        have b22_ : 48 ≤ Int32.toInt (M.1 132 (Int32.toNatClampNeg (M.1 124 17))) ∧ Int32.toInt (M.1 132 (Int32.toNatClampNeg (M.1 124 17))) ≤ 57 := zr_nlt_r 57 c19_ b18_ (show 57 ≤ Int32.toInt 57 ∧ Int32.toInt 57 ≤ 57 from (by decide)) (by decide)
        show PW 86 d (4, [some (pvR 124), none], [pvI 1], M) _
        refine pw_ifn hT (c := 1 = 0) rfl rfl (fun c23_ => ?_) (fun c23_ => absurd c23_ (by decide))
        refine pw_blkw hT 3 (pc := 14) (lo := [some (pvR 124), none]) (st := []) (M := pvu M 124 18 0) rfl ⟨trivial, trivial, rfl, trivial⟩ (fun M24_ e25_ => ?_)
        have o26_ : pvOk M24_ := pvok_u2 e25_ hok rfl (zr_wide (show 0 ≤ Int32.toInt 0 ∧ Int32.toInt 0 ≤ 0 from (by decide)) (by decide) (by decide))
        have f27_ : pvFr fp_X10_takesNumber_124 M M24_ := pvfr_u e25_ pvfr_0 rfl
        refine pw_blk hT 2 (S' := (16, [some (pvR 124), some (pvI 0)], [], M24_)) rfl ⟨trivial, trivial, trivial⟩ ?_
        refine pw_blk hT 2 (S' := (18, [some (pvR 124), some (pvI 0)], [pvI 2, pvI 0], M24_)) rfl ⟨trivial, trivial, trivial⟩ ?_
        refine pw_ic hT (c := 2 ≤ 0) rfl rfl (fun c28_ => absurd c28_ (by decide)) (fun c28_ => ?_)
        refine pw_blk hT 1 (S' := (22, [some (pvR 124), some (pvI 0)], [pvR 124], M24_)) rfl ⟨trivial, trivial⟩ ?_
        refine pw_callT hT (as := [pvR 124]) (lo1 := [some (pvR 124)]) (d1 := d) (rest := []) rfl rfl rfl rfl rfl (fun _ => rfl) (Nat.zero_le _) rfl rfl rfl (sf_X10_isDigit_124 M24_ o26_ d) ?_
        have e34_ : (M24_.1 124 16) = (M.1 124 16) := (pvu_n e25_ 124 16 (Or.inr (by decide)))
        have b35_ : 1 ≤ Int32.toInt (M24_.1 124 16) ∧ Int32.toInt (M24_.1 124 16) ≤ 100 := (by rw [e34_]; exact b11_)
        have e36_ : (M24_.1 124 17) = (M.1 124 17) := (pvu_n e25_ 124 17 (Or.inr (by decide)))
        have b37_ : 0 ≤ Int32.toInt (M24_.1 124 17) ∧ Int32.toInt (M24_.1 124 17) ≤ 99 := (by rw [e36_]; exact b12_)
        by_cases c38_ : (M24_.1 124 16) ≤ (M24_.1 124 17)
        · refine pw_eqI (if_pos c38_) ?_
          have b39_ : 1 ≤ Int32.toInt (M24_.1 124 16) ∧ Int32.toInt (M24_.1 124 16) ≤ 99 := zr_le_l 99 c38_ b35_ b37_ (by decide)
          have b40_ : 1 ≤ Int32.toInt (M24_.1 124 17) ∧ Int32.toInt (M24_.1 124 17) ≤ 99 := zr_le_r 1 c38_ b37_ b39_ (by decide)
          have d41_ : Int32.toInt (M24_.1 124 16) ≤ Int32.toInt (M24_.1 124 17) := (zi_le _ _).mp c38_
          show PW 86 d (25, [some (pvR 124), some (pvI 0)], [pvI 0], M24_) _
          refine pw_if hT (c := 0 = 0) rfl rfl (fun c42_ => ?_) (fun c42_ => absurd (by decide) c42_)
          refine pw_blk hT 1 (S' := (64, [some (pvR 124), some (pvI 0)], [pvI 1], M24_)) rfl ⟨trivial, trivial⟩ ?_
          exact pw_ret hT rfl (r := some (pvI 1)) (M' := M24_) ⟨Or.inr rfl, rfl, rfl⟩ ⟨⟨_, rfl, (zr_wide (show 1 ≤ Int32.toInt 1 ∧ Int32.toInt 1 ≤ 1 from (by decide)) (by decide) (by decide))⟩, o26_, f27_⟩
        · refine pw_eqI (if_neg c38_) ?_
          have d43_ : Int32.toInt (M24_.1 124 16) > Int32.toInt (M24_.1 124 17) := Int.not_le.mp ((not_congr (zi_le _ _)).mp c38_)
          have b44_ : 0 ≤ Int32.toInt (M24_.1 132 (Int32.toNatClampNeg (M24_.1 124 17))) ∧ Int32.toInt (M24_.1 132 (Int32.toNatClampNeg (M24_.1 124 17))) ≤ 127 := pvok_r o26_ 132 (Int32.toNatClampNeg (M24_.1 124 17)) rfl
          by_cases c45_ : (M24_.1 132 (Int32.toNatClampNeg (M24_.1 124 17))) < 48
          · refine pw_eqI (if_pos c45_) ?_
            have b46_ : 0 ≤ Int32.toInt (M24_.1 132 (Int32.toNatClampNeg (M24_.1 124 17))) ∧ Int32.toInt (M24_.1 132 (Int32.toNatClampNeg (M24_.1 124 17))) ≤ 47 := zr_lt_l 47 c45_ b44_ (show 48 ≤ Int32.toInt 48 ∧ Int32.toInt 48 ≤ 48 from (by decide)) (by decide)
            show PW 86 d (25, [some (pvR 124), some (pvI 0)], [pvI 0], M24_) _
            refine pw_if hT (c := 0 = 0) rfl rfl (fun c47_ => ?_) (fun c47_ => absurd (by decide) c47_)
            refine pw_blk hT 1 (S' := (64, [some (pvR 124), some (pvI 0)], [pvI 1], M24_)) rfl ⟨trivial, trivial⟩ ?_
            exact pw_ret hT rfl (r := some (pvI 1)) (M' := M24_) ⟨Or.inr rfl, rfl, rfl⟩ ⟨⟨_, rfl, (zr_wide (show 1 ≤ Int32.toInt 1 ∧ Int32.toInt 1 ≤ 1 from (by decide)) (by decide) (by decide))⟩, o26_, f27_⟩
          · refine pw_eqI (if_neg c45_) ?_
            have b48_ : 48 ≤ Int32.toInt (M24_.1 132 (Int32.toNatClampNeg (M24_.1 124 17))) ∧ Int32.toInt (M24_.1 132 (Int32.toNatClampNeg (M24_.1 124 17))) ≤ 127 := zr_nlt_l 48 c45_ b44_ (show 48 ≤ Int32.toInt 48 ∧ Int32.toInt 48 ≤ 48 from (by decide)) (by decide)
            by_cases c49_ : 57 < (M24_.1 132 (Int32.toNatClampNeg (M24_.1 124 17)))
            · refine pw_eqI (if_pos c49_) ?_
              have b50_ : 58 ≤ Int32.toInt (M24_.1 132 (Int32.toNatClampNeg (M24_.1 124 17))) ∧ Int32.toInt (M24_.1 132 (Int32.toNatClampNeg (M24_.1 124 17))) ≤ 127 := zr_lt_r 58 c49_ b48_ (show 57 ≤ Int32.toInt 57 ∧ Int32.toInt 57 ≤ 57 from (by decide)) (by decide)
              show PW 86 d (25, [some (pvR 124), some (pvI 0)], [pvI 0], M24_) _
              refine pw_if hT (c := 0 = 0) rfl rfl (fun c51_ => ?_) (fun c51_ => absurd (by decide) c51_)
              refine pw_blk hT 1 (S' := (64, [some (pvR 124), some (pvI 0)], [pvI 1], M24_)) rfl ⟨trivial, trivial⟩ ?_
              exact pw_ret hT rfl (r := some (pvI 1)) (M' := M24_) ⟨Or.inr rfl, rfl, rfl⟩ ⟨⟨_, rfl, (zr_wide (show 1 ≤ Int32.toInt 1 ∧ Int32.toInt 1 ≤ 1 from (by decide)) (by decide) (by decide))⟩, o26_, f27_⟩
            · refine pw_eqI (if_neg c49_) ?_
              have b52_ : 48 ≤ Int32.toInt (M24_.1 132 (Int32.toNatClampNeg (M24_.1 124 17))) ∧ Int32.toInt (M24_.1 132 (Int32.toNatClampNeg (M24_.1 124 17))) ≤ 57 := zr_nlt_r 57 c49_ b48_ (show 57 ≤ Int32.toInt 57 ∧ Int32.toInt 57 ≤ 57 from (by decide)) (by decide)
              show PW 86 d (25, [some (pvR 124), some (pvI 0)], [pvI 1], M24_) _
              refine pw_if hT (c := 1 = 0) rfl rfl (fun c53_ => absurd c53_ (by decide)) (fun c53_ => ?_)
              have e54_ : (M24_.1 124 18) = 0 := (pvu_s e25_)
              have b55_ : 0 ≤ Int32.toInt (M24_.1 124 18) ∧ Int32.toInt (M24_.1 124 18) ≤ 0 := (by rw [e54_]; exact (show 0 ≤ Int32.toInt 0 ∧ Int32.toInt 0 ≤ 0 from (by decide)))
              have q56_ : Int32.toInt (10 * (M24_.1 124 18)) = 10 * Int32.toInt (M24_.1 124 18) := by have u0 : Int32.toInt 10 = 10 := (by decide); have u1 := b55_; have u2 := zmul 10 (M24_.1 124 18) (by rw [u0]; omega) (by rw [u0]; omega); rw [u0] at u2; omega
              have b57_ : 0 ≤ Int32.toInt (10 * (M24_.1 124 18)) ∧ Int32.toInt (10 * (M24_.1 124 18)) ≤ 0 := (by have u1 := b55_; omega)
              refine pw_blk hT 6 (S' := (37, [some (pvR 124), some (pvI 0)], [pvR 124, pvI (10 * (M24_.1 124 18)), pvR 124], M24_)) rfl ⟨trivial, trivial, trivial, rfl, trivial, trivial, trivial⟩ ?_
              refine pw_callT hT (as := [pvR 124]) (lo1 := [some (pvR 124)]) (d1 := d) (rest := [pvI (10 * (M24_.1 124 18)), pvR 124]) rfl rfl rfl rfl rfl (fun _ => rfl) (Nat.zero_le _) rfl rfl rfl (sf_X10_peek_124 M24_ o26_ d) ?_
              refine pw_eqI (if_neg c38_) ?_
              show PW 86 d (40, [some (pvR 124), some (pvI 0)], [pvI (M24_.1 132 (Int32.toNatClampNeg (M24_.1 124 17))), pvI (10 * (M24_.1 124 18)), pvR 124], M24_) _
              obtain ⟨q64_, b63_⟩ : (Int32.toInt ((10 * (M24_.1 124 18)) + (M24_.1 132 (Int32.toNatClampNeg (M24_.1 124 17)))) = Int32.toInt (10 * (M24_.1 124 18)) + Int32.toInt (M24_.1 132 (Int32.toNatClampNeg (M24_.1 124 17)))) ∧ (48 ≤ Int32.toInt ((10 * (M24_.1 124 18)) + (M24_.1 132 (Int32.toNatClampNeg (M24_.1 124 17)))) ∧ Int32.toInt ((10 * (M24_.1 124 18)) + (M24_.1 132 (Int32.toNatClampNeg (M24_.1 124 17)))) ≤ 57) := zadd_r (10 * (M24_.1 124 18)) (M24_.1 132 (Int32.toNatClampNeg (M24_.1 124 17))) 48 57 b57_ b52_ (by decide) (by decide) (by decide) (by decide)
              obtain ⟨q66_, b65_⟩ : (Int32.toInt (((10 * (M24_.1 124 18)) + (M24_.1 132 (Int32.toNatClampNeg (M24_.1 124 17)))) - 48) = Int32.toInt ((10 * (M24_.1 124 18)) + (M24_.1 132 (Int32.toNatClampNeg (M24_.1 124 17)))) - Int32.toInt 48) ∧ (0 ≤ Int32.toInt (((10 * (M24_.1 124 18)) + (M24_.1 132 (Int32.toNatClampNeg (M24_.1 124 17)))) - 48) ∧ Int32.toInt (((10 * (M24_.1 124 18)) + (M24_.1 132 (Int32.toNatClampNeg (M24_.1 124 17)))) - 48) ≤ 9) := zsub_r ((10 * (M24_.1 124 18)) + (M24_.1 132 (Int32.toNatClampNeg (M24_.1 124 17)))) 48 0 9 b63_ (show 48 ≤ Int32.toInt 48 ∧ Int32.toInt 48 ≤ 48 from (by decide)) (by decide) (by decide) (by decide) (by decide)
              have u67_ : Int32.toInt 48 = 48 := by decide
              refine pw_blkw hT 4 (pc := 47) (lo := [some (pvR 124), some (pvI 0)]) (st := []) (M := pvu M24_ 124 18 (((10 * (M24_.1 124 18)) + (M24_.1 132 (Int32.toNatClampNeg (M24_.1 124 17)))) - 48)) rfl ⟨trivial, trivial, trivial, rfl, trivial⟩ (fun M68_ e69_ => ?_)
              have o70_ : pvOk M68_ := pvok_u2 e69_ o26_ rfl (zr_wide b65_ (by decide) (by decide))
              have f71_ : pvFr fp_X10_takesNumber_124 M M68_ := pvfr_u e69_ f27_ rfl
              have e72_ : (M68_.1 124 17) = (M24_.1 124 17) := (pvu_n e69_ 124 17 (Or.inr (by decide)))
              have b73_ : 0 ≤ Int32.toInt (M68_.1 124 17) ∧ Int32.toInt (M68_.1 124 17) ≤ 99 := (by rw [e72_]; exact b37_)
              obtain ⟨q75_, b74_⟩ : (Int32.toInt ((M68_.1 124 17) + 1) = Int32.toInt (M68_.1 124 17) + Int32.toInt 1) ∧ (1 ≤ Int32.toInt ((M68_.1 124 17) + 1) ∧ Int32.toInt ((M68_.1 124 17) + 1) ≤ 100) := zadd_r (M68_.1 124 17) 1 1 100 b73_ (show 1 ≤ Int32.toInt 1 ∧ Int32.toInt 1 ≤ 1 from (by decide)) (by decide) (by decide) (by decide) (by decide)
              have u76_ : Int32.toInt 1 = 1 := by decide
              refine pw_blkw hT 6 (pc := 57) (lo := [some (pvR 124), some (pvI 0)]) (st := []) (M := pvu M68_ 124 17 ((M68_.1 124 17) + 1)) rfl ⟨trivial, trivial, rfl, trivial, trivial, rfl, trivial⟩ (fun M77_ e78_ => ?_)
              have o79_ : pvOk M77_ := pvok_u2 e78_ o70_ rfl (zr_wide b74_ (by decide) (by decide))
              have f80_ : pvFr fp_X10_takesNumber_124 M M77_ := pvfr_u e78_ f71_ rfl
              refine pw_blk hT 2 (S' := (16, [some (pvR 124), some (pvI (0 + 1))], [], M77_)) rfl ⟨trivial, trivial, trivial⟩ ?_
              refine pw_blk hT 2 (S' := (18, [some (pvR 124), some (pvI (0 + 1))], [pvI 2, pvI (0 + 1)], M77_)) rfl ⟨trivial, trivial, trivial⟩ ?_
              refine pw_ic hT (c := 2 ≤ (0 + 1)) rfl rfl (fun c81_ => absurd c81_ (by decide)) (fun c81_ => ?_)
              refine pw_blk hT 1 (S' := (22, [some (pvR 124), some (pvI (0 + 1))], [pvR 124], M77_)) rfl ⟨trivial, trivial⟩ ?_
              refine pw_callT hT (as := [pvR 124]) (lo1 := [some (pvR 124)]) (d1 := d) (rest := []) rfl rfl rfl rfl rfl (fun _ => rfl) (Nat.zero_le _) rfl rfl rfl (sf_X10_isDigit_124 M77_ o79_ d) ?_
              have e87_ : (M77_.1 124 16) = (M24_.1 124 16) := ((pvu_n e78_ 124 16 (Or.inr (by decide))).trans (pvu_n e69_ 124 16 (Or.inr (by decide))))
              have b88_ : 1 ≤ Int32.toInt (M77_.1 124 16) ∧ Int32.toInt (M77_.1 124 16) ≤ 100 := (by rw [e87_]; exact b35_)
              have e89_ : (M77_.1 124 17) = ((M68_.1 124 17) + 1) := (pvu_s e78_)
              have b90_ : 1 ≤ Int32.toInt (M77_.1 124 17) ∧ Int32.toInt (M77_.1 124 17) ≤ 100 := (by rw [e89_]; exact b74_)
              by_cases c91_ : (M77_.1 124 16) ≤ (M77_.1 124 17)
              · refine pw_eqI (if_pos c91_) ?_
                have d92_ : Int32.toInt (M77_.1 124 16) ≤ Int32.toInt (M77_.1 124 17) := (zi_le _ _).mp c91_
                show PW 86 d (25, [some (pvR 124), some (pvI (0 + 1))], [pvI 0], M77_) _
                refine pw_if hT (c := 0 = 0) rfl rfl (fun c93_ => ?_) (fun c93_ => absurd (by decide) c93_)
                refine pw_blk hT 1 (S' := (64, [some (pvR 124), some (pvI (0 + 1))], [pvI 1], M77_)) rfl ⟨trivial, trivial⟩ ?_
                exact pw_ret hT rfl (r := some (pvI 1)) (M' := M77_) ⟨Or.inr rfl, rfl, rfl⟩ ⟨⟨_, rfl, (zr_wide (show 1 ≤ Int32.toInt 1 ∧ Int32.toInt 1 ≤ 1 from (by decide)) (by decide) (by decide))⟩, o79_, f80_⟩
              · refine pw_eqI (if_neg c91_) ?_
                have b94_ : 2 ≤ Int32.toInt (M77_.1 124 16) ∧ Int32.toInt (M77_.1 124 16) ≤ 100 := zr_nle_l 2 c91_ b88_ b90_ (by decide)
                have b95_ : 1 ≤ Int32.toInt (M77_.1 124 17) ∧ Int32.toInt (M77_.1 124 17) ≤ 99 := zr_nle_r 99 c91_ b90_ b94_ (by decide)
                have d96_ : Int32.toInt (M77_.1 124 16) > Int32.toInt (M77_.1 124 17) := Int.not_le.mp ((not_congr (zi_le _ _)).mp c91_)
                have b97_ : 0 ≤ Int32.toInt (M77_.1 132 (Int32.toNatClampNeg (M77_.1 124 17))) ∧ Int32.toInt (M77_.1 132 (Int32.toNatClampNeg (M77_.1 124 17))) ≤ 127 := pvok_r o79_ 132 (Int32.toNatClampNeg (M77_.1 124 17)) rfl
                by_cases c98_ : (M77_.1 132 (Int32.toNatClampNeg (M77_.1 124 17))) < 48
                · refine pw_eqI (if_pos c98_) ?_
                  have b99_ : 0 ≤ Int32.toInt (M77_.1 132 (Int32.toNatClampNeg (M77_.1 124 17))) ∧ Int32.toInt (M77_.1 132 (Int32.toNatClampNeg (M77_.1 124 17))) ≤ 47 := zr_lt_l 47 c98_ b97_ (show 48 ≤ Int32.toInt 48 ∧ Int32.toInt 48 ≤ 48 from (by decide)) (by decide)
                  show PW 86 d (25, [some (pvR 124), some (pvI (0 + 1))], [pvI 0], M77_) _
                  refine pw_if hT (c := 0 = 0) rfl rfl (fun c100_ => ?_) (fun c100_ => absurd (by decide) c100_)
                  refine pw_blk hT 1 (S' := (64, [some (pvR 124), some (pvI (0 + 1))], [pvI 1], M77_)) rfl ⟨trivial, trivial⟩ ?_
                  exact pw_ret hT rfl (r := some (pvI 1)) (M' := M77_) ⟨Or.inr rfl, rfl, rfl⟩ ⟨⟨_, rfl, (zr_wide (show 1 ≤ Int32.toInt 1 ∧ Int32.toInt 1 ≤ 1 from (by decide)) (by decide) (by decide))⟩, o79_, f80_⟩
                · refine pw_eqI (if_neg c98_) ?_
                  have b101_ : 48 ≤ Int32.toInt (M77_.1 132 (Int32.toNatClampNeg (M77_.1 124 17))) ∧ Int32.toInt (M77_.1 132 (Int32.toNatClampNeg (M77_.1 124 17))) ≤ 127 := zr_nlt_l 48 c98_ b97_ (show 48 ≤ Int32.toInt 48 ∧ Int32.toInt 48 ≤ 48 from (by decide)) (by decide)
                  by_cases c102_ : 57 < (M77_.1 132 (Int32.toNatClampNeg (M77_.1 124 17)))
                  · refine pw_eqI (if_pos c102_) ?_
                    have b103_ : 58 ≤ Int32.toInt (M77_.1 132 (Int32.toNatClampNeg (M77_.1 124 17))) ∧ Int32.toInt (M77_.1 132 (Int32.toNatClampNeg (M77_.1 124 17))) ≤ 127 := zr_lt_r 58 c102_ b101_ (show 57 ≤ Int32.toInt 57 ∧ Int32.toInt 57 ≤ 57 from (by decide)) (by decide)
                    show PW 86 d (25, [some (pvR 124), some (pvI (0 + 1))], [pvI 0], M77_) _
                    refine pw_if hT (c := 0 = 0) rfl rfl (fun c104_ => ?_) (fun c104_ => absurd (by decide) c104_)
                    refine pw_blk hT 1 (S' := (64, [some (pvR 124), some (pvI (0 + 1))], [pvI 1], M77_)) rfl ⟨trivial, trivial⟩ ?_
                    exact pw_ret hT rfl (r := some (pvI 1)) (M' := M77_) ⟨Or.inr rfl, rfl, rfl⟩ ⟨⟨_, rfl, (zr_wide (show 1 ≤ Int32.toInt 1 ∧ Int32.toInt 1 ≤ 1 from (by decide)) (by decide) (by decide))⟩, o79_, f80_⟩
                  · refine pw_eqI (if_neg c102_) ?_
                    have b105_ : 48 ≤ Int32.toInt (M77_.1 132 (Int32.toNatClampNeg (M77_.1 124 17))) ∧ Int32.toInt (M77_.1 132 (Int32.toNatClampNeg (M77_.1 124 17))) ≤ 57 := zr_nlt_r 57 c102_ b101_ (show 57 ≤ Int32.toInt 57 ∧ Int32.toInt 57 ≤ 57 from (by decide)) (by decide)
                    show PW 86 d (25, [some (pvR 124), some (pvI (0 + 1))], [pvI 1], M77_) _
                    refine pw_if hT (c := 1 = 0) rfl rfl (fun c106_ => absurd c106_ (by decide)) (fun c106_ => ?_)
                    have e107_ : (M77_.1 124 18) = (((10 * (M24_.1 124 18)) + (M24_.1 132 (Int32.toNatClampNeg (M24_.1 124 17)))) - 48) := ((pvu_n e78_ 124 18 (Or.inr (by decide))).trans (pvu_s e69_))
                    have b108_ : 0 ≤ Int32.toInt (M77_.1 124 18) ∧ Int32.toInt (M77_.1 124 18) ≤ 9 := (by rw [e107_]; exact b65_)
                    have q109_ : Int32.toInt (10 * (M77_.1 124 18)) = 10 * Int32.toInt (M77_.1 124 18) := by have u0 : Int32.toInt 10 = 10 := (by decide); have u1 := b108_; have u2 := zmul 10 (M77_.1 124 18) (by rw [u0]; omega) (by rw [u0]; omega); rw [u0] at u2; omega
                    have b110_ : 0 ≤ Int32.toInt (10 * (M77_.1 124 18)) ∧ Int32.toInt (10 * (M77_.1 124 18)) ≤ 90 := (by have u1 := b108_; omega)
                    refine pw_blk hT 6 (S' := (37, [some (pvR 124), some (pvI (0 + 1))], [pvR 124, pvI (10 * (M77_.1 124 18)), pvR 124], M77_)) rfl ⟨trivial, trivial, trivial, rfl, trivial, trivial, trivial⟩ ?_
                    refine pw_callT hT (as := [pvR 124]) (lo1 := [some (pvR 124)]) (d1 := d) (rest := [pvI (10 * (M77_.1 124 18)), pvR 124]) rfl rfl rfl rfl rfl (fun _ => rfl) (Nat.zero_le _) rfl rfl rfl (sf_X10_peek_124 M77_ o79_ d) ?_
                    refine pw_eqI (if_neg c91_) ?_
                    show PW 86 d (40, [some (pvR 124), some (pvI (0 + 1))], [pvI (M77_.1 132 (Int32.toNatClampNeg (M77_.1 124 17))), pvI (10 * (M77_.1 124 18)), pvR 124], M77_) _
                    obtain ⟨q117_, b116_⟩ : (Int32.toInt ((10 * (M77_.1 124 18)) + (M77_.1 132 (Int32.toNatClampNeg (M77_.1 124 17)))) = Int32.toInt (10 * (M77_.1 124 18)) + Int32.toInt (M77_.1 132 (Int32.toNatClampNeg (M77_.1 124 17)))) ∧ (48 ≤ Int32.toInt ((10 * (M77_.1 124 18)) + (M77_.1 132 (Int32.toNatClampNeg (M77_.1 124 17)))) ∧ Int32.toInt ((10 * (M77_.1 124 18)) + (M77_.1 132 (Int32.toNatClampNeg (M77_.1 124 17)))) ≤ 147) := zadd_r (10 * (M77_.1 124 18)) (M77_.1 132 (Int32.toNatClampNeg (M77_.1 124 17))) 48 147 b110_ b105_ (by decide) (by decide) (by decide) (by decide)
                    obtain ⟨q119_, b118_⟩ : (Int32.toInt (((10 * (M77_.1 124 18)) + (M77_.1 132 (Int32.toNatClampNeg (M77_.1 124 17)))) - 48) = Int32.toInt ((10 * (M77_.1 124 18)) + (M77_.1 132 (Int32.toNatClampNeg (M77_.1 124 17)))) - Int32.toInt 48) ∧ (0 ≤ Int32.toInt (((10 * (M77_.1 124 18)) + (M77_.1 132 (Int32.toNatClampNeg (M77_.1 124 17)))) - 48) ∧ Int32.toInt (((10 * (M77_.1 124 18)) + (M77_.1 132 (Int32.toNatClampNeg (M77_.1 124 17)))) - 48) ≤ 99) := zsub_r ((10 * (M77_.1 124 18)) + (M77_.1 132 (Int32.toNatClampNeg (M77_.1 124 17)))) 48 0 99 b116_ (show 48 ≤ Int32.toInt 48 ∧ Int32.toInt 48 ≤ 48 from (by decide)) (by decide) (by decide) (by decide) (by decide)
                    refine pw_blkw hT 4 (pc := 47) (lo := [some (pvR 124), some (pvI (0 + 1))]) (st := []) (M := pvu M77_ 124 18 (((10 * (M77_.1 124 18)) + (M77_.1 132 (Int32.toNatClampNeg (M77_.1 124 17)))) - 48)) rfl ⟨trivial, trivial, trivial, rfl, trivial⟩ (fun M120_ e121_ => ?_)
                    have o122_ : pvOk M120_ := pvok_u2 e121_ o79_ rfl b118_
                    have f123_ : pvFr fp_X10_takesNumber_124 M M120_ := pvfr_u e121_ f80_ rfl
                    have e124_ : (M120_.1 124 17) = (M77_.1 124 17) := (pvu_n e121_ 124 17 (Or.inr (by decide)))
                    have b125_ : 1 ≤ Int32.toInt (M120_.1 124 17) ∧ Int32.toInt (M120_.1 124 17) ≤ 99 := (by rw [e124_]; exact b95_)
                    obtain ⟨q127_, b126_⟩ : (Int32.toInt ((M120_.1 124 17) + 1) = Int32.toInt (M120_.1 124 17) + Int32.toInt 1) ∧ (2 ≤ Int32.toInt ((M120_.1 124 17) + 1) ∧ Int32.toInt ((M120_.1 124 17) + 1) ≤ 100) := zadd_r (M120_.1 124 17) 1 2 100 b125_ (show 1 ≤ Int32.toInt 1 ∧ Int32.toInt 1 ≤ 1 from (by decide)) (by decide) (by decide) (by decide) (by decide)
                    refine pw_blkw hT 6 (pc := 57) (lo := [some (pvR 124), some (pvI (0 + 1))]) (st := []) (M := pvu M120_ 124 17 ((M120_.1 124 17) + 1)) rfl ⟨trivial, trivial, rfl, trivial, trivial, rfl, trivial⟩ (fun M128_ e129_ => ?_)
                    have o130_ : pvOk M128_ := pvok_u2 e129_ o122_ rfl (zr_wide b126_ (by decide) (by decide))
                    have f131_ : pvFr fp_X10_takesNumber_124 M M128_ := pvfr_u e129_ f123_ rfl
                    refine pw_blk hT 2 (S' := (16, [some (pvR 124), some (pvI ((0 + 1) + 1))], [], M128_)) rfl ⟨trivial, trivial, trivial⟩ ?_
                    refine pw_blk hT 2 (S' := (18, [some (pvR 124), some (pvI ((0 + 1) + 1))], [pvI 2, pvI ((0 + 1) + 1)], M128_)) rfl ⟨trivial, trivial, trivial⟩ ?_
                    refine pw_ic hT (c := 2 ≤ ((0 + 1) + 1)) rfl rfl (fun c132_ => ?_) (fun c132_ => absurd (by decide) c132_)
                    refine pw_blk hT 1 (S' := (64, [some (pvR 124), some (pvI ((0 + 1) + 1))], [pvI 1], M128_)) rfl ⟨trivial, trivial⟩ ?_
                    exact pw_ret hT rfl (r := some (pvI 1)) (M' := M128_) ⟨Or.inr rfl, rfl, rfl⟩ ⟨⟨_, rfl, (zr_wide (show 1 ≤ Int32.toInt 1 ∧ Int32.toInt 1 ≤ 1 from (by decide)) (by decide) (by decide))⟩, o130_, f131_⟩
def fpL_X10_tape_124_x_x_x : List (Nat × Nat × Nat) := [(0, 164, 0), (0, 165, 0)]
def fp_X10_tape_124_x_x_x (q k : Nat) : Bool := pvfp fpL_X10_tape_124_x_x_x q k
set_option maxHeartbeats 4000000 in
set_option maxRecDepth 10000 in
theorem sf_X10_tape_124_x_x_x (M : pvM) (hok : pvOk M) (n1 : Int32) (n2 : Int32) (n3 : Int32) (d : Nat) : PW 89 d (0, [some (pvR 124), some (pvI n1), some (pvI n2), some (pvI n3), none], [], M) (fun r X => (∃ x : Int32, r = some (pvI x) ∧ (-14) ≤ Int32.toInt x ∧ Int32.toInt x ≤ 1) ∧ pvOk X ∧ pvFr fp_X10_tape_124_x_x_x M X) := by
  have hT : pvdom 89 = pvD_89 := rfl
  refine pw_blk hT 2 (S' := (2, [some (pvR 124), some (pvI n1), some (pvI n2), some (pvI n3), none], [pvI n1, pvR 124], M)) rfl ⟨trivial, trivial, trivial⟩ ?_
  refine pw_callT hT (as := [pvR 124, pvI n1]) (lo1 := [some (pvR 124), some (pvI n1)]) (d1 := d) (rest := []) rfl rfl rfl rfl rfl (fun _ => rfl) (Nat.zero_le _) rfl rfl rfl (sf_X10_isTape_124_x M hok n1 d) ?_
  by_cases c6_ : n1 < 0
  · refine pw_eqI (if_pos c6_) ?_
    have b7_ : (-2147483648) ≤ Int32.toInt n1 ∧ Int32.toInt n1 ≤ (-1) := zr_lt_l (-1) c6_ (zbnd n1) (show 0 ≤ Int32.toInt 0 ∧ Int32.toInt 0 ≤ 0 from (by decide)) (by decide)
    show PW 89 d (5, [some (pvR 124), some (pvI n1), some (pvI n2), some (pvI n3), none], [pvI 0], M) _
    refine pw_ifn hT (c := 0 = 0) rfl rfl (fun c8_ => absurd (by decide) c8_) (fun c8_ => ?_)
    refine pw_blk hT 1 (S' := (9, [some (pvR 124), some (pvI n1), some (pvI n2), some (pvI n3), none], [pvI (-1)], M)) rfl ⟨trivial, trivial⟩ ?_
    exact pw_ret hT rfl (r := some (pvI (-1))) (M' := M) ⟨rfl, rfl⟩ ⟨⟨_, rfl, (zr_wide (show (-1) ≤ Int32.toInt (-1) ∧ Int32.toInt (-1) ≤ (-1) from (by decide)) (by decide) (by decide))⟩, hok, pvfr_0⟩
  · refine pw_eqI (if_neg c6_) ?_
    have b9_ : 0 ≤ Int32.toInt n1 ∧ Int32.toInt n1 ≤ 2147483647 := zr_nlt_l 0 c6_ (zbnd n1) (show 0 ≤ Int32.toInt 0 ∧ Int32.toInt 0 ≤ 0 from (by decide)) (by decide)
    by_cases c10_ : 5 < n1
    · refine pw_eqI (if_pos c10_) ?_
      have b11_ : 6 ≤ Int32.toInt n1 ∧ Int32.toInt n1 ≤ 2147483647 := zr_lt_r 6 c10_ b9_ (show 5 ≤ Int32.toInt 5 ∧ Int32.toInt 5 ≤ 5 from (by decide)) (by decide)
      show PW 89 d (5, [some (pvR 124), some (pvI n1), some (pvI n2), some (pvI n3), none], [pvI 0], M) _
      refine pw_ifn hT (c := 0 = 0) rfl rfl (fun c12_ => absurd (by decide) c12_) (fun c12_ => ?_)
      refine pw_blk hT 1 (S' := (9, [some (pvR 124), some (pvI n1), some (pvI n2), some (pvI n3), none], [pvI (-1)], M)) rfl ⟨trivial, trivial⟩ ?_
      exact pw_ret hT rfl (r := some (pvI (-1))) (M' := M) ⟨rfl, rfl⟩ ⟨⟨_, rfl, (zr_wide (show (-1) ≤ Int32.toInt (-1) ∧ Int32.toInt (-1) ≤ (-1) from (by decide)) (by decide) (by decide))⟩, hok, pvfr_0⟩
    · refine pw_eqI (if_neg c10_) ?_
      have b13_ : 0 ≤ Int32.toInt n1 ∧ Int32.toInt n1 ≤ 5 := zr_nlt_r 5 c10_ b9_ (show 5 ≤ Int32.toInt 5 ∧ Int32.toInt 5 ≤ 5 from (by decide)) (by decide)
      show PW 89 d (5, [some (pvR 124), some (pvI n1), some (pvI n2), some (pvI n3), none], [pvI 1], M) _
      refine pw_ifn hT (c := 1 = 0) rfl rfl (fun c14_ => ?_) (fun c14_ => absurd c14_ (by decide))
      refine pw_blk hT 4 (S' := (14, [some (pvR 124), some (pvI n1), some (pvI n2), some (pvI n3), none], [pvI 4, pvI (-1), pvI n2, pvR 124], M)) rfl ⟨trivial, trivial, trivial, trivial, trivial⟩ ?_
      refine pw_callT hT (as := [pvR 124, pvI n2, pvI (-1), pvI 4]) (lo1 := [some (pvR 124), some (pvI n2), some (pvI (-1)), some (pvI 4)]) (d1 := d) (rest := []) rfl rfl rfl rfl rfl (fun _ => rfl) (Nat.zero_le _) rfl rfl rfl (sf_X10_in_124_x_x_x M hok n2 (-1) 4 d) ?_
      by_cases c20_ : n2 < (-1)
      · refine pw_eqI (if_pos c20_) ?_
        have b21_ : (-2147483648) ≤ Int32.toInt n2 ∧ Int32.toInt n2 ≤ (-2) := zr_lt_l (-2) c20_ (zbnd n2) (show (-1) ≤ Int32.toInt (-1) ∧ Int32.toInt (-1) ≤ (-1) from (by decide)) (by decide)
        show PW 89 d (17, [some (pvR 124), some (pvI n1), some (pvI n2), some (pvI n3), none], [pvI 0], M) _
        refine pw_if hT (c := 0 = 0) rfl rfl (fun c22_ => ?_) (fun c22_ => absurd (by decide) c22_)
        refine pw_blk hT 1 (S' := (32, [some (pvR 124), some (pvI n1), some (pvI n2), some (pvI n3), none], [pvI (-2)], M)) rfl ⟨trivial, trivial⟩ ?_
        exact pw_ret hT rfl (r := some (pvI (-2))) (M' := M) ⟨rfl, rfl⟩ ⟨⟨_, rfl, (zr_wide (show (-2) ≤ Int32.toInt (-2) ∧ Int32.toInt (-2) ≤ (-2) from (by decide)) (by decide) (by decide))⟩, hok, pvfr_0⟩
      · refine pw_eqI (if_neg c20_) ?_
        have b23_ : (-1) ≤ Int32.toInt n2 ∧ Int32.toInt n2 ≤ 2147483647 := zr_nlt_l (-1) c20_ (zbnd n2) (show (-1) ≤ Int32.toInt (-1) ∧ Int32.toInt (-1) ≤ (-1) from (by decide)) (by decide)
        by_cases c24_ : 4 < n2
        · refine pw_eqI (if_pos c24_) ?_
          have b25_ : 5 ≤ Int32.toInt n2 ∧ Int32.toInt n2 ≤ 2147483647 := zr_lt_r 5 c24_ b23_ (show 4 ≤ Int32.toInt 4 ∧ Int32.toInt 4 ≤ 4 from (by decide)) (by decide)
          show PW 89 d (17, [some (pvR 124), some (pvI n1), some (pvI n2), some (pvI n3), none], [pvI 0], M) _
          refine pw_if hT (c := 0 = 0) rfl rfl (fun c26_ => ?_) (fun c26_ => absurd (by decide) c26_)
          refine pw_blk hT 1 (S' := (32, [some (pvR 124), some (pvI n1), some (pvI n2), some (pvI n3), none], [pvI (-2)], M)) rfl ⟨trivial, trivial⟩ ?_
          exact pw_ret hT rfl (r := some (pvI (-2))) (M' := M) ⟨rfl, rfl⟩ ⟨⟨_, rfl, (zr_wide (show (-2) ≤ Int32.toInt (-2) ∧ Int32.toInt (-2) ≤ (-2) from (by decide)) (by decide) (by decide))⟩, hok, pvfr_0⟩
        · refine pw_eqI (if_neg c24_) ?_
          have b27_ : (-1) ≤ Int32.toInt n2 ∧ Int32.toInt n2 ≤ 4 := zr_nlt_r 4 c24_ b23_ (show 4 ≤ Int32.toInt 4 ∧ Int32.toInt 4 ≤ 4 from (by decide)) (by decide)
          show PW 89 d (17, [some (pvR 124), some (pvI n1), some (pvI n2), some (pvI n3), none], [pvI 1], M) _
          refine pw_if hT (c := 1 = 0) rfl rfl (fun c28_ => absurd c28_ (by decide)) (fun c28_ => ?_)
          refine pw_blk hT 1 (S' := (21, [some (pvR 124), some (pvI n1), some (pvI n2), some (pvI n3), none], [pvI n2], M)) rfl ⟨trivial, trivial⟩ ?_
          refine pw_if hT (c := n2 < 0) rfl rfl (fun c29_ => ?_) (fun c29_ => ?_)
          · have b30_ : (-1) ≤ Int32.toInt n2 ∧ Int32.toInt n2 ≤ (-1) := zr_lt_l (-1) c29_ b27_ (show 0 ≤ Int32.toInt 0 ∧ Int32.toInt 0 ≤ 0 from (by decide)) (by decide)
            refine pw_blk hT 1 (S' := (34, [some (pvR 124), some (pvI n1), some (pvI n2), some (pvI n3), none], [pvI n2], M)) rfl ⟨trivial, trivial⟩ ?_
            refine pw_if hT (c := n2 < 0) rfl rfl (fun c31_ => ?_) (fun c31_ => absurd c29_ c31_)
            refine pw_blkw hT 5 (pc := 51) (lo := [some (pvR 124), some (pvI n1), some (pvI n2), some (pvI n3), none]) (st := []) (M := pvu M 164 (Int32.toNatClampNeg n1) n2) rfl ⟨trivial, rfl, trivial, trivial, ⟨rfl, (zr_in (n := 6) b13_ (by decide) (by decide))⟩, trivial⟩ (fun M32_ e33_ => ?_)
            have o34_ : pvOk M32_ := pvok_u2 e33_ hok rfl (zr_wide b30_ (by decide) (by decide))
            have f35_ : pvFr fp_X10_tape_124_x_x_x M M32_ := pvfr_u e33_ pvfr_0 rfl
            refine pw_blk hT 4 (S' := (57, [some (pvR 124), some (pvI n1), some (pvI n2), some (pvI n3), none], [pvI n2, pvI n1, pvR 165], M32_)) rfl ⟨trivial, rfl, trivial, trivial, trivial⟩ ?_
            refine pw_if hT (c := 0 ≤ n2) rfl rfl (fun c36_ => absurd c36_ (by have z0 := (show 0 ≤ Int32.toInt 0 ∧ Int32.toInt 0 ≤ 0 from (by decide)); have z1 := b30_; rw [zi_le]; omega)) (fun c36_ => ?_)
            refine pw_blkw hT 3 (pc := 66) (lo := [some (pvR 124), some (pvI n1), some (pvI n2), some (pvI n3), none]) (st := []) (M := pvu M32_ 165 (Int32.toNatClampNeg n1) 0) rfl ⟨trivial, trivial, ⟨rfl, (zr_in (n := 6) b13_ (by decide) (by decide))⟩, trivial⟩ (fun M37_ e38_ => ?_)
            have o39_ : pvOk M37_ := pvok_u2 e38_ o34_ rfl (zr_wide (show 0 ≤ Int32.toInt 0 ∧ Int32.toInt 0 ≤ 0 from (by decide)) (by decide) (by decide))
            have f40_ : pvFr fp_X10_tape_124_x_x_x M M37_ := pvfr_u e38_ f35_ rfl
            refine pw_blk hT 2 (S' := (69, [some (pvR 124), some (pvI n1), some (pvI n2), some (pvI n3), some (pvI 0)], [], M37_)) rfl ⟨trivial, trivial, trivial⟩ ?_
            have hlz99_ : ∀ (nz99_ : Nat) (i4z99_ : Int32) (Mz99_ : pvM), (pvOk Mz99_) → (pvFr fp_X10_tape_124_x_x_x M Mz99_) → (0 ≤ Int32.toInt i4z99_ ∧ Int32.toInt i4z99_ ≤ 60) → ((61 - Int32.toInt i4z99_).toNat < nz99_) → PW 89 d (69, [some (pvR 124), some (pvI n1), some (pvI n2), some (pvI n3), some (pvI i4z99_)], [], Mz99_) (fun r X => (∃ x : Int32, r = some (pvI x) ∧ (-14) ≤ Int32.toInt x ∧ Int32.toInt x ≤ 1) ∧ pvOk X ∧ pvFr fp_X10_tape_124_x_x_x M X) := by
              intro nz99_
              induction nz99_ with
              | zero => intro i4z99_ Mz99_ oz99_ fz99_ h4z99_ hmz99_; exact absurd hmz99_ (Nat.not_lt_zero _)
              | succ nz99_ ihz99_ =>
                intro i4z99_ Mz99_ oz99_ fz99_ h4z99_ hmz99_
                refine pw_blk hT 2 (S' := (73, [some (pvR 124), some (pvI n1), some (pvI n2), some (pvI n3), some (pvI i4z99_)], [pvI 60, pvI i4z99_], Mz99_)) rfl ⟨trivial, trivial, trivial⟩ ?_
                refine pw_ic hT (c := 60 ≤ i4z99_) rfl rfl (fun c100_ => ?_) (fun c100_ => ?_)
                · have b101_ : 60 ≤ Int32.toInt i4z99_ ∧ Int32.toInt i4z99_ ≤ 60 := zr_le_r 60 c100_ h4z99_ (show 60 ≤ Int32.toInt 60 ∧ Int32.toInt 60 ≤ 60 from (by decide)) (by decide)
                  refine pw_blk hT 1 (S' := (96, [some (pvR 124), some (pvI n1), some (pvI n2), some (pvI n3), some (pvI i4z99_)], [pvI 1], Mz99_)) rfl ⟨trivial, trivial⟩ ?_
                  exact pw_ret hT rfl (r := some (pvI 1)) (M' := Mz99_) ⟨rfl, rfl⟩ ⟨⟨_, rfl, (zr_wide (show 1 ≤ Int32.toInt 1 ∧ Int32.toInt 1 ≤ 1 from (by decide)) (by decide) (by decide))⟩, oz99_, fz99_⟩
                · have b102_ : 0 ≤ Int32.toInt i4z99_ ∧ Int32.toInt i4z99_ ≤ 59 := zr_nle_r 59 c100_ h4z99_ (show 60 ≤ Int32.toInt 60 ∧ Int32.toInt 60 ≤ 60 from (by decide)) (by decide)
                  have q103_ : Int32.toInt (60 * n1) = 60 * Int32.toInt n1 := by have u0 : Int32.toInt 60 = 60 := (by decide); have u1 := b13_; have u2 := zmul 60 n1 (by rw [u0]; omega) (by rw [u0]; omega); rw [u0] at u2; omega
                  have b104_ : 0 ≤ Int32.toInt (60 * n1) ∧ Int32.toInt (60 * n1) ≤ 300 := (by have u1 := b13_; omega)
                  obtain ⟨q106_, b105_⟩ : (Int32.toInt ((60 * n1) + i4z99_) = Int32.toInt (60 * n1) + Int32.toInt i4z99_) ∧ (0 ≤ Int32.toInt ((60 * n1) + i4z99_) ∧ Int32.toInt ((60 * n1) + i4z99_) ≤ 359) := zadd_r (60 * n1) i4z99_ 0 359 b104_ b102_ (by decide) (by decide) (by decide) (by decide)
                  refine pw_blkw hT 9 (pc := 89) (lo := [some (pvR 124), some (pvI n1), some (pvI n2), some (pvI n3), some (pvI i4z99_)]) (st := []) (M := pvw Mz99_ 166 (Int32.toNatClampNeg ((60 * n1) + i4z99_)) 0) rfl ⟨trivial, rfl, trivial, trivial, trivial, trivial, trivial, trivial, ⟨rfl, (zr_in (n := 360) b105_ (by decide) (by decide))⟩, trivial⟩ (fun M107_ e108_ => ?_)
                  have o109_ : pvOk M107_ := pvok_w e108_ oz99_
                  have f110_ : pvFr fp_X10_tape_124_x_x_x M M107_ := pvfr_w e108_ fz99_
                  obtain ⟨q112_, b111_⟩ : (Int32.toInt (i4z99_ + 1) = Int32.toInt i4z99_ + Int32.toInt 1) ∧ (1 ≤ Int32.toInt (i4z99_ + 1) ∧ Int32.toInt (i4z99_ + 1) ≤ 60) := zadd_r i4z99_ 1 1 60 b102_ (show 1 ≤ Int32.toInt 1 ∧ Int32.toInt 1 ≤ 1 from (by decide)) (by decide) (by decide) (by decide) (by decide)
                  have u113_ : Int32.toInt 1 = 1 := by decide
                  refine pw_blk hT 2 (S' := (69, [some (pvR 124), some (pvI n1), some (pvI n2), some (pvI n3), some (pvI (i4z99_ + 1))], [], M107_)) rfl ⟨trivial, trivial, trivial⟩ ?_
                  exact ihz99_ (i4z99_ + 1) M107_ o109_ f110_ (zr_wide b111_ (by decide) (by decide)) (by omega)
            exact hlz99_ _ 0 M37_ o39_ f40_ (zr_wide (show 0 ≤ Int32.toInt 0 ∧ Int32.toInt 0 ≤ 0 from (by decide)) (by decide) (by decide)) (Nat.lt_succ_self _)
          · have b114_ : 0 ≤ Int32.toInt n2 ∧ Int32.toInt n2 ≤ 4 := zr_nlt_l 0 c29_ b27_ (show 0 ≤ Int32.toInt 0 ∧ Int32.toInt 0 ≤ 0 from (by decide)) (by decide)
            refine pw_blk hT 2 (S' := (27, [some (pvR 124), some (pvI n1), some (pvI n2), some (pvI n3), none], [pvI 60, pvI n3], M)) rfl ⟨trivial, trivial, trivial⟩ ?_
            refine pw_ic hT (c := n3 ≤ 60) rfl rfl (fun c115_ => ?_) (fun c115_ => ?_)
            · have b116_ : (-2147483648) ≤ Int32.toInt n3 ∧ Int32.toInt n3 ≤ 60 := zr_le_l 60 c115_ (zbnd n3) (show 60 ≤ Int32.toInt 60 ∧ Int32.toInt 60 ≤ 60 from (by decide)) (by decide)
              refine pw_blk hT 1 (S' := (34, [some (pvR 124), some (pvI n1), some (pvI n2), some (pvI n3), none], [pvI n2], M)) rfl ⟨trivial, trivial⟩ ?_
              refine pw_if hT (c := n2 < 0) rfl rfl (fun c117_ => absurd c117_ c29_) (fun c117_ => ?_)
              refine pw_blk hT 1 (S' := (38, [some (pvR 124), some (pvI n1), some (pvI n2), some (pvI n3), none], [pvI n3], M)) rfl ⟨trivial, trivial⟩ ?_
              refine pw_if hT (c := 0 ≤ n3) rfl rfl (fun c118_ => ?_) (fun c118_ => ?_)
              · have b119_ : 0 ≤ Int32.toInt n3 ∧ Int32.toInt n3 ≤ 60 := zr_le_r 0 c118_ b116_ (show 0 ≤ Int32.toInt 0 ∧ Int32.toInt 0 ≤ 0 from (by decide)) (by decide)
                refine pw_blkw hT 5 (pc := 51) (lo := [some (pvR 124), some (pvI n1), some (pvI n2), some (pvI n3), none]) (st := []) (M := pvu M 164 (Int32.toNatClampNeg n1) n2) rfl ⟨trivial, rfl, trivial, trivial, ⟨rfl, (zr_in (n := 6) b13_ (by decide) (by decide))⟩, trivial⟩ (fun M120_ e121_ => ?_)
                have o122_ : pvOk M120_ := pvok_u2 e121_ hok rfl (zr_wide b114_ (by decide) (by decide))
                have f123_ : pvFr fp_X10_tape_124_x_x_x M M120_ := pvfr_u e121_ pvfr_0 rfl
                refine pw_blk hT 4 (S' := (57, [some (pvR 124), some (pvI n1), some (pvI n2), some (pvI n3), none], [pvI n2, pvI n1, pvR 165], M120_)) rfl ⟨trivial, rfl, trivial, trivial, trivial⟩ ?_
                refine pw_if hT (c := 0 ≤ n2) rfl rfl (fun c124_ => ?_) (fun c124_ => absurd (by have z0 := (show 0 ≤ Int32.toInt 0 ∧ Int32.toInt 0 ≤ 0 from (by decide)); have z1 := b114_; rw [zi_le]; omega) c124_)
                refine pw_blkw hT 2 (pc := 66) (lo := [some (pvR 124), some (pvI n1), some (pvI n2), some (pvI n3), none]) (st := []) (M := pvu M120_ 165 (Int32.toNatClampNeg n1) n3) rfl ⟨trivial, ⟨rfl, (zr_in (n := 6) b13_ (by decide) (by decide))⟩, trivial⟩ (fun M125_ e126_ => ?_)
                have o127_ : pvOk M125_ := pvok_u2 e126_ o122_ rfl b119_
                have f128_ : pvFr fp_X10_tape_124_x_x_x M M125_ := pvfr_u e126_ f123_ rfl
                refine pw_blk hT 2 (S' := (69, [some (pvR 124), some (pvI n1), some (pvI n2), some (pvI n3), some (pvI 0)], [], M125_)) rfl ⟨trivial, trivial, trivial⟩ ?_
                have hlz187_ : ∀ (nz187_ : Nat) (i4z187_ : Int32) (Mz187_ : pvM), (pvOk Mz187_) → (pvFr fp_X10_tape_124_x_x_x M Mz187_) → (0 ≤ Int32.toInt i4z187_ ∧ Int32.toInt i4z187_ ≤ 60) → ((61 - Int32.toInt i4z187_).toNat < nz187_) → PW 89 d (69, [some (pvR 124), some (pvI n1), some (pvI n2), some (pvI n3), some (pvI i4z187_)], [], Mz187_) (fun r X => (∃ x : Int32, r = some (pvI x) ∧ (-14) ≤ Int32.toInt x ∧ Int32.toInt x ≤ 1) ∧ pvOk X ∧ pvFr fp_X10_tape_124_x_x_x M X) := by
                  intro nz187_
                  induction nz187_ with
                  | zero => intro i4z187_ Mz187_ oz187_ fz187_ h4z187_ hmz187_; exact absurd hmz187_ (Nat.not_lt_zero _)
                  | succ nz187_ ihz187_ =>
                    intro i4z187_ Mz187_ oz187_ fz187_ h4z187_ hmz187_
                    refine pw_blk hT 2 (S' := (73, [some (pvR 124), some (pvI n1), some (pvI n2), some (pvI n3), some (pvI i4z187_)], [pvI 60, pvI i4z187_], Mz187_)) rfl ⟨trivial, trivial, trivial⟩ ?_
                    refine pw_ic hT (c := 60 ≤ i4z187_) rfl rfl (fun c188_ => ?_) (fun c188_ => ?_)
                    · have b189_ : 60 ≤ Int32.toInt i4z187_ ∧ Int32.toInt i4z187_ ≤ 60 := zr_le_r 60 c188_ h4z187_ (show 60 ≤ Int32.toInt 60 ∧ Int32.toInt 60 ≤ 60 from (by decide)) (by decide)
                      refine pw_blk hT 1 (S' := (96, [some (pvR 124), some (pvI n1), some (pvI n2), some (pvI n3), some (pvI i4z187_)], [pvI 1], Mz187_)) rfl ⟨trivial, trivial⟩ ?_
                      exact pw_ret hT rfl (r := some (pvI 1)) (M' := Mz187_) ⟨rfl, rfl⟩ ⟨⟨_, rfl, (zr_wide (show 1 ≤ Int32.toInt 1 ∧ Int32.toInt 1 ≤ 1 from (by decide)) (by decide) (by decide))⟩, oz187_, fz187_⟩
                    · have b190_ : 0 ≤ Int32.toInt i4z187_ ∧ Int32.toInt i4z187_ ≤ 59 := zr_nle_r 59 c188_ h4z187_ (show 60 ≤ Int32.toInt 60 ∧ Int32.toInt 60 ≤ 60 from (by decide)) (by decide)
                      have q191_ : Int32.toInt (60 * n1) = 60 * Int32.toInt n1 := by have u0 : Int32.toInt 60 = 60 := (by decide); have u1 := b13_; have u2 := zmul 60 n1 (by rw [u0]; omega) (by rw [u0]; omega); rw [u0] at u2; omega
                      have b192_ : 0 ≤ Int32.toInt (60 * n1) ∧ Int32.toInt (60 * n1) ≤ 300 := (by have u1 := b13_; omega)
                      obtain ⟨q194_, b193_⟩ : (Int32.toInt ((60 * n1) + i4z187_) = Int32.toInt (60 * n1) + Int32.toInt i4z187_) ∧ (0 ≤ Int32.toInt ((60 * n1) + i4z187_) ∧ Int32.toInt ((60 * n1) + i4z187_) ≤ 359) := zadd_r (60 * n1) i4z187_ 0 359 b192_ b190_ (by decide) (by decide) (by decide) (by decide)
                      refine pw_blkw hT 9 (pc := 89) (lo := [some (pvR 124), some (pvI n1), some (pvI n2), some (pvI n3), some (pvI i4z187_)]) (st := []) (M := pvw Mz187_ 166 (Int32.toNatClampNeg ((60 * n1) + i4z187_)) 0) rfl ⟨trivial, rfl, trivial, trivial, trivial, trivial, trivial, trivial, ⟨rfl, (zr_in (n := 360) b193_ (by decide) (by decide))⟩, trivial⟩ (fun M195_ e196_ => ?_)
                      have o197_ : pvOk M195_ := pvok_w e196_ oz187_
                      have f198_ : pvFr fp_X10_tape_124_x_x_x M M195_ := pvfr_w e196_ fz187_
                      obtain ⟨q200_, b199_⟩ : (Int32.toInt (i4z187_ + 1) = Int32.toInt i4z187_ + Int32.toInt 1) ∧ (1 ≤ Int32.toInt (i4z187_ + 1) ∧ Int32.toInt (i4z187_ + 1) ≤ 60) := zadd_r i4z187_ 1 1 60 b190_ (show 1 ≤ Int32.toInt 1 ∧ Int32.toInt 1 ≤ 1 from (by decide)) (by decide) (by decide) (by decide) (by decide)
                      have u201_ : Int32.toInt 1 = 1 := by decide
                      refine pw_blk hT 2 (S' := (69, [some (pvR 124), some (pvI n1), some (pvI n2), some (pvI n3), some (pvI (i4z187_ + 1))], [], M195_)) rfl ⟨trivial, trivial, trivial⟩ ?_
                      exact ihz187_ (i4z187_ + 1) M195_ o197_ f198_ (zr_wide b199_ (by decide) (by decide)) (by omega)
                exact hlz187_ _ 0 M125_ o127_ f128_ (zr_wide (show 0 ≤ Int32.toInt 0 ∧ Int32.toInt 0 ≤ 0 from (by decide)) (by decide) (by decide)) (Nat.lt_succ_self _)
              · have b202_ : (-2147483648) ≤ Int32.toInt n3 ∧ Int32.toInt n3 ≤ (-1) := zr_nle_r (-1) c118_ b116_ (show 0 ≤ Int32.toInt 0 ∧ Int32.toInt 0 ≤ 0 from (by decide)) (by decide)
                refine pw_blk hT 1 (S' := (43, [some (pvR 124), some (pvI n1), some (pvI n2), some (pvI n3), none], [pvI (-14)], M)) rfl ⟨trivial, trivial⟩ ?_
                exact pw_ret hT rfl (r := some (pvI (-14))) (M' := M) ⟨rfl, rfl⟩ ⟨⟨_, rfl, (zr_wide (show (-14) ≤ Int32.toInt (-14) ∧ Int32.toInt (-14) ≤ (-14) from (by decide)) (by decide) (by decide))⟩, hok, pvfr_0⟩
            · have b203_ : 61 ≤ Int32.toInt n3 ∧ Int32.toInt n3 ≤ 2147483647 := zr_nle_l 61 c115_ (zbnd n3) (show 60 ≤ Int32.toInt 60 ∧ Int32.toInt 60 ≤ 60 from (by decide)) (by decide)
              refine pw_blk hT 1 (S' := (32, [some (pvR 124), some (pvI n1), some (pvI n2), some (pvI n3), none], [pvI (-2)], M)) rfl ⟨trivial, trivial⟩ ?_
              exact pw_ret hT rfl (r := some (pvI (-2))) (M' := M) ⟨rfl, rfl⟩ ⟨⟨_, rfl, (zr_wide (show (-2) ≤ Int32.toInt (-2) ∧ Int32.toInt (-2) ≤ (-2) from (by decide)) (by decide) (by decide))⟩, hok, pvfr_0⟩
