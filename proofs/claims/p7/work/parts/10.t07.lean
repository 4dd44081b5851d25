def fpL_X10_stand_124_x_x : List (Nat × Nat × Nat) := [(0, 124, 6), (0, 124, 7)]
def fp_X10_stand_124_x_x (q k : Nat) : Bool := pvfp fpL_X10_stand_124_x_x q k
set_option maxHeartbeats 4000000 in
set_option maxRecDepth 10000 in
theorem sf_X10_stand_124_x_x (M : pvM) (hok : pvOk M) (n1 : Int32) (n2 : Int32) (d : Nat) : PW 78 d (0, [some (pvR 124), some (pvI n1), some (pvI n2)], [], M) (fun r X => (∃ x : Int32, r = some (pvI x) ∧ (-2) ≤ Int32.toInt x ∧ Int32.toInt x ≤ 1) ∧ pvOk X ∧ pvFr fp_X10_stand_124_x_x M X) := by
  have hT : pvdom 78 = pvD_78 := rfl
  refine pw_blk hT 3 (S' := (3, [some (pvR 124), some (pvI n1), some (pvI n2)], [pvI n2, pvI n1, pvR 124], M)) rfl ⟨trivial, trivial, trivial, trivial⟩ ?_
  refine pw_callT hT (as := [pvR 124, pvI n1, pvI n2]) (lo1 := [some (pvR 124), some (pvI n1), some (pvI n2)]) (d1 := d) (rest := []) rfl rfl rfl rfl rfl (fun _ => rfl) (Nat.zero_le _) rfl rfl rfl (sf_X10_isPlace_124_x_x M hok n1 n2 d) ?_
  by_cases c6_ : n1 < 0
  · refine pw_eqI (if_pos c6_) ?_
    have b7_ : (-2147483648) ≤ Int32.toInt n1 ∧ Int32.toInt n1 ≤ (-1) := zr_lt_l (-1) c6_ (zbnd n1) (show 0 ≤ Int32.toInt 0 ∧ Int32.toInt 0 ≤ 0 from (by decide)) (by decide)
    show PW 78 d (6, [some (pvR 124), some (pvI n1), some (pvI n2)], [pvI 0], M) _
    refine pw_ifn hT (c := 0 = 0) rfl rfl (fun c8_ => absurd (by decide) c8_) (fun c8_ => ?_)
    refine pw_blk hT 1 (S' := (11, [some (pvR 124), some (pvI n1), some (pvI n2)], [pvI (-2)], M)) rfl ⟨trivial, trivial⟩ ?_
    exact pw_ret hT rfl (r := some (pvI (-2))) (M' := M) ⟨rfl, rfl⟩ ⟨⟨_, rfl, (zr_wide (show (-2) ≤ Int32.toInt (-2) ∧ Int32.toInt (-2) ≤ (-2) from (by decide)) (by decide) (by decide))⟩, hok, pvfr_0⟩
  · refine pw_eqI (if_neg c6_) ?_
    have b9_ : 0 ≤ Int32.toInt n1 ∧ Int32.toInt n1 ≤ 2147483647 := zr_nlt_l 0 c6_ (zbnd n1) (show 0 ≤ Int32.toInt 0 ∧ Int32.toInt 0 ≤ 0 from (by decide)) (by decide)
    by_cases c10_ : 3 < n1
    · refine pw_eqI (if_pos c10_) ?_
      have b11_ : 4 ≤ Int32.toInt n1 ∧ Int32.toInt n1 ≤ 2147483647 := zr_lt_r 4 c10_ b9_ (show 3 ≤ Int32.toInt 3 ∧ Int32.toInt 3 ≤ 3 from (by decide)) (by decide)
      show PW 78 d (6, [some (pvR 124), some (pvI n1), some (pvI n2)], [pvI 0], M) _
      refine pw_ifn hT (c := 0 = 0) rfl rfl (fun c12_ => absurd (by decide) c12_) (fun c12_ => ?_)
      refine pw_blk hT 1 (S' := (11, [some (pvR 124), some (pvI n1), some (pvI n2)], [pvI (-2)], M)) rfl ⟨trivial, trivial⟩ ?_
      exact pw_ret hT rfl (r := some (pvI (-2))) (M' := M) ⟨rfl, rfl⟩ ⟨⟨_, rfl, (zr_wide (show (-2) ≤ Int32.toInt (-2) ∧ Int32.toInt (-2) ≤ (-2) from (by decide)) (by decide) (by decide))⟩, hok, pvfr_0⟩
    · refine pw_eqI (if_neg c10_) ?_
      have b13_ : 0 ≤ Int32.toInt n1 ∧ Int32.toInt n1 ≤ 3 := zr_nlt_r 3 c10_ b9_ (show 3 ≤ Int32.toInt 3 ∧ Int32.toInt 3 ≤ 3 from (by decide)) (by decide)
      by_cases c14_ : n2 < 0
      · refine pw_eqI (if_pos c14_) ?_
        have b15_ : (-2147483648) ≤ Int32.toInt n2 ∧ Int32.toInt n2 ≤ (-1) := zr_lt_l (-1) c14_ (zbnd n2) (show 0 ≤ Int32.toInt 0 ∧ Int32.toInt 0 ≤ 0 from (by decide)) (by decide)
        show PW 78 d (6, [some (pvR 124), some (pvI n1), some (pvI n2)], [pvI 0], M) _
        refine pw_ifn hT (c := 0 = 0) rfl rfl (fun c16_ => absurd (by decide) c16_) (fun c16_ => ?_)
        refine pw_blk hT 1 (S' := (11, [some (pvR 124), some (pvI n1), some (pvI n2)], [pvI (-2)], M)) rfl ⟨trivial, trivial⟩ ?_
        exact pw_ret hT rfl (r := some (pvI (-2))) (M' := M) ⟨rfl, rfl⟩ ⟨⟨_, rfl, (zr_wide (show (-2) ≤ Int32.toInt (-2) ∧ Int32.toInt (-2) ≤ (-2) from (by decide)) (by decide) (by decide))⟩, hok, pvfr_0⟩
      · refine pw_eqI (if_neg c14_) ?_
        have b17_ : 0 ≤ Int32.toInt n2 ∧ Int32.toInt n2 ≤ 2147483647 := zr_nlt_l 0 c14_ (zbnd n2) (show 0 ≤ Int32.toInt 0 ∧ Int32.toInt 0 ≤ 0 from (by decide)) (by decide)
        by_cases c18_ : 4 < n2
        · refine pw_eqI (if_pos c18_) ?_
          have b19_ : 5 ≤ Int32.toInt n2 ∧ Int32.toInt n2 ≤ 2147483647 := zr_lt_r 5 c18_ b17_ (show 4 ≤ Int32.toInt 4 ∧ Int32.toInt 4 ≤ 4 from (by decide)) (by decide)
          show PW 78 d (6, [some (pvR 124), some (pvI n1), some (pvI n2)], [pvI 0], M) _
          refine pw_ifn hT (c := 0 = 0) rfl rfl (fun c20_ => absurd (by decide) c20_) (fun c20_ => ?_)
          refine pw_blk hT 1 (S' := (11, [some (pvR 124), some (pvI n1), some (pvI n2)], [pvI (-2)], M)) rfl ⟨trivial, trivial⟩ ?_
          exact pw_ret hT rfl (r := some (pvI (-2))) (M' := M) ⟨rfl, rfl⟩ ⟨⟨_, rfl, (zr_wide (show (-2) ≤ Int32.toInt (-2) ∧ Int32.toInt (-2) ≤ (-2) from (by decide)) (by decide) (by decide))⟩, hok, pvfr_0⟩
        · refine pw_eqI (if_neg c18_) ?_
          have b21_ : 0 ≤ Int32.toInt n2 ∧ Int32.toInt n2 ≤ 4 := zr_nlt_r 4 c18_ b17_ (show 4 ≤ Int32.toInt 4 ∧ Int32.toInt 4 ≤ 4 from (by decide)) (by decide)
          show PW 78 d (6, [some (pvR 124), some (pvI n1), some (pvI n2)], [pvI 1], M) _
          refine pw_ifn hT (c := 1 = 0) rfl rfl (fun c22_ => ?_) (fun c22_ => absurd c22_ (by decide))
          refine pw_blkw hT 3 (pc := 17) (lo := [some (pvR 124), some (pvI n1), some (pvI n2)]) (st := []) (M := pvu M 124 5 n1) rfl ⟨trivial, trivial, rfl, trivial⟩ (fun M23_ e24_ => ?_)
          have o25_ : pvOk M23_ := pvok_u2 e24_ hok rfl b13_
          have f26_ : pvFr fp_X10_stand_124_x_x M M23_ := pvfr_u e24_ pvfr_0 rfl
          refine pw_blkw hT 3 (pc := 22) (lo := [some (pvR 124), some (pvI n1), some (pvI n2)]) (st := []) (M := pvu M23_ 124 6 n2) rfl ⟨trivial, trivial, rfl, trivial⟩ (fun M27_ e28_ => ?_)
          have o29_ : pvOk M27_ := pvok_u2 e28_ o25_ rfl b21_
          have f30_ : pvFr fp_X10_stand_124_x_x M M27_ := pvfr_u e28_ f26_ rfl
          refine pw_blk hT 1 (S' := (23, [some (pvR 124), some (pvI n1), some (pvI n2)], [pvI 1], M27_)) rfl ⟨trivial, trivial⟩ ?_
          exact pw_ret hT rfl (r := some (pvI 1)) (M' := M27_) ⟨rfl, rfl⟩ ⟨⟨_, rfl, (zr_wide (show 1 ≤ Int32.toInt 1 ∧ Int32.toInt 1 ≤ 1 from (by decide)) (by decide) (by decide))⟩, o29_, f30_⟩
def fpL_X10_storm_124_x_x : List (Nat × Nat × Nat) := [(0, 124, 4), (0, 124, 5)]
def fp_X10_storm_124_x_x (q k : Nat) : Bool := pvfp fpL_X10_storm_124_x_x q k
set_option maxHeartbeats 4000000 in
set_option maxRecDepth 10000 in
theorem sf_X10_storm_124_x_x (M : pvM) (hok : pvOk M) (n1 : Int32) (n2 : Int32) (d : Nat) : PW 80 d (0, [some (pvR 124), some (pvI n1), some (pvI n2), none], [], M) (fun r X => (∃ x : Int32, r = some (pvI x) ∧ (-2) ≤ Int32.toInt x ∧ Int32.toInt x ≤ 108) ∧ pvOk X ∧ pvFr fp_X10_storm_124_x_x M X) := by
  have hT : pvdom 80 = pvD_80 := rfl
  refine pw_blk hT 4 (S' := (4, [some (pvR 124), some (pvI n1), some (pvI n2), none], [pvI 3, pvI 0, pvI n2, pvR 124], M)) rfl ⟨trivial, trivial, trivial, trivial, trivial⟩ ?_
  refine pw_callT hT (as := [pvR 124, pvI n2, pvI 0, pvI 3]) (lo1 := [some (pvR 124), some (pvI n2), some (pvI 0), some (pvI 3)]) (d1 := d) (rest := []) rfl rfl rfl rfl rfl (fun _ => rfl) (Nat.zero_le _) rfl rfl rfl (sf_X10_in_124_x_x_x M hok n2 0 3 d) ?_
  by_cases c6_ : n2 < 0
  · refine pw_eqI (if_pos c6_) ?_
    have b7_ : (-2147483648) ≤ Int32.toInt n2 ∧ Int32.toInt n2 ≤ (-1) := zr_lt_l (-1) c6_ (zbnd n2) (show 0 ≤ Int32.toInt 0 ∧ Int32.toInt 0 ≤ 0 from (by decide)) (by decide)
    show PW 80 d (7, [some (pvR 124), some (pvI n1), some (pvI n2), none], [pvI 0], M) _
    refine pw_ifn hT (c := 0 = 0) rfl rfl (fun c8_ => absurd (by decide) c8_) (fun c8_ => ?_)
    refine pw_blk hT 1 (S' := (11, [some (pvR 124), some (pvI n1), some (pvI n2), none], [pvI (-1)], M)) rfl ⟨trivial, trivial⟩ ?_
    exact pw_ret hT rfl (r := some (pvI (-1))) (M' := M) ⟨rfl, rfl⟩ ⟨⟨_, rfl, (zr_wide (show (-1) ≤ Int32.toInt (-1) ∧ Int32.toInt (-1) ≤ (-1) from (by decide)) (by decide) (by decide))⟩, hok, pvfr_0⟩
  · refine pw_eqI (if_neg c6_) ?_
    have b9_ : 0 ≤ Int32.toInt n2 ∧ Int32.toInt n2 ≤ 2147483647 := zr_nlt_l 0 c6_ (zbnd n2) (show 0 ≤ Int32.toInt 0 ∧ Int32.toInt 0 ≤ 0 from (by decide)) (by decide)
    by_cases c10_ : 3 < n2
    · refine pw_eqI (if_pos c10_) ?_
      have b11_ : 4 ≤ Int32.toInt n2 ∧ Int32.toInt n2 ≤ 2147483647 := zr_lt_r 4 c10_ b9_ (show 3 ≤ Int32.toInt 3 ∧ Int32.toInt 3 ≤ 3 from (by decide)) (by decide)
      show PW 80 d (7, [some (pvR 124), some (pvI n1), some (pvI n2), none], [pvI 0], M) _
      refine pw_ifn hT (c := 0 = 0) rfl rfl (fun c12_ => absurd (by decide) c12_) (fun c12_ => ?_)
      refine pw_blk hT 1 (S' := (11, [some (pvR 124), some (pvI n1), some (pvI n2), none], [pvI (-1)], M)) rfl ⟨trivial, trivial⟩ ?_
      exact pw_ret hT rfl (r := some (pvI (-1))) (M' := M) ⟨rfl, rfl⟩ ⟨⟨_, rfl, (zr_wide (show (-1) ≤ Int32.toInt (-1) ∧ Int32.toInt (-1) ≤ (-1) from (by decide)) (by decide) (by decide))⟩, hok, pvfr_0⟩
    · refine pw_eqI (if_neg c10_) ?_
      have b13_ : 0 ≤ Int32.toInt n2 ∧ Int32.toInt n2 ≤ 3 := zr_nlt_r 3 c10_ b9_ (show 3 ≤ Int32.toInt 3 ∧ Int32.toInt 3 ≤ 3 from (by decide)) (by decide)
      show PW 80 d (7, [some (pvR 124), some (pvI n1), some (pvI n2), none], [pvI 1], M) _
      refine pw_ifn hT (c := 1 = 0) rfl rfl (fun c14_ => ?_) (fun c14_ => absurd c14_ (by decide))
      refine pw_blk hT 4 (S' := (17, [some (pvR 124), some (pvI n1), some (pvI n2), none], [pvI 99, pvI 0, pvI n1, pvR 124], M)) rfl ⟨trivial, trivial, trivial, trivial, trivial⟩ ?_
      refine pw_callT hT (as := [pvR 124, pvI n1, pvI 0, pvI 99]) (lo1 := [some (pvR 124), some (pvI n1), some (pvI 0), some (pvI 99)]) (d1 := d) (rest := []) rfl rfl rfl rfl rfl (fun _ => rfl) (Nat.zero_le _) rfl rfl rfl (sf_X10_in_124_x_x_x M hok n1 0 99 d) ?_
      by_cases c20_ : n1 < 0
      · refine pw_eqI (if_pos c20_) ?_
        have b21_ : (-2147483648) ≤ Int32.toInt n1 ∧ Int32.toInt n1 ≤ (-1) := zr_lt_l (-1) c20_ (zbnd n1) (show 0 ≤ Int32.toInt 0 ∧ Int32.toInt 0 ≤ 0 from (by decide)) (by decide)
        show PW 80 d (20, [some (pvR 124), some (pvI n1), some (pvI n2), none], [pvI 0], M) _
        refine pw_ifn hT (c := 0 = 0) rfl rfl (fun c22_ => absurd (by decide) c22_) (fun c22_ => ?_)
        refine pw_blk hT 1 (S' := (25, [some (pvR 124), some (pvI n1), some (pvI n2), none], [pvI (-2)], M)) rfl ⟨trivial, trivial⟩ ?_
        exact pw_ret hT rfl (r := some (pvI (-2))) (M' := M) ⟨rfl, rfl⟩ ⟨⟨_, rfl, (zr_wide (show (-2) ≤ Int32.toInt (-2) ∧ Int32.toInt (-2) ≤ (-2) from (by decide)) (by decide) (by decide))⟩, hok, pvfr_0⟩
      · refine pw_eqI (if_neg c20_) ?_
        have b23_ : 0 ≤ Int32.toInt n1 ∧ Int32.toInt n1 ≤ 2147483647 := zr_nlt_l 0 c20_ (zbnd n1) (show 0 ≤ Int32.toInt 0 ∧ Int32.toInt 0 ≤ 0 from (by decide)) (by decide)
        by_cases c24_ : 99 < n1
        · refine pw_eqI (if_pos c24_) ?_
          have b25_ : 100 ≤ Int32.toInt n1 ∧ Int32.toInt n1 ≤ 2147483647 := zr_lt_r 100 c24_ b23_ (show 99 ≤ Int32.toInt 99 ∧ Int32.toInt 99 ≤ 99 from (by decide)) (by decide)
          show PW 80 d (20, [some (pvR 124), some (pvI n1), some (pvI n2), none], [pvI 0], M) _
          refine pw_ifn hT (c := 0 = 0) rfl rfl (fun c26_ => absurd (by decide) c26_) (fun c26_ => ?_)
          refine pw_blk hT 1 (S' := (25, [some (pvR 124), some (pvI n1), some (pvI n2), none], [pvI (-2)], M)) rfl ⟨trivial, trivial⟩ ?_
          exact pw_ret hT rfl (r := some (pvI (-2))) (M' := M) ⟨rfl, rfl⟩ ⟨⟨_, rfl, (zr_wide (show (-2) ≤ Int32.toInt (-2) ∧ Int32.toInt (-2) ≤ (-2) from (by decide)) (by decide) (by decide))⟩, hok, pvfr_0⟩
        · refine pw_eqI (if_neg c24_) ?_
          have b27_ : 0 ≤ Int32.toInt n1 ∧ Int32.toInt n1 ≤ 99 := zr_nlt_r 99 c24_ b23_ (show 99 ≤ Int32.toInt 99 ∧ Int32.toInt 99 ≤ 99 from (by decide)) (by decide)
          show PW 80 d (20, [some (pvR 124), some (pvI n1), some (pvI n2), none], [pvI 1], M) _
          refine pw_ifn hT (c := 1 = 0) rfl rfl (fun c28_ => ?_) (fun c28_ => absurd c28_ (by decide))
          have b29_ : 0 ≤ Int32.toInt (M.1 124 3) ∧ Int32.toInt (M.1 124 3) ≤ 108 := pvok_r hok 124 3 rfl
          refine pw_blkw hT 6 (pc := 36) (lo := [some (pvR 124), some (pvI n1), some (pvI n2), some (pvI (M.1 124 3))]) (st := []) (M := pvu M 124 3 n1) rfl ⟨trivial, rfl, trivial, trivial, trivial, rfl, trivial⟩ (fun M30_ e31_ => ?_)
          have o32_ : pvOk M30_ := pvok_u2 e31_ hok rfl (zr_wide b27_ (by decide) (by decide))
          have f33_ : pvFr fp_X10_storm_124_x_x M M30_ := pvfr_u e31_ pvfr_0 rfl
          refine pw_blkw hT 3 (pc := 41) (lo := [some (pvR 124), some (pvI n1), some (pvI n2), some (pvI (M.1 124 3))]) (st := []) (M := pvu M30_ 124 4 n2) rfl ⟨trivial, trivial, rfl, trivial⟩ (fun M34_ e35_ => ?_)
          have o36_ : pvOk M34_ := pvok_u2 e35_ o32_ rfl (zr_wide b13_ (by decide) (by decide))
          have f37_ : pvFr fp_X10_storm_124_x_x M M34_ := pvfr_u e35_ f33_ rfl
          refine pw_blk hT 1 (S' := (42, [some (pvR 124), some (pvI n1), some (pvI n2), some (pvI (M.1 124 3))], [pvI (M.1 124 3)], M34_)) rfl ⟨trivial, trivial⟩ ?_
          exact pw_ret hT rfl (r := some (pvI (M.1 124 3))) (M' := M34_) ⟨rfl, rfl⟩ ⟨⟨_, rfl, (zr_wide b29_ (by decide) (by decide))⟩, o36_, f37_⟩
set_option maxHeartbeats 4000000 in
set_option maxRecDepth 10000 in
theorem sf_X10_taken_124_x_x (M : pvM) (hok : pvOk M) (n1 : Int32) (n2 : Int32) (d : Nat) : PW 81 d (0, [some (pvR 124), some (pvI n1), some (pvI n2), none], [], M) (fun r X => (∃ x : Int32, r = some (pvI x) ∧ (-12) ≤ Int32.toInt x ∧ Int32.toInt x ≤ 6) ∧ X = M) := by
  have hT : pvdom 81 = pvD_81 := rfl
  refine pw_blk hT 4 (S' := (5, [some (pvR 124), some (pvI n1), some (pvI n2), none], [pvI 6, pvI 0, pvI n2, pvR 124], M)) rfl ⟨trivial, trivial, trivial, trivial, trivial⟩ ?_
  refine pw_callT hT (as := [pvR 124, pvI n2, pvI 0, pvI 6]) (lo1 := [some (pvR 124), some (pvI n2), some (pvI 0), some (pvI 6)]) (d1 := d) (rest := []) rfl rfl rfl rfl rfl (fun _ => rfl) (Nat.zero_le _) rfl rfl rfl (sf_X10_in_124_x_x_x M hok n2 0 6 d) ?_
  by_cases c6_ : n2 < 0
  · refine pw_eqI (if_pos c6_) ?_
    have b7_ : (-2147483648) ≤ Int32.toInt n2 ∧ Int32.toInt n2 ≤ (-1) := zr_lt_l (-1) c6_ (zbnd n2) (show 0 ≤ Int32.toInt 0 ∧ Int32.toInt 0 ≤ 0 from (by decide)) (by decide)
    show PW 81 d (8, [some (pvR 124), some (pvI n1), some (pvI n2), none], [pvI 0], M) _
    refine pw_ifn hT (c := 0 = 0) rfl rfl (fun c8_ => absurd (by decide) c8_) (fun c8_ => ?_)
    refine pw_blk hT 1 (S' := (13, [some (pvR 124), some (pvI n1), some (pvI n2), none], [pvI (-2)], M)) rfl ⟨trivial, trivial⟩ ?_
    exact pw_ret hT rfl (r := some (pvI (-2))) (M' := M) ⟨rfl, rfl⟩ ⟨⟨_, rfl, (zr_wide (show (-2) ≤ Int32.toInt (-2) ∧ Int32.toInt (-2) ≤ (-2) from (by decide)) (by decide) (by decide))⟩, rfl⟩
  · refine pw_eqI (if_neg c6_) ?_
    have b9_ : 0 ≤ Int32.toInt n2 ∧ Int32.toInt n2 ≤ 2147483647 := zr_nlt_l 0 c6_ (zbnd n2) (show 0 ≤ Int32.toInt 0 ∧ Int32.toInt 0 ≤ 0 from (by decide)) (by decide)
    by_cases c10_ : 6 < n2
    · refine pw_eqI (if_pos c10_) ?_
      have b11_ : 7 ≤ Int32.toInt n2 ∧ Int32.toInt n2 ≤ 2147483647 := zr_lt_r 7 c10_ b9_ (show 6 ≤ Int32.toInt 6 ∧ Int32.toInt 6 ≤ 6 from (by decide)) (by decide)
      show PW 81 d (8, [some (pvR 124), some (pvI n1), some (pvI n2), none], [pvI 0], M) _
      refine pw_ifn hT (c := 0 = 0) rfl rfl (fun c12_ => absurd (by decide) c12_) (fun c12_ => ?_)
      refine pw_blk hT 1 (S' := (13, [some (pvR 124), some (pvI n1), some (pvI n2), none], [pvI (-2)], M)) rfl ⟨trivial, trivial⟩ ?_
      exact pw_ret hT rfl (r := some (pvI (-2))) (M' := M) ⟨rfl, rfl⟩ ⟨⟨_, rfl, (zr_wide (show (-2) ≤ Int32.toInt (-2) ∧ Int32.toInt (-2) ≤ (-2) from (by decide)) (by decide) (by decide))⟩, rfl⟩
    · refine pw_eqI (if_neg c10_) ?_
      have b13_ : 0 ≤ Int32.toInt n2 ∧ Int32.toInt n2 ≤ 6 := zr_nlt_r 6 c10_ b9_ (show 6 ≤ Int32.toInt 6 ∧ Int32.toInt 6 ≤ 6 from (by decide)) (by decide)
      show PW 81 d (8, [some (pvR 124), some (pvI n1), some (pvI n2), none], [pvI 1], M) _
      refine pw_ifn hT (c := 1 = 0) rfl rfl (fun c14_ => ?_) (fun c14_ => absurd c14_ (by decide))
      refine pw_blk hT 2 (S' := (16, [some (pvR 124), some (pvI n1), some (pvI n2), none], [pvI n1, pvR 124], M)) rfl ⟨trivial, trivial, trivial⟩ ?_
      refine pw_callT hT (as := [pvR 124, pvI n1]) (lo1 := [some (pvR 124), some (pvI n1)]) (d1 := d) (rest := []) rfl rfl rfl rfl rfl (fun _ => rfl) (Nat.zero_le _) rfl rfl rfl (sf_X10_isWindow_124_x M hok n1 d) ?_
      by_cases c20_ : n1 < 0
      · refine pw_eqI (if_pos c20_) ?_
        have b21_ : (-2147483648) ≤ Int32.toInt n1 ∧ Int32.toInt n1 ≤ (-1) := zr_lt_l (-1) c20_ (zbnd n1) (show 0 ≤ Int32.toInt 0 ∧ Int32.toInt 0 ≤ 0 from (by decide)) (by decide)
        show PW 81 d (19, [some (pvR 124), some (pvI n1), some (pvI n2), none], [pvI 0], M) _
        refine pw_ifn hT (c := 0 = 0) rfl rfl (fun c22_ => absurd (by decide) c22_) (fun c22_ => ?_)
        refine pw_blk hT 1 (S' := (24, [some (pvR 124), some (pvI n1), some (pvI n2), none], [pvI (-11)], M)) rfl ⟨trivial, trivial⟩ ?_
        exact pw_ret hT rfl (r := some (pvI (-11))) (M' := M) ⟨rfl, rfl⟩ ⟨⟨_, rfl, (zr_wide (show (-11) ≤ Int32.toInt (-11) ∧ Int32.toInt (-11) ≤ (-11) from (by decide)) (by decide) (by decide))⟩, rfl⟩
      · refine pw_eqI (if_neg c20_) ?_
        have b23_ : 0 ≤ Int32.toInt n1 ∧ Int32.toInt n1 ≤ 2147483647 := zr_nlt_l 0 c20_ (zbnd n1) (show 0 ≤ Int32.toInt 0 ∧ Int32.toInt 0 ≤ 0 from (by decide)) (by decide)
        have b24_ : 0 ≤ Int32.toInt (M.1 124 0) ∧ Int32.toInt (M.1 124 0) ≤ 7 := pvok_r hok 124 0 rfl
        obtain ⟨q26_, b25_⟩ : (Int32.toInt ((M.1 124 0) - 1) = Int32.toInt (M.1 124 0) - 1) ∧ ((-1) ≤ Int32.toInt ((M.1 124 0) - 1) ∧ Int32.toInt ((M.1 124 0) - 1) ≤ 6) := zsub_k (M.1 124 0) 1 1 (-1) 6 b24_ (by decide) (by decide) (by decide) (by decide) (by decide)
        by_cases c27_ : ((M.1 124 0) - 1) < n1
        · refine pw_eqI (if_pos c27_) ?_
          have d28_ : Int32.toInt ((M.1 124 0) - 1) < Int32.toInt n1 := (zi_lt _ _).mp c27_
          show PW 81 d (19, [some (pvR 124), some (pvI n1), some (pvI n2), none], [pvI 0], M) _
          refine pw_ifn hT (c := 0 = 0) rfl rfl (fun c29_ => absurd (by decide) c29_) (fun c29_ => ?_)
          refine pw_blk hT 1 (S' := (24, [some (pvR 124), some (pvI n1), some (pvI n2), none], [pvI (-11)], M)) rfl ⟨trivial, trivial⟩ ?_
          exact pw_ret hT rfl (r := some (pvI (-11))) (M' := M) ⟨rfl, rfl⟩ ⟨⟨_, rfl, (zr_wide (show (-11) ≤ Int32.toInt (-11) ∧ Int32.toInt (-11) ≤ (-11) from (by decide)) (by decide) (by decide))⟩, rfl⟩
        · refine pw_eqI (if_neg c27_) ?_
          have b30_ : 0 ≤ Int32.toInt ((M.1 124 0) - 1) ∧ Int32.toInt ((M.1 124 0) - 1) ≤ 6 := zr_nlt_l 0 c27_ b25_ b23_ (by decide)
          have b31_ : 0 ≤ Int32.toInt n1 ∧ Int32.toInt n1 ≤ 6 := zr_nlt_r 6 c27_ b23_ b30_ (by decide)
          have d32_ : Int32.toInt ((M.1 124 0) - 1) ≥ Int32.toInt n1 := Int.not_lt.mp ((not_congr (zi_lt _ _)).mp c27_)
          show PW 81 d (19, [some (pvR 124), some (pvI n1), some (pvI n2), none], [pvI 1], M) _
          refine pw_ifn hT (c := 1 = 0) rfl rfl (fun c33_ => ?_) (fun c33_ => absurd c33_ (by decide))
          have b34_ : 0 ≤ Int32.toInt (M.1 125 (Int32.toNatClampNeg n1)) ∧ Int32.toInt (M.1 125 (Int32.toNatClampNeg n1)) ≤ 6 := pvok_r hok 125 (Int32.toNatClampNeg n1) rfl
          refine pw_blk hT 6 (S' := (33, [some (pvR 124), some (pvI n1), some (pvI n2), some (pvI (M.1 125 (Int32.toNatClampNeg n1)))], [pvI n2], M)) rfl ⟨trivial, rfl, trivial, ⟨rfl, (zr_in (n := 7) b31_ (by decide) (by decide))⟩, trivial, trivial, trivial⟩ ?_
          refine pw_if hT (c := n2 = 0) rfl rfl (fun c35_ => ?_) (fun c35_ => ?_)
          · have b36_ : 0 ≤ Int32.toInt n2 ∧ Int32.toInt n2 ≤ 0 := (by have u0 := b13_; have u1 := (zi_eq _ _).mp c35_; have u2 := (show 0 ≤ Int32.toInt 0 ∧ Int32.toInt 0 ≤ 0 from (by decide)); omega)
            refine pw_blk hT 2 (S' := (78, [some (pvR 124), some (pvI n1), some (pvI n2), some (pvI (M.1 125 (Int32.toNatClampNeg n1)))], [pvI (M.1 125 (Int32.toNatClampNeg n1))], M)) rfl ⟨trivial, trivial, trivial⟩ ?_
            exact pw_ret hT rfl (r := some (pvI (M.1 125 (Int32.toNatClampNeg n1)))) (M' := M) ⟨rfl, rfl⟩ ⟨⟨_, rfl, (zr_wide b34_ (by decide) (by decide))⟩, rfl⟩
          · have b37_ : 1 ≤ Int32.toInt n2 ∧ Int32.toInt n2 ≤ 6 := (by have u0 := b13_; have u1 := (not_congr (zi_eq _ _)).mp c35_; have u2 := (show 0 ≤ Int32.toInt 0 ∧ Int32.toInt 0 ≤ 0 from (by decide)); omega)
            refine pw_blk hT 2 (S' := (38, [some (pvR 124), some (pvI n1), some (pvI n2), some (pvI (M.1 125 (Int32.toNatClampNeg n1)))], [pvI n2, pvI (M.1 125 (Int32.toNatClampNeg n1))], M)) rfl ⟨trivial, trivial, trivial⟩ ?_
            refine pw_ic hT (c := (M.1 125 (Int32.toNatClampNeg n1)) = n2) rfl rfl (fun c38_ => ?_) (fun c38_ => ?_)
            · have b39_ : 1 ≤ Int32.toInt (M.1 125 (Int32.toNatClampNeg n1)) ∧ Int32.toInt (M.1 125 (Int32.toNatClampNeg n1)) ≤ 6 := (by have u0 := b34_; have u1 := (zi_eq _ _).mp c38_; have u2 := b37_; omega)
              have d40_ : Int32.toInt (M.1 125 (Int32.toNatClampNeg n1)) = Int32.toInt n2 := (zi_eq _ _).mp c38_
              refine pw_blk hT 2 (S' := (78, [some (pvR 124), some (pvI n1), some (pvI n2), some (pvI (M.1 125 (Int32.toNatClampNeg n1)))], [pvI (M.1 125 (Int32.toNatClampNeg n1))], M)) rfl ⟨trivial, trivial, trivial⟩ ?_
              exact pw_ret hT rfl (r := some (pvI (M.1 125 (Int32.toNatClampNeg n1)))) (M' := M) ⟨rfl, rfl⟩ ⟨⟨_, rfl, (zr_wide b39_ (by decide) (by decide))⟩, rfl⟩
            · refine pw_blk hT 2 (S' := (43, [some (pvR 124), some (pvI n1), some (pvI n2), some (pvI (M.1 125 (Int32.toNatClampNeg n1)))], [pvI 1, pvI n2], M)) rfl ⟨trivial, trivial, trivial⟩ ?_
              refine pw_icn hT (c := n2 = 1) rfl rfl (fun c41_ => ?_) (fun c41_ => ?_)
              · have b42_ : 2 ≤ Int32.toInt n2 ∧ Int32.toInt n2 ≤ 6 := (by have u0 := b37_; have u1 := (not_congr (zi_eq _ _)).mp c41_; have u2 := (show 1 ≤ Int32.toInt 1 ∧ Int32.toInt 1 ≤ 1 from (by decide)); omega)
                refine pw_blk hT 2 (S' := (53, [some (pvR 124), some (pvI n1), some (pvI n2), some (pvI (M.1 125 (Int32.toNatClampNeg n1)))], [pvI 2, pvI n2], M)) rfl ⟨trivial, trivial, trivial⟩ ?_
                refine pw_icn hT (c := n2 = 2) rfl rfl (fun c43_ => ?_) (fun c43_ => ?_)
                · have b44_ : 3 ≤ Int32.toInt n2 ∧ Int32.toInt n2 ≤ 6 := (by have u0 := b42_; have u1 := (not_congr (zi_eq _ _)).mp c43_; have u2 := (show 2 ≤ Int32.toInt 2 ∧ Int32.toInt 2 ≤ 2 from (by decide)); omega)
                  refine pw_blk hT 2 (S' := (63, [some (pvR 124), some (pvI n1), some (pvI n2), some (pvI (M.1 125 (Int32.toNatClampNeg n1)))], [pvI 3, pvI n2], M)) rfl ⟨trivial, trivial, trivial⟩ ?_
                  refine pw_icn hT (c := n2 = 3) rfl rfl (fun c45_ => ?_) (fun c45_ => ?_)
                  · have b46_ : 4 ≤ Int32.toInt n2 ∧ Int32.toInt n2 ≤ 6 := (by have u0 := b44_; have u1 := (not_congr (zi_eq _ _)).mp c45_; have u2 := (show 3 ≤ Int32.toInt 3 ∧ Int32.toInt 3 ≤ 3 from (by decide)); omega)
                    refine pw_blk hT 1 (S' := (78, [some (pvR 124), some (pvI n1), some (pvI n2), some (pvI (M.1 125 (Int32.toNatClampNeg n1)))], [pvI (-12)], M)) rfl ⟨trivial, trivial⟩ ?_
                    exact pw_ret hT rfl (r := some (pvI (-12))) (M' := M) ⟨rfl, rfl⟩ ⟨⟨_, rfl, (zr_wide (show (-12) ≤ Int32.toInt (-12) ∧ Int32.toInt (-12) ≤ (-12) from (by decide)) (by decide) (by decide))⟩, rfl⟩
                  · have b47_ : 3 ≤ Int32.toInt n2 ∧ Int32.toInt n2 ≤ 3 := (by have u0 := b44_; have u1 := (zi_eq _ _).mp c45_; have u2 := (show 3 ≤ Int32.toInt 3 ∧ Int32.toInt 3 ≤ 3 from (by decide)); omega)
                    refine pw_blk hT 2 (S' := (69, [some (pvR 124), some (pvI n1), some (pvI n2), some (pvI (M.1 125 (Int32.toNatClampNeg n1)))], [pvI 6, pvI (M.1 125 (Int32.toNatClampNeg n1))], M)) rfl ⟨trivial, trivial, trivial⟩ ?_
                    refine pw_icn hT (c := (M.1 125 (Int32.toNatClampNeg n1)) = 6) rfl rfl (fun c48_ => ?_) (fun c48_ => ?_)
                    · have b49_ : 0 ≤ Int32.toInt (M.1 125 (Int32.toNatClampNeg n1)) ∧ Int32.toInt (M.1 125 (Int32.toNatClampNeg n1)) ≤ 5 := (by have u0 := b34_; have u1 := (not_congr (zi_eq _ _)).mp c48_; have u2 := (show 6 ≤ Int32.toInt 6 ∧ Int32.toInt 6 ≤ 6 from (by decide)); omega)
                      refine pw_blk hT 1 (S' := (78, [some (pvR 124), some (pvI n1), some (pvI n2), some (pvI (M.1 125 (Int32.toNatClampNeg n1)))], [pvI (-12)], M)) rfl ⟨trivial, trivial⟩ ?_
                      exact pw_ret hT rfl (r := some (pvI (-12))) (M' := M) ⟨rfl, rfl⟩ ⟨⟨_, rfl, (zr_wide (show (-12) ≤ Int32.toInt (-12) ∧ Int32.toInt (-12) ≤ (-12) from (by decide)) (by decide) (by decide))⟩, rfl⟩
                    · have b50_ : 6 ≤ Int32.toInt (M.1 125 (Int32.toNatClampNeg n1)) ∧ Int32.toInt (M.1 125 (Int32.toNatClampNeg n1)) ≤ 6 := (by have u0 := b34_; have u1 := (zi_eq _ _).mp c48_; have u2 := (show 6 ≤ Int32.toInt 6 ∧ Int32.toInt 6 ≤ 6 from (by decide)); omega)
                      refine pw_blk hT 2 (S' := (78, [some (pvR 124), some (pvI n1), some (pvI n2), some (pvI (M.1 125 (Int32.toNatClampNeg n1)))], [pvI (M.1 125 (Int32.toNatClampNeg n1))], M)) rfl ⟨trivial, trivial, trivial⟩ ?_
                      exact pw_ret hT rfl (r := some (pvI (M.1 125 (Int32.toNatClampNeg n1)))) (M' := M) ⟨rfl, rfl⟩ ⟨⟨_, rfl, (zr_wide b50_ (by decide) (by decide))⟩, rfl⟩
                · have b51_ : 2 ≤ Int32.toInt n2 ∧ Int32.toInt n2 ≤ 2 := (by have u0 := b42_; have u1 := (zi_eq _ _).mp c43_; have u2 := (show 2 ≤ Int32.toInt 2 ∧ Int32.toInt 2 ≤ 2 from (by decide)); omega)
                  refine pw_blk hT 2 (S' := (58, [some (pvR 124), some (pvI n1), some (pvI n2), some (pvI (M.1 125 (Int32.toNatClampNeg n1)))], [pvI 5, pvI (M.1 125 (Int32.toNatClampNeg n1))], M)) rfl ⟨trivial, trivial, trivial⟩ ?_
                  refine pw_ic hT (c := (M.1 125 (Int32.toNatClampNeg n1)) = 5) rfl rfl (fun c52_ => ?_) (fun c52_ => ?_)
                  · have b53_ : 5 ≤ Int32.toInt (M.1 125 (Int32.toNatClampNeg n1)) ∧ Int32.toInt (M.1 125 (Int32.toNatClampNeg n1)) ≤ 5 := (by have u0 := b34_; have u1 := (zi_eq _ _).mp c52_; have u2 := (show 5 ≤ Int32.toInt 5 ∧ Int32.toInt 5 ≤ 5 from (by decide)); omega)
                    refine pw_blk hT 2 (S' := (78, [some (pvR 124), some (pvI n1), some (pvI n2), some (pvI (M.1 125 (Int32.toNatClampNeg n1)))], [pvI (M.1 125 (Int32.toNatClampNeg n1))], M)) rfl ⟨trivial, trivial, trivial⟩ ?_
                    exact pw_ret hT rfl (r := some (pvI (M.1 125 (Int32.toNatClampNeg n1)))) (M' := M) ⟨rfl, rfl⟩ ⟨⟨_, rfl, (zr_wide b53_ (by decide) (by decide))⟩, rfl⟩
                  · refine pw_blk hT 2 (S' := (63, [some (pvR 124), some (pvI n1), some (pvI n2), some (pvI (M.1 125 (Int32.toNatClampNeg n1)))], [pvI 3, pvI n2], M)) rfl ⟨trivial, trivial, trivial⟩ ?_
                    refine pw_icn hT (c := n2 = 3) rfl rfl (fun c54_ => ?_) (fun c54_ => absurd c54_ (by have z0 := b51_; have z1 := (show 3 ≤ Int32.toInt 3 ∧ Int32.toInt 3 ≤ 3 from (by decide)); rw [zi_eq]; omega))
                    refine pw_blk hT 1 (S' := (78, [some (pvR 124), some (pvI n1), some (pvI n2), some (pvI (M.1 125 (Int32.toNatClampNeg n1)))], [pvI (-12)], M)) rfl ⟨trivial, trivial⟩ ?_
                    exact pw_ret hT rfl (r := some (pvI (-12))) (M' := M) ⟨rfl, rfl⟩ ⟨⟨_, rfl, (zr_wide (show (-12) ≤ Int32.toInt (-12) ∧ Int32.toInt (-12) ≤ (-12) from (by decide)) (by decide) (by decide))⟩, rfl⟩
              · have b55_ : 1 ≤ Int32.toInt n2 ∧ Int32.toInt n2 ≤ 1 := (by have u0 := b37_; have u1 := (zi_eq _ _).mp c41_; have u2 := (show 1 ≤ Int32.toInt 1 ∧ Int32.toInt 1 ≤ 1 from (by decide)); omega)
                refine pw_blk hT 2 (S' := (48, [some (pvR 124), some (pvI n1), some (pvI n2), some (pvI (M.1 125 (Int32.toNatClampNeg n1)))], [pvI 4, pvI (M.1 125 (Int32.toNatClampNeg n1))], M)) rfl ⟨trivial, trivial, trivial⟩ ?_
                refine pw_ic hT (c := (M.1 125 (Int32.toNatClampNeg n1)) = 4) rfl rfl (fun c56_ => ?_) (fun c56_ => ?_)
                · have b57_ : 4 ≤ Int32.toInt (M.1 125 (Int32.toNatClampNeg n1)) ∧ Int32.toInt (M.1 125 (Int32.toNatClampNeg n1)) ≤ 4 := (by have u0 := b34_; have u1 := (zi_eq _ _).mp c56_; have u2 := (show 4 ≤ Int32.toInt 4 ∧ Int32.toInt 4 ≤ 4 from (by decide)); omega)
                  refine pw_blk hT 2 (S' := (78, [some (pvR 124), some (pvI n1), some (pvI n2), some (pvI (M.1 125 (Int32.toNatClampNeg n1)))], [pvI (M.1 125 (Int32.toNatClampNeg n1))], M)) rfl ⟨trivial, trivial, trivial⟩ ?_
                  exact pw_ret hT rfl (r := some (pvI (M.1 125 (Int32.toNatClampNeg n1)))) (M' := M) ⟨rfl, rfl⟩ ⟨⟨_, rfl, (zr_wide b57_ (by decide) (by decide))⟩, rfl⟩
                · refine pw_blk hT 2 (S' := (53, [some (pvR 124), some (pvI n1), some (pvI n2), some (pvI (M.1 125 (Int32.toNatClampNeg n1)))], [pvI 2, pvI n2], M)) rfl ⟨trivial, trivial, trivial⟩ ?_
                  refine pw_icn hT (c := n2 = 2) rfl rfl (fun c58_ => ?_) (fun c58_ => absurd c58_ (by have z0 := b55_; have z1 := (show 2 ≤ Int32.toInt 2 ∧ Int32.toInt 2 ≤ 2 from (by decide)); rw [zi_eq]; omega))
                  refine pw_blk hT 2 (S' := (63, [some (pvR 124), some (pvI n1), some (pvI n2), some (pvI (M.1 125 (Int32.toNatClampNeg n1)))], [pvI 3, pvI n2], M)) rfl ⟨trivial, trivial, trivial⟩ ?_
                  refine pw_icn hT (c := n2 = 3) rfl rfl (fun c59_ => ?_) (fun c59_ => absurd c59_ (by have z0 := b55_; have z1 := (show 3 ≤ Int32.toInt 3 ∧ Int32.toInt 3 ≤ 3 from (by decide)); rw [zi_eq]; omega))
                  refine pw_blk hT 1 (S' := (78, [some (pvR 124), some (pvI n1), some (pvI n2), some (pvI (M.1 125 (Int32.toNatClampNeg n1)))], [pvI (-12)], M)) rfl ⟨trivial, trivial⟩ ?_
                  exact pw_ret hT rfl (r := some (pvI (-12))) (M' := M) ⟨rfl, rfl⟩ ⟨⟨_, rfl, (zr_wide (show (-12) ≤ Int32.toInt (-12) ∧ Int32.toInt (-12) ≤ (-12) from (by decide)) (by decide) (by decide))⟩, rfl⟩
def fpL_X10_takes_124_x : List (Nat × Nat × Nat) := [(0, 124, 18)]
def fp_X10_takes_124_x (q k : Nat) : Bool := pvfp fpL_X10_takes_124_x q k
set_option maxHeartbeats 4000000 in
set_option maxRecDepth 10000 in
theorem sf_X10_takes_124_x (M : pvM) (hok : pvOk M) (n1 : Int32) (hn1 : 0 ≤ Int32.toInt n1 ∧ Int32.toInt n1 ≤ 127) (d : Nat) : PW 82 d (0, [some (pvR 124), some (pvI n1)], [], M) (fun r X => (∃ x : Int32, r = some (pvI x) ∧ 0 ≤ Int32.toInt x ∧ Int32.toInt x ≤ 1) ∧ pvOk X ∧ pvFr fp_X10_takes_124_x M X) := by
  have hT : pvdom 82 = pvD_82 := rfl
  refine pw_blk hT 1 (S' := (1, [some (pvR 124), some (pvI n1)], [pvR 124], M)) rfl ⟨trivial, trivial⟩ ?_
  refine pw_callT hT (as := [pvR 124]) (lo1 := [some (pvR 124)]) (d1 := d) (rest := []) rfl rfl rfl rfl rfl (fun _ => rfl) (Nat.zero_le _) rfl rfl rfl (sf_X10_peek_124 M hok d) ?_
  have b6_ : 0 ≤ Int32.toInt (M.1 124 16) ∧ Int32.toInt (M.1 124 16) ≤ 100 := pvok_r hok 124 16 rfl
  have b7_ : 0 ≤ Int32.toInt (M.1 124 17) ∧ Int32.toInt (M.1 124 17) ≤ 100 := pvok_r hok 124 17 rfl
  by_cases c8_ : (M.1 124 16) ≤ (M.1 124 17)
  · refine pw_eqI (if_pos c8_) ?_
    have d9_ : Int32.toInt (M.1 124 16) ≤ Int32.toInt (M.1 124 17) := (zi_le _ _).mp c8_
    show PW 82 d (4, [some (pvR 124), some (pvI n1)], [pvI (-1)], M) _
    refine pw_blk hT 1 (S' := (5, [some (pvR 124), some (pvI n1)], [pvI n1, pvI (-1)], M)) rfl ⟨trivial, trivial⟩ ?_
    refine pw_ic hT (c := (-1) = n1) rfl rfl (fun c10_ => absurd c10_ (by have z0 := (show (-1) ≤ Int32.toInt (-1) ∧ Int32.toInt (-1) ≤ (-1) from (by decide)); have z1 := hn1; rw [zi_eq]; omega)) (fun c10_ => ?_)
    refine pw_blk hT 1 (S' := (9, [some (pvR 124), some (pvI n1)], [pvI 0], M)) rfl ⟨trivial, trivial⟩ ?_
    exact pw_ret hT rfl (r := some (pvI 0)) (M' := M) ⟨Or.inl rfl, rfl, rfl⟩ ⟨⟨_, rfl, (zr_wide (show 0 ≤ Int32.toInt 0 ∧ Int32.toInt 0 ≤ 0 from (by decide)) (by decide) (by decide))⟩, hok, pvfr_0⟩
  · refine pw_eqI (if_neg c8_) ?_
    have b11_ : 1 ≤ Int32.toInt (M.1 124 16) ∧ Int32.toInt (M.1 124 16) ≤ 100 := zr_nle_l 1 c8_ b6_ b7_ (by decide)
    have b12_ : 0 ≤ Int32.toInt (M.1 124 17) ∧ Int32.toInt (M.1 124 17) ≤ 99 := zr_nle_r 99 c8_ b7_ b11_ (by decide)
    have d13_ : Int32.toInt (M.1 124 16) > Int32.toInt (M.1 124 17) := Int.not_le.mp ((not_congr (zi_le _ _)).mp c8_)
    have b14_ : 0 ≤ Int32.toInt (M.1 132 (Int32.toNatClampNeg (M.1 124 17))) ∧ Int32.toInt (M.1 132 (Int32.toNatClampNeg (M.1 124 17))) ≤ 127 := pvok_r hok 132 (Int32.toNatClampNeg (M.1 124 17)) rfl
    show PW 82 d (4, [some (pvR 124), some (pvI n1)], [pvI (M.1 132 (Int32.toNatClampNeg (M.1 124 17)))], M) _
    refine pw_blk hT 1 (S' := (5, [some (pvR 124), some (pvI n1)], [pvI n1, pvI (M.1 132 (Int32.toNatClampNeg (M.1 124 17)))], M)) rfl ⟨trivial, trivial⟩ ?_
    refine pw_ic hT (c := (M.1 132 (Int32.toNatClampNeg (M.1 124 17))) = n1) rfl rfl (fun c15_ => ?_) (fun c15_ => ?_)
    · have d16_ : Int32.toInt (M.1 132 (Int32.toNatClampNeg (M.1 124 17))) = Int32.toInt n1 := (zi_eq _ _).mp c15_
      obtain ⟨q18_, b17_⟩ : (Int32.toInt ((M.1 124 17) + 1) = Int32.toInt (M.1 124 17) + 1) ∧ (1 ≤ Int32.toInt ((M.1 124 17) + 1) ∧ Int32.toInt ((M.1 124 17) + 1) ≤ 100) := zadd_k (M.1 124 17) 1 1 1 100 b12_ (by decide) (by decide) (by decide) (by decide) (by decide)
      refine pw_blkw hT 6 (pc := 20) (lo := [some (pvR 124), some (pvI n1)]) (st := []) (M := pvu M 124 17 ((M.1 124 17) + 1)) rfl ⟨trivial, trivial, rfl, trivial, trivial, rfl, trivial⟩ (fun M19_ e20_ => ?_)
      have o21_ : pvOk M19_ := pvok_u2 e20_ hok rfl (zr_wide b17_ (by decide) (by decide))
      have f22_ : pvFr fp_X10_takes_124_x M M19_ := pvfr_u e20_ pvfr_0 rfl
      refine pw_blk hT 1 (S' := (21, [some (pvR 124), some (pvI n1)], [pvI 1], M19_)) rfl ⟨trivial, trivial⟩ ?_
      exact pw_ret hT rfl (r := some (pvI 1)) (M' := M19_) ⟨Or.inr rfl, rfl, rfl⟩ ⟨⟨_, rfl, (zr_wide (show 1 ≤ Int32.toInt 1 ∧ Int32.toInt 1 ≤ 1 from (by decide)) (by decide) (by decide))⟩, o21_, f22_⟩
    · refine pw_blk hT 1 (S' := (9, [some (pvR 124), some (pvI n1)], [pvI 0], M)) rfl ⟨trivial, trivial⟩ ?_
      exact pw_ret hT rfl (r := some (pvI 0)) (M' := M) ⟨Or.inl rfl, rfl, rfl⟩ ⟨⟨_, rfl, (zr_wide (show 0 ≤ Int32.toInt 0 ∧ Int32.toInt 0 ≤ 0 from (by decide)) (by decide) (by decide))⟩, hok, pvfr_0⟩
def fpL_X10_takesWord_124_x_x : List (Nat × Nat × Nat) := [(0, 124, 18)]
def fp_X10_takesWord_124_x_x (q k : Nat) : Bool := pvfp fpL_X10_takesWord_124_x_x q k
theorem fp_X10_takesWord_124_x_x_fp_X10_takes_124_x (a b : Nat) (h : fp_X10_takes_124_x a b = true) : fp_X10_takesWord_124_x_x a b = true := pvfp_sub (l1 := fpL_X10_takes_124_x) (l2 := fpL_X10_takesWord_124_x_x) (by decide) a b h
set_option maxHeartbeats 4000000 in
set_option maxRecDepth 10000 in
theorem sf_X10_takesWord_124_x_x (M : pvM) (hok : pvOk M) (n1 : Int32) (n2 : Int32) (hn1 : 0 ≤ Int32.toInt n1 ∧ Int32.toInt n1 ≤ 11) (hn2 : 0 ≤ Int32.toInt n2 ∧ Int32.toInt n2 ≤ 5) (hx0 : Int32.toInt n1 + Int32.toInt n2 ≤ 15) (d : Nat) : PW 88 d (0, [some (pvR 124), some (pvI n1), some (pvI n2), none], [], M) (fun r X => (∃ x : Int32, r = some (pvI x) ∧ 0 ≤ Int32.toInt x ∧ Int32.toInt x ≤ 1) ∧ pvOk X ∧ pvFr fp_X10_takesWord_124_x_x M X) := by
  have hT : pvdom 88 = pvD_88 := rfl
  refine pw_blk hT 2 (S' := (2, [some (pvR 124), some (pvI n1), some (pvI n2), some (pvI 0)], [], M)) rfl ⟨trivial, trivial, trivial⟩ ?_
  have hlz105_ : ∀ (nz105_ : Nat) (i3z105_ : Int32) (Mz105_ : pvM), (pvOk Mz105_) → (pvFr fp_X10_takesWord_124_x_x M Mz105_) → (0 ≤ Int32.toInt i3z105_ ∧ Int32.toInt i3z105_ ≤ 5) → (zhide ((6 - Int32.toInt i3z105_).toNat < nz105_)) → PW 88 d (2, [some (pvR 124), some (pvI n1), some (pvI n2), some (pvI i3z105_)], [], Mz105_) (fun r X => (∃ x : Int32, r = some (pvI x) ∧ 0 ≤ Int32.toInt x ∧ Int32.toInt x ≤ 1) ∧ pvOk X ∧ pvFr fp_X10_takesWord_124_x_x M X) := by
    intro nz105_
    induction nz105_ with
    | zero => intro i3z105_ Mz105_ oz105_ fz105_ h3z105_ hmz105_; exact absurd (zshow hmz105_) (Nat.not_lt_zero _)
    | succ nz105_ ihz105_ =>
      intro i3z105_ Mz105_ oz105_ fz105_ h3z105_ hmz105_
      refine pw_blk hT 2 (S' := (4, [some (pvR 124), some (pvI n1), some (pvI n2), some (pvI i3z105_)], [pvI n2, pvI i3z105_], Mz105_)) rfl ⟨trivial, trivial, trivial⟩ ?_
      refine pw_ic hT (c := n2 ≤ i3z105_) rfl rfl (fun c106_ => ?_) (fun c106_ => ?_)
      · have d107_ : Int32.toInt n2 ≤ Int32.toInt i3z105_ := (zi_le _ _).mp c106_
        refine pw_blk hT 2 (S' := (33, [some (pvR 124), some (pvI n1), some (pvI n2), some (pvI i3z105_)], [pvI 32, pvR 124], Mz105_)) rfl ⟨trivial, trivial, trivial⟩ ?_
        refine pw_callG hT (as := [pvR 124, pvI 32]) (lo1 := [some (pvR 124), some (pvI 32)]) (d1 := d) (rest := []) rfl rfl rfl rfl rfl (fun _ => rfl) (Nat.zero_le _) rfl rfl rfl (sf_X10_takes_124_x Mz105_ oz105_ 32 (zr_wide (show 32 ≤ Int32.toInt 32 ∧ Int32.toInt 32 ≤ 32 from (by decide)) (by decide) (by decide)) d) (fun x108_ M109_ b110_ o111_ g112_ => ?_)
        have f113_ : pvFr fp_X10_takesWord_124_x_x M M109_ := pvfr_t g112_ fz105_ fp_X10_takesWord_124_x_x_fp_X10_takes_124_x
        exact pw_ret hT rfl (r := some (pvI x108_)) (M' := M109_) ⟨pv01 b110_, rfl, rfl⟩ ⟨⟨_, rfl, b110_⟩, o111_, f113_⟩
      · have b114_ : 1 ≤ Int32.toInt n2 ∧ Int32.toInt n2 ≤ 5 := zr_nle_l 1 c106_ hn2 h3z105_ (by decide)
        have b115_ : 0 ≤ Int32.toInt i3z105_ ∧ Int32.toInt i3z105_ ≤ 4 := zr_nle_r 4 c106_ h3z105_ b114_ (by decide)
        have d116_ : Int32.toInt n2 > Int32.toInt i3z105_ := Int.not_le.mp ((not_congr (zi_le _ _)).mp c106_)
        obtain ⟨q118_, b117_⟩ : (Int32.toInt (n1 + i3z105_) = Int32.toInt n1 + Int32.toInt i3z105_) ∧ (0 ≤ Int32.toInt (n1 + i3z105_) ∧ Int32.toInt (n1 + i3z105_) ≤ 15) := zadd_r n1 i3z105_ 0 15 hn1 b115_ (by decide) (by decide) (by decide) (by decide)
        have b119_ : 0 ≤ Int32.toInt (Mz105_.1 140 (Int32.toNatClampNeg (n1 + i3z105_))) ∧ Int32.toInt (Mz105_.1 140 (Int32.toNatClampNeg (n1 + i3z105_))) ≤ 127 := pvok_r oz105_ 140 (Int32.toNatClampNeg (n1 + i3z105_)) rfl
        refine pw_blk hT 7 (S' := (16, [some (pvR 124), some (pvI n1), some (pvI n2), some (pvI i3z105_)], [pvI (Mz105_.1 140 (Int32.toNatClampNeg (n1 + i3z105_))), pvR 124], Mz105_)) rfl ⟨trivial, trivial, rfl, trivial, trivial, trivial, ⟨rfl, (vp_in_iff.mpr (show 0 ≤ Int32.toInt (n1 + i3z105_) ∧ Int32.toInt (n1 + i3z105_) < ((15 : Nat) : Int) from (by have u0 := b117_; omega)))⟩, trivial⟩ ?_
        refine pw_callG hT (as := [pvR 124, pvI (Mz105_.1 140 (Int32.toNatClampNeg (n1 + i3z105_)))]) (lo1 := [some (pvR 124), some (pvI (Mz105_.1 140 (Int32.toNatClampNeg (n1 + i3z105_))))]) (d1 := d) (rest := []) rfl rfl rfl rfl rfl (fun _ => rfl) (Nat.zero_le _) rfl rfl rfl (sf_X10_takes_124_x Mz105_ oz105_ (Mz105_.1 140 (Int32.toNatClampNeg (n1 + i3z105_))) b119_ d) (fun x120_ M121_ b122_ o123_ g124_ => ?_)
        have f125_ : pvFr fp_X10_takesWord_124_x_x M M121_ := pvfr_t g124_ fz105_ fp_X10_takesWord_124_x_x_fp_X10_takes_124_x
        refine pw_ifn hT (c := x120_ = 0) rfl rfl (fun c126_ => ?_) (fun c126_ => ?_)
        · have b127_ : 1 ≤ Int32.toInt x120_ ∧ Int32.toInt x120_ ≤ 1 := (by have u0 := b122_; have u1 := (not_congr (zi_eq _ _)).mp c126_; have u2 := (show 0 ≤ Int32.toInt 0 ∧ Int32.toInt 0 ≤ 0 from (by decide)); omega)
          obtain ⟨q129_, b128_⟩ : (Int32.toInt (i3z105_ + 1) = Int32.toInt i3z105_ + 1) ∧ (1 ≤ Int32.toInt (i3z105_ + 1) ∧ Int32.toInt (i3z105_ + 1) ≤ 5) := zadd_k i3z105_ 1 1 1 5 b115_ (by decide) (by decide) (by decide) (by decide) (by decide)
          refine pw_blk hT 2 (S' := (2, [some (pvR 124), some (pvI n1), some (pvI n2), some (pvI (i3z105_ + 1))], [], M121_)) rfl ⟨trivial, trivial, trivial⟩ ?_
          exact ihz105_ (i3z105_ + 1) M121_ o123_ f125_ (zr_wide b128_ (by decide) (by decide)) (zhid (pvms_up (zshow hmz105_) h3z105_ q129_ (by decide) (by decide)))
        · have b130_ : 0 ≤ Int32.toInt x120_ ∧ Int32.toInt x120_ ≤ 0 := (by have u0 := b122_; have u1 := (zi_eq _ _).mp c126_; have u2 := (show 0 ≤ Int32.toInt 0 ∧ Int32.toInt 0 ≤ 0 from (by decide)); omega)
          refine pw_blk hT 1 (S' := (23, [some (pvR 124), some (pvI n1), some (pvI n2), some (pvI i3z105_)], [pvI 0], M121_)) rfl ⟨trivial, trivial⟩ ?_
          exact pw_ret hT rfl (r := some (pvI 0)) (M' := M121_) ⟨Or.inl rfl, rfl, rfl⟩ ⟨⟨_, rfl, (zr_wide (show 0 ≤ Int32.toInt 0 ∧ Int32.toInt 0 ≤ 0 from (by decide)) (by decide) (by decide))⟩, o123_, f125_⟩
  exact hlz105_ _ 0 M hok pvfr_0 (zr_wide (show 0 ≤ Int32.toInt 0 ∧ Int32.toInt 0 ≤ 0 from (by decide)) (by decide) (by decide)) (zhid (Nat.lt_succ_self _))
def fpL_X10_takesHead_124_x : List (Nat × Nat × Nat) := [(0, 124, 18), (0, 134, 0)]
def fp_X10_takesHead_124_x (q k : Nat) : Bool := pvfp fpL_X10_takesHead_124_x q k
theorem fp_X10_takesHead_124_x_fp_X10_takesWord_124_x_x (a b : Nat) (h : fp_X10_takesWord_124_x_x a b = true) : fp_X10_takesHead_124_x a b = true := pvfp_sub (l1 := fpL_X10_takesWord_124_x_x) (l2 := fpL_X10_takesHead_124_x) (by decide) a b h
set_option maxHeartbeats 4000000 in
set_option maxRecDepth 10000 in
theorem sf_X10_takesHead_124_x (M : pvM) (hok : pvOk M) (n1 : Int32) (hn1 : 0 ≤ Int32.toInt n1 ∧ Int32.toInt n1 ≤ 59) (d : Nat) : PW 85 d (0, [some (pvR 124), some (pvI n1)], [], M) (fun r X => (∃ x : Int32, r = some (pvI x) ∧ 0 ≤ Int32.toInt x ∧ Int32.toInt x ≤ 1) ∧ pvOk X ∧ pvFr fp_X10_takesHead_124_x M X) := by
  have hT : pvdom 85 = pvD_85 := rfl
  refine pw_blk hT 1 (S' := (1, [some (pvR 124), some (pvI n1)], [pvR 124], M)) rfl ⟨trivial, trivial⟩ ?_
  refine pw_callT hT (as := [pvR 124]) (lo1 := [some (pvR 124)]) (d1 := d) (rest := []) rfl rfl rfl rfl rfl (fun _ => rfl) (Nat.zero_le _) rfl rfl rfl (sf_X10_peek_124 M hok d) ?_
  have b6_ : 0 ≤ Int32.toInt (M.1 124 16) ∧ Int32.toInt (M.1 124 16) ≤ 100 := pvok_r hok 124 16 rfl
  have b7_ : 0 ≤ Int32.toInt (M.1 124 17) ∧ Int32.toInt (M.1 124 17) ≤ 100 := pvok_r hok 124 17 rfl
  by_cases c8_ : (M.1 124 16) ≤ (M.1 124 17)
  · refine pw_eqI (if_pos c8_) ?_
    have d9_ : Int32.toInt (M.1 124 16) ≤ Int32.toInt (M.1 124 17) := (zi_le _ _).mp c8_
    show PW 85 d (4, [some (pvR 124), some (pvI n1)], [pvI (-1)], M) _
    refine pw_sw hT rfl rfl ?_
    refine And.intro (fun c10_ => absurd c10_ (by decide)) (fun c10_ => ?_)
    refine And.intro (fun c11_ => absurd c11_ (by decide)) (fun c11_ => ?_)
    refine And.intro (fun c12_ => absurd c12_ (by decide)) (fun c12_ => ?_)
    show PW 85 d (83, [some (pvR 124), some (pvI n1)], [], M) _
    refine pw_blkw hT 5 (pc := 90) (lo := [some (pvR 124), some (pvI n1)]) (st := []) (M := pvu M 134 (Int32.toNatClampNeg n1) 3) rfl ⟨trivial, rfl, trivial, trivial, ⟨rfl, (zr_in (n := 60) hn1 (by decide) (by decide))⟩, trivial⟩ (fun M13_ e14_ => ?_)
    have o15_ : pvOk M13_ := pvok_u2 e14_ hok rfl (zr_wide (show 3 ≤ Int32.toInt 3 ∧ Int32.toInt 3 ≤ 3 from (by decide)) (by decide) (by decide))
    have f16_ : pvFr fp_X10_takesHead_124_x M M13_ := pvfr_u e14_ pvfr_0 rfl
    refine pw_blk hT 3 (S' := (94, [some (pvR 124), some (pvI n1)], [pvI 4, pvI 11, pvR 124], M13_)) rfl ⟨trivial, trivial, trivial, trivial⟩ ?_
    have u17_ : Int32.toInt 11 = 11 := by decide
    have u18_ : Int32.toInt 4 = 4 := by decide
    refine pw_callG hT (as := [pvR 124, pvI 11, pvI 4]) (lo1 := [some (pvR 124), some (pvI 11), some (pvI 4), none]) (d1 := d) (rest := []) rfl rfl rfl rfl rfl (fun _ => rfl) (Nat.zero_le _) rfl rfl rfl (sf_X10_takesWord_124_x_x M13_ o15_ 11 4 (zr_wide (show 11 ≤ Int32.toInt 11 ∧ Int32.toInt 11 ≤ 11 from (by decide)) (by decide) (by decide)) (zr_wide (show 4 ≤ Int32.toInt 4 ∧ Int32.toInt 4 ≤ 4 from (by decide)) (by decide) (by decide)) (show Int32.toInt 11 + Int32.toInt 4 ≤ 15 from (by omega)) d) (fun x19_ M20_ b21_ o22_ g23_ => ?_)
    have f24_ : pvFr fp_X10_takesHead_124_x M M20_ := pvfr_t g23_ f16_ fp_X10_takesHead_124_x_fp_X10_takesWord_124_x_x
    exact pw_ret hT rfl (r := some (pvI x19_)) (M' := M20_) ⟨pv01 b21_, rfl, rfl⟩ ⟨⟨_, rfl, b21_⟩, o22_, f24_⟩
  · refine pw_eqI (if_neg c8_) ?_
    have b25_ : 1 ≤ Int32.toInt (M.1 124 16) ∧ Int32.toInt (M.1 124 16) ≤ 100 := zr_nle_l 1 c8_ b6_ b7_ (by decide)
    have b26_ : 0 ≤ Int32.toInt (M.1 124 17) ∧ Int32.toInt (M.1 124 17) ≤ 99 := zr_nle_r 99 c8_ b7_ b25_ (by decide)
    have d27_ : Int32.toInt (M.1 124 16) > Int32.toInt (M.1 124 17) := Int.not_le.mp ((not_congr (zi_le _ _)).mp c8_)
    have b28_ : 0 ≤ Int32.toInt (M.1 132 (Int32.toNatClampNeg (M.1 124 17))) ∧ Int32.toInt (M.1 132 (Int32.toNatClampNeg (M.1 124 17))) ≤ 127 := pvok_r hok 132 (Int32.toNatClampNeg (M.1 124 17)) rfl
    show PW 85 d (4, [some (pvR 124), some (pvI n1)], [pvI (M.1 132 (Int32.toNatClampNeg (M.1 124 17)))], M) _
    refine pw_sw hT rfl rfl ?_
    refine And.intro (fun c29_ => ?_) (fun c29_ => ?_)
    · show PW 85 d (54, [some (pvR 124), some (pvI n1)], [], M) _
      have b30_ : 100 ≤ Int32.toInt (M.1 132 (Int32.toNatClampNeg (M.1 124 17))) ∧ Int32.toInt (M.1 132 (Int32.toNatClampNeg (M.1 124 17))) ≤ 100 := (by have u0 := b28_; have u1 := (zi_eq _ _).mp c29_; have u2 := (show 100 ≤ Int32.toInt 100 ∧ Int32.toInt 100 ≤ 100 from (by decide)); omega)
      refine pw_blkw hT 5 (pc := 61) (lo := [some (pvR 124), some (pvI n1)]) (st := []) (M := pvu M 134 (Int32.toNatClampNeg n1) 1) rfl ⟨trivial, rfl, trivial, trivial, ⟨rfl, (zr_in (n := 60) hn1 (by decide) (by decide))⟩, trivial⟩ (fun M31_ e32_ => ?_)
      have o33_ : pvOk M31_ := pvok_u2 e32_ hok rfl (zr_wide (show 1 ≤ Int32.toInt 1 ∧ Int32.toInt 1 ≤ 1 from (by decide)) (by decide) (by decide))
      have f34_ : pvFr fp_X10_takesHead_124_x M M31_ := pvfr_u e32_ pvfr_0 rfl
      refine pw_blk hT 3 (S' := (64, [some (pvR 124), some (pvI n1)], [pvI 3, pvI 3, pvR 124], M31_)) rfl ⟨trivial, trivial, trivial, trivial⟩ ?_
      have u35_ : Int32.toInt 3 = 3 := by decide
      refine pw_callG hT (as := [pvR 124, pvI 3, pvI 3]) (lo1 := [some (pvR 124), some (pvI 3), some (pvI 3), none]) (d1 := d) (rest := []) rfl rfl rfl rfl rfl (fun _ => rfl) (Nat.zero_le _) rfl rfl rfl (sf_X10_takesWord_124_x_x M31_ o33_ 3 3 (zr_wide (show 3 ≤ Int32.toInt 3 ∧ Int32.toInt 3 ≤ 3 from (by decide)) (by decide) (by decide)) (zr_wide (show 3 ≤ Int32.toInt 3 ∧ Int32.toInt 3 ≤ 3 from (by decide)) (by decide) (by decide)) (show Int32.toInt 3 + Int32.toInt 3 ≤ 15 from (by omega)) d) (fun x36_ M37_ b38_ o39_ g40_ => ?_)
      have f41_ : pvFr fp_X10_takesHead_124_x M M37_ := pvfr_t g40_ f34_ fp_X10_takesHead_124_x_fp_X10_takesWord_124_x_x
      exact pw_ret hT rfl (r := some (pvI x36_)) (M' := M37_) ⟨pv01 b38_, rfl, rfl⟩ ⟨⟨_, rfl, b38_⟩, o39_, f41_⟩
    · refine And.intro (fun c42_ => ?_) (fun c42_ => ?_)
      · show PW 85 d (68, [some (pvR 124), some (pvI n1)], [], M) _
        have b43_ : 115 ≤ Int32.toInt (M.1 132 (Int32.toNatClampNeg (M.1 124 17))) ∧ Int32.toInt (M.1 132 (Int32.toNatClampNeg (M.1 124 17))) ≤ 115 := (by have u0 := b28_; have u1 := (zi_eq _ _).mp c42_; have u2 := (show 115 ≤ Int32.toInt 115 ∧ Int32.toInt 115 ≤ 115 from (by decide)); omega)
        refine pw_blkw hT 5 (pc := 75) (lo := [some (pvR 124), some (pvI n1)]) (st := []) (M := pvu M 134 (Int32.toNatClampNeg n1) 2) rfl ⟨trivial, rfl, trivial, trivial, ⟨rfl, (zr_in (n := 60) hn1 (by decide) (by decide))⟩, trivial⟩ (fun M44_ e45_ => ?_)
        have o46_ : pvOk M44_ := pvok_u2 e45_ hok rfl (zr_wide (show 2 ≤ Int32.toInt 2 ∧ Int32.toInt 2 ≤ 2 from (by decide)) (by decide) (by decide))
        have f47_ : pvFr fp_X10_takesHead_124_x M M44_ := pvfr_u e45_ pvfr_0 rfl
        refine pw_blk hT 3 (S' := (79, [some (pvR 124), some (pvI n1)], [pvI 5, pvI 6, pvR 124], M44_)) rfl ⟨trivial, trivial, trivial, trivial⟩ ?_
        have u48_ : Int32.toInt 6 = 6 := by decide
        have u49_ : Int32.toInt 5 = 5 := by decide
        refine pw_callG hT (as := [pvR 124, pvI 6, pvI 5]) (lo1 := [some (pvR 124), some (pvI 6), some (pvI 5), none]) (d1 := d) (rest := []) rfl rfl rfl rfl rfl (fun _ => rfl) (Nat.zero_le _) rfl rfl rfl (sf_X10_takesWord_124_x_x M44_ o46_ 6 5 (zr_wide (show 6 ≤ Int32.toInt 6 ∧ Int32.toInt 6 ≤ 6 from (by decide)) (by decide) (by decide)) (zr_wide (show 5 ≤ Int32.toInt 5 ∧ Int32.toInt 5 ≤ 5 from (by decide)) (by decide) (by decide)) (show Int32.toInt 6 + Int32.toInt 5 ≤ 15 from (by omega)) d) (fun x50_ M51_ b52_ o53_ g54_ => ?_)
        have f55_ : pvFr fp_X10_takesHead_124_x M M51_ := pvfr_t g54_ f47_ fp_X10_takesHead_124_x_fp_X10_takesWord_124_x_x
        exact pw_ret hT rfl (r := some (pvI x50_)) (M' := M51_) ⟨pv01 b52_, rfl, rfl⟩ ⟨⟨_, rfl, b52_⟩, o53_, f55_⟩
      · refine And.intro (fun c56_ => ?_) (fun c56_ => ?_)
        · show PW 85 d (40, [some (pvR 124), some (pvI n1)], [], M) _
          have b57_ : 119 ≤ Int32.toInt (M.1 132 (Int32.toNatClampNeg (M.1 124 17))) ∧ Int32.toInt (M.1 132 (Int32.toNatClampNeg (M.1 124 17))) ≤ 119 := (by have u0 := b28_; have u1 := (zi_eq _ _).mp c56_; have u2 := (show 119 ≤ Int32.toInt 119 ∧ Int32.toInt 119 ≤ 119 from (by decide)); omega)
          refine pw_blkw hT 5 (pc := 47) (lo := [some (pvR 124), some (pvI n1)]) (st := []) (M := pvu M 134 (Int32.toNatClampNeg n1) 0) rfl ⟨trivial, rfl, trivial, trivial, ⟨rfl, (zr_in (n := 60) hn1 (by decide) (by decide))⟩, trivial⟩ (fun M58_ e59_ => ?_)
          have o60_ : pvOk M58_ := pvok_u2 e59_ hok rfl (zr_wide (show 0 ≤ Int32.toInt 0 ∧ Int32.toInt 0 ≤ 0 from (by decide)) (by decide) (by decide))
          have f61_ : pvFr fp_X10_takesHead_124_x M M58_ := pvfr_u e59_ pvfr_0 rfl
          refine pw_blk hT 3 (S' := (50, [some (pvR 124), some (pvI n1)], [pvI 3, pvI 0, pvR 124], M58_)) rfl ⟨trivial, trivial, trivial, trivial⟩ ?_
          have u62_ : Int32.toInt 0 = 0 := by decide
          have u63_ : Int32.toInt 3 = 3 := by decide
          refine pw_callG hT (as := [pvR 124, pvI 0, pvI 3]) (lo1 := [some (pvR 124), some (pvI 0), some (pvI 3), none]) (d1 := d) (rest := []) rfl rfl rfl rfl rfl (fun _ => rfl) (Nat.zero_le _) rfl rfl rfl (sf_X10_takesWord_124_x_x M58_ o60_ 0 3 (zr_wide (show 0 ≤ Int32.toInt 0 ∧ Int32.toInt 0 ≤ 0 from (by decide)) (by decide) (by decide)) (zr_wide (show 3 ≤ Int32.toInt 3 ∧ Int32.toInt 3 ≤ 3 from (by decide)) (by decide) (by decide)) (show Int32.toInt 0 + Int32.toInt 3 ≤ 15 from (by omega)) d) (fun x64_ M65_ b66_ o67_ g68_ => ?_)
          have f69_ : pvFr fp_X10_takesHead_124_x M M65_ := pvfr_t g68_ f61_ fp_X10_takesHead_124_x_fp_X10_takesWord_124_x_x
          exact pw_ret hT rfl (r := some (pvI x64_)) (M' := M65_) ⟨pv01 b66_, rfl, rfl⟩ ⟨⟨_, rfl, b66_⟩, o67_, f69_⟩
        · show PW 85 d (83, [some (pvR 124), some (pvI n1)], [], M) _
          refine pw_blkw hT 5 (pc := 90) (lo := [some (pvR 124), some (pvI n1)]) (st := []) (M := pvu M 134 (Int32.toNatClampNeg n1) 3) rfl ⟨trivial, rfl, trivial, trivial, ⟨rfl, (zr_in (n := 60) hn1 (by decide) (by decide))⟩, trivial⟩ (fun M70_ e71_ => ?_)
          have o72_ : pvOk M70_ := pvok_u2 e71_ hok rfl (zr_wide (show 3 ≤ Int32.toInt 3 ∧ Int32.toInt 3 ≤ 3 from (by decide)) (by decide) (by decide))
          have f73_ : pvFr fp_X10_takesHead_124_x M M70_ := pvfr_u e71_ pvfr_0 rfl
          refine pw_blk hT 3 (S' := (94, [some (pvR 124), some (pvI n1)], [pvI 4, pvI 11, pvR 124], M70_)) rfl ⟨trivial, trivial, trivial, trivial⟩ ?_
          have u74_ : Int32.toInt 11 = 11 := by decide
          have u75_ : Int32.toInt 4 = 4 := by decide
          refine pw_callG hT (as := [pvR 124, pvI 11, pvI 4]) (lo1 := [some (pvR 124), some (pvI 11), some (pvI 4), none]) (d1 := d) (rest := []) rfl rfl rfl rfl rfl (fun _ => rfl) (Nat.zero_le _) rfl rfl rfl (sf_X10_takesWord_124_x_x M70_ o72_ 11 4 (zr_wide (show 11 ≤ Int32.toInt 11 ∧ Int32.toInt 11 ≤ 11 from (by decide)) (by decide) (by decide)) (zr_wide (show 4 ≤ Int32.toInt 4 ∧ Int32.toInt 4 ≤ 4 from (by decide)) (by decide) (by decide)) (show Int32.toInt 11 + Int32.toInt 4 ≤ 15 from (by omega)) d) (fun x76_ M77_ b78_ o79_ g80_ => ?_)
          have f81_ : pvFr fp_X10_takesHead_124_x M M77_ := pvfr_t g80_ f73_ fp_X10_takesHead_124_x_fp_X10_takesWord_124_x_x
          exact pw_ret hT rfl (r := some (pvI x76_)) (M' := M77_) ⟨pv01 b78_, rfl, rfl⟩ ⟨⟨_, rfl, b78_⟩, o79_, f81_⟩
def fpL_X10_takesNumber_124 : List (Nat × Nat × Nat) := [(0, 124, 18), (0, 124, 19)]
def fp_X10_takesNumber_124 (q k : Nat) : Bool := pvfp fpL_X10_takesNumber_124 q k
set_option maxHeartbeats 4000000 in
set_option maxRecDepth 10000 in
theorem sf_X10_takesNumber_124 (M : pvM) (hok : pvOk M) (d : Nat) : PW 86 d (0, [some (pvR 124), none], [], M) (fun r X => (∃ x : Int32, r = some (pvI x) ∧ 0 ≤ Int32.toInt x ∧ Int32.toInt x ≤ 1) ∧ pvOk X ∧ pvFr fp_X10_takesNumber_124 M X) := by
  have hT : pvdom 86 = pvD_86 := rfl
  refine pw_blk hT 1 (S' := (1, [some (pvR 124), none], [pvR 124], M)) rfl ⟨trivial, trivial⟩ ?_
  refine pw_callT hT (as := [pvR 124]) (lo1 := [some (pvR 124)]) (d1 := d) (rest := []) rfl rfl rfl rfl rfl (fun _ => rfl) (Nat.zero_le _) rfl rfl rfl (sf_X10_isDigit_124 M hok d) ?_
  have b6_ : 0 ≤ Int32.toInt (M.1 124 16) ∧ Int32.toInt (M.1 124 16) ≤ 100 := pvok_r hok 124 16 rfl
  have b7_ : 0 ≤ Int32.toInt (M.1 124 17) ∧ Int32.toInt (M.1 124 17) ≤ 100 := pvok_r hok 124 17 rfl
  by_cases c8_ : (M.1 124 16) ≤ (M.1 124 17)
  · refine pw_eqI (if_pos c8_) ?_
    have d9_ : Int32.toInt (M.1 124 16) ≤ Int32.toInt (M.1 124 17) := (zi_le _ _).mp c8_
    show PW 86 d (4, [some (pvR 124), none], [pvI 0], M) _
    refine pw_ifn hT (c := 0 = 0) rfl rfl (fun c10_ => absurd (by decide) c10_) (fun c10_ => ?_)
    refine pw_blk hT 1 (S' := (8, [some (pvR 124), none], [pvI 0], M)) rfl ⟨trivial, trivial⟩ ?_
    exact pw_ret hT rfl (r := some (pvI 0)) (M' := M) ⟨Or.inl rfl, rfl, rfl⟩ ⟨⟨_, rfl, (zr_wide (show 0 ≤ Int32.toInt 0 ∧ Int32.toInt 0 ≤ 0 from (by decide)) (by decide) (by decide))⟩, hok, pvfr_0⟩
  · refine pw_eqI (if_neg c8_) ?_
    have b11_ : 1 ≤ Int32.toInt (M.1 124 16) ∧ Int32.toInt (M.1 124 16) ≤ 100 := zr_nle_l 1 c8_ b6_ b7_ (by decide)
    have b12_ : 0 ≤ Int32.toInt (M.1 124 17) ∧ Int32.toInt (M.1 124 17) ≤ 99 := zr_nle_r 99 c8_ b7_ b11_ (by decide)
    have d13_ : Int32.toInt (M.1 124 16) > Int32.toInt (M.1 124 17) := Int.not_le.mp ((not_congr (zi_le _ _)).mp c8_)
    have b14_ : 0 ≤ Int32.toInt (M.1 132 (Int32.toNatClampNeg (M.1 124 17))) ∧ Int32.toInt (M.1 132 (Int32.toNatClampNeg (M.1 124 17))) ≤ 127 := pvok_r hok 132 (Int32.toNatClampNeg (M.1 124 17)) rfl
    by_cases c15_ : (M.1 132 (Int32.toNatClampNeg (M.1 124 17))) < 48
    · refine pw_eqI (if_pos c15_) ?_
      have b16_ : 0 ≤ Int32.toInt (M.1 132 (Int32.toNatClampNeg (M.1 124 17))) ∧ Int32.toInt (M.1 132 (Int32.toNatClampNeg (M.1 124 17))) ≤ 47 := zr_lt_l 47 c15_ b14_ (show 48 ≤ Int32.toInt 48 ∧ Int32.toInt 48 ≤ 48 from (by decide)) (by decide)
      show PW 86 d (4, [some (pvR 124), none], [pvI 0], M) _
      refine pw_ifn hT (c := 0 = 0) rfl rfl (fun c17_ => absurd (by decide) c17_) (fun c17_ => ?_)
      refine pw_blk hT 1 (S' := (8, [some (pvR 124), none], [pvI 0], M)) rfl ⟨trivial, trivial⟩ ?_
      exact pw_ret hT rfl (r := some (pvI 0)) (M' := M) ⟨Or.inl rfl, rfl, rfl⟩ ⟨⟨_, rfl, (zr_wide (show 0 ≤ Int32.toInt 0 ∧ Int32.toInt 0 ≤ 0 from (by decide)) (by decide) (by decide))⟩, hok, pvfr_0⟩
    · refine pw_eqI (if_neg c15_) ?_
      have b18_ : 48 ≤ Int32.toInt (M.1 132 (Int32.toNatClampNeg (M.1 124 17))) ∧ Int32.toInt (M.1 132 (Int32.toNatClampNeg (M.1 124 17))) ≤ 127 := zr_nlt_l 48 c15_ b14_ (show 48 ≤ Int32.toInt 48 ∧ Int32.toInt 48 ≤ 48 from (by decide)) (by decide)
      by_cases c19_ : 57 < (M.1 132 (Int32.toNatClampNeg (M.1 124 17)))
      · refine pw_eqI (if_pos c19_) ?_
        have b20_ : 58 ≤ Int32.toInt (M.1 132 (Int32.toNatClampNeg (M.1 124 17))) ∧ Int32.toInt (M.1 132 (Int32.toNatClampNeg (M.1 124 17))) ≤ 127 := zr_lt_r 58 c19_ b18_ (show 57 ≤ Int32.toInt 57 ∧ Int32.toInt 57 ≤ 57 from (by decide)) (by decide)
        show PW 86 d (4, [some (pvR 124), none], [pvI 0], M) _
        refine pw_ifn hT (c := 0 = 0) rfl rfl (fun c21_ => absurd (by decide) c21_) (fun c21_ => ?_)
        refine pw_blk hT 1 (S' := (8, [some (pvR 124), none], [pvI 0], M)) rfl ⟨trivial, trivial⟩ ?_
        exact pw_ret hT rfl (r := some (pvI 0)) (M' := M) ⟨Or.inl rfl, rfl, rfl⟩ ⟨⟨_, rfl, (zr_wide (show 0 ≤ Int32.toInt 0 ∧ Int32.toInt 0 ≤ 0 from (by decide)) (by decide) (by decide))⟩, hok, pvfr_0⟩
      · refine pw_eqI (if_neg c19_) ?_
        have b22_ : 48 ≤ Int32.toInt (M.1 132 (Int32.toNatClampNeg (M.1 124 17))) ∧ Int32.toInt (M.1 132 (Int32.toNatClampNeg (M.1 124 17))) ≤ 57 := zr_nlt_r 57 c19_ b18_ (show 57 ≤ Int32.toInt 57 ∧ Int32.toInt 57 ≤ 57 from (by decide)) (by decide)
        show PW 86 d (4, [some (pvR 124), none], [pvI 1], M) _
        refine pw_ifn hT (c := 1 = 0) rfl rfl (fun c23_ => ?_) (fun c23_ => absurd c23_ (by decide))
        refine pw_blkw hT 3 (pc := 14) (lo := [some (pvR 124), none]) (st := []) (M := pvu M 124 18 0) rfl ⟨trivial, trivial, rfl, trivial⟩ (fun M24_ e25_ => ?_)
        have o26_ : pvOk M24_ := pvok_u2 e25_ hok rfl (zr_wide (show 0 ≤ Int32.toInt 0 ∧ Int32.toInt 0 ≤ 0 from (by decide)) (by decide) (by decide))
        have f27_ : pvFr fp_X10_takesNumber_124 M M24_ := pvfr_u e25_ pvfr_0 rfl
        refine pw_blk hT 2 (S' := (16, [some (pvR 124), some (pvI 0)], [], M24_)) rfl ⟨trivial, trivial, trivial⟩ ?_
        refine pw_blk hT 2 (S' := (18, [some (pvR 124), some (pvI 0)], [pvI 2, pvI 0], M24_)) rfl ⟨trivial, trivial, trivial⟩ ?_
        refine pw_ic hT (c := 2 ≤ 0) rfl rfl (fun c28_ => absurd c28_ (by decide)) (fun c28_ => ?_)
        refine pw_blk hT 1 (S' := (22, [some (pvR 124), some (pvI 0)], [pvR 124], M24_)) rfl ⟨trivial, trivial⟩ ?_
        refine pw_callT hT (as := [pvR 124]) (lo1 := [some (pvR 124)]) (d1 := d) (rest := []) rfl rfl rfl rfl rfl (fun _ => rfl) (Nat.zero_le _) rfl rfl rfl (sf_X10_isDigit_124 M24_ o26_ d) ?_
        have e34_ : (M24_.1 124 16) = (M.1 124 16) := (pvu_n e25_ 124 16 (Or.inr (by decide)))
        have b35_ : 1 ≤ Int32.toInt (M24_.1 124 16) ∧ Int32.toInt (M24_.1 124 16) ≤ 100 := (by rw [e34_]; exact b11_)
        have e36_ : (M24_.1 124 17) = (M.1 124 17) := (pvu_n e25_ 124 17 (Or.inr (by decide)))
        have b37_ : 0 ≤ Int32.toInt (M24_.1 124 17) ∧ Int32.toInt (M24_.1 124 17) ≤ 99 := (by rw [e36_]; exact b12_)
        by_cases c38_ : (M24_.1 124 16) ≤ (M24_.1 124 17)
        · refine pw_eqI (if_pos c38_) ?_
          have b39_ : 1 ≤ Int32.toInt (M24_.1 124 16) ∧ Int32.toInt (M24_.1 124 16) ≤ 99 := zr_le_l 99 c38_ b35_ b37_ (by decide)
          have b40_ : 1 ≤ Int32.toInt (M24_.1 124 17) ∧ Int32.toInt (M24_.1 124 17) ≤ 99 := zr_le_r 1 c38_ b37_ b39_ (by decide)
          have d41_ : Int32.toInt (M24_.1 124 16) ≤ Int32.toInt (M24_.1 124 17) := (zi_le _ _).mp c38_
          show PW 86 d (25, [some (pvR 124), some (pvI 0)], [pvI 0], M24_) _
          refine pw_if hT (c := 0 = 0) rfl rfl (fun c42_ => ?_) (fun c42_ => absurd (by decide) c42_)
          refine pw_blk hT 1 (S' := (64, [some (pvR 124), some (pvI 0)], [pvI 1], M24_)) rfl ⟨trivial, trivial⟩ ?_
          exact pw_ret hT rfl (r := some (pvI 1)) (M' := M24_) ⟨Or.inr rfl, rfl, rfl⟩ ⟨⟨_, rfl, (zr_wide (show 1 ≤ Int32.toInt 1 ∧ Int32.toInt 1 ≤ 1 from (by decide)) (by decide) (by decide))⟩, o26_, f27_⟩
        · refine pw_eqI (if_neg c38_) ?_
          have d43_ : Int32.toInt (M24_.1 124 16) > Int32.toInt (M24_.1 124 17) := Int.not_le.mp ((not_congr (zi_le _ _)).mp c38_)
          have b44_ : 0 ≤ Int32.toInt (M24_.1 132 (Int32.toNatClampNeg (M24_.1 124 17))) ∧ Int32.toInt (M24_.1 132 (Int32.toNatClampNeg (M24_.1 124 17))) ≤ 127 := pvok_r o26_ 132 (Int32.toNatClampNeg (M24_.1 124 17)) rfl
          by_cases c45_ : (M24_.1 132 (Int32.toNatClampNeg (M24_.1 124 17))) < 48
          · refine pw_eqI (if_pos c45_) ?_
            have b46_ : 0 ≤ Int32.toInt (M24_.1 132 (Int32.toNatClampNeg (M24_.1 124 17))) ∧ Int32.toInt (M24_.1 132 (Int32.toNatClampNeg (M24_.1 124 17))) ≤ 47 := zr_lt_l 47 c45_ b44_ (show 48 ≤ Int32.toInt 48 ∧ Int32.toInt 48 ≤ 48 from (by decide)) (by decide)
            show PW 86 d (25, [some (pvR 124), some (pvI 0)], [pvI 0], M24_) _
            refine pw_if hT (c := 0 = 0) rfl rfl (fun c47_ => ?_) (fun c47_ => absurd (by decide) c47_)
            refine pw_blk hT 1 (S' := (64, [some (pvR 124), some (pvI 0)], [pvI 1], M24_)) rfl ⟨trivial, trivial⟩ ?_
            exact pw_ret hT rfl (r := some (pvI 1)) (M' := M24_) ⟨Or.inr rfl, rfl, rfl⟩ ⟨⟨_, rfl, (zr_wide (show 1 ≤ Int32.toInt 1 ∧ Int32.toInt 1 ≤ 1 from (by decide)) (by decide) (by decide))⟩, o26_, f27_⟩
          · refine pw_eqI (if_neg c45_) ?_
            have b48_ : 48 ≤ Int32.toInt (M24_.1 132 (Int32.toNatClampNeg (M24_.1 124 17))) ∧ Int32.toInt (M24_.1 132 (Int32.toNatClampNeg (M24_.1 124 17))) ≤ 127 := zr_nlt_l 48 c45_ b44_ (show 48 ≤ Int32.toInt 48 ∧ Int32.toInt 48 ≤ 48 from (by decide)) (by decide)
            by_cases c49_ : 57 < (M24_.1 132 (Int32.toNatClampNeg (M24_.1 124 17)))
            · refine pw_eqI (if_pos c49_) ?_
              have b50_ : 58 ≤ Int32.toInt (M24_.1 132 (Int32.toNatClampNeg (M24_.1 124 17))) ∧ Int32.toInt (M24_.1 132 (Int32.toNatClampNeg (M24_.1 124 17))) ≤ 127 := zr_lt_r 58 c49_ b48_ (show 57 ≤ Int32.toInt 57 ∧ Int32.toInt 57 ≤ 57 from (by decide)) (by decide)
              show PW 86 d (25, [some (pvR 124), some (pvI 0)], [pvI 0], M24_) _
              refine pw_if hT (c := 0 = 0) rfl rfl (fun c51_ => ?_) (fun c51_ => absurd (by decide) c51_)
              refine pw_blk hT 1 (S' := (64, [some (pvR 124), some (pvI 0)], [pvI 1], M24_)) rfl ⟨trivial, trivial⟩ ?_
              exact pw_ret hT rfl (r := some (pvI 1)) (M' := M24_) ⟨Or.inr rfl, rfl, rfl⟩ ⟨⟨_, rfl, (zr_wide (show 1 ≤ Int32.toInt 1 ∧ Int32.toInt 1 ≤ 1 from (by decide)) (by decide) (by decide))⟩, o26_, f27_⟩
            · refine pw_eqI (if_neg c49_) ?_
              have b52_ : 48 ≤ Int32.toInt (M24_.1 132 (Int32.toNatClampNeg (M24_.1 124 17))) ∧ Int32.toInt (M24_.1 132 (Int32.toNatClampNeg (M24_.1 124 17))) ≤ 57 := zr_nlt_r 57 c49_ b48_ (show 57 ≤ Int32.toInt 57 ∧ Int32.toInt 57 ≤ 57 from (by decide)) (by decide)
              show PW 86 d (25, [some (pvR 124), some (pvI 0)], [pvI 1], M24_) _
              refine pw_if hT (c := 1 = 0) rfl rfl (fun c53_ => absurd c53_ (by decide)) (fun c53_ => ?_)
              have e54_ : (M24_.1 124 18) = 0 := (pvu_s e25_)
              have b55_ : 0 ≤ Int32.toInt (M24_.1 124 18) ∧ Int32.toInt (M24_.1 124 18) ≤ 0 := (by rw [e54_]; exact (show 0 ≤ Int32.toInt 0 ∧ Int32.toInt 0 ≤ 0 from (by decide)))
              have q56_ : Int32.toInt (10 * (M24_.1 124 18)) = 10 * Int32.toInt (M24_.1 124 18) := by have u0 : Int32.toInt 10 = 10 := (by decide); have u1 := b55_; have u2 := zmul 10 (M24_.1 124 18) (by rw [u0]; omega) (by rw [u0]; omega); rw [u0] at u2; omega
              have b57_ : 0 ≤ Int32.toInt (10 * (M24_.1 124 18)) ∧ Int32.toInt (10 * (M24_.1 124 18)) ≤ 0 := (by have u1 := b55_; omega)
              refine pw_blk hT 6 (S' := (37, [some (pvR 124), some (pvI 0)], [pvR 124, pvI (10 * (M24_.1 124 18)), pvR 124], M24_)) rfl ⟨trivial, trivial, trivial, rfl, trivial, trivial, trivial⟩ ?_
              refine pw_callT hT (as := [pvR 124]) (lo1 := [some (pvR 124)]) (d1 := d) (rest := [pvI (10 * (M24_.1 124 18)), pvR 124]) rfl rfl rfl rfl rfl (fun _ => rfl) (Nat.zero_le _) rfl rfl rfl (sf_X10_peek_124 M24_ o26_ d) ?_
              refine pw_eqI (if_neg c38_) ?_
              show PW 86 d (40, [some (pvR 124), some (pvI 0)], [pvI (M24_.1 132 (Int32.toNatClampNeg (M24_.1 124 17))), pvI (10 * (M24_.1 124 18)), pvR 124], M24_) _
              obtain ⟨q64_, b63_⟩ : (Int32.toInt ((10 * (M24_.1 124 18)) + (M24_.1 132 (Int32.toNatClampNeg (M24_.1 124 17)))) = Int32.toInt (10 * (M24_.1 124 18)) + Int32.toInt (M24_.1 132 (Int32.toNatClampNeg (M24_.1 124 17)))) ∧ (48 ≤ Int32.toInt ((10 * (M24_.1 124 18)) + (M24_.1 132 (Int32.toNatClampNeg (M24_.1 124 17)))) ∧ Int32.toInt ((10 * (M24_.1 124 18)) + (M24_.1 132 (Int32.toNatClampNeg (M24_.1 124 17)))) ≤ 57) := zadd_r (10 * (M24_.1 124 18)) (M24_.1 132 (Int32.toNatClampNeg (M24_.1 124 17))) 48 57 b57_ b52_ (by decide) (by decide) (by decide) (by decide)
              obtain ⟨q66_, b65_⟩ : (Int32.toInt (((10 * (M24_.1 124 18)) + (M24_.1 132 (Int32.toNatClampNeg (M24_.1 124 17)))) - 48) = Int32.toInt ((10 * (M24_.1 124 18)) + (M24_.1 132 (Int32.toNatClampNeg (M24_.1 124 17)))) - 48) ∧ (0 ≤ Int32.toInt (((10 * (M24_.1 124 18)) + (M24_.1 132 (Int32.toNatClampNeg (M24_.1 124 17)))) - 48) ∧ Int32.toInt (((10 * (M24_.1 124 18)) + (M24_.1 132 (Int32.toNatClampNeg (M24_.1 124 17)))) - 48) ≤ 9) := zsub_k ((10 * (M24_.1 124 18)) + (M24_.1 132 (Int32.toNatClampNeg (M24_.1 124 17)))) 48 48 0 9 b63_ (by decide) (by decide) (by decide) (by decide) (by decide)
              refine pw_blkw hT 4 (pc := 47) (lo := [some (pvR 124), some (pvI 0)]) (st := []) (M := pvu M24_ 124 18 (((10 * (M24_.1 124 18)) + (M24_.1 132 (Int32.toNatClampNeg (M24_.1 124 17)))) - 48)) rfl ⟨trivial, trivial, trivial, rfl, trivial⟩ (fun M67_ e68_ => ?_)
              have o69_ : pvOk M67_ := pvok_u2 e68_ o26_ rfl (zr_wide b65_ (by decide) (by decide))
              have f70_ : pvFr fp_X10_takesNumber_124 M M67_ := pvfr_u e68_ f27_ rfl
              have e71_ : (M67_.1 124 17) = (M24_.1 124 17) := (pvu_n e68_ 124 17 (Or.inr (by decide)))
              have b72_ : 0 ≤ Int32.toInt (M67_.1 124 17) ∧ Int32.toInt (M67_.1 124 17) ≤ 99 := (by rw [e71_]; exact b37_)
              obtain ⟨q74_, b73_⟩ : (Int32.toInt ((M67_.1 124 17) + 1) = Int32.toInt (M67_.1 124 17) + 1) ∧ (1 ≤ Int32.toInt ((M67_.1 124 17) + 1) ∧ Int32.toInt ((M67_.1 124 17) + 1) ≤ 100) := zadd_k (M67_.1 124 17) 1 1 1 100 b72_ (by decide) (by decide) (by decide) (by decide) (by decide)
              refine pw_blkw hT 6 (pc := 57) (lo := [some (pvR 124), some (pvI 0)]) (st := []) (M := pvu M67_ 124 17 ((M67_.1 124 17) + 1)) rfl ⟨trivial, trivial, rfl, trivial, trivial, rfl, trivial⟩ (fun M75_ e76_ => ?_)
              have o77_ : pvOk M75_ := pvok_u2 e76_ o69_ rfl (zr_wide b73_ (by decide) (by decide))
              have f78_ : pvFr fp_X10_takesNumber_124 M M75_ := pvfr_u e76_ f70_ rfl
              refine pw_blk hT 2 (S' := (16, [some (pvR 124), some (pvI (0 + 1))], [], M75_)) rfl ⟨trivial, trivial, trivial⟩ ?_
              refine pw_blk hT 2 (S' := (18, [some (pvR 124), some (pvI (0 + 1))], [pvI 2, pvI (0 + 1)], M75_)) rfl ⟨trivial, trivial, trivial⟩ ?_
              refine pw_ic hT (c := 2 ≤ (0 + 1)) rfl rfl (fun c79_ => absurd c79_ (by decide)) (fun c79_ => ?_)
              refine pw_blk hT 1 (S' := (22, [some (pvR 124), some (pvI (0 + 1))], [pvR 124], M75_)) rfl ⟨trivial, trivial⟩ ?_
              refine pw_callT hT (as := [pvR 124]) (lo1 := [some (pvR 124)]) (d1 := d) (rest := []) rfl rfl rfl rfl rfl (fun _ => rfl) (Nat.zero_le _) rfl rfl rfl (sf_X10_isDigit_124 M75_ o77_ d) ?_
              have e85_ : (M75_.1 124 16) = (M24_.1 124 16) := ((pvu_n e76_ 124 16 (Or.inr (by decide))).trans (pvu_n e68_ 124 16 (Or.inr (by decide))))
              have b86_ : 1 ≤ Int32.toInt (M75_.1 124 16) ∧ Int32.toInt (M75_.1 124 16) ≤ 100 := (by rw [e85_]; exact b35_)
              have e87_ : (M75_.1 124 17) = ((M67_.1 124 17) + 1) := (pvu_s e76_)
              have b88_ : 1 ≤ Int32.toInt (M75_.1 124 17) ∧ Int32.toInt (M75_.1 124 17) ≤ 100 := (by rw [e87_]; exact b73_)
              by_cases c89_ : (M75_.1 124 16) ≤ (M75_.1 124 17)
              · refine pw_eqI (if_pos c89_) ?_
                have d90_ : Int32.toInt (M75_.1 124 16) ≤ Int32.toInt (M75_.1 124 17) := (zi_le _ _).mp c89_
                show PW 86 d (25, [some (pvR 124), some (pvI (0 + 1))], [pvI 0], M75_) _
                refine pw_if hT (c := 0 = 0) rfl rfl (fun c91_ => ?_) (fun c91_ => absurd (by decide) c91_)
                refine pw_blk hT 1 (S' := (64, [some (pvR 124), some (pvI (0 + 1))], [pvI 1], M75_)) rfl ⟨trivial, trivial⟩ ?_
                exact pw_ret hT rfl (r := some (pvI 1)) (M' := M75_) ⟨Or.inr rfl, rfl, rfl⟩ ⟨⟨_, rfl, (zr_wide (show 1 ≤ Int32.toInt 1 ∧ Int32.toInt 1 ≤ 1 from (by decide)) (by decide) (by decide))⟩, o77_, f78_⟩
              · refine pw_eqI (if_neg c89_) ?_
                have b92_ : 2 ≤ Int32.toInt (M75_.1 124 16) ∧ Int32.toInt (M75_.1 124 16) ≤ 100 := zr_nle_l 2 c89_ b86_ b88_ (by decide)
                have b93_ : 1 ≤ Int32.toInt (M75_.1 124 17) ∧ Int32.toInt (M75_.1 124 17) ≤ 99 := zr_nle_r 99 c89_ b88_ b92_ (by decide)
                have d94_ : Int32.toInt (M75_.1 124 16) > Int32.toInt (M75_.1 124 17) := Int.not_le.mp ((not_congr (zi_le _ _)).mp c89_)
                have b95_ : 0 ≤ Int32.toInt (M75_.1 132 (Int32.toNatClampNeg (M75_.1 124 17))) ∧ Int32.toInt (M75_.1 132 (Int32.toNatClampNeg (M75_.1 124 17))) ≤ 127 := pvok_r o77_ 132 (Int32.toNatClampNeg (M75_.1 124 17)) rfl
                by_cases c96_ : (M75_.1 132 (Int32.toNatClampNeg (M75_.1 124 17))) < 48
                · refine pw_eqI (if_pos c96_) ?_
                  have b97_ : 0 ≤ Int32.toInt (M75_.1 132 (Int32.toNatClampNeg (M75_.1 124 17))) ∧ Int32.toInt (M75_.1 132 (Int32.toNatClampNeg (M75_.1 124 17))) ≤ 47 := zr_lt_l 47 c96_ b95_ (show 48 ≤ Int32.toInt 48 ∧ Int32.toInt 48 ≤ 48 from (by decide)) (by decide)
                  show PW 86 d (25, [some (pvR 124), some (pvI (0 + 1))], [pvI 0], M75_) _
                  refine pw_if hT (c := 0 = 0) rfl rfl (fun c98_ => ?_) (fun c98_ => absurd (by decide) c98_)
                  refine pw_blk hT 1 (S' := (64, [some (pvR 124), some (pvI (0 + 1))], [pvI 1], M75_)) rfl ⟨trivial, trivial⟩ ?_
                  exact pw_ret hT rfl (r := some (pvI 1)) (M' := M75_) ⟨Or.inr rfl, rfl, rfl⟩ ⟨⟨_, rfl, (zr_wide (show 1 ≤ Int32.toInt 1 ∧ Int32.toInt 1 ≤ 1 from (by decide)) (by decide) (by decide))⟩, o77_, f78_⟩
                · refine pw_eqI (if_neg c96_) ?_
                  have b99_ : 48 ≤ Int32.toInt (M75_.1 132 (Int32.toNatClampNeg (M75_.1 124 17))) ∧ Int32.toInt (M75_.1 132 (Int32.toNatClampNeg (M75_.1 124 17))) ≤ 127 := zr_nlt_l 48 c96_ b95_ (show 48 ≤ Int32.toInt 48 ∧ Int32.toInt 48 ≤ 48 from (by decide)) (by decide)
                  by_cases c100_ : 57 < (M75_.1 132 (Int32.toNatClampNeg (M75_.1 124 17)))
                  · refine pw_eqI (if_pos c100_) ?_
                    have b101_ : 58 ≤ Int32.toInt (M75_.1 132 (Int32.toNatClampNeg (M75_.1 124 17))) ∧ Int32.toInt (M75_.1 132 (Int32.toNatClampNeg (M75_.1 124 17))) ≤ 127 := zr_lt_r 58 c100_ b99_ (show 57 ≤ Int32.toInt 57 ∧ Int32.toInt 57 ≤ 57 from (by decide)) (by decide)
                    show PW 86 d (25, [some (pvR 124), some (pvI (0 + 1))], [pvI 0], M75_) _
                    refine pw_if hT (c := 0 = 0) rfl rfl (fun c102_ => ?_) (fun c102_ => absurd (by decide) c102_)
                    refine pw_blk hT 1 (S' := (64, [some (pvR 124), some (pvI (0 + 1))], [pvI 1], M75_)) rfl ⟨trivial, trivial⟩ ?_
                    exact pw_ret hT rfl (r := some (pvI 1)) (M' := M75_) ⟨Or.inr rfl, rfl, rfl⟩ ⟨⟨_, rfl, (zr_wide (show 1 ≤ Int32.toInt 1 ∧ Int32.toInt 1 ≤ 1 from (by decide)) (by decide) (by decide))⟩, o77_, f78_⟩
                  · refine pw_eqI (if_neg c100_) ?_
                    have b103_ : 48 ≤ Int32.toInt (M75_.1 132 (Int32.toNatClampNeg (M75_.1 124 17))) ∧ Int32.toInt (M75_.1 132 (Int32.toNatClampNeg (M75_.1 124 17))) ≤ 57 := zr_nlt_r 57 c100_ b99_ (show 57 ≤ Int32.toInt 57 ∧ Int32.toInt 57 ≤ 57 from (by decide)) (by decide)
                    show PW 86 d (25, [some (pvR 124), some (pvI (0 + 1))], [pvI 1], M75_) _
                    refine pw_if hT (c := 1 = 0) rfl rfl (fun c104_ => absurd c104_ (by decide)) (fun c104_ => ?_)
                    have e105_ : (M75_.1 124 18) = (((10 * (M24_.1 124 18)) + (M24_.1 132 (Int32.toNatClampNeg (M24_.1 124 17)))) - 48) := ((pvu_n e76_ 124 18 (Or.inr (by decide))).trans (pvu_s e68_))
                    have b106_ : 0 ≤ Int32.toInt (M75_.1 124 18) ∧ Int32.toInt (M75_.1 124 18) ≤ 9 := (by rw [e105_]; exact b65_)
                    have q107_ : Int32.toInt (10 * (M75_.1 124 18)) = 10 * Int32.toInt (M75_.1 124 18) := by have u0 : Int32.toInt 10 = 10 := (by decide); have u1 := b106_; have u2 := zmul 10 (M75_.1 124 18) (by rw [u0]; omega) (by rw [u0]; omega); rw [u0] at u2; omega
                    have b108_ : 0 ≤ Int32.toInt (10 * (M75_.1 124 18)) ∧ Int32.toInt (10 * (M75_.1 124 18)) ≤ 90 := (by have u1 := b106_; omega)
                    refine pw_blk hT 6 (S' := (37, [some (pvR 124), some (pvI (0 + 1))], [pvR 124, pvI (10 * (M75_.1 124 18)), pvR 124], M75_)) rfl ⟨trivial, trivial, trivial, rfl, trivial, trivial, trivial⟩ ?_
                    refine pw_callT hT (as := [pvR 124]) (lo1 := [some (pvR 124)]) (d1 := d) (rest := [pvI (10 * (M75_.1 124 18)), pvR 124]) rfl rfl rfl rfl rfl (fun _ => rfl) (Nat.zero_le _) rfl rfl rfl (sf_X10_peek_124 M75_ o77_ d) ?_
                    refine pw_eqI (if_neg c89_) ?_
                    show PW 86 d (40, [some (pvR 124), some (pvI (0 + 1))], [pvI (M75_.1 132 (Int32.toNatClampNeg (M75_.1 124 17))), pvI (10 * (M75_.1 124 18)), pvR 124], M75_) _
                    obtain ⟨q115_, b114_⟩ : (Int32.toInt ((10 * (M75_.1 124 18)) + (M75_.1 132 (Int32.toNatClampNeg (M75_.1 124 17)))) = Int32.toInt (10 * (M75_.1 124 18)) + Int32.toInt (M75_.1 132 (Int32.toNatClampNeg (M75_.1 124 17)))) ∧ (48 ≤ Int32.toInt ((10 * (M75_.1 124 18)) + (M75_.1 132 (Int32.toNatClampNeg (M75_.1 124 17)))) ∧ Int32.toInt ((10 * (M75_.1 124 18)) + (M75_.1 132 (Int32.toNatClampNeg (M75_.1 124 17)))) ≤ 147) := zadd_r (10 * (M75_.1 124 18)) (M75_.1 132 (Int32.toNatClampNeg (M75_.1 124 17))) 48 147 b108_ b103_ (by decide) (by decide) (by decide) (by decide)
                    obtain ⟨q117_, b116_⟩ : (Int32.toInt (((10 * (M75_.1 124 18)) + (M75_.1 132 (Int32.toNatClampNeg (M75_.1 124 17)))) - 48) = Int32.toInt ((10 * (M75_.1 124 18)) + (M75_.1 132 (Int32.toNatClampNeg (M75_.1 124 17)))) - 48) ∧ (0 ≤ Int32.toInt (((10 * (M75_.1 124 18)) + (M75_.1 132 (Int32.toNatClampNeg (M75_.1 124 17)))) - 48) ∧ Int32.toInt (((10 * (M75_.1 124 18)) + (M75_.1 132 (Int32.toNatClampNeg (M75_.1 124 17)))) - 48) ≤ 99) := zsub_k ((10 * (M75_.1 124 18)) + (M75_.1 132 (Int32.toNatClampNeg (M75_.1 124 17)))) 48 48 0 99 b114_ (by decide) (by decide) (by decide) (by decide) (by decide)
                    refine pw_blkw hT 4 (pc := 47) (lo := [some (pvR 124), some (pvI (0 + 1))]) (st := []) (M := pvu M75_ 124 18 (((10 * (M75_.1 124 18)) + (M75_.1 132 (Int32.toNatClampNeg (M75_.1 124 17)))) - 48)) rfl ⟨trivial, trivial, trivial, rfl, trivial⟩ (fun M118_ e119_ => ?_)
                    have o120_ : pvOk M118_ := pvok_u2 e119_ o77_ rfl b116_
                    have f121_ : pvFr fp_X10_takesNumber_124 M M118_ := pvfr_u e119_ f78_ rfl
                    have e122_ : (M118_.1 124 17) = (M75_.1 124 17) := (pvu_n e119_ 124 17 (Or.inr (by decide)))
                    have b123_ : 1 ≤ Int32.toInt (M118_.1 124 17) ∧ Int32.toInt (M118_.1 124 17) ≤ 99 := (by rw [e122_]; exact b93_)
                    obtain ⟨q125_, b124_⟩ : (Int32.toInt ((M118_.1 124 17) + 1) = Int32.toInt (M118_.1 124 17) + 1) ∧ (2 ≤ Int32.toInt ((M118_.1 124 17) + 1) ∧ Int32.toInt ((M118_.1 124 17) + 1) ≤ 100) := zadd_k (M118_.1 124 17) 1 1 2 100 b123_ (by decide) (by decide) (by decide) (by decide) (by decide)
                    refine pw_blkw hT 6 (pc := 57) (lo := [some (pvR 124), some (pvI (0 + 1))]) (st := []) (M := pvu M118_ 124 17 ((M118_.1 124 17) + 1)) rfl ⟨trivial, trivial, rfl, trivial, trivial, rfl, trivial⟩ (fun M126_ e127_ => ?_)
                    have o128_ : pvOk M126_ := pvok_u2 e127_ o120_ rfl (zr_wide b124_ (by decide) (by decide))
                    have f129_ : pvFr fp_X10_takesNumber_124 M M126_ := pvfr_u e127_ f121_ rfl
                    refine pw_blk hT 2 (S' := (16, [some (pvR 124), some (pvI ((0 + 1) + 1))], [], M126_)) rfl ⟨trivial, trivial, trivial⟩ ?_
                    refine pw_blk hT 2 (S' := (18, [some (pvR 124), some (pvI ((0 + 1) + 1))], [pvI 2, pvI ((0 + 1) + 1)], M126_)) rfl ⟨trivial, trivial, trivial⟩ ?_
                    refine pw_ic hT (c := 2 ≤ ((0 + 1) + 1)) rfl rfl (fun c130_ => ?_) (fun c130_ => absurd (by decide) c130_)
                    refine pw_blk hT 1 (S' := (64, [some (pvR 124), some (pvI ((0 + 1) + 1))], [pvI 1], M126_)) rfl ⟨trivial, trivial⟩ ?_
                    exact pw_ret hT rfl (r := some (pvI 1)) (M' := M126_) ⟨Or.inr rfl, rfl, rfl⟩ ⟨⟨_, rfl, (zr_wide (show 1 ≤ Int32.toInt 1 ∧ Int32.toInt 1 ≤ 1 from (by decide)) (by decide) (by decide))⟩, o128_, f129_⟩
def fpL_X10_tape_124_x_x_x : List (Nat × Nat × Nat) := [(0, 164, 0), (0, 165, 0)]
def fp_X10_tape_124_x_x_x (q k : Nat) : Bool := pvfp fpL_X10_tape_124_x_x_x q k
set_option maxHeartbeats 4000000 in
set_option maxRecDepth 10000 in
theorem sf_X10_tape_124_x_x_x (M : pvM) (hok : pvOk M) (n1 : Int32) (n2 : Int32) (n3 : Int32) (d : Nat) : PW 89 d (0, [some (pvR 124), some (pvI n1), some (pvI n2), some (pvI n3), none], [], M) (fun r X => (∃ x : Int32, r = some (pvI x) ∧ (-14) ≤ Int32.toInt x ∧ Int32.toInt x ≤ 1) ∧ pvOk X ∧ pvFr fp_X10_tape_124_x_x_x M X) := by
  have hT : pvdom 89 = pvD_89 := rfl
  refine pw_blk hT 2 (S' := (2, [some (pvR 124), some (pvI n1), some (pvI n2), some (pvI n3), none], [pvI n1, pvR 124], M)) rfl ⟨trivial, trivial, trivial⟩ ?_
  refine pw_callT hT (as := [pvR 124, pvI n1]) (lo1 := [some (pvR 124), some (pvI n1)]) (d1 := d) (rest := []) rfl rfl rfl rfl rfl (fun _ => rfl) (Nat.zero_le _) rfl rfl rfl (sf_X10_isTape_124_x M hok n1 d) ?_
  by_cases c6_ : n1 < 0
  · refine pw_eqI (if_pos c6_) ?_
    have b7_ : (-2147483648) ≤ Int32.toInt n1 ∧ Int32.toInt n1 ≤ (-1) := zr_lt_l (-1) c6_ (zbnd n1) (show 0 ≤ Int32.toInt 0 ∧ Int32.toInt 0 ≤ 0 from (by decide)) (by decide)
    show PW 89 d (5, [some (pvR 124), some (pvI n1), some (pvI n2), some (pvI n3), none], [pvI 0], M) _
    refine pw_ifn hT (c := 0 = 0) rfl rfl (fun c8_ => absurd (by decide) c8_) (fun c8_ => ?_)
    refine pw_blk hT 1 (S' := (9, [some (pvR 124), some (pvI n1), some (pvI n2), some (pvI n3), none], [pvI (-1)], M)) rfl ⟨trivial, trivial⟩ ?_
    exact pw_ret hT rfl (r := some (pvI (-1))) (M' := M) ⟨rfl, rfl⟩ ⟨⟨_, rfl, (zr_wide (show (-1) ≤ Int32.toInt (-1) ∧ Int32.toInt (-1) ≤ (-1) from (by decide)) (by decide) (by decide))⟩, hok, pvfr_0⟩
  · refine pw_eqI (if_neg c6_) ?_
    have b9_ : 0 ≤ Int32.toInt n1 ∧ Int32.toInt n1 ≤ 2147483647 := zr_nlt_l 0 c6_ (zbnd n1) (show 0 ≤ Int32.toInt 0 ∧ Int32.toInt 0 ≤ 0 from (by decide)) (by decide)
    by_cases c10_ : 5 < n1
    · refine pw_eqI (if_pos c10_) ?_
      have b11_ : 6 ≤ Int32.toInt n1 ∧ Int32.toInt n1 ≤ 2147483647 := zr_lt_r 6 c10_ b9_ (show 5 ≤ Int32.toInt 5 ∧ Int32.toInt 5 ≤ 5 from (by decide)) (by decide)
      show PW 89 d (5, [some (pvR 124), some (pvI n1), some (pvI n2), some (pvI n3), none], [pvI 0], M) _
      refine pw_ifn hT (c := 0 = 0) rfl rfl (fun c12_ => absurd (by decide) c12_) (fun c12_ => ?_)
      refine pw_blk hT 1 (S' := (9, [some (pvR 124), some (pvI n1), some (pvI n2), some (pvI n3), none], [pvI (-1)], M)) rfl ⟨trivial, trivial⟩ ?_
      exact pw_ret hT rfl (r := some (pvI (-1))) (M' := M) ⟨rfl, rfl⟩ ⟨⟨_, rfl, (zr_wide (show (-1) ≤ Int32.toInt (-1) ∧ Int32.toInt (-1) ≤ (-1) from (by decide)) (by decide) (by decide))⟩, hok, pvfr_0⟩
    · refine pw_eqI (if_neg c10_) ?_
      have b13_ : 0 ≤ Int32.toInt n1 ∧ Int32.toInt n1 ≤ 5 := zr_nlt_r 5 c10_ b9_ (show 5 ≤ Int32.toInt 5 ∧ Int32.toInt 5 ≤ 5 from (by decide)) (by decide)
      show PW 89 d (5, [some (pvR 124), some (pvI n1), some (pvI n2), some (pvI n3), none], [pvI 1], M) _
      refine pw_ifn hT (c := 1 = 0) rfl rfl (fun c14_ => ?_) (fun c14_ => absurd c14_ (by decide))
      refine pw_blk hT 4 (S' := (14, [some (pvR 124), some (pvI n1), some (pvI n2), some (pvI n3), none], [pvI 4, pvI (-1), pvI n2, pvR 124], M)) rfl ⟨trivial, trivial, trivial, trivial, trivial⟩ ?_
      refine pw_callT hT (as := [pvR 124, pvI n2, pvI (-1), pvI 4]) (lo1 := [some (pvR 124), some (pvI n2), some (pvI (-1)), some (pvI 4)]) (d1 := d) (rest := []) rfl rfl rfl rfl rfl (fun _ => rfl) (Nat.zero_le _) rfl rfl rfl (sf_X10_in_124_x_x_x M hok n2 (-1) 4 d) ?_
      by_cases c20_ : n2 < (-1)
      · refine pw_eqI (if_pos c20_) ?_
        have b21_ : (-2147483648) ≤ Int32.toInt n2 ∧ Int32.toInt n2 ≤ (-2) := zr_lt_l (-2) c20_ (zbnd n2) (show (-1) ≤ Int32.toInt (-1) ∧ Int32.toInt (-1) ≤ (-1) from (by decide)) (by decide)
        show PW 89 d (17, [some (pvR 124), some (pvI n1), some (pvI n2), some (pvI n3), none], [pvI 0], M) _
        refine pw_if hT (c := 0 = 0) rfl rfl (fun c22_ => ?_) (fun c22_ => absurd (by decide) c22_)
        refine pw_blk hT 1 (S' := (32, [some (pvR 124), some (pvI n1), some (pvI n2), some (pvI n3), none], [pvI (-2)], M)) rfl ⟨trivial, trivial⟩ ?_
        exact pw_ret hT rfl (r := some (pvI (-2))) (M' := M) ⟨rfl, rfl⟩ ⟨⟨_, rfl, (zr_wide (show (-2) ≤ Int32.toInt (-2) ∧ Int32.toInt (-2) ≤ (-2) from (by decide)) (by decide) (by decide))⟩, hok, pvfr_0⟩
      · refine pw_eqI (if_neg c20_) ?_
        have b23_ : (-1) ≤ Int32.toInt n2 ∧ Int32.toInt n2 ≤ 2147483647 := zr_nlt_l (-1) c20_ (zbnd n2) (show (-1) ≤ Int32.toInt (-1) ∧ Int32.toInt (-1) ≤ (-1) from (by decide)) (by decide)
        by_cases c24_ : 4 < n2
        · refine pw_eqI (if_pos c24_) ?_
          have b25_ : 5 ≤ Int32.toInt n2 ∧ Int32.toInt n2 ≤ 2147483647 := zr_lt_r 5 c24_ b23_ (show 4 ≤ Int32.toInt 4 ∧ Int32.toInt 4 ≤ 4 from (by decide)) (by decide)
          show PW 89 d (17, [some (pvR 124), some (pvI n1), some (pvI n2), some (pvI n3), none], [pvI 0], M) _
          refine pw_if hT (c := 0 = 0) rfl rfl (fun c26_ => ?_) (fun c26_ => absurd (by decide) c26_)
          refine pw_blk hT 1 (S' := (32, [some (pvR 124), some (pvI n1), some (pvI n2), some (pvI n3), none], [pvI (-2)], M)) rfl ⟨trivial, trivial⟩ ?_
          exact pw_ret hT rfl (r := some (pvI (-2))) (M' := M) ⟨rfl, rfl⟩ ⟨⟨_, rfl, (zr_wide (show (-2) ≤ Int32.toInt (-2) ∧ Int32.toInt (-2) ≤ (-2) from (by decide)) (by decide) (by decide))⟩, hok, pvfr_0⟩
        · refine pw_eqI (if_neg c24_) ?_
          have b27_ : (-1) ≤ Int32.toInt n2 ∧ Int32.toInt n2 ≤ 4 := zr_nlt_r 4 c24_ b23_ (show 4 ≤ Int32.toInt 4 ∧ Int32.toInt 4 ≤ 4 from (by decide)) (by decide)
          show PW 89 d (17, [some (pvR 124), some (pvI n1), some (pvI n2), some (pvI n3), none], [pvI 1], M) _
          refine pw_if hT (c := 1 = 0) rfl rfl (fun c28_ => absurd c28_ (by decide)) (fun c28_ => ?_)
          refine pw_blk hT 1 (S' := (21, [some (pvR 124), some (pvI n1), some (pvI n2), some (pvI n3), none], [pvI n2], M)) rfl ⟨trivial, trivial⟩ ?_
          refine pw_if hT (c := n2 < 0) rfl rfl (fun c29_ => ?_) (fun c29_ => ?_)
          · have b30_ : (-1) ≤ Int32.toInt n2 ∧ Int32.toInt n2 ≤ (-1) := zr_lt_l (-1) c29_ b27_ (show 0 ≤ Int32.toInt 0 ∧ Int32.toInt 0 ≤ 0 from (by decide)) (by decide)
            refine pw_blk hT 1 (S' := (34, [some (pvR 124), some (pvI n1), some (pvI n2), some (pvI n3), none], [pvI n2], M)) rfl ⟨trivial, trivial⟩ ?_
            refine pw_if hT (c := n2 < 0) rfl rfl (fun c31_ => ?_) (fun c31_ => absurd c29_ c31_)
            refine pw_blkw hT 5 (pc := 51) (lo := [some (pvR 124), some (pvI n1), some (pvI n2), some (pvI n3), none]) (st := []) (M := pvu M 164 (Int32.toNatClampNeg n1) n2) rfl ⟨trivial, rfl, trivial, trivial, ⟨rfl, (zr_in (n := 6) b13_ (by decide) (by decide))⟩, trivial⟩ (fun M32_ e33_ => ?_)
            have o34_ : pvOk M32_ := pvok_u2 e33_ hok rfl (zr_wide b30_ (by decide) (by decide))
            have f35_ : pvFr fp_X10_tape_124_x_x_x M M32_ := pvfr_u e33_ pvfr_0 rfl
            refine pw_blk hT 4 (S' := (57, [some (pvR 124), some (pvI n1), some (pvI n2), some (pvI n3), none], [pvI n2, pvI n1, pvR 165], M32_)) rfl ⟨trivial, rfl, trivial, trivial, trivial⟩ ?_
            refine pw_if hT (c := 0 ≤ n2) rfl rfl (fun c36_ => absurd c36_ (by have z0 := (show 0 ≤ Int32.toInt 0 ∧ Int32.toInt 0 ≤ 0 from (by decide)); have z1 := b30_; rw [zi_le]; omega)) (fun c36_ => ?_)
            refine pw_blkw hT 3 (pc := 66) (lo := [some (pvR 124), some (pvI n1), some (pvI n2), some (pvI n3), none]) (st := []) (M := pvu M32_ 165 (Int32.toNatClampNeg n1) 0) rfl ⟨trivial, trivial, ⟨rfl, (zr_in (n := 6) b13_ (by decide) (by decide))⟩, trivial⟩ (fun M37_ e38_ => ?_)
            have o39_ : pvOk M37_ := pvok_u2 e38_ o34_ rfl (zr_wide (show 0 ≤ Int32.toInt 0 ∧ Int32.toInt 0 ≤ 0 from (by decide)) (by decide) (by decide))
            have f40_ : pvFr fp_X10_tape_124_x_x_x M M37_ := pvfr_u e38_ f35_ rfl
            refine pw_blk hT 2 (S' := (69, [some (pvR 124), some (pvI n1), some (pvI n2), some (pvI n3), some (pvI 0)], [], M37_)) rfl ⟨trivial, trivial, trivial⟩ ?_
            have hlz95_ : ∀ (nz95_ : Nat) (i4z95_ : Int32) (Mz95_ : pvM), (pvOk Mz95_) → (pvFr fp_X10_tape_124_x_x_x M Mz95_) → (0 ≤ Int32.toInt i4z95_ ∧ Int32.toInt i4z95_ ≤ 60) → (zhide ((61 - Int32.toInt i4z95_).toNat < nz95_)) → PW 89 d (69, [some (pvR 124), some (pvI n1), some (pvI n2), some (pvI n3), some (pvI i4z95_)], [], Mz95_) (fun r X => (∃ x : Int32, r = some (pvI x) ∧ (-14) ≤ Int32.toInt x ∧ Int32.toInt x ≤ 1) ∧ pvOk X ∧ pvFr fp_X10_tape_124_x_x_x M X) := by
              intro nz95_
              induction nz95_ with
              | zero => intro i4z95_ Mz95_ oz95_ fz95_ h4z95_ hmz95_; exact absurd (zshow hmz95_) (Nat.not_lt_zero _)
              | succ nz95_ ihz95_ =>
                intro i4z95_ Mz95_ oz95_ fz95_ h4z95_ hmz95_
                refine pw_blk hT 2 (S' := (73, [some (pvR 124), some (pvI n1), some (pvI n2), some (pvI n3), some (pvI i4z95_)], [pvI 60, pvI i4z95_], Mz95_)) rfl ⟨trivial, trivial, trivial⟩ ?_
                refine pw_ic hT (c := 60 ≤ i4z95_) rfl rfl (fun c96_ => ?_) (fun c96_ => ?_)
                · have b97_ : 60 ≤ Int32.toInt i4z95_ ∧ Int32.toInt i4z95_ ≤ 60 := zr_le_r 60 c96_ h4z95_ (show 60 ≤ Int32.toInt 60 ∧ Int32.toInt 60 ≤ 60 from (by decide)) (by decide)
                  refine pw_blk hT 1 (S' := (96, [some (pvR 124), some (pvI n1), some (pvI n2), some (pvI n3), some (pvI i4z95_)], [pvI 1], Mz95_)) rfl ⟨trivial, trivial⟩ ?_
                  exact pw_ret hT rfl (r := some (pvI 1)) (M' := Mz95_) ⟨rfl, rfl⟩ ⟨⟨_, rfl, (zr_wide (show 1 ≤ Int32.toInt 1 ∧ Int32.toInt 1 ≤ 1 from (by decide)) (by decide) (by decide))⟩, oz95_, fz95_⟩
                · have b98_ : 0 ≤ Int32.toInt i4z95_ ∧ Int32.toInt i4z95_ ≤ 59 := zr_nle_r 59 c96_ h4z95_ (show 60 ≤ Int32.toInt 60 ∧ Int32.toInt 60 ≤ 60 from (by decide)) (by decide)
                  have q99_ : Int32.toInt (60 * n1) = 60 * Int32.toInt n1 := by have u0 : Int32.toInt 60 = 60 := (by decide); have u1 := b13_; have u2 := zmul 60 n1 (by rw [u0]; omega) (by rw [u0]; omega); rw [u0] at u2; omega
                  have b100_ : 0 ≤ Int32.toInt (60 * n1) ∧ Int32.toInt (60 * n1) ≤ 300 := (by have u1 := b13_; omega)
                  obtain ⟨q102_, b101_⟩ : (Int32.toInt ((60 * n1) + i4z95_) = Int32.toInt (60 * n1) + Int32.toInt i4z95_) ∧ (0 ≤ Int32.toInt ((60 * n1) + i4z95_) ∧ Int32.toInt ((60 * n1) + i4z95_) ≤ 359) := zadd_r (60 * n1) i4z95_ 0 359 b100_ b98_ (by decide) (by decide) (by decide) (by decide)
                  refine pw_blkw hT 9 (pc := 89) (lo := [some (pvR 124), some (pvI n1), some (pvI n2), some (pvI n3), some (pvI i4z95_)]) (st := []) (M := pvw Mz95_ 166 (Int32.toNatClampNeg ((60 * n1) + i4z95_)) 0) rfl ⟨trivial, rfl, trivial, trivial, trivial, trivial, trivial, trivial, ⟨rfl, (zr_in (n := 360) b101_ (by decide) (by decide))⟩, trivial⟩ (fun M103_ e104_ => ?_)
                  have o105_ : pvOk M103_ := pvok_w e104_ oz95_
                  have f106_ : pvFr fp_X10_tape_124_x_x_x M M103_ := pvfr_w e104_ fz95_
                  obtain ⟨q108_, b107_⟩ : (Int32.toInt (i4z95_ + 1) = Int32.toInt i4z95_ + 1) ∧ (1 ≤ Int32.toInt (i4z95_ + 1) ∧ Int32.toInt (i4z95_ + 1) ≤ 60) := zadd_k i4z95_ 1 1 1 60 b98_ (by decide) (by decide) (by decide) (by decide) (by decide)
                  refine pw_blk hT 2 (S' := (69, [some (pvR 124), some (pvI n1), some (pvI n2), some (pvI n3), some (pvI (i4z95_ + 1))], [], M103_)) rfl ⟨trivial, trivial, trivial⟩ ?_
                  exact ihz95_ (i4z95_ + 1) M103_ o105_ f106_ (zr_wide b107_ (by decide) (by decide)) (zhid (pvms_up (zshow hmz95_) h4z95_ q108_ (by decide) (by decide)))
            exact hlz95_ _ 0 M37_ o39_ f40_ (zr_wide (show 0 ≤ Int32.toInt 0 ∧ Int32.toInt 0 ≤ 0 from (by decide)) (by decide) (by decide)) (zhid (Nat.lt_succ_self _))
          · have b109_ : 0 ≤ Int32.toInt n2 ∧ Int32.toInt n2 ≤ 4 := zr_nlt_l 0 c29_ b27_ (show 0 ≤ Int32.toInt 0 ∧ Int32.toInt 0 ≤ 0 from (by decide)) (by decide)
            refine pw_blk hT 2 (S' := (27, [some (pvR 124), some (pvI n1), some (pvI n2), some (pvI n3), none], [pvI 60, pvI n3], M)) rfl ⟨trivial, trivial, trivial⟩ ?_
            refine pw_ic hT (c := n3 ≤ 60) rfl rfl (fun c110_ => ?_) (fun c110_ => ?_)
            · have b111_ : (-2147483648) ≤ Int32.toInt n3 ∧ Int32.toInt n3 ≤ 60 := zr_le_l 60 c110_ (zbnd n3) (show 60 ≤ Int32.toInt 60 ∧ Int32.toInt 60 ≤ 60 from (by decide)) (by decide)
              refine pw_blk hT 1 (S' := (34, [some (pvR 124), some (pvI n1), some (pvI n2), some (pvI n3), none], [pvI n2], M)) rfl ⟨trivial, trivial⟩ ?_
              refine pw_if hT (c := n2 < 0) rfl rfl (fun c112_ => absurd c112_ c29_) (fun c112_ => ?_)
              refine pw_blk hT 1 (S' := (38, [some (pvR 124), some (pvI n1), some (pvI n2), some (pvI n3), none], [pvI n3], M)) rfl ⟨trivial, trivial⟩ ?_
              refine pw_if hT (c := 0 ≤ n3) rfl rfl (fun c113_ => ?_) (fun c113_ => ?_)
              · have b114_ : 0 ≤ Int32.toInt n3 ∧ Int32.toInt n3 ≤ 60 := zr_le_r 0 c113_ b111_ (show 0 ≤ Int32.toInt 0 ∧ Int32.toInt 0 ≤ 0 from (by decide)) (by decide)
                refine pw_blkw hT 5 (pc := 51) (lo := [some (pvR 124), some (pvI n1), some (pvI n2), some (pvI n3), none]) (st := []) (M := pvu M 164 (Int32.toNatClampNeg n1) n2) rfl ⟨trivial, rfl, trivial, trivial, ⟨rfl, (zr_in (n := 6) b13_ (by decide) (by decide))⟩, trivial⟩ (fun M115_ e116_ => ?_)
                have o117_ : pvOk M115_ := pvok_u2 e116_ hok rfl (zr_wide b109_ (by decide) (by decide))
                have f118_ : pvFr fp_X10_tape_124_x_x_x M M115_ := pvfr_u e116_ pvfr_0 rfl
                refine pw_blk hT 4 (S' := (57, [some (pvR 124), some (pvI n1), some (pvI n2), some (pvI n3), none], [pvI n2, pvI n1, pvR 165], M115_)) rfl ⟨trivial, rfl, trivial, trivial, trivial⟩ ?_
                refine pw_if hT (c := 0 ≤ n2) rfl rfl (fun c119_ => ?_) (fun c119_ => absurd (by have z0 := (show 0 ≤ Int32.toInt 0 ∧ Int32.toInt 0 ≤ 0 from (by decide)); have z1 := b109_; rw [zi_le]; omega) c119_)
                refine pw_blkw hT 2 (pc := 66) (lo := [some (pvR 124), some (pvI n1), some (pvI n2), some (pvI n3), none]) (st := []) (M := pvu M115_ 165 (Int32.toNatClampNeg n1) n3) rfl ⟨trivial, ⟨rfl, (zr_in (n := 6) b13_ (by decide) (by decide))⟩, trivial⟩ (fun M120_ e121_ => ?_)
                have o122_ : pvOk M120_ := pvok_u2 e121_ o117_ rfl b114_
                have f123_ : pvFr fp_X10_tape_124_x_x_x M M120_ := pvfr_u e121_ f118_ rfl
                refine pw_blk hT 2 (S' := (69, [some (pvR 124), some (pvI n1), some (pvI n2), some (pvI n3), some (pvI 0)], [], M120_)) rfl ⟨trivial, trivial, trivial⟩ ?_
                have hlz178_ : ∀ (nz178_ : Nat) (i4z178_ : Int32) (Mz178_ : pvM), (pvOk Mz178_) → (pvFr fp_X10_tape_124_x_x_x M Mz178_) → (0 ≤ Int32.toInt i4z178_ ∧ Int32.toInt i4z178_ ≤ 60) → (zhide ((61 - Int32.toInt i4z178_).toNat < nz178_)) → PW 89 d (69, [some (pvR 124), some (pvI n1), some (pvI n2), some (pvI n3), some (pvI i4z178_)], [], Mz178_) (fun r X => (∃ x : Int32, r = some (pvI x) ∧ (-14) ≤ Int32.toInt x ∧ Int32.toInt x ≤ 1) ∧ pvOk X ∧ pvFr fp_X10_tape_124_x_x_x M X) := by
                  intro nz178_
                  induction nz178_ with
                  | zero => intro i4z178_ Mz178_ oz178_ fz178_ h4z178_ hmz178_; exact absurd (zshow hmz178_) (Nat.not_lt_zero _)
                  | succ nz178_ ihz178_ =>
                    intro i4z178_ Mz178_ oz178_ fz178_ h4z178_ hmz178_
                    refine pw_blk hT 2 (S' := (73, [some (pvR 124), some (pvI n1), some (pvI n2), some (pvI n3), some (pvI i4z178_)], [pvI 60, pvI i4z178_], Mz178_)) rfl ⟨trivial, trivial, trivial⟩ ?_
                    refine pw_ic hT (c := 60 ≤ i4z178_) rfl rfl (fun c179_ => ?_) (fun c179_ => ?_)
                    · have b180_ : 60 ≤ Int32.toInt i4z178_ ∧ Int32.toInt i4z178_ ≤ 60 := zr_le_r 60 c179_ h4z178_ (show 60 ≤ Int32.toInt 60 ∧ Int32.toInt 60 ≤ 60 from (by decide)) (by decide)
                      refine pw_blk hT 1 (S' := (96, [some (pvR 124), some (pvI n1), some (pvI n2), some (pvI n3), some (pvI i4z178_)], [pvI 1], Mz178_)) rfl ⟨trivial, trivial⟩ ?_
                      exact pw_ret hT rfl (r := some (pvI 1)) (M' := Mz178_) ⟨rfl, rfl⟩ ⟨⟨_, rfl, (zr_wide (show 1 ≤ Int32.toInt 1 ∧ Int32.toInt 1 ≤ 1 from (by decide)) (by decide) (by decide))⟩, oz178_, fz178_⟩
                    · have b181_ : 0 ≤ Int32.toInt i4z178_ ∧ Int32.toInt i4z178_ ≤ 59 := zr_nle_r 59 c179_ h4z178_ (show 60 ≤ Int32.toInt 60 ∧ Int32.toInt 60 ≤ 60 from (by decide)) (by decide)
                      have q182_ : Int32.toInt (60 * n1) = 60 * Int32.toInt n1 := by have u0 : Int32.toInt 60 = 60 := (by decide); have u1 := b13_; have u2 := zmul 60 n1 (by rw [u0]; omega) (by rw [u0]; omega); rw [u0] at u2; omega
                      have b183_ : 0 ≤ Int32.toInt (60 * n1) ∧ Int32.toInt (60 * n1) ≤ 300 := (by have u1 := b13_; omega)
                      obtain ⟨q185_, b184_⟩ : (Int32.toInt ((60 * n1) + i4z178_) = Int32.toInt (60 * n1) + Int32.toInt i4z178_) ∧ (0 ≤ Int32.toInt ((60 * n1) + i4z178_) ∧ Int32.toInt ((60 * n1) + i4z178_) ≤ 359) := zadd_r (60 * n1) i4z178_ 0 359 b183_ b181_ (by decide) (by decide) (by decide) (by decide)
                      refine pw_blkw hT 9 (pc := 89) (lo := [some (pvR 124), some (pvI n1), some (pvI n2), some (pvI n3), some (pvI i4z178_)]) (st := []) (M := pvw Mz178_ 166 (Int32.toNatClampNeg ((60 * n1) + i4z178_)) 0) rfl ⟨trivial, rfl, trivial, trivial, trivial, trivial, trivial, trivial, ⟨rfl, (zr_in (n := 360) b184_ (by decide) (by decide))⟩, trivial⟩ (fun M186_ e187_ => ?_)
                      have o188_ : pvOk M186_ := pvok_w e187_ oz178_
                      have f189_ : pvFr fp_X10_tape_124_x_x_x M M186_ := pvfr_w e187_ fz178_
                      obtain ⟨q191_, b190_⟩ : (Int32.toInt (i4z178_ + 1) = Int32.toInt i4z178_ + 1) ∧ (1 ≤ Int32.toInt (i4z178_ + 1) ∧ Int32.toInt (i4z178_ + 1) ≤ 60) := zadd_k i4z178_ 1 1 1 60 b181_ (by decide) (by decide) (by decide) (by decide) (by decide)
                      refine pw_blk hT 2 (S' := (69, [some (pvR 124), some (pvI n1), some (pvI n2), some (pvI n3), some (pvI (i4z178_ + 1))], [], M186_)) rfl ⟨trivial, trivial, trivial⟩ ?_
                      exact ihz178_ (i4z178_ + 1) M186_ o188_ f189_ (zr_wide b190_ (by decide) (by decide)) (zhid (pvms_up (zshow hmz178_) h4z178_ q191_ (by decide) (by decide)))
                exact hlz178_ _ 0 M120_ o122_ f123_ (zr_wide (show 0 ≤ Int32.toInt 0 ∧ Int32.toInt 0 ≤ 0 from (by decide)) (by decide) (by decide)) (zhid (Nat.lt_succ_self _))
              · have b192_ : (-2147483648) ≤ Int32.toInt n3 ∧ Int32.toInt n3 ≤ (-1) := zr_nle_r (-1) c113_ b111_ (show 0 ≤ Int32.toInt 0 ∧ Int32.toInt 0 ≤ 0 from (by decide)) (by decide)
                refine pw_blk hT 1 (S' := (43, [some (pvR 124), some (pvI n1), some (pvI n2), some (pvI n3), none], [pvI (-14)], M)) rfl ⟨trivial, trivial⟩ ?_
                exact pw_ret hT rfl (r := some (pvI (-14))) (M' := M) ⟨rfl, rfl⟩ ⟨⟨_, rfl, (zr_wide (show (-14) ≤ Int32.toInt (-14) ∧ Int32.toInt (-14) ≤ (-14) from (by decide)) (by decide) (by decide))⟩, hok, pvfr_0⟩
            · have b193_ : 61 ≤ Int32.toInt n3 ∧ Int32.toInt n3 ≤ 2147483647 := zr_nle_l 61 c110_ (zbnd n3) (show 60 ≤ Int32.toInt 60 ∧ Int32.toInt 60 ≤ 60 from (by decide)) (by decide)
              refine pw_blk hT 1 (S' := (32, [some (pvR 124), some (pvI n1), some (pvI n2), some (pvI n3), none], [pvI (-2)], M)) rfl ⟨trivial, trivial⟩ ?_
              exact pw_ret hT rfl (r := some (pvI (-2))) (M' := M) ⟨rfl, rfl⟩ ⟨⟨_, rfl, (zr_wide (show (-2) ≤ Int32.toInt (-2) ∧ Int32.toInt (-2) ≤ (-2) from (by decide)) (by decide) (by decide))⟩, hok, pvfr_0⟩
