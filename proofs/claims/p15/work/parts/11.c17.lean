def fpL_X9_stand_0_x_x : List (Nat × Nat × Nat) := [(0, 8, 7), (0, 8, 8)]
def fp_X9_stand_0_x_x (q k : Nat) : Bool := pvfp fpL_X9_stand_0_x_x q k
set_option maxHeartbeats 4000000 in
set_option maxRecDepth 10000 in
theorem sf_X9_stand_0_x_x (M : pvM) (hok : pvOk M) (n1 : Int32) (n2 : Int32) (d : Nat) : PW 201 d (0, [some (pvR 0), some (pvI n1), some (pvI n2)], [], M) (fun r X => (∃ x : Int32, r = some (pvI x) ∧ ((-2) ≤ Int32.toInt x ∧ Int32.toInt x ≤ 1) ∧ x = (if n1 < 0 then (-2) else (if 3 < n1 then (-2) else (if n2 < 0 then (-2) else (if 4 < n2 then (-2) else 1))))) ∧ pvOk X ∧ pvFr fp_X9_stand_0_x_x M X) := by
  have hT : pvdom 201 = pvD_201 := rfl
  refine pw_blk hT 2 (S' := (2, [some (pvR 0), some (pvI n1), some (pvI n2)], [pvI n2, pvI n1], M)) rfl ⟨trivial, trivial, trivial⟩ ?_
  refine pw_callT hT (as := [pvI n1, pvI n2]) (lo1 := [some (pvI n1), some (pvI n2)]) (d1 := d) (rest := []) rfl rfl rfl rfl rfl (fun h => absurd h (by decide)) (Nat.zero_le _) rfl rfl rfl (sf_X9_isPlace_x_x M hok n1 n2 d) ?_
  by_cases c6_ : n1 < 0
  · refine pw_eqI (if_pos c6_) ?_
    have b7_ : (-2147483648) ≤ Int32.toInt n1 ∧ Int32.toInt n1 ≤ (-1) := zr_lt_l (-1) c6_ (zbnd n1) (show 0 ≤ Int32.toInt 0 ∧ Int32.toInt 0 ≤ 0 from (by decide)) (by decide)
    show PW 201 d (5, [some (pvR 0), some (pvI n1), some (pvI n2)], [pvI 0], M) _
    refine pw_ifn hT (c := 0 = 0) rfl rfl (fun c8_ => absurd (by decide) c8_) (fun c8_ => ?_)
    refine pw_blk hT 1 (S' := (10, [some (pvR 0), some (pvI n1), some (pvI n2)], [pvI (-2)], M)) rfl ⟨trivial, trivial⟩ ?_
    exact pw_ret hT rfl (r := some (pvI (-2))) (M' := M) ⟨rfl, rfl⟩ ⟨⟨_, rfl, (zr_wide (show (-2) ≤ Int32.toInt (-2) ∧ Int32.toInt (-2) ≤ (-2) from (by decide)) (by decide) (by decide)), (by rw [if_pos c6_])⟩, hok, pvfr_0⟩
  · refine pw_eqI (if_neg c6_) ?_
    have b9_ : 0 ≤ Int32.toInt n1 ∧ Int32.toInt n1 ≤ 2147483647 := zr_nlt_l 0 c6_ (zbnd n1) (show 0 ≤ Int32.toInt 0 ∧ Int32.toInt 0 ≤ 0 from (by decide)) (by decide)
    by_cases c10_ : 3 < n1
    · refine pw_eqI (if_pos c10_) ?_
      have b11_ : 4 ≤ Int32.toInt n1 ∧ Int32.toInt n1 ≤ 2147483647 := zr_lt_r 4 c10_ b9_ (show 3 ≤ Int32.toInt 3 ∧ Int32.toInt 3 ≤ 3 from (by decide)) (by decide)
      show PW 201 d (5, [some (pvR 0), some (pvI n1), some (pvI n2)], [pvI 0], M) _
      refine pw_ifn hT (c := 0 = 0) rfl rfl (fun c12_ => absurd (by decide) c12_) (fun c12_ => ?_)
      refine pw_blk hT 1 (S' := (10, [some (pvR 0), some (pvI n1), some (pvI n2)], [pvI (-2)], M)) rfl ⟨trivial, trivial⟩ ?_
      exact pw_ret hT rfl (r := some (pvI (-2))) (M' := M) ⟨rfl, rfl⟩ ⟨⟨_, rfl, (zr_wide (show (-2) ≤ Int32.toInt (-2) ∧ Int32.toInt (-2) ≤ (-2) from (by decide)) (by decide) (by decide)), (by rw [if_neg c6_, if_pos c10_])⟩, hok, pvfr_0⟩
    · refine pw_eqI (if_neg c10_) ?_
      have b13_ : 0 ≤ Int32.toInt n1 ∧ Int32.toInt n1 ≤ 3 := zr_nlt_r 3 c10_ b9_ (show 3 ≤ Int32.toInt 3 ∧ Int32.toInt 3 ≤ 3 from (by decide)) (by decide)
      by_cases c14_ : n2 < 0
      · refine pw_eqI (if_pos c14_) ?_
        have b15_ : (-2147483648) ≤ Int32.toInt n2 ∧ Int32.toInt n2 ≤ (-1) := zr_lt_l (-1) c14_ (zbnd n2) (show 0 ≤ Int32.toInt 0 ∧ Int32.toInt 0 ≤ 0 from (by decide)) (by decide)
        show PW 201 d (5, [some (pvR 0), some (pvI n1), some (pvI n2)], [pvI 0], M) _
        refine pw_ifn hT (c := 0 = 0) rfl rfl (fun c16_ => absurd (by decide) c16_) (fun c16_ => ?_)
        refine pw_blk hT 1 (S' := (10, [some (pvR 0), some (pvI n1), some (pvI n2)], [pvI (-2)], M)) rfl ⟨trivial, trivial⟩ ?_
        exact pw_ret hT rfl (r := some (pvI (-2))) (M' := M) ⟨rfl, rfl⟩ ⟨⟨_, rfl, (zr_wide (show (-2) ≤ Int32.toInt (-2) ∧ Int32.toInt (-2) ≤ (-2) from (by decide)) (by decide) (by decide)), (by rw [if_neg c6_, if_neg c10_, if_pos c14_])⟩, hok, pvfr_0⟩
      · refine pw_eqI (if_neg c14_) ?_
        have b17_ : 0 ≤ Int32.toInt n2 ∧ Int32.toInt n2 ≤ 2147483647 := zr_nlt_l 0 c14_ (zbnd n2) (show 0 ≤ Int32.toInt 0 ∧ Int32.toInt 0 ≤ 0 from (by decide)) (by decide)
        by_cases c18_ : 4 < n2
        · refine pw_eqI (if_pos c18_) ?_
          have b19_ : 5 ≤ Int32.toInt n2 ∧ Int32.toInt n2 ≤ 2147483647 := zr_lt_r 5 c18_ b17_ (show 4 ≤ Int32.toInt 4 ∧ Int32.toInt 4 ≤ 4 from (by decide)) (by decide)
          show PW 201 d (5, [some (pvR 0), some (pvI n1), some (pvI n2)], [pvI 0], M) _
          refine pw_ifn hT (c := 0 = 0) rfl rfl (fun c20_ => absurd (by decide) c20_) (fun c20_ => ?_)
          refine pw_blk hT 1 (S' := (10, [some (pvR 0), some (pvI n1), some (pvI n2)], [pvI (-2)], M)) rfl ⟨trivial, trivial⟩ ?_
          exact pw_ret hT rfl (r := some (pvI (-2))) (M' := M) ⟨rfl, rfl⟩ ⟨⟨_, rfl, (zr_wide (show (-2) ≤ Int32.toInt (-2) ∧ Int32.toInt (-2) ≤ (-2) from (by decide)) (by decide) (by decide)), (by rw [if_neg c6_, if_neg c10_, if_neg c14_, if_pos c18_])⟩, hok, pvfr_0⟩
        · refine pw_eqI (if_neg c18_) ?_
          have b21_ : 0 ≤ Int32.toInt n2 ∧ Int32.toInt n2 ≤ 4 := zr_nlt_r 4 c18_ b17_ (show 4 ≤ Int32.toInt 4 ∧ Int32.toInt 4 ≤ 4 from (by decide)) (by decide)
          show PW 201 d (5, [some (pvR 0), some (pvI n1), some (pvI n2)], [pvI 1], M) _
          refine pw_ifn hT (c := 1 = 0) rfl rfl (fun c22_ => ?_) (fun c22_ => absurd c22_ (by decide))
          refine pw_blkw hT 4 (pc := 19) (lo := [some (pvR 0), some (pvI n1), some (pvI n2)]) (st := []) (M := pvu M 8 6 n1) rfl ⟨trivial, rfl, trivial, rfl, trivial⟩ (fun M23_ e24_ => ?_)
          have o25_ : pvOk M23_ := pvok_u2 e24_ hok rfl b13_
          have f26_ : pvFr fp_X9_stand_0_x_x M M23_ := pvfr_u e24_ pvfr_0 rfl
          refine pw_blkw hT 4 (pc := 27) (lo := [some (pvR 0), some (pvI n1), some (pvI n2)]) (st := []) (M := pvu M23_ 8 7 n2) rfl ⟨trivial, rfl, trivial, rfl, trivial⟩ (fun M27_ e28_ => ?_)
          have o29_ : pvOk M27_ := pvok_u2 e28_ o25_ rfl b21_
          have f30_ : pvFr fp_X9_stand_0_x_x M M27_ := pvfr_u e28_ f26_ rfl
          refine pw_blk hT 1 (S' := (28, [some (pvR 0), some (pvI n1), some (pvI n2)], [pvI 1], M27_)) rfl ⟨trivial, trivial⟩ ?_
          exact pw_ret hT rfl (r := some (pvI 1)) (M' := M27_) ⟨rfl, rfl⟩ ⟨⟨_, rfl, (zr_wide (show 1 ≤ Int32.toInt 1 ∧ Int32.toInt 1 ≤ 1 from (by decide)) (by decide) (by decide)), (by rw [if_neg c6_, if_neg c10_, if_neg c14_, if_neg c18_])⟩, o29_, f30_⟩
def fpL_X9_storm_0_x_x : List (Nat × Nat × Nat) := [(0, 8, 3), (0, 8, 4)]
def fp_X9_storm_0_x_x (q k : Nat) : Bool := pvfp fpL_X9_storm_0_x_x q k
set_option maxHeartbeats 4000000 in
set_option maxRecDepth 10000 in
theorem sf_X9_storm_0_x_x (M : pvM) (hok : pvOk M) (n1 : Int32) (n2 : Int32) (d : Nat) : PW 202 d (0, [some (pvR 0), some (pvI n1), some (pvI n2), none], [], M) (fun r X => (∃ x : Int32, r = some (pvI x) ∧ (-2) ≤ Int32.toInt x ∧ Int32.toInt x ≤ 99) ∧ pvOk X ∧ pvFr fp_X9_storm_0_x_x M X) := by
  have hT : pvdom 202 = pvD_202 := rfl
  refine pw_blk hT 3 (S' := (3, [some (pvR 0), some (pvI n1), some (pvI n2), none], [pvI 3, pvI 0, pvI n2], M)) rfl ⟨trivial, trivial, trivial, trivial⟩ ?_
  refine pw_callT hT (as := [pvI n2, pvI 0, pvI 3]) (lo1 := [some (pvI n2), some (pvI 0), some (pvI 3)]) (d1 := d) (rest := []) rfl rfl rfl rfl rfl (fun h => absurd h (by decide)) (Nat.zero_le _) rfl rfl rfl (sf_X9_within_x_x_x M hok n2 0 3 d) ?_
  by_cases c6_ : n2 < 0
  · refine pw_eqI (if_pos c6_) ?_
    have b7_ : (-2147483648) ≤ Int32.toInt n2 ∧ Int32.toInt n2 ≤ (-1) := zr_lt_l (-1) c6_ (zbnd n2) (show 0 ≤ Int32.toInt 0 ∧ Int32.toInt 0 ≤ 0 from (by decide)) (by decide)
    show PW 202 d (6, [some (pvR 0), some (pvI n1), some (pvI n2), none], [pvI 0], M) _
    refine pw_ifn hT (c := 0 = 0) rfl rfl (fun c8_ => absurd (by decide) c8_) (fun c8_ => ?_)
    refine pw_blk hT 1 (S' := (10, [some (pvR 0), some (pvI n1), some (pvI n2), none], [pvI (-1)], M)) rfl ⟨trivial, trivial⟩ ?_
    exact pw_ret hT rfl (r := some (pvI (-1))) (M' := M) ⟨rfl, rfl⟩ ⟨⟨_, rfl, (zr_wide (show (-1) ≤ Int32.toInt (-1) ∧ Int32.toInt (-1) ≤ (-1) from (by decide)) (by decide) (by decide))⟩, hok, pvfr_0⟩
  · refine pw_eqI (if_neg c6_) ?_
    have b9_ : 0 ≤ Int32.toInt n2 ∧ Int32.toInt n2 ≤ 2147483647 := zr_nlt_l 0 c6_ (zbnd n2) (show 0 ≤ Int32.toInt 0 ∧ Int32.toInt 0 ≤ 0 from (by decide)) (by decide)
    by_cases c10_ : 3 < n2
    · refine pw_eqI (if_pos c10_) ?_
      have b11_ : 4 ≤ Int32.toInt n2 ∧ Int32.toInt n2 ≤ 2147483647 := zr_lt_r 4 c10_ b9_ (show 3 ≤ Int32.toInt 3 ∧ Int32.toInt 3 ≤ 3 from (by decide)) (by decide)
      show PW 202 d (6, [some (pvR 0), some (pvI n1), some (pvI n2), none], [pvI 0], M) _
      refine pw_ifn hT (c := 0 = 0) rfl rfl (fun c12_ => absurd (by decide) c12_) (fun c12_ => ?_)
      refine pw_blk hT 1 (S' := (10, [some (pvR 0), some (pvI n1), some (pvI n2), none], [pvI (-1)], M)) rfl ⟨trivial, trivial⟩ ?_
      exact pw_ret hT rfl (r := some (pvI (-1))) (M' := M) ⟨rfl, rfl⟩ ⟨⟨_, rfl, (zr_wide (show (-1) ≤ Int32.toInt (-1) ∧ Int32.toInt (-1) ≤ (-1) from (by decide)) (by decide) (by decide))⟩, hok, pvfr_0⟩
    · refine pw_eqI (if_neg c10_) ?_
      have b13_ : 0 ≤ Int32.toInt n2 ∧ Int32.toInt n2 ≤ 3 := zr_nlt_r 3 c10_ b9_ (show 3 ≤ Int32.toInt 3 ∧ Int32.toInt 3 ≤ 3 from (by decide)) (by decide)
      show PW 202 d (6, [some (pvR 0), some (pvI n1), some (pvI n2), none], [pvI 1], M) _
      refine pw_ifn hT (c := 1 = 0) rfl rfl (fun c14_ => ?_) (fun c14_ => absurd c14_ (by decide))
      refine pw_blk hT 3 (S' := (15, [some (pvR 0), some (pvI n1), some (pvI n2), none], [pvI 99, pvI 0, pvI n1], M)) rfl ⟨trivial, trivial, trivial, trivial⟩ ?_
      refine pw_callT hT (as := [pvI n1, pvI 0, pvI 99]) (lo1 := [some (pvI n1), some (pvI 0), some (pvI 99)]) (d1 := d) (rest := []) rfl rfl rfl rfl rfl (fun h => absurd h (by decide)) (Nat.zero_le _) rfl rfl rfl (sf_X9_within_x_x_x M hok n1 0 99 d) ?_
      by_cases c20_ : n1 < 0
      · refine pw_eqI (if_pos c20_) ?_
        have b21_ : (-2147483648) ≤ Int32.toInt n1 ∧ Int32.toInt n1 ≤ (-1) := zr_lt_l (-1) c20_ (zbnd n1) (show 0 ≤ Int32.toInt 0 ∧ Int32.toInt 0 ≤ 0 from (by decide)) (by decide)
        show PW 202 d (18, [some (pvR 0), some (pvI n1), some (pvI n2), none], [pvI 0], M) _
        refine pw_ifn hT (c := 0 = 0) rfl rfl (fun c22_ => absurd (by decide) c22_) (fun c22_ => ?_)
        refine pw_blk hT 1 (S' := (23, [some (pvR 0), some (pvI n1), some (pvI n2), none], [pvI (-2)], M)) rfl ⟨trivial, trivial⟩ ?_
        exact pw_ret hT rfl (r := some (pvI (-2))) (M' := M) ⟨rfl, rfl⟩ ⟨⟨_, rfl, (zr_wide (show (-2) ≤ Int32.toInt (-2) ∧ Int32.toInt (-2) ≤ (-2) from (by decide)) (by decide) (by decide))⟩, hok, pvfr_0⟩
      · refine pw_eqI (if_neg c20_) ?_
        have b23_ : 0 ≤ Int32.toInt n1 ∧ Int32.toInt n1 ≤ 2147483647 := zr_nlt_l 0 c20_ (zbnd n1) (show 0 ≤ Int32.toInt 0 ∧ Int32.toInt 0 ≤ 0 from (by decide)) (by decide)
        by_cases c24_ : 99 < n1
        · refine pw_eqI (if_pos c24_) ?_
          have b25_ : 100 ≤ Int32.toInt n1 ∧ Int32.toInt n1 ≤ 2147483647 := zr_lt_r 100 c24_ b23_ (show 99 ≤ Int32.toInt 99 ∧ Int32.toInt 99 ≤ 99 from (by decide)) (by decide)
          show PW 202 d (18, [some (pvR 0), some (pvI n1), some (pvI n2), none], [pvI 0], M) _
          refine pw_ifn hT (c := 0 = 0) rfl rfl (fun c26_ => absurd (by decide) c26_) (fun c26_ => ?_)
          refine pw_blk hT 1 (S' := (23, [some (pvR 0), some (pvI n1), some (pvI n2), none], [pvI (-2)], M)) rfl ⟨trivial, trivial⟩ ?_
          exact pw_ret hT rfl (r := some (pvI (-2))) (M' := M) ⟨rfl, rfl⟩ ⟨⟨_, rfl, (zr_wide (show (-2) ≤ Int32.toInt (-2) ∧ Int32.toInt (-2) ≤ (-2) from (by decide)) (by decide) (by decide))⟩, hok, pvfr_0⟩
        · refine pw_eqI (if_neg c24_) ?_
          have b27_ : 0 ≤ Int32.toInt n1 ∧ Int32.toInt n1 ≤ 99 := zr_nlt_r 99 c24_ b23_ (show 99 ≤ Int32.toInt 99 ∧ Int32.toInt 99 ≤ 99 from (by decide)) (by decide)
          show PW 202 d (18, [some (pvR 0), some (pvI n1), some (pvI n2), none], [pvI 1], M) _
          refine pw_ifn hT (c := 1 = 0) rfl rfl (fun c28_ => ?_) (fun c28_ => absurd c28_ (by decide))
          have b29_ : 0 ≤ Int32.toInt (M.1 8 2) ∧ Int32.toInt (M.1 8 2) ≤ 99 := pvok_r hok 8 2 rfl
          refine pw_blkw hT 8 (pc := 40) (lo := [some (pvR 0), some (pvI n1), some (pvI n2), some (pvI (M.1 8 2))]) (st := []) (M := pvu M 8 2 n1) rfl ⟨trivial, rfl, rfl, trivial, trivial, rfl, trivial, rfl, trivial⟩ (fun M30_ e31_ => ?_)
          have o32_ : pvOk M30_ := pvok_u2 e31_ hok rfl b27_
          have f33_ : pvFr fp_X9_storm_0_x_x M M30_ := pvfr_u e31_ pvfr_0 rfl
          refine pw_blkw hT 4 (pc := 48) (lo := [some (pvR 0), some (pvI n1), some (pvI n2), some (pvI (M.1 8 2))]) (st := []) (M := pvu M30_ 8 3 n2) rfl ⟨trivial, rfl, trivial, rfl, trivial⟩ (fun M34_ e35_ => ?_)
          have o36_ : pvOk M34_ := pvok_u2 e35_ o32_ rfl b13_
          have f37_ : pvFr fp_X9_storm_0_x_x M M34_ := pvfr_u e35_ f33_ rfl
          refine pw_blk hT 1 (S' := (49, [some (pvR 0), some (pvI n1), some (pvI n2), some (pvI (M.1 8 2))], [pvI (M.1 8 2)], M34_)) rfl ⟨trivial, trivial⟩ ?_
          exact pw_ret hT rfl (r := some (pvI (M.1 8 2))) (M' := M34_) ⟨rfl, rfl⟩ ⟨⟨_, rfl, (zr_wide b29_ (by decide) (by decide))⟩, o36_, f37_⟩
set_option maxHeartbeats 4000000 in
set_option maxRecDepth 10000 in
theorem sf_X3_above_x (M : pvM) (hok : pvOk M) (n0 : Int32) (hn0 : (-1) ≤ Int32.toInt n0 ∧ Int32.toInt n0 ≤ 6) (d : Nat) : PW 131 d (0, [some (pvI n0)], [], M) (fun r X => r = some (pvI ((if n0 < 0 then (-1) else ((pvstab 1040).getD (Int32.toNatClampNeg n0) 0)))) ∧ X = M) := by
  have hT : pvdom 131 = pvD_131 := rfl
  refine pw_blk hT 1 (S' := (1, [some (pvI n0)], [pvI n0], M)) rfl ⟨trivial, trivial⟩ ?_
  refine pw_if hT (c := n0 < 0) rfl rfl (fun c1_ => ?_) (fun c1_ => ?_)
  · have b2_ : (-1) ≤ Int32.toInt n0 ∧ Int32.toInt n0 ≤ (-1) := zr_lt_l (-1) c1_ hn0 (show 0 ≤ Int32.toInt 0 ∧ Int32.toInt 0 ≤ 0 from (by decide)) (by decide)
    refine pw_blk hT 2 (S' := (21, [some (pvI n0)], [pvI (-1)], M)) rfl ⟨trivial, trivial, trivial⟩ ?_
    exact pw_ret hT rfl (r := some (pvI (-1))) (M' := M) ⟨rfl, rfl⟩ ⟨(by rw [if_pos c1_]), rfl⟩
  · have b3_ : 0 ≤ Int32.toInt n0 ∧ Int32.toInt n0 ≤ 6 := zr_nlt_l 0 c1_ hn0 (show 0 ≤ Int32.toInt 0 ∧ Int32.toInt 0 ≤ 0 from (by decide)) (by decide)
    refine pw_blk hT 3 (S' := (9, [some (pvI n0)], [pvI (Int32.ofNat (pvstab 1040).length), pvI n0], M)) rfl ⟨trivial, trivial, (by decide), trivial⟩ ?_
    refine pw_ic hT (c := n0 < (Int32.ofNat (pvstab 1040).length)) rfl rfl (fun c4_ => ?_) (fun c4_ => absurd (by have z0 := b3_; have z1 := (show 7 ≤ Int32.toInt (Int32.ofNat (pvstab 1040).length) ∧ Int32.toInt (Int32.ofNat (pvstab 1040).length) ≤ 7 from (by decide)); rw [zi_lt]; omega) c4_)
    have b5_ : (-1) ≤ Int32.toInt ((pvstab 1040).getD (Int32.toNatClampNeg n0) 0) ∧ Int32.toInt ((pvstab 1040).getD (Int32.toNatClampNeg n0) 0) ≤ 3 := (pvst_1040 _)
    refine pw_blk hT 3 (S' := (21, [some (pvI n0)], [pvI ((pvstab 1040).getD (Int32.toNatClampNeg n0) 0)], M)) rfl ⟨trivial, trivial, ⟨by decide, (zr_in (n := 7) b3_ (by decide) (by decide))⟩, trivial⟩ ?_
    exact pw_ret hT rfl (r := some (pvI ((pvstab 1040).getD (Int32.toNatClampNeg n0) 0))) (M' := M) ⟨rfl, rfl⟩ ⟨(by rw [if_neg c1_]), rfl⟩
set_option maxHeartbeats 4000000 in
set_option maxRecDepth 10000 in
theorem sf_X3_isUnder_x_x (M : pvM) (hok : pvOk M) (n0 : Int32) (n1 : Int32) (hn0 : 0 ≤ Int32.toInt n0 ∧ Int32.toInt n0 ≤ 6) (d : Nat) : PW 132 d (0, [some (pvI n0), some (pvI n1), none, none], [], M) (fun r X => (∃ x : Int32, r = some (pvI x) ∧ 0 ≤ Int32.toInt x ∧ Int32.toInt x ≤ 1) ∧ X = M) := by
  have hT : pvdom 132 = pvD_132 := rfl
  refine pw_blk hT 4 (S' := (4, [some (pvI n0), some (pvI n1), some (pvI n0), some (pvI 0)], [], M)) rfl ⟨trivial, trivial, trivial, trivial, trivial⟩ ?_
  have hlz51_ : ∀ (nz51_ : Nat) (i2z51_ : Int32) (i3z51_ : Int32), ((-1) ≤ Int32.toInt i2z51_ ∧ Int32.toInt i2z51_ ≤ 6) → (0 ≤ Int32.toInt i3z51_ ∧ Int32.toInt i3z51_ ≤ 7) → (zhide ((8 - Int32.toInt i3z51_).toNat < nz51_)) → PW 132 d (4, [some (pvI n0), some (pvI n1), some (pvI i2z51_), some (pvI i3z51_)], [], M) (fun r X => (∃ x : Int32, r = some (pvI x) ∧ 0 ≤ Int32.toInt x ∧ Int32.toInt x ≤ 1) ∧ X = M) := by
    intro nz51_
    induction nz51_ with
    | zero => intro i2z51_ i3z51_ h2z51_ h3z51_ hmz51_; exact absurd (zshow hmz51_) (Nat.not_lt_zero _)
    | succ nz51_ ihz51_ =>
      intro i2z51_ i3z51_ h2z51_ h3z51_ hmz51_
      refine pw_blk hT 3 (S' := (9, [some (pvI n0), some (pvI n1), some (pvI i2z51_), some (pvI i3z51_)], [pvI (Int32.ofNat (pvstab 1040).length), pvI i3z51_], M)) rfl ⟨trivial, trivial, (by decide), trivial⟩ ?_
      refine pw_ic hT (c := (Int32.ofNat (pvstab 1040).length) ≤ i3z51_) rfl rfl (fun c52_ => ?_) (fun c52_ => ?_)
      · have b53_ : 7 ≤ Int32.toInt i3z51_ ∧ Int32.toInt i3z51_ ≤ 7 := zr_le_r 7 c52_ h3z51_ (show 7 ≤ Int32.toInt (Int32.ofNat (pvstab 1040).length) ∧ Int32.toInt (Int32.ofNat (pvstab 1040).length) ≤ 7 from (by decide)) (by decide)
        refine pw_blk hT 1 (S' := (35, [some (pvI n0), some (pvI n1), some (pvI i2z51_), some (pvI i3z51_)], [pvI 0], M)) rfl ⟨trivial, trivial⟩ ?_
        exact pw_ret hT rfl (r := some (pvI 0)) (M' := M) ⟨Or.inl rfl, rfl, rfl⟩ ⟨⟨_, rfl, (zr_wide (show 0 ≤ Int32.toInt 0 ∧ Int32.toInt 0 ≤ 0 from (by decide)) (by decide) (by decide))⟩, rfl⟩
      · have b54_ : 0 ≤ Int32.toInt i3z51_ ∧ Int32.toInt i3z51_ ≤ 6 := zr_nle_r 6 c52_ h3z51_ (show 7 ≤ Int32.toInt (Int32.ofNat (pvstab 1040).length) ∧ Int32.toInt (Int32.ofNat (pvstab 1040).length) ≤ 7 from (by decide)) (by decide)
        refine pw_blk hT 1 (S' := (13, [some (pvI n0), some (pvI n1), some (pvI i2z51_), some (pvI i3z51_)], [pvI i2z51_], M)) rfl ⟨trivial, trivial⟩ ?_
        refine pw_if hT (c := i2z51_ < 0) rfl rfl (fun c55_ => ?_) (fun c55_ => ?_)
        · have b56_ : (-1) ≤ Int32.toInt i2z51_ ∧ Int32.toInt i2z51_ ≤ (-1) := zr_lt_l (-1) c55_ h2z51_ (show 0 ≤ Int32.toInt 0 ∧ Int32.toInt 0 ≤ 0 from (by decide)) (by decide)
          refine pw_blk hT 1 (S' := (35, [some (pvI n0), some (pvI n1), some (pvI i2z51_), some (pvI i3z51_)], [pvI 0], M)) rfl ⟨trivial, trivial⟩ ?_
          exact pw_ret hT rfl (r := some (pvI 0)) (M' := M) ⟨Or.inl rfl, rfl, rfl⟩ ⟨⟨_, rfl, (zr_wide (show 0 ≤ Int32.toInt 0 ∧ Int32.toInt 0 ≤ 0 from (by decide)) (by decide) (by decide))⟩, rfl⟩
        · have b57_ : 0 ≤ Int32.toInt i2z51_ ∧ Int32.toInt i2z51_ ≤ 6 := zr_nlt_l 0 c55_ h2z51_ (show 0 ≤ Int32.toInt 0 ∧ Int32.toInt 0 ≤ 0 from (by decide)) (by decide)
          refine pw_blk hT 2 (S' := (18, [some (pvI n0), some (pvI n1), some (pvI i2z51_), some (pvI i3z51_)], [pvI n1, pvI i2z51_], M)) rfl ⟨trivial, trivial, trivial⟩ ?_
          refine pw_icn hT (c := i2z51_ = n1) rfl rfl (fun c58_ => ?_) (fun c58_ => ?_)
          · refine pw_blk hT 1 (S' := (24, [some (pvI n0), some (pvI n1), some (pvI i2z51_), some (pvI i3z51_)], [pvI i2z51_], M)) rfl ⟨trivial, trivial⟩ ?_
            refine pw_callT hT (as := [pvI i2z51_]) (lo1 := [some (pvI i2z51_)]) (d1 := d) (rest := []) rfl rfl rfl rfl rfl (fun h => absurd h (by decide)) (Nat.zero_le _) rfl rfl rfl (sf_X3_above_x M hok i2z51_ (zr_wide b57_ (by decide) (by decide)) d) ?_
            refine pw_eqI (if_neg c55_) ?_
            have b64_ : (-1) ≤ Int32.toInt ((pvstab 1040).getD (Int32.toNatClampNeg i2z51_) 0) ∧ Int32.toInt ((pvstab 1040).getD (Int32.toNatClampNeg i2z51_) 0) ≤ 3 := (pvst_1040 _)
            show PW 132 d (27, [some (pvI n0), some (pvI n1), some (pvI i2z51_), some (pvI i3z51_)], [pvI ((pvstab 1040).getD (Int32.toNatClampNeg i2z51_) 0)], M) _
            obtain ⟨q66_, b65_⟩ : (Int32.toInt (i3z51_ + 1) = Int32.toInt i3z51_ + 1) ∧ (1 ≤ Int32.toInt (i3z51_ + 1) ∧ Int32.toInt (i3z51_ + 1) ≤ 7) := zadd_k i3z51_ 1 1 1 7 b54_ (by decide) (by decide) (by decide) (by decide) (by decide)
            refine pw_blk hT 3 (S' := (4, [some (pvI n0), some (pvI n1), some (pvI ((pvstab 1040).getD (Int32.toNatClampNeg i2z51_) 0)), some (pvI (i3z51_ + 1))], [], M)) rfl ⟨trivial, trivial, trivial, trivial⟩ ?_
            exact ihz51_ ((pvstab 1040).getD (Int32.toNatClampNeg i2z51_) 0) (i3z51_ + 1) (zr_wide b64_ (by decide) (by decide)) (zr_wide b65_ (by decide) (by decide)) (zhid (pvms_up (zshow hmz51_) h3z51_ q66_ (by decide) (by decide)))
          · have b67_ : 0 ≤ Int32.toInt n1 ∧ Int32.toInt n1 ≤ 6 := (by have u0 := (zbnd n1); have u1 := (zi_eq _ _).mp c58_; have u2 := b57_; omega)
            have d68_ : Int32.toInt i2z51_ = Int32.toInt n1 := (zi_eq _ _).mp c58_
            refine pw_blk hT 1 (S' := (22, [some (pvI n0), some (pvI n1), some (pvI i2z51_), some (pvI i3z51_)], [pvI 1], M)) rfl ⟨trivial, trivial⟩ ?_
            exact pw_ret hT rfl (r := some (pvI 1)) (M' := M) ⟨Or.inr rfl, rfl, rfl⟩ ⟨⟨_, rfl, (zr_wide (show 1 ≤ Int32.toInt 1 ∧ Int32.toInt 1 ≤ 1 from (by decide)) (by decide) (by decide))⟩, rfl⟩
  exact hlz51_ _ n0 0 (zr_wide hn0 (by decide) (by decide)) (zr_wide (show 0 ≤ Int32.toInt 0 ∧ Int32.toInt 0 ≤ 0 from (by decide)) (by decide) (by decide)) (zhid (Nat.lt_succ_self _))
set_option maxHeartbeats 4000000 in
set_option maxRecDepth 10000 in
theorem sf_X9_taken_0_x_x (M : pvM) (hok : pvOk M) (n1 : Int32) (n2 : Int32) (d : Nat) : PW 203 d (0, [some (pvR 0), some (pvI n1), some (pvI n2), none], [], M) (fun r X => (∃ x : Int32, r = some (pvI x) ∧ (-12) ≤ Int32.toInt x ∧ Int32.toInt x ≤ 6) ∧ X = M) := by
  have hT : pvdom 203 = pvD_203 := rfl
  refine pw_blk hT 3 (S' := (4, [some (pvR 0), some (pvI n1), some (pvI n2), none], [pvI 6, pvI 0, pvI n2], M)) rfl ⟨trivial, trivial, trivial, trivial⟩ ?_
  refine pw_callT hT (as := [pvI n2, pvI 0, pvI 6]) (lo1 := [some (pvI n2), some (pvI 0), some (pvI 6)]) (d1 := d) (rest := []) rfl rfl rfl rfl rfl (fun h => absurd h (by decide)) (Nat.zero_le _) rfl rfl rfl (sf_X9_within_x_x_x M hok n2 0 6 d) ?_
  by_cases c6_ : n2 < 0
  · refine pw_eqI (if_pos c6_) ?_
    have b7_ : (-2147483648) ≤ Int32.toInt n2 ∧ Int32.toInt n2 ≤ (-1) := zr_lt_l (-1) c6_ (zbnd n2) (show 0 ≤ Int32.toInt 0 ∧ Int32.toInt 0 ≤ 0 from (by decide)) (by decide)
    show PW 203 d (7, [some (pvR 0), some (pvI n1), some (pvI n2), none], [pvI 0], M) _
    refine pw_ifn hT (c := 0 = 0) rfl rfl (fun c8_ => absurd (by decide) c8_) (fun c8_ => ?_)
    refine pw_blk hT 1 (S' := (12, [some (pvR 0), some (pvI n1), some (pvI n2), none], [pvI (-2)], M)) rfl ⟨trivial, trivial⟩ ?_
    exact pw_ret hT rfl (r := some (pvI (-2))) (M' := M) ⟨rfl, rfl⟩ ⟨⟨_, rfl, (zr_wide (show (-2) ≤ Int32.toInt (-2) ∧ Int32.toInt (-2) ≤ (-2) from (by decide)) (by decide) (by decide))⟩, rfl⟩
  · refine pw_eqI (if_neg c6_) ?_
    have b9_ : 0 ≤ Int32.toInt n2 ∧ Int32.toInt n2 ≤ 2147483647 := zr_nlt_l 0 c6_ (zbnd n2) (show 0 ≤ Int32.toInt 0 ∧ Int32.toInt 0 ≤ 0 from (by decide)) (by decide)
    by_cases c10_ : 6 < n2
    · refine pw_eqI (if_pos c10_) ?_
      have b11_ : 7 ≤ Int32.toInt n2 ∧ Int32.toInt n2 ≤ 2147483647 := zr_lt_r 7 c10_ b9_ (show 6 ≤ Int32.toInt 6 ∧ Int32.toInt 6 ≤ 6 from (by decide)) (by decide)
      show PW 203 d (7, [some (pvR 0), some (pvI n1), some (pvI n2), none], [pvI 0], M) _
      refine pw_ifn hT (c := 0 = 0) rfl rfl (fun c12_ => absurd (by decide) c12_) (fun c12_ => ?_)
      refine pw_blk hT 1 (S' := (12, [some (pvR 0), some (pvI n1), some (pvI n2), none], [pvI (-2)], M)) rfl ⟨trivial, trivial⟩ ?_
      exact pw_ret hT rfl (r := some (pvI (-2))) (M' := M) ⟨rfl, rfl⟩ ⟨⟨_, rfl, (zr_wide (show (-2) ≤ Int32.toInt (-2) ∧ Int32.toInt (-2) ≤ (-2) from (by decide)) (by decide) (by decide))⟩, rfl⟩
    · refine pw_eqI (if_neg c10_) ?_
      have b13_ : 0 ≤ Int32.toInt n2 ∧ Int32.toInt n2 ≤ 6 := zr_nlt_r 6 c10_ b9_ (show 6 ≤ Int32.toInt 6 ∧ Int32.toInt 6 ≤ 6 from (by decide)) (by decide)
      show PW 203 d (7, [some (pvR 0), some (pvI n1), some (pvI n2), none], [pvI 1], M) _
      refine pw_ifn hT (c := 1 = 0) rfl rfl (fun c14_ => ?_) (fun c14_ => absurd c14_ (by decide))
      refine pw_blk hT 3 (S' := (18, [some (pvR 0), some (pvI n1), some (pvI n2), none], [pvI n1, pvR 8], M)) rfl ⟨trivial, rfl, trivial, trivial⟩ ?_
      refine pw_callT hT (as := [pvR 8, pvI n1]) (lo1 := [some (pvR 8), some (pvI n1)]) (d1 := d) (rest := []) rfl rfl rfl rfl rfl (fun _ => rfl) (Nat.zero_le _) rfl rfl rfl (sf_X7_has_8_x M hok n1 d) ?_
      by_cases c20_ : n1 < 0
      · refine pw_eqI (if_pos c20_) ?_
        have b21_ : (-2147483648) ≤ Int32.toInt n1 ∧ Int32.toInt n1 ≤ (-1) := zr_lt_l (-1) c20_ (zbnd n1) (show 0 ≤ Int32.toInt 0 ∧ Int32.toInt 0 ≤ 0 from (by decide)) (by decide)
        show PW 203 d (21, [some (pvR 0), some (pvI n1), some (pvI n2), none], [pvI 0], M) _
        refine pw_ifn hT (c := 0 = 0) rfl rfl (fun c22_ => absurd (by decide) c22_) (fun c22_ => ?_)
        refine pw_blk hT 1 (S' := (26, [some (pvR 0), some (pvI n1), some (pvI n2), none], [pvI (-11)], M)) rfl ⟨trivial, trivial⟩ ?_
        exact pw_ret hT rfl (r := some (pvI (-11))) (M' := M) ⟨rfl, rfl⟩ ⟨⟨_, rfl, (zr_wide (show (-11) ≤ Int32.toInt (-11) ∧ Int32.toInt (-11) ≤ (-11) from (by decide)) (by decide) (by decide))⟩, rfl⟩
      · refine pw_eqI (if_neg c20_) ?_
        have b23_ : 0 ≤ Int32.toInt n1 ∧ Int32.toInt n1 ≤ 2147483647 := zr_nlt_l 0 c20_ (zbnd n1) (show 0 ≤ Int32.toInt 0 ∧ Int32.toInt 0 ≤ 0 from (by decide)) (by decide)
        have b24_ : 0 ≤ Int32.toInt (M.1 8 1) ∧ Int32.toInt (M.1 8 1) ≤ 7 := pvok_r hok 8 1 rfl
        by_cases c25_ : (M.1 8 1) ≤ n1
        · refine pw_eqI (if_pos c25_) ?_
          have d26_ : Int32.toInt (M.1 8 1) ≤ Int32.toInt n1 := (zi_le _ _).mp c25_
          show PW 203 d (21, [some (pvR 0), some (pvI n1), some (pvI n2), none], [pvI 0], M) _
          refine pw_ifn hT (c := 0 = 0) rfl rfl (fun c27_ => absurd (by decide) c27_) (fun c27_ => ?_)
          refine pw_blk hT 1 (S' := (26, [some (pvR 0), some (pvI n1), some (pvI n2), none], [pvI (-11)], M)) rfl ⟨trivial, trivial⟩ ?_
          exact pw_ret hT rfl (r := some (pvI (-11))) (M' := M) ⟨rfl, rfl⟩ ⟨⟨_, rfl, (zr_wide (show (-11) ≤ Int32.toInt (-11) ∧ Int32.toInt (-11) ≤ (-11) from (by decide)) (by decide) (by decide))⟩, rfl⟩
        · refine pw_eqI (if_neg c25_) ?_
          have b28_ : 1 ≤ Int32.toInt (M.1 8 1) ∧ Int32.toInt (M.1 8 1) ≤ 7 := zr_nle_l 1 c25_ b24_ b23_ (by decide)
          have b29_ : 0 ≤ Int32.toInt n1 ∧ Int32.toInt n1 ≤ 6 := zr_nle_r 6 c25_ b23_ b28_ (by decide)
          have d30_ : Int32.toInt (M.1 8 1) > Int32.toInt n1 := Int.not_le.mp ((not_congr (zi_le _ _)).mp c25_)
          show PW 203 d (21, [some (pvR 0), some (pvI n1), some (pvI n2), none], [pvI 1], M) _
          refine pw_ifn hT (c := 1 = 0) rfl rfl (fun c31_ => ?_) (fun c31_ => absurd c31_ (by decide))
          refine pw_blkr hT 5 (pc := 36) (lo := [some (pvR 0), some (pvI n1), some (pvI n2), none]) (st := []) (M := M) (z := (pvbs 10 + Int32.toNatClampNeg n1)) rfl ⟨trivial, rfl, rfl, trivial, ⟨rfl, (zr_in (n := 7) b29_ (by decide) (by decide))⟩, trivial⟩ (fun q32_ e34_ => ?_)
          have k33_ : pvkl q32_ = 3 := pvel_10 (zr_in (n := 7) b29_ (by decide) (by decide)) e34_
          have b35_ : 0 ≤ Int32.toInt (M.1 q32_ 0) ∧ Int32.toInt (M.1 q32_ 0) ≤ 6 := pvok_r hok q32_ 0 ((pvrg_o 0 k33_ (by decide) (by decide)).trans rfl)
          refine pw_blk hT 4 (S' := (42, [some (pvR 0), some (pvI n1), some (pvI n2), some (pvI (M.1 q32_ 0))], [pvI n2, pvI (M.1 q32_ 0)], M)) rfl ⟨k33_, trivial, trivial, trivial, trivial⟩ ?_
          refine pw_callGp hT (as := [pvI (M.1 q32_ 0), pvI n2]) (lo1 := [some (pvI (M.1 q32_ 0)), some (pvI n2), none, none]) (d1 := d) (rest := []) rfl rfl rfl rfl rfl (fun h => absurd h (by decide)) (Nat.zero_le _) rfl rfl rfl (sf_X3_isUnder_x_x M hok (M.1 q32_ 0) n2 b35_ d) (fun x36_ b38_ => ?_)
          refine pw_if hT (c := x36_ = 0) rfl rfl (fun c41_ => ?_) (fun c41_ => ?_)
          · have b42_ : 0 ≤ Int32.toInt x36_ ∧ Int32.toInt x36_ ≤ 0 := (by have u0 := b38_; have u1 := (zi_eq _ _).mp c41_; have u2 := (show 0 ≤ Int32.toInt 0 ∧ Int32.toInt 0 ≤ 0 from (by decide)); omega)
            refine pw_blk hT 1 (S' := (54, [some (pvR 0), some (pvI n1), some (pvI n2), some (pvI (M.1 q32_ 0))], [pvI (-12)], M)) rfl ⟨trivial, trivial⟩ ?_
            exact pw_ret hT rfl (r := some (pvI (-12))) (M' := M) ⟨rfl, rfl⟩ ⟨⟨_, rfl, (zr_wide (show (-12) ≤ Int32.toInt (-12) ∧ Int32.toInt (-12) ≤ (-12) from (by decide)) (by decide) (by decide))⟩, rfl⟩
          · have b43_ : 1 ≤ Int32.toInt x36_ ∧ Int32.toInt x36_ ≤ 1 := (by have u0 := b38_; have u1 := (not_congr (zi_eq _ _)).mp c41_; have u2 := (show 0 ≤ Int32.toInt 0 ∧ Int32.toInt 0 ≤ 0 from (by decide)); omega)
            refine pw_blk hT 2 (S' := (54, [some (pvR 0), some (pvI n1), some (pvI n2), some (pvI (M.1 q32_ 0))], [pvI (M.1 q32_ 0)], M)) rfl ⟨trivial, trivial, trivial⟩ ?_
            exact pw_ret hT rfl (r := some (pvI (M.1 q32_ 0))) (M' := M) ⟨rfl, rfl⟩ ⟨⟨_, rfl, (zr_wide b35_ (by decide) (by decide))⟩, rfl⟩
def fpL_X8_become_x_x_x : List (Nat × Nat × Nat) := [(1, 7, 1), (1, 7, 2)]
def fp_X8_become_x_x_x (q k : Nat) : Bool := pvfp fpL_X8_become_x_x_x q k
set_option maxHeartbeats 4000000 in
set_option maxRecDepth 10000 in
theorem sf_X8_become_x_x_x (M : pvM) (hok : pvOk M) (q0 : Nat) (n1 : Int32) (n2 : Int32) (hq0 : pvkl q0 = 7) (hn1 : (-1) ≤ Int32.toInt n1 ∧ Int32.toInt n1 ≤ 4) (d : Nat) : PW 162 d (0, [some (pvR q0), some (pvI n1), some (pvI n2), none], [], M) (fun r X => r = none ∧ pvOk X ∧ pvFr fp_X8_become_x_x_x M X) := by
  have hT : pvdom 162 = pvD_162 := rfl
  refine pw_blkw hT 3 (pc := 5) (lo := [some (pvR q0), some (pvI n1), some (pvI n2), none]) (st := []) (M := pvu M q0 0 n1) rfl ⟨trivial, trivial, hq0, trivial⟩ (fun M1_ e2_ => ?_)
  have o3_ : pvOk M1_ := pvok_u2 e2_ hok ((pvrg_o 0 hq0 (by decide) (by decide)).trans rfl) hn1
  have f4_ : pvFr fp_X8_become_x_x_x M M1_ := pvfr_u e2_ pvfr_0 (pvfp_r (l := fpL_X8_become_x_x_x) (pvowr_7 hq0) (kk := 1) (by decide) (Or.inr rfl))
  have q5_ : Int32.toInt (if 60 < n2 then 60 else n2) = min (Int32.toInt n2) (Int32.toInt 60) := pvmin n2 60
  have b6_ : (-2147483648) ≤ Int32.toInt (if 60 < n2 then 60 else n2) ∧ Int32.toInt (if 60 < n2 then 60 else n2) ≤ 60 := (by have u0 := (zbnd n2); have u1 := (show 60 ≤ Int32.toInt 60 ∧ Int32.toInt 60 ≤ 60 from (by decide)); omega)
  have q7_ : Int32.toInt (if 0 < (if 60 < n2 then 60 else n2) then (if 60 < n2 then 60 else n2) else 0) = max (Int32.toInt 0) (Int32.toInt (if 60 < n2 then 60 else n2)) := pvmax 0 (if 60 < n2 then 60 else n2)
  have b8_ : 0 ≤ Int32.toInt (if 0 < (if 60 < n2 then 60 else n2) then (if 60 < n2 then 60 else n2) else 0) ∧ Int32.toInt (if 0 < (if 60 < n2 then 60 else n2) then (if 60 < n2 then 60 else n2) else 0) ≤ 60 := (by have u0 := (show 0 ≤ Int32.toInt 0 ∧ Int32.toInt 0 ≤ 0 from (by decide)); have u1 := b6_; omega)
  refine pw_blkw hT 7 (pc := 19) (lo := [some (pvR q0), some (pvI n1), some (pvI n2), none]) (st := []) (M := pvu M1_ q0 1 (if 0 < (if 60 < n2 then 60 else n2) then (if 60 < n2 then 60 else n2) else 0)) rfl ⟨trivial, trivial, trivial, trivial, (Nat.le_of_ble_eq_true rfl), (Nat.le_of_ble_eq_true rfl), hq0, trivial⟩ (fun M9_ e10_ => ?_)
  have o11_ : pvOk M9_ := pvok_u2 e10_ o3_ ((pvrg_o 1 hq0 (by decide) (by decide)).trans rfl) b8_
  have f12_ : pvFr fp_X8_become_x_x_x M M9_ := pvfr_u e10_ f4_ (pvfp_r (l := fpL_X8_become_x_x_x) (pvowr_7 hq0) (kk := 2) (by decide) (Or.inr rfl))
  refine pw_blk hT 2 (S' := (21, [some (pvR q0), some (pvI n1), some (pvI n2), some (pvI 0)], [], M9_)) rfl ⟨trivial, trivial, trivial⟩ ?_
  have hlz65_ : ∀ (nz65_ : Nat) (i3z65_ : Int32) (Mz65_ : pvM), (pvOk Mz65_) → (pvFr fp_X8_become_x_x_x M Mz65_) → (0 ≤ Int32.toInt i3z65_ ∧ Int32.toInt i3z65_ ≤ 60) → (zhide ((61 - Int32.toInt i3z65_).toNat < nz65_)) → PW 162 d (21, [some (pvR q0), some (pvI n1), some (pvI n2), some (pvI i3z65_)], [], Mz65_) (fun r X => r = none ∧ pvOk X ∧ pvFr fp_X8_become_x_x_x M X) := by
    intro nz65_
    induction nz65_ with
    | zero => intro i3z65_ Mz65_ oz65_ fz65_ h3z65_ hmz65_; exact absurd (zshow hmz65_) (Nat.not_lt_zero _)
    | succ nz65_ ihz65_ =>
      intro i3z65_ Mz65_ oz65_ fz65_ h3z65_ hmz65_
      have b66_ : 0 ≤ Int32.toInt (Mz65_.1 q0 1) ∧ Int32.toInt (Mz65_.1 q0 1) ≤ 60 := pvok_r oz65_ q0 1 ((pvrg_o 1 hq0 (by decide) (by decide)).trans rfl)
      refine pw_blk hT 3 (S' := (26, [some (pvR q0), some (pvI n1), some (pvI n2), some (pvI i3z65_)], [pvI (Mz65_.1 q0 1), pvI i3z65_], Mz65_)) rfl ⟨trivial, trivial, hq0, trivial⟩ ?_
      refine pw_ic hT (c := (Mz65_.1 q0 1) ≤ i3z65_) rfl rfl (fun c67_ => ?_) (fun c67_ => ?_)
      · have d68_ : Int32.toInt (Mz65_.1 q0 1) ≤ Int32.toInt i3z65_ := (zi_le _ _).mp c67_
        exact pw_ret hT rfl (r := none) (M' := Mz65_) ⟨rfl, rfl⟩ ⟨rfl, oz65_, fz65_⟩
      · have b69_ : 1 ≤ Int32.toInt (Mz65_.1 q0 1) ∧ Int32.toInt (Mz65_.1 q0 1) ≤ 60 := zr_nle_l 1 c67_ b66_ h3z65_ (by decide)
        have b70_ : 0 ≤ Int32.toInt i3z65_ ∧ Int32.toInt i3z65_ ≤ 59 := zr_nle_r 59 c67_ h3z65_ b69_ (by decide)
        have d71_ : Int32.toInt (Mz65_.1 q0 1) > Int32.toInt i3z65_ := Int.not_le.mp ((not_congr (zi_le _ _)).mp c67_)
        refine pw_blkw hT 5 (pc := 36) (lo := [some (pvR q0), some (pvI n1), some (pvI n2), some (pvI i3z65_)]) (st := []) (M := pvw Mz65_ (q0 + 6) (Int32.toNatClampNeg i3z65_) 0) rfl ⟨trivial, hq0, trivial, trivial, ⟨(pvow_7_6 hq0).1, (by rw [(pvow_7_6 hq0).2.1]; exact (zr_in (n := 60) b70_ (by decide) (by decide)))⟩, trivial⟩ (fun M72_ e73_ => ?_)
        have o74_ : pvOk M72_ := pvok_w e73_ oz65_
        have f75_ : pvFr fp_X8_become_x_x_x M M72_ := pvfr_w e73_ fz65_
        obtain ⟨q77_, b76_⟩ : (Int32.toInt (i3z65_ + 1) = Int32.toInt i3z65_ + 1) ∧ (1 ≤ Int32.toInt (i3z65_ + 1) ∧ Int32.toInt (i3z65_ + 1) ≤ 60) := zadd_k i3z65_ 1 1 1 60 b70_ (by decide) (by decide) (by decide) (by decide) (by decide)
        refine pw_blk hT 2 (S' := (21, [some (pvR q0), some (pvI n1), some (pvI n2), some (pvI (i3z65_ + 1))], [], M72_)) rfl ⟨trivial, trivial, trivial⟩ ?_
        exact ihz65_ (i3z65_ + 1) M72_ o74_ f75_ (zr_wide b76_ (by decide) (by decide)) (zhid (pvms_up (zshow hmz65_) h3z65_ q77_ (by decide) (by decide)))
  exact hlz65_ _ 0 M9_ o11_ f12_ (zr_wide (show 0 ≤ Int32.toInt 0 ∧ Int32.toInt 0 ≤ 0 from (by decide)) (by decide) (by decide)) (zhid (Nat.lt_succ_self _))
def fpL_X9_tape_0_x_x_x : List (Nat × Nat × Nat) := [(1, 7, 1), (1, 7, 2)]
def fp_X9_tape_0_x_x_x (q k : Nat) : Bool := pvfp fpL_X9_tape_0_x_x_x q k
theorem fp_X9_tape_0_x_x_x_fp_X8_become_x_x_x (a b : Nat) (h : fp_X8_become_x_x_x a b = true) : fp_X9_tape_0_x_x_x a b = true := pvfp_sub (l1 := fpL_X8_become_x_x_x) (l2 := fpL_X9_tape_0_x_x_x) (by decide) a b h
set_option maxHeartbeats 4000000 in
set_option maxRecDepth 10000 in
theorem sf_X9_tape_0_x_x_x (M : pvM) (hok : pvOk M) (n1 : Int32) (n2 : Int32) (n3 : Int32) (d : Nat) : PW 204 d (0, [some (pvR 0), some (pvI n1), some (pvI n2), some (pvI n3)], [], M) (fun r X => (∃ x : Int32, r = some (pvI x) ∧ (-14) ≤ Int32.toInt x ∧ Int32.toInt x ≤ 1) ∧ pvOk X ∧ pvFr fp_X9_tape_0_x_x_x M X) := by
  have hT : pvdom 204 = pvD_204 := rfl
  refine pw_blk hT 1 (S' := (1, [some (pvR 0), some (pvI n1), some (pvI n2), some (pvI n3)], [pvI n1], M)) rfl ⟨trivial, trivial⟩ ?_
  refine pw_callT hT (as := [pvI n1]) (lo1 := [some (pvI n1)]) (d1 := d) (rest := []) rfl rfl rfl rfl rfl (fun h => absurd h (by decide)) (Nat.zero_le _) rfl rfl rfl (sf_X9_isTape_x M hok n1 d) ?_
  by_cases c6_ : n1 < 0
  · refine pw_eqI (if_pos c6_) ?_
    have b7_ : (-2147483648) ≤ Int32.toInt n1 ∧ Int32.toInt n1 ≤ (-1) := zr_lt_l (-1) c6_ (zbnd n1) (show 0 ≤ Int32.toInt 0 ∧ Int32.toInt 0 ≤ 0 from (by decide)) (by decide)
    show PW 204 d (4, [some (pvR 0), some (pvI n1), some (pvI n2), some (pvI n3)], [pvI 0], M) _
    refine pw_ifn hT (c := 0 = 0) rfl rfl (fun c8_ => absurd (by decide) c8_) (fun c8_ => ?_)
    refine pw_blk hT 1 (S' := (8, [some (pvR 0), some (pvI n1), some (pvI n2), some (pvI n3)], [pvI (-1)], M)) rfl ⟨trivial, trivial⟩ ?_
    exact pw_ret hT rfl (r := some (pvI (-1))) (M' := M) ⟨rfl, rfl⟩ ⟨⟨_, rfl, (zr_wide (show (-1) ≤ Int32.toInt (-1) ∧ Int32.toInt (-1) ≤ (-1) from (by decide)) (by decide) (by decide))⟩, hok, pvfr_0⟩
  · refine pw_eqI (if_neg c6_) ?_
    have b9_ : 0 ≤ Int32.toInt n1 ∧ Int32.toInt n1 ≤ 2147483647 := zr_nlt_l 0 c6_ (zbnd n1) (show 0 ≤ Int32.toInt 0 ∧ Int32.toInt 0 ≤ 0 from (by decide)) (by decide)
    by_cases c10_ : 5 < n1
    · refine pw_eqI (if_pos c10_) ?_
      have b11_ : 6 ≤ Int32.toInt n1 ∧ Int32.toInt n1 ≤ 2147483647 := zr_lt_r 6 c10_ b9_ (show 5 ≤ Int32.toInt 5 ∧ Int32.toInt 5 ≤ 5 from (by decide)) (by decide)
      show PW 204 d (4, [some (pvR 0), some (pvI n1), some (pvI n2), some (pvI n3)], [pvI 0], M) _
      refine pw_ifn hT (c := 0 = 0) rfl rfl (fun c12_ => absurd (by decide) c12_) (fun c12_ => ?_)
      refine pw_blk hT 1 (S' := (8, [some (pvR 0), some (pvI n1), some (pvI n2), some (pvI n3)], [pvI (-1)], M)) rfl ⟨trivial, trivial⟩ ?_
      exact pw_ret hT rfl (r := some (pvI (-1))) (M' := M) ⟨rfl, rfl⟩ ⟨⟨_, rfl, (zr_wide (show (-1) ≤ Int32.toInt (-1) ∧ Int32.toInt (-1) ≤ (-1) from (by decide)) (by decide) (by decide))⟩, hok, pvfr_0⟩
    · refine pw_eqI (if_neg c10_) ?_
      have b13_ : 0 ≤ Int32.toInt n1 ∧ Int32.toInt n1 ≤ 5 := zr_nlt_r 5 c10_ b9_ (show 5 ≤ Int32.toInt 5 ∧ Int32.toInt 5 ≤ 5 from (by decide)) (by decide)
      show PW 204 d (4, [some (pvR 0), some (pvI n1), some (pvI n2), some (pvI n3)], [pvI 1], M) _
      refine pw_ifn hT (c := 1 = 0) rfl rfl (fun c14_ => ?_) (fun c14_ => absurd c14_ (by decide))
      refine pw_blk hT 2 (S' := (11, [some (pvR 0), some (pvI n1), some (pvI n2), some (pvI n3)], [pvI (-1), pvI n2], M)) rfl ⟨trivial, trivial, trivial⟩ ?_
      refine pw_icn hT (c := n2 = (-1)) rfl rfl (fun c15_ => ?_) (fun c15_ => ?_)
      · refine pw_blk hT 3 (S' := (30, [some (pvR 0), some (pvI n1), some (pvI n2), some (pvI n3)], [pvI 4, pvI 0, pvI n2], M)) rfl ⟨trivial, trivial, trivial, trivial⟩ ?_
        refine pw_callT hT (as := [pvI n2, pvI 0, pvI 4]) (lo1 := [some (pvI n2), some (pvI 0), some (pvI 4)]) (d1 := d) (rest := []) rfl rfl rfl rfl rfl (fun h => absurd h (by decide)) (Nat.zero_le _) rfl rfl rfl (sf_X9_within_x_x_x M hok n2 0 4 d) ?_
        by_cases c21_ : n2 < 0
        · refine pw_eqI (if_pos c21_) ?_
          have b22_ : (-2147483648) ≤ Int32.toInt n2 ∧ Int32.toInt n2 ≤ (-2) := (by have u0 := (zbnd n2); have u9 := (show _ ∧ _ from ⟨(zi_lt _ _).mp c21_, (show 0 ≤ Int32.toInt 0 ∧ Int32.toInt 0 ≤ 0 from (by decide))⟩); have v1 := (not_congr (zi_eq _ _)).mp c15_; have w1 : ((-1) : Int32).toInt = -1 := (by decide); omega)
          show PW 204 d (33, [some (pvR 0), some (pvI n1), some (pvI n2), some (pvI n3)], [pvI 0], M) _
          refine pw_if hT (c := 0 = 0) rfl rfl (fun c23_ => ?_) (fun c23_ => absurd (by decide) c23_)
          refine pw_blk hT 1 (S' := (44, [some (pvR 0), some (pvI n1), some (pvI n2), some (pvI n3)], [pvI (-2)], M)) rfl ⟨trivial, trivial⟩ ?_
          exact pw_ret hT rfl (r := some (pvI (-2))) (M' := M) ⟨rfl, rfl⟩ ⟨⟨_, rfl, (zr_wide (show (-2) ≤ Int32.toInt (-2) ∧ Int32.toInt (-2) ≤ (-2) from (by decide)) (by decide) (by decide))⟩, hok, pvfr_0⟩
        · refine pw_eqI (if_neg c21_) ?_
          have b24_ : 0 ≤ Int32.toInt n2 ∧ Int32.toInt n2 ≤ 2147483647 := zr_nlt_l 0 c21_ (zbnd n2) (show 0 ≤ Int32.toInt 0 ∧ Int32.toInt 0 ≤ 0 from (by decide)) (by decide)
          by_cases c25_ : 4 < n2
          · refine pw_eqI (if_pos c25_) ?_
            have b26_ : 5 ≤ Int32.toInt n2 ∧ Int32.toInt n2 ≤ 2147483647 := zr_lt_r 5 c25_ b24_ (show 4 ≤ Int32.toInt 4 ∧ Int32.toInt 4 ≤ 4 from (by decide)) (by decide)
            show PW 204 d (33, [some (pvR 0), some (pvI n1), some (pvI n2), some (pvI n3)], [pvI 0], M) _
            refine pw_if hT (c := 0 = 0) rfl rfl (fun c27_ => ?_) (fun c27_ => absurd (by decide) c27_)
            refine pw_blk hT 1 (S' := (44, [some (pvR 0), some (pvI n1), some (pvI n2), some (pvI n3)], [pvI (-2)], M)) rfl ⟨trivial, trivial⟩ ?_
            exact pw_ret hT rfl (r := some (pvI (-2))) (M' := M) ⟨rfl, rfl⟩ ⟨⟨_, rfl, (zr_wide (show (-2) ≤ Int32.toInt (-2) ∧ Int32.toInt (-2) ≤ (-2) from (by decide)) (by decide) (by decide))⟩, hok, pvfr_0⟩
          · refine pw_eqI (if_neg c25_) ?_
            have b28_ : 0 ≤ Int32.toInt n2 ∧ Int32.toInt n2 ≤ 4 := zr_nlt_r 4 c25_ b24_ (show 4 ≤ Int32.toInt 4 ∧ Int32.toInt 4 ≤ 4 from (by decide)) (by decide)
            show PW 204 d (33, [some (pvR 0), some (pvI n1), some (pvI n2), some (pvI n3)], [pvI 1], M) _
            refine pw_if hT (c := 1 = 0) rfl rfl (fun c29_ => absurd c29_ (by decide)) (fun c29_ => ?_)
            refine pw_blk hT 2 (S' := (39, [some (pvR 0), some (pvI n1), some (pvI n2), some (pvI n3)], [pvI 60, pvI n3], M)) rfl ⟨trivial, trivial, trivial⟩ ?_
            refine pw_ic hT (c := n3 ≤ 60) rfl rfl (fun c30_ => ?_) (fun c30_ => ?_)
            · have b31_ : (-2147483648) ≤ Int32.toInt n3 ∧ Int32.toInt n3 ≤ 60 := zr_le_l 60 c30_ (zbnd n3) (show 60 ≤ Int32.toInt 60 ∧ Int32.toInt 60 ≤ 60 from (by decide)) (by decide)
              refine pw_blk hT 1 (S' := (46, [some (pvR 0), some (pvI n1), some (pvI n2), some (pvI n3)], [pvI n3], M)) rfl ⟨trivial, trivial⟩ ?_
              refine pw_if hT (c := 0 ≤ n3) rfl rfl (fun c32_ => ?_) (fun c32_ => ?_)
              · have b33_ : 0 ≤ Int32.toInt n3 ∧ Int32.toInt n3 ≤ 60 := zr_le_r 0 c32_ b31_ (show 0 ≤ Int32.toInt 0 ∧ Int32.toInt 0 ≤ 0 from (by decide)) (by decide)
                refine pw_blkr hT 4 (pc := 58) (lo := [some (pvR 0), some (pvI n1), some (pvI n2), some (pvI n3)]) (st := []) (M := M) (z := (pvbs 2 + Int32.toNatClampNeg n1)) rfl ⟨trivial, rfl, trivial, ⟨rfl, (zr_in (n := 6) b13_ (by decide) (by decide))⟩, trivial⟩ (fun q34_ e36_ => ?_)
                have k35_ : pvkl q34_ = 7 := pvel_2 (zr_in (n := 6) b13_ (by decide) (by decide)) e36_
                refine pw_blk hT 2 (S' := (60, [some (pvR 0), some (pvI n1), some (pvI n2), some (pvI n3)], [pvI n3, pvI n2, pvR q34_], M)) rfl ⟨trivial, trivial, trivial⟩ ?_
                refine pw_callV hT (as := [pvR q34_, pvI n2, pvI n3]) (lo1 := [some (pvR q34_), some (pvI n2), some (pvI n3), none]) (d1 := d) (rest := []) rfl rfl rfl rfl rfl (fun _ => k35_) (Nat.zero_le _) rfl rfl rfl (sf_X8_become_x_x_x M hok q34_ n2 n3 k35_ (zr_wide b28_ (by decide) (by decide)) d) (fun M38_ o40_ g41_ => ?_)
                have f42_ : pvFr fp_X9_tape_0_x_x_x M M38_ := pvfr_t g41_ pvfr_0 fp_X9_tape_0_x_x_x_fp_X8_become_x_x_x
                refine pw_blk hT 1 (S' := (64, [some (pvR 0), some (pvI n1), some (pvI n2), some (pvI n3)], [pvI 1], M38_)) rfl ⟨trivial, trivial⟩ ?_
                exact pw_ret hT rfl (r := some (pvI 1)) (M' := M38_) ⟨rfl, rfl⟩ ⟨⟨_, rfl, (zr_wide (show 1 ≤ Int32.toInt 1 ∧ Int32.toInt 1 ≤ 1 from (by decide)) (by decide) (by decide))⟩, o40_, f42_⟩
              · have b43_ : (-2147483648) ≤ Int32.toInt n3 ∧ Int32.toInt n3 ≤ (-1) := zr_nle_r (-1) c32_ b31_ (show 0 ≤ Int32.toInt 0 ∧ Int32.toInt 0 ≤ 0 from (by decide)) (by decide)
                refine pw_blk hT 1 (S' := (51, [some (pvR 0), some (pvI n1), some (pvI n2), some (pvI n3)], [pvI (-14)], M)) rfl ⟨trivial, trivial⟩ ?_
                exact pw_ret hT rfl (r := some (pvI (-14))) (M' := M) ⟨rfl, rfl⟩ ⟨⟨_, rfl, (zr_wide (show (-14) ≤ Int32.toInt (-14) ∧ Int32.toInt (-14) ≤ (-14) from (by decide)) (by decide) (by decide))⟩, hok, pvfr_0⟩
            · have b44_ : 61 ≤ Int32.toInt n3 ∧ Int32.toInt n3 ≤ 2147483647 := zr_nle_l 61 c30_ (zbnd n3) (show 60 ≤ Int32.toInt 60 ∧ Int32.toInt 60 ≤ 60 from (by decide)) (by decide)
              refine pw_blk hT 1 (S' := (44, [some (pvR 0), some (pvI n1), some (pvI n2), some (pvI n3)], [pvI (-2)], M)) rfl ⟨trivial, trivial⟩ ?_
              exact pw_ret hT rfl (r := some (pvI (-2))) (M' := M) ⟨rfl, rfl⟩ ⟨⟨_, rfl, (zr_wide (show (-2) ≤ Int32.toInt (-2) ∧ Int32.toInt (-2) ≤ (-2) from (by decide)) (by decide) (by decide))⟩, hok, pvfr_0⟩
      · have b45_ : (-1) ≤ Int32.toInt n2 ∧ Int32.toInt n2 ≤ (-1) := (by have u0 := (zbnd n2); have u1 := (zi_eq _ _).mp c15_; have u2 := (show (-1) ≤ Int32.toInt (-1) ∧ Int32.toInt (-1) ≤ (-1) from (by decide)); omega)
        refine pw_blkr hT 4 (pc := 20) (lo := [some (pvR 0), some (pvI n1), some (pvI n2), some (pvI n3)]) (st := []) (M := M) (z := (pvbs 2 + Int32.toNatClampNeg n1)) rfl ⟨trivial, rfl, trivial, ⟨rfl, (zr_in (n := 6) b13_ (by decide) (by decide))⟩, trivial⟩ (fun q46_ e48_ => ?_)
        have k47_ : pvkl q46_ = 7 := pvel_2 (zr_in (n := 6) b13_ (by decide) (by decide)) e48_
        refine pw_blk hT 2 (S' := (22, [some (pvR 0), some (pvI n1), some (pvI n2), some (pvI n3)], [pvI 0, pvI (-1), pvR q46_], M)) rfl ⟨trivial, trivial, trivial⟩ ?_
        refine pw_callV hT (as := [pvR q46_, pvI (-1), pvI 0]) (lo1 := [some (pvR q46_), some (pvI (-1)), some (pvI 0), none]) (d1 := d) (rest := []) rfl rfl rfl rfl rfl (fun _ => k47_) (Nat.zero_le _) rfl rfl rfl (sf_X8_become_x_x_x M hok q46_ (-1) 0 k47_ (zr_wide (show (-1) ≤ Int32.toInt (-1) ∧ Int32.toInt (-1) ≤ (-1) from (by decide)) (by decide) (by decide)) d) (fun M50_ o52_ g53_ => ?_)
        have f54_ : pvFr fp_X9_tape_0_x_x_x M M50_ := pvfr_t g53_ pvfr_0 fp_X9_tape_0_x_x_x_fp_X8_become_x_x_x
        refine pw_blk hT 1 (S' := (26, [some (pvR 0), some (pvI n1), some (pvI n2), some (pvI n3)], [pvI 1], M50_)) rfl ⟨trivial, trivial⟩ ?_
        exact pw_ret hT rfl (r := some (pvI 1)) (M' := M50_) ⟨rfl, rfl⟩ ⟨⟨_, rfl, (zr_wide (show 1 ≤ Int32.toInt 1 ∧ Int32.toInt 1 ≤ 1 from (by decide)) (by decide) (by decide))⟩, o52_, f54_⟩
set_option maxHeartbeats 4000000 in
set_option maxRecDepth 10000 in
theorem sf_X9_told_0_x (M : pvM) (hok : pvOk M) (n1 : Int32) (d : Nat) : PW 205 d (0, [some (pvR 0), some (pvI n1)], [], M) (fun r X => (∃ x : Int32, r = some (pvI x) ∧ True) ∧ X = M) := by
  have hT : pvdom 205 = pvD_205 := rfl
  refine pw_blk hT 1 (S' := (1, [some (pvR 0), some (pvI n1)], [pvI n1], M)) rfl ⟨trivial, trivial⟩ ?_
  refine pw_sw hT rfl rfl ?_
  refine And.intro (fun c1_ => ?_) (fun c1_ => ?_)
  · show PW 205 d (52, [some (pvR 0), some (pvI n1)], [], M) _
    have b2_ : 0 ≤ Int32.toInt n1 ∧ Int32.toInt n1 ≤ 0 := (by have u0 := (zbnd n1); have u1 := (zi_eq _ _).mp c1_; have u2 := (show 0 ≤ Int32.toInt 0 ∧ Int32.toInt 0 ≤ 0 from (by decide)); omega)
    have b3_ : 0 ≤ Int32.toInt (M.1 8 4) ∧ Int32.toInt (M.1 8 4) ≤ 9999 := pvok_r hok 8 4 rfl
    refine pw_blk hT 3 (S' := (59, [some (pvR 0), some (pvI n1)], [pvI (M.1 8 4)], M)) rfl ⟨trivial, rfl, rfl, trivial⟩ ?_
    exact pw_ret hT rfl (r := some (pvI (M.1 8 4))) (M' := M) ⟨rfl, rfl⟩ ⟨⟨_, rfl, trivial⟩, rfl⟩
  · refine And.intro (fun c4_ => ?_) (fun c4_ => ?_)
    · show PW 205 d (60, [some (pvR 0), some (pvI n1)], [], M) _
      have b5_ : 1 ≤ Int32.toInt n1 ∧ Int32.toInt n1 ≤ 1 := (by have u0 := (zbnd n1); have u1 := (zi_eq _ _).mp c4_; have u2 := (show 1 ≤ Int32.toInt 1 ∧ Int32.toInt 1 ≤ 1 from (by decide)); omega)
      refine pw_blk hT 3 (S' := (67, [some (pvR 0), some (pvI n1)], [pvI (M.1 8 5)], M)) rfl ⟨trivial, rfl, rfl, trivial⟩ ?_
      exact pw_ret hT rfl (r := some (pvI (M.1 8 5))) (M' := M) ⟨rfl, rfl⟩ ⟨⟨_, rfl, trivial⟩, rfl⟩
    · refine And.intro (fun c6_ => ?_) (fun c6_ => ?_)
      · show PW 205 d (68, [some (pvR 0), some (pvI n1)], [], M) _
        have b7_ : 2 ≤ Int32.toInt n1 ∧ Int32.toInt n1 ≤ 2 := (by have u0 := (zbnd n1); have u1 := (zi_eq _ _).mp c6_; have u2 := (show 2 ≤ Int32.toInt 2 ∧ Int32.toInt 2 ≤ 2 from (by decide)); omega)
        have b8_ : 0 ≤ Int32.toInt (M.1 8 2) ∧ Int32.toInt (M.1 8 2) ≤ 99 := pvok_r hok 8 2 rfl
        refine pw_blk hT 3 (S' := (75, [some (pvR 0), some (pvI n1)], [pvI (M.1 8 2)], M)) rfl ⟨trivial, rfl, rfl, trivial⟩ ?_
        exact pw_ret hT rfl (r := some (pvI (M.1 8 2))) (M' := M) ⟨rfl, rfl⟩ ⟨⟨_, rfl, trivial⟩, rfl⟩
      · refine And.intro (fun c9_ => ?_) (fun c9_ => ?_)
        · show PW 205 d (76, [some (pvR 0), some (pvI n1)], [], M) _
          have b10_ : 3 ≤ Int32.toInt n1 ∧ Int32.toInt n1 ≤ 3 := (by have u0 := (zbnd n1); have u1 := (zi_eq _ _).mp c9_; have u2 := (show 3 ≤ Int32.toInt 3 ∧ Int32.toInt 3 ≤ 3 from (by decide)); omega)
          have b11_ : 0 ≤ Int32.toInt (M.1 8 3) ∧ Int32.toInt (M.1 8 3) ≤ 3 := pvok_r hok 8 3 rfl
          refine pw_blk hT 3 (S' := (83, [some (pvR 0), some (pvI n1)], [pvI (M.1 8 3)], M)) rfl ⟨trivial, rfl, rfl, trivial⟩ ?_
          exact pw_ret hT rfl (r := some (pvI (M.1 8 3))) (M' := M) ⟨rfl, rfl⟩ ⟨⟨_, rfl, trivial⟩, rfl⟩
        · refine And.intro (fun c12_ => ?_) (fun c12_ => ?_)
          · show PW 205 d (84, [some (pvR 0), some (pvI n1)], [], M) _
            have b13_ : 4 ≤ Int32.toInt n1 ∧ Int32.toInt n1 ≤ 4 := (by have u0 := (zbnd n1); have u1 := (zi_eq _ _).mp c12_; have u2 := (show 4 ≤ Int32.toInt 4 ∧ Int32.toInt 4 ≤ 4 from (by decide)); omega)
            have b14_ : 15 ≤ Int32.toInt (M.1 8 8) ∧ Int32.toInt (M.1 8 8) ≤ 23 := pvok_r hok 8 8 rfl
            refine pw_blkr hT 3 (pc := 91) (lo := [some (pvR 0), some (pvI n1)]) (st := []) (M := M) (z := (pvhp (M.1 8 8))) rfl ⟨trivial, rfl, rfl, trivial⟩ (fun q15_ e17_ => ?_)
            have k16_ : pvkl q15_ = 2 := pvhp_k b14_ e17_
            have b18_ : 0 ≤ Int32.toInt (M.1 q15_ 0) ∧ Int32.toInt (M.1 q15_ 0) ≤ 99 := pvok_r hok q15_ 0 ((pvrg_o 0 k16_ (by decide) (by decide)).trans rfl)
            refine pw_blk hT 1 (S' := (94, [some (pvR 0), some (pvI n1)], [pvI (M.1 q15_ 0)], M)) rfl ⟨k16_, trivial⟩ ?_
            exact pw_ret hT rfl (r := some (pvI (M.1 q15_ 0))) (M' := M) ⟨rfl, rfl⟩ ⟨⟨_, rfl, trivial⟩, rfl⟩
          · refine And.intro (fun c19_ => ?_) (fun c19_ => ?_)
            · show PW 205 d (95, [some (pvR 0), some (pvI n1)], [], M) _
              have b20_ : 5 ≤ Int32.toInt n1 ∧ Int32.toInt n1 ≤ 5 := (by have u0 := (zbnd n1); have u1 := (zi_eq _ _).mp c19_; have u2 := (show 5 ≤ Int32.toInt 5 ∧ Int32.toInt 5 ≤ 5 from (by decide)); omega)
              have b21_ : 15 ≤ Int32.toInt (M.1 8 8) ∧ Int32.toInt (M.1 8 8) ≤ 23 := pvok_r hok 8 8 rfl
              refine pw_blkr hT 3 (pc := 102) (lo := [some (pvR 0), some (pvI n1)]) (st := []) (M := M) (z := (pvhp (M.1 8 8))) rfl ⟨trivial, rfl, rfl, trivial⟩ (fun q22_ e24_ => ?_)
              have k23_ : pvkl q22_ = 2 := pvhp_k b21_ e24_
              have b25_ : 0 ≤ Int32.toInt (M.1 q22_ 1) ∧ Int32.toInt (M.1 q22_ 1) ≤ 99 := pvok_r hok q22_ 1 ((pvrg_o 1 k23_ (by decide) (by decide)).trans rfl)
              refine pw_blk hT 1 (S' := (105, [some (pvR 0), some (pvI n1)], [pvI (M.1 q22_ 1)], M)) rfl ⟨k23_, trivial⟩ ?_
              exact pw_ret hT rfl (r := some (pvI (M.1 q22_ 1))) (M' := M) ⟨rfl, rfl⟩ ⟨⟨_, rfl, trivial⟩, rfl⟩
            · refine And.intro (fun c26_ => ?_) (fun c26_ => ?_)
              · show PW 205 d (106, [some (pvR 0), some (pvI n1)], [], M) _
                have b27_ : 6 ≤ Int32.toInt n1 ∧ Int32.toInt n1 ≤ 6 := (by have u0 := (zbnd n1); have u1 := (zi_eq _ _).mp c26_; have u2 := (show 6 ≤ Int32.toInt 6 ∧ Int32.toInt 6 ≤ 6 from (by decide)); omega)
                have b28_ : 0 ≤ Int32.toInt (M.1 8 6) ∧ Int32.toInt (M.1 8 6) ≤ 3 := pvok_r hok 8 6 rfl
                refine pw_blk hT 3 (S' := (113, [some (pvR 0), some (pvI n1)], [pvI (M.1 8 6)], M)) rfl ⟨trivial, rfl, rfl, trivial⟩ ?_
                exact pw_ret hT rfl (r := some (pvI (M.1 8 6))) (M' := M) ⟨rfl, rfl⟩ ⟨⟨_, rfl, trivial⟩, rfl⟩
              · refine And.intro (fun c29_ => ?_) (fun c29_ => ?_)
                · show PW 205 d (114, [some (pvR 0), some (pvI n1)], [], M) _
                  have b30_ : 7 ≤ Int32.toInt n1 ∧ Int32.toInt n1 ≤ 7 := (by have u0 := (zbnd n1); have u1 := (zi_eq _ _).mp c29_; have u2 := (show 7 ≤ Int32.toInt 7 ∧ Int32.toInt 7 ≤ 7 from (by decide)); omega)
                  have b31_ : 0 ≤ Int32.toInt (M.1 8 7) ∧ Int32.toInt (M.1 8 7) ≤ 4 := pvok_r hok 8 7 rfl
                  refine pw_blk hT 3 (S' := (121, [some (pvR 0), some (pvI n1)], [pvI (M.1 8 7)], M)) rfl ⟨trivial, rfl, rfl, trivial⟩ ?_
                  exact pw_ret hT rfl (r := some (pvI (M.1 8 7))) (M' := M) ⟨rfl, rfl⟩ ⟨⟨_, rfl, trivial⟩, rfl⟩
                · refine And.intro (fun c32_ => ?_) (fun c32_ => ?_)
                  · show PW 205 d (122, [some (pvR 0), some (pvI n1)], [], M) _
                    have b33_ : 8 ≤ Int32.toInt n1 ∧ Int32.toInt n1 ≤ 8 := (by have u0 := (zbnd n1); have u1 := (zi_eq _ _).mp c32_; have u2 := (show 8 ≤ Int32.toInt 8 ∧ Int32.toInt 8 ≤ 8 from (by decide)); omega)
                    refine pw_blk hT 2 (S' := (126, [some (pvR 0), some (pvI n1)], [pvR 8], M)) rfl ⟨trivial, rfl, trivial⟩ ?_
                    refine pw_callGp hT (as := [pvR 8]) (lo1 := [some (pvR 8), none, none]) (d1 := d) (rest := []) rfl rfl rfl rfl rfl (fun _ => rfl) (Nat.zero_le _) rfl rfl rfl (sf_X7_openBits_8 M hok d) (fun x34_ b36_ => ?_)
                    exact pw_ret hT rfl (r := some (pvI x34_)) (M' := M) ⟨rfl, rfl⟩ ⟨⟨_, rfl, trivial⟩, rfl⟩
                  · show PW 205 d (130, [some (pvR 0), some (pvI n1)], [], M) _
                    refine pw_blk hT 1 (S' := (131, [some (pvR 0), some (pvI n1)], [pvI (-1)], M)) rfl ⟨trivial, trivial⟩ ?_
                    exact pw_ret hT rfl (r := some (pvI (-1))) (M' := M) ⟨rfl, rfl⟩ ⟨⟨_, rfl, trivial⟩, rfl⟩
set_option maxHeartbeats 4000000 in
set_option maxRecDepth 10000 in
theorem sf_X9_trace_0_x (M : pvM) (hok : pvOk M) (n1 : Int32) (d : Nat) : PW 206 d (0, [some (pvR 0), some (pvI n1)], [], M) (fun r X => r = some (pvI ((if n1 < 0 then (-1) else (if (M.1 3 1) ≤ n1 then (-1) else (if n1 < 20 then (M.1 4 (Int32.toNatClampNeg n1)) else (-1)))))) ∧ X = M) := by
  have hT : pvdom 206 = pvD_206 := rfl
  refine pw_blk hT 1 (S' := (1, [some (pvR 0), some (pvI n1)], [pvI n1], M)) rfl ⟨trivial, trivial⟩ ?_
  refine pw_if hT (c := n1 < 0) rfl rfl (fun c1_ => ?_) (fun c1_ => ?_)
  · have b2_ : (-2147483648) ≤ Int32.toInt n1 ∧ Int32.toInt n1 ≤ (-1) := zr_lt_l (-1) c1_ (zbnd n1) (show 0 ≤ Int32.toInt 0 ∧ Int32.toInt 0 ≤ 0 from (by decide)) (by decide)
    refine pw_blk hT 1 (S' := (22, [some (pvR 0), some (pvI n1)], [pvI (-1)], M)) rfl ⟨trivial, trivial⟩ ?_
    exact pw_ret hT rfl (r := some (pvI (-1))) (M' := M) ⟨rfl, rfl⟩ ⟨(by rw [if_pos c1_]), rfl⟩
  · have b3_ : 0 ≤ Int32.toInt n1 ∧ Int32.toInt n1 ≤ 2147483647 := zr_nlt_l 0 c1_ (zbnd n1) (show 0 ≤ Int32.toInt 0 ∧ Int32.toInt 0 ≤ 0 from (by decide)) (by decide)
    have b4_ : 0 ≤ Int32.toInt (M.1 3 1) ∧ Int32.toInt (M.1 3 1) ≤ 1000000 := pvok_r hok 3 1 rfl
    refine pw_blk hT 4 (S' := (12, [some (pvR 0), some (pvI n1)], [pvI (M.1 3 1), pvI n1], M)) rfl ⟨trivial, trivial, rfl, rfl, trivial⟩ ?_
    refine pw_ic hT (c := (M.1 3 1) ≤ n1) rfl rfl (fun c5_ => ?_) (fun c5_ => ?_)
    · have d6_ : Int32.toInt (M.1 3 1) ≤ Int32.toInt n1 := (zi_le _ _).mp c5_
      refine pw_blk hT 1 (S' := (22, [some (pvR 0), some (pvI n1)], [pvI (-1)], M)) rfl ⟨trivial, trivial⟩ ?_
      exact pw_ret hT rfl (r := some (pvI (-1))) (M' := M) ⟨rfl, rfl⟩ ⟨(by rw [if_neg c1_, if_pos c5_]), rfl⟩
    · have b7_ : 1 ≤ Int32.toInt (M.1 3 1) ∧ Int32.toInt (M.1 3 1) ≤ 1000000 := zr_nle_l 1 c5_ b4_ b3_ (by decide)
      have b8_ : 0 ≤ Int32.toInt n1 ∧ Int32.toInt n1 ≤ 999999 := zr_nle_r 999999 c5_ b3_ b7_ (by decide)
      have d9_ : Int32.toInt (M.1 3 1) > Int32.toInt n1 := Int.not_le.mp ((not_congr (zi_le _ _)).mp c5_)
      refine pw_blk hT 2 (S' := (18, [some (pvR 0), some (pvI n1)], [pvI 20, pvI n1], M)) rfl ⟨trivial, trivial, trivial⟩ ?_
      refine pw_ic hT (c := n1 < 20) rfl rfl (fun c10_ => ?_) (fun c10_ => ?_)
      · have b11_ : 0 ≤ Int32.toInt n1 ∧ Int32.toInt n1 ≤ 19 := zr_lt_l 19 c10_ b8_ (show 20 ≤ Int32.toInt 20 ∧ Int32.toInt 20 ≤ 20 from (by decide)) (by decide)
        have b12_ : 0 ≤ Int32.toInt (M.1 4 (Int32.toNatClampNeg n1)) ∧ Int32.toInt (M.1 4 (Int32.toNatClampNeg n1)) ≤ 1000 := pvok_r hok 4 (Int32.toNatClampNeg n1) rfl
        refine pw_blk hT 5 (S' := (32, [some (pvR 0), some (pvI n1)], [pvI (M.1 4 (Int32.toNatClampNeg n1))], M)) rfl ⟨trivial, rfl, rfl, trivial, ⟨rfl, (zr_in (n := 20) b11_ (by decide) (by decide))⟩, trivial⟩ ?_
        exact pw_ret hT rfl (r := some (pvI (M.1 4 (Int32.toNatClampNeg n1)))) (M' := M) ⟨rfl, rfl⟩ ⟨(by rw [if_neg c1_, if_neg c5_, if_pos c10_]), rfl⟩
      · have b13_ : 20 ≤ Int32.toInt n1 ∧ Int32.toInt n1 ≤ 999999 := zr_nlt_l 20 c10_ b8_ (show 20 ≤ Int32.toInt 20 ∧ Int32.toInt 20 ≤ 20 from (by decide)) (by decide)
        refine pw_blk hT 1 (S' := (22, [some (pvR 0), some (pvI n1)], [pvI (-1)], M)) rfl ⟨trivial, trivial⟩ ?_
        exact pw_ret hT rfl (r := some (pvI (-1))) (M' := M) ⟨rfl, rfl⟩ ⟨(by rw [if_neg c1_, if_neg c5_, if_neg c10_]), rfl⟩
def fpL_X1_goAsTwo_5 : List (Nat × Nat × Nat) := [(0, 12, 0)]
def fp_X1_goAsTwo_5 (q k : Nat) : Bool := pvfp fpL_X1_goAsTwo_5 q k
theorem fp_X1_goAsTwo_5_fp_X1_goAlong_5_100_x_x_x (a b : Nat) (h : fp_X1_goAlong_5_100_x_x_x a b = true) : fp_X1_goAsTwo_5 a b = true := pvfp_sub (l1 := fpL_X1_goAlong_5_100_x_x_x) (l2 := fpL_X1_goAsTwo_5) (by decide) a b h
set_option maxHeartbeats 4000000 in
set_option maxRecDepth 10000 in
theorem sf_X1_goAsTwo_5 (M : pvM) (hok : pvOk M) (d : Nat) : PW 110 d (0, [some (pvR 5), none, none, none], [], M) (fun r X => (∃ x : Int32, r = some (pvI x) ∧ 0 ≤ Int32.toInt x ∧ Int32.toInt x ≤ 64000) ∧ pvOk X ∧ pvFr fp_X1_goAsTwo_5 M X) := by
  have hT : pvdom 110 = pvD_110 := rfl
  have b1_ : 0 ≤ Int32.toInt (M.1 100 0) ∧ Int32.toInt (M.1 100 0) ≤ 7 := pvok_r hok 100 0 rfl
  have q2_ : Int32.toInt ((M.1 100 0) / 2) = Int32.toInt (M.1 100 0) / 2 := by have u0 := b1_; have u := zdiv_p (M.1 100 0) 2 (by omega) (by decide) (by decide); have e0 : nI 2 = (2 : Int32) := rfl; rw [e0] at u; omega
  have b3_ : 0 ≤ Int32.toInt ((M.1 100 0) / 2) ∧ Int32.toInt ((M.1 100 0) / 2) ≤ 3 := (by have u0 := b1_; omega)
  obtain ⟨q5_, b4_⟩ : (Int32.toInt ((M.1 100 0) - ((M.1 100 0) / 2)) = Int32.toInt (M.1 100 0) - Int32.toInt ((M.1 100 0) / 2)) ∧ ((-3) ≤ Int32.toInt ((M.1 100 0) - ((M.1 100 0) / 2)) ∧ Int32.toInt ((M.1 100 0) - ((M.1 100 0) / 2)) ≤ 7) := zsub_r (M.1 100 0) ((M.1 100 0) / 2) (-3) 7 b1_ b3_ (by decide) (by decide) (by decide) (by decide)
  have b6_ : 0 ≤ Int32.toInt (M.1 8 4) ∧ Int32.toInt (M.1 8 4) ≤ 9999 := pvok_r hok 8 4 rfl
  refine pw_blk hT 20 (S' := (34, [some (pvR 5), some (pvI (M.1 100 0)), some (pvI ((M.1 100 0) - ((M.1 100 0) / 2))), none], [pvI (M.1 8 4), pvI ((M.1 100 0) - ((M.1 100 0) / 2)), pvI 0, pvR 100, pvR 5], M)) rfl ⟨trivial, rfl, rfl, rfl, trivial, trivial, trivial, trivial, (by decide), trivial, trivial, trivial, trivial, rfl, rfl, trivial, trivial, trivial, rfl, rfl, trivial⟩ ?_
  refine pw_callG hT (as := [pvR 5, pvR 100, pvI 0, pvI ((M.1 100 0) - ((M.1 100 0) / 2)), pvI (M.1 8 4)]) (lo1 := [some (pvR 5), some (pvR 100), some (pvI 0), some (pvI ((M.1 100 0) - ((M.1 100 0) / 2))), some (pvI (M.1 8 4)), none, none, none, none, none]) (d1 := d) (rest := []) rfl rfl rfl rfl rfl (fun _ => rfl) (Nat.zero_le _) rfl rfl rfl (sf_X1_goAlong_5_100_x_x_x M hok 0 ((M.1 100 0) - ((M.1 100 0) / 2)) (M.1 8 4) (zr_wide (show 0 ≤ Int32.toInt 0 ∧ Int32.toInt 0 ≤ 0 from (by decide)) (by decide) (by decide)) (by have u0 := b4_; omega) (zr_wide b6_ (by decide) (by decide)) d) (fun x7_ M8_ b9_ o10_ g11_ => ?_)
  have f12_ : pvFr fp_X1_goAsTwo_5 M M8_ := pvfr_t g11_ pvfr_0 fp_X1_goAsTwo_5_fp_X1_goAlong_5_100_x_x_x
  have b13_ : 0 ≤ Int32.toInt (M8_.1 8 4) ∧ Int32.toInt (M8_.1 8 4) ≤ 9999 := pvok_r o10_ 8 4 rfl
  refine pw_blk hT 11 (S' := (56, [some (pvR 5), some (pvI (M.1 100 0)), some (pvI ((M.1 100 0) - ((M.1 100 0) / 2))), some (pvI x7_)], [pvI (M8_.1 8 4), pvI (M.1 100 0), pvI ((M.1 100 0) - ((M.1 100 0) / 2)), pvR 100, pvR 5, pvI x7_], M8_)) rfl ⟨trivial, trivial, trivial, trivial, rfl, rfl, trivial, trivial, trivial, rfl, rfl, trivial⟩ ?_
  refine pw_callG hT (as := [pvR 5, pvR 100, pvI ((M.1 100 0) - ((M.1 100 0) / 2)), pvI (M.1 100 0), pvI (M8_.1 8 4)]) (lo1 := [some (pvR 5), some (pvR 100), some (pvI ((M.1 100 0) - ((M.1 100 0) / 2))), some (pvI (M.1 100 0)), some (pvI (M8_.1 8 4)), none, none, none, none, none]) (d1 := d) (rest := [pvI x7_]) rfl rfl rfl rfl rfl (fun _ => rfl) (Nat.zero_le _) rfl rfl rfl (sf_X1_goAlong_5_100_x_x_x M8_ o10_ ((M.1 100 0) - ((M.1 100 0) / 2)) (M.1 100 0) (M8_.1 8 4) (by have u0 := b4_; omega) b1_ (zr_wide b13_ (by decide) (by decide)) d) (fun x14_ M15_ b16_ o17_ g18_ => ?_)
  have f19_ : pvFr fp_X1_goAsTwo_5 M M15_ := pvfr_t g18_ f12_ fp_X1_goAsTwo_5_fp_X1_goAlong_5_100_x_x_x
  have q20_ : Int32.toInt (if x7_ < x14_ then x14_ else x7_) = max (Int32.toInt x7_) (Int32.toInt x14_) := pvmax x7_ x14_
  have b21_ : 0 ≤ Int32.toInt (if x7_ < x14_ then x14_ else x7_) ∧ Int32.toInt (if x7_ < x14_ then x14_ else x7_) ≤ 64000 := (by have u0 := b9_; have u1 := b16_; omega)
  refine pw_blk hT 1 (S' := (62, [some (pvR 5), some (pvI (M.1 100 0)), some (pvI ((M.1 100 0) - ((M.1 100 0) / 2))), some (pvI x7_)], [pvI (if x7_ < x14_ then x14_ else x7_)], M15_)) rfl ⟨(Nat.le_of_ble_eq_true rfl), trivial⟩ ?_
  exact pw_ret hT rfl (r := some (pvI (if x7_ < x14_ then x14_ else x7_))) (M' := M15_) ⟨rfl, rfl⟩ ⟨⟨_, rfl, b21_⟩, o17_, f19_⟩
def fpL_X9_two_0_x : List (Nat × Nat × Nat) := [(0, 12, 0), (0, 13, 0), (0, 14, 0), (0, 5, 2), (0, 5, 3), (1, 112, 0)]
def fp_X9_two_0_x (q k : Nat) : Bool := pvfp fpL_X9_two_0_x q k
theorem fp_X9_two_0_x_fp_X1_beginFromNow_5 (a b : Nat) (h : fp_X1_beginFromNow_5 a b = true) : fp_X9_two_0_x a b = true := pvfp_sub (l1 := fpL_X1_beginFromNow_5) (l2 := fpL_X9_two_0_x) (by decide) a b h
theorem fp_X9_two_0_x_fp_X1_goAsTwo_5 (a b : Nat) (h : fp_X1_goAsTwo_5 a b = true) : fp_X9_two_0_x a b = true := pvfp_sub (l1 := fpL_X1_goAsTwo_5) (l2 := fpL_X9_two_0_x) (by decide) a b h
set_option maxHeartbeats 4000000 in
set_option maxRecDepth 10000 in
theorem sf_X9_two_0_x (M : pvM) (hok : pvOk M) (n1 : Int32) (d : Nat) : PW 207 d (0, [some (pvR 0), some (pvI n1), none], [], M) (fun r X => (∃ x : Int32, r = some (pvI x) ∧ True) ∧ pvOk X ∧ pvFr fp_X9_two_0_x M X) := by
  have hT : pvdom 207 = pvD_207 := rfl
  refine pw_blk hT 3 (S' := (3, [some (pvR 0), some (pvI n1), none], [pvI 1, pvI 0, pvI n1], M)) rfl ⟨trivial, trivial, trivial, trivial⟩ ?_
  refine pw_callT hT (as := [pvI n1, pvI 0, pvI 1]) (lo1 := [some (pvI n1), some (pvI 0), some (pvI 1)]) (d1 := d) (rest := []) rfl rfl rfl rfl rfl (fun h => absurd h (by decide)) (Nat.zero_le _) rfl rfl rfl (sf_X9_within_x_x_x M hok n1 0 1 d) ?_
  by_cases c6_ : n1 < 0
  · refine pw_eqI (if_pos c6_) ?_
    have b7_ : (-2147483648) ≤ Int32.toInt n1 ∧ Int32.toInt n1 ≤ (-1) := zr_lt_l (-1) c6_ (zbnd n1) (show 0 ≤ Int32.toInt 0 ∧ Int32.toInt 0 ≤ 0 from (by decide)) (by decide)
    show PW 207 d (6, [some (pvR 0), some (pvI n1), none], [pvI 0], M) _
    refine pw_ifn hT (c := 0 = 0) rfl rfl (fun c8_ => absurd (by decide) c8_) (fun c8_ => ?_)
    refine pw_blk hT 1 (S' := (10, [some (pvR 0), some (pvI n1), none], [pvI (-1)], M)) rfl ⟨trivial, trivial⟩ ?_
    exact pw_ret hT rfl (r := some (pvI (-1))) (M' := M) ⟨rfl, rfl⟩ ⟨⟨_, rfl, trivial⟩, hok, pvfr_0⟩
  · refine pw_eqI (if_neg c6_) ?_
    have b9_ : 0 ≤ Int32.toInt n1 ∧ Int32.toInt n1 ≤ 2147483647 := zr_nlt_l 0 c6_ (zbnd n1) (show 0 ≤ Int32.toInt 0 ∧ Int32.toInt 0 ≤ 0 from (by decide)) (by decide)
    by_cases c10_ : 1 < n1
    · refine pw_eqI (if_pos c10_) ?_
      have b11_ : 2 ≤ Int32.toInt n1 ∧ Int32.toInt n1 ≤ 2147483647 := zr_lt_r 2 c10_ b9_ (show 1 ≤ Int32.toInt 1 ∧ Int32.toInt 1 ≤ 1 from (by decide)) (by decide)
      show PW 207 d (6, [some (pvR 0), some (pvI n1), none], [pvI 0], M) _
      refine pw_ifn hT (c := 0 = 0) rfl rfl (fun c12_ => absurd (by decide) c12_) (fun c12_ => ?_)
      refine pw_blk hT 1 (S' := (10, [some (pvR 0), some (pvI n1), none], [pvI (-1)], M)) rfl ⟨trivial, trivial⟩ ?_
      exact pw_ret hT rfl (r := some (pvI (-1))) (M' := M) ⟨rfl, rfl⟩ ⟨⟨_, rfl, trivial⟩, hok, pvfr_0⟩
    · refine pw_eqI (if_neg c10_) ?_
      have b13_ : 0 ≤ Int32.toInt n1 ∧ Int32.toInt n1 ≤ 1 := zr_nlt_r 1 c10_ b9_ (show 1 ≤ Int32.toInt 1 ∧ Int32.toInt 1 ≤ 1 from (by decide)) (by decide)
      show PW 207 d (6, [some (pvR 0), some (pvI n1), none], [pvI 1], M) _
      refine pw_ifn hT (c := 1 = 0) rfl rfl (fun c14_ => ?_) (fun c14_ => absurd c14_ (by decide))
      refine pw_blk hT 2 (S' := (15, [some (pvR 0), some (pvI n1), none], [pvR 5], M)) rfl ⟨trivial, rfl, trivial⟩ ?_
      refine pw_callV hT (as := [pvR 5]) (lo1 := [some (pvR 5)]) (d1 := d) (rest := []) rfl rfl rfl rfl rfl (fun _ => rfl) (Nat.zero_le _) rfl rfl rfl (sf_X1_beginFromNow_5 M hok d) (fun M16_ o18_ g19_ => ?_)
      have f20_ : pvFr fp_X9_two_0_x M M16_ := pvfr_t g19_ pvfr_0 fp_X9_two_0_x_fp_X1_beginFromNow_5
      refine pw_blk hT 2 (S' := (22, [some (pvR 0), some (pvI n1), none], [pvR 5], M16_)) rfl ⟨trivial, rfl, trivial⟩ ?_
      refine pw_callG hT (as := [pvR 5]) (lo1 := [some (pvR 5), none, none, none]) (d1 := d) (rest := []) rfl rfl rfl rfl rfl (fun _ => rfl) (Nat.zero_le _) rfl rfl rfl (sf_X1_goAsTwo_5 M16_ o18_ d) (fun x21_ M22_ b23_ o24_ g25_ => ?_)
      have f26_ : pvFr fp_X9_two_0_x M M22_ := pvfr_t g25_ f20_ fp_X9_two_0_x_fp_X1_goAsTwo_5
      refine pw_blk hT 2 (S' := (27, [some (pvR 0), some (pvI n1), some (pvI x21_)], [pvI n1], M22_)) rfl ⟨trivial, trivial, trivial⟩ ?_
      refine pw_ifn hT (c := n1 = 0) rfl rfl (fun c27_ => ?_) (fun c27_ => ?_)
      · have b28_ : 1 ≤ Int32.toInt n1 ∧ Int32.toInt n1 ≤ 1 := (by have u0 := b13_; have u1 := (not_congr (zi_eq _ _)).mp c27_; have u2 := (show 0 ≤ Int32.toInt 0 ∧ Int32.toInt 0 ≤ 0 from (by decide)); omega)
        refine pw_blk hT 1 (S' := (41, [some (pvR 0), some (pvI n1), some (pvI x21_)], [pvI x21_], M22_)) rfl ⟨trivial, trivial⟩ ?_
        exact pw_ret hT rfl (r := some (pvI x21_)) (M' := M22_) ⟨rfl, rfl⟩ ⟨⟨_, rfl, trivial⟩, o24_, f26_⟩
      · have b29_ : 0 ≤ Int32.toInt n1 ∧ Int32.toInt n1 ≤ 0 := (by have u0 := b13_; have u1 := (zi_eq _ _).mp c27_; have u2 := (show 0 ≤ Int32.toInt 0 ∧ Int32.toInt 0 ≤ 0 from (by decide)); omega)
        refine pw_blk hT 2 (S' := (34, [some (pvR 0), some (pvI n1), some (pvI x21_)], [pvR 5], M22_)) rfl ⟨trivial, rfl, trivial⟩ ?_
        refine pw_callGp hT (as := [pvR 5]) (lo1 := [some (pvR 5)]) (d1 := d) (rest := []) rfl rfl rfl rfl rfl (fun _ => rfl) (Nat.zero_le _) rfl rfl rfl (sf_X1_cost_5 M22_ o24_ d) (fun x30_ b32_ => ?_)
        refine pw_blk hT 1 (S' := (41, [some (pvR 0), some (pvI n1), some (pvI x21_)], [pvI x30_], M22_)) rfl ⟨trivial, trivial⟩ ?_
        exact pw_ret hT rfl (r := some (pvI x30_)) (M' := M22_) ⟨rfl, rfl⟩ ⟨⟨_, rfl, trivial⟩, o24_, f26_⟩
def fpL_X6_becomeAs_100_101 : List (Nat × Nat × Nat) := [(0, 100, 1), (0, 108, 0), (0, 116, 0)]
def fp_X6_becomeAs_100_101 (q k : Nat) : Bool := pvfp fpL_X6_becomeAs_100_101 q k
theorem fp_X6_becomeAs_100_101_fp_X6_append_100_x_x (a b : Nat) (h : fp_X6_append_100_x_x a b = true) : fp_X6_becomeAs_100_101 a b = true := pvfp_sub (l1 := fpL_X6_append_100_x_x) (l2 := fpL_X6_becomeAs_100_101) (by decide) a b h
theorem fp_X6_becomeAs_100_101_fp_X6_clear_100 (a b : Nat) (h : fp_X6_clear_100 a b = true) : fp_X6_becomeAs_100_101 a b = true := pvfp_sub (l1 := fpL_X6_clear_100) (l2 := fpL_X6_becomeAs_100_101) (by decide) a b h
set_option maxHeartbeats 4000000 in
set_option maxRecDepth 10000 in
theorem sf_X6_becomeAs_100_101 (M : pvM) (hok : pvOk M) (d : Nat) : PW 152 d (0, [some (pvR 100), some (pvR 101), none], [], M) (fun r X => r = none ∧ pvOk X ∧ pvFr fp_X6_becomeAs_100_101 M X) := by
  have hT : pvdom 152 = pvD_152 := rfl
  refine pw_blk hT 1 (S' := (1, [some (pvR 100), some (pvR 101), none], [pvR 100], M)) rfl ⟨trivial, trivial⟩ ?_
  refine pw_callG hT (as := [pvR 100]) (lo1 := [some (pvR 100)]) (d1 := d) (rest := []) rfl rfl rfl rfl rfl (fun _ => rfl) (Nat.zero_le _) rfl rfl rfl (sf_X6_clear_100 M hok d) (fun x1_ M2_ b3_ o4_ g5_ => ?_)
  have f6_ : pvFr fp_X6_becomeAs_100_101 M M2_ := pvfr_t g5_ pvfr_0 fp_X6_becomeAs_100_101_fp_X6_clear_100
  refine pw_blk hT 3 (S' := (7, [some (pvR 100), some (pvR 101), some (pvI 0)], [], M2_)) rfl ⟨trivial, trivial, trivial, trivial⟩ ?_
  have hlz75_ : ∀ (nz75_ : Nat) (i2z75_ : Int32) (Mz75_ : pvM), (pvOk Mz75_) → (pvFr fp_X6_becomeAs_100_101 M Mz75_) → (0 ≤ Int32.toInt i2z75_ ∧ Int32.toInt i2z75_ ≤ 7) → (zhide ((8 - Int32.toInt i2z75_).toNat < nz75_)) → PW 152 d (7, [some (pvR 100), some (pvR 101), some (pvI i2z75_)], [], Mz75_) (fun r X => r = none ∧ pvOk X ∧ pvFr fp_X6_becomeAs_100_101 M X) := by
    intro nz75_
    induction nz75_ with
    | zero => intro i2z75_ Mz75_ oz75_ fz75_ h2z75_ hmz75_; exact absurd (zshow hmz75_) (Nat.not_lt_zero _)
    | succ nz75_ ihz75_ =>
      intro i2z75_ Mz75_ oz75_ fz75_ h2z75_ hmz75_
      have b76_ : 0 ≤ Int32.toInt (Mz75_.1 101 0) ∧ Int32.toInt (Mz75_.1 101 0) ≤ 7 := pvok_r oz75_ 101 0 rfl
      refine pw_blk hT 3 (S' := (12, [some (pvR 100), some (pvR 101), some (pvI i2z75_)], [pvI (Mz75_.1 101 0), pvI i2z75_], Mz75_)) rfl ⟨trivial, trivial, rfl, trivial⟩ ?_
      refine pw_ic hT (c := (Mz75_.1 101 0) ≤ i2z75_) rfl rfl (fun c77_ => ?_) (fun c77_ => ?_)
      · have d78_ : Int32.toInt (Mz75_.1 101 0) ≤ Int32.toInt i2z75_ := (zi_le _ _).mp c77_
        exact pw_ret hT rfl (r := none) (M' := Mz75_) ⟨rfl, rfl⟩ ⟨rfl, oz75_, fz75_⟩
      · have b79_ : 1 ≤ Int32.toInt (Mz75_.1 101 0) ∧ Int32.toInt (Mz75_.1 101 0) ≤ 7 := zr_nle_l 1 c77_ b76_ h2z75_ (by decide)
        have b80_ : 0 ≤ Int32.toInt i2z75_ ∧ Int32.toInt i2z75_ ≤ 6 := zr_nle_r 6 c77_ h2z75_ b79_ (by decide)
        have d81_ : Int32.toInt (Mz75_.1 101 0) > Int32.toInt i2z75_ := Int.not_le.mp ((not_congr (zi_le _ _)).mp c77_)
        have b82_ : 0 ≤ Int32.toInt (Mz75_.1 109 (Int32.toNatClampNeg i2z75_)) ∧ Int32.toInt (Mz75_.1 109 (Int32.toNatClampNeg i2z75_)) ≤ 6 := pvok_r oz75_ 109 (Int32.toNatClampNeg i2z75_) rfl
        have b83_ : 0 ≤ Int32.toInt (Mz75_.1 117 (Int32.toNatClampNeg i2z75_)) ∧ Int32.toInt (Mz75_.1 117 (Int32.toNatClampNeg i2z75_)) ≤ 9999 := pvok_r oz75_ 117 (Int32.toNatClampNeg i2z75_) rfl
        refine pw_blk hT 9 (S' := (28, [some (pvR 100), some (pvR 101), some (pvI i2z75_)], [pvI (Mz75_.1 117 (Int32.toNatClampNeg i2z75_)), pvI (Mz75_.1 109 (Int32.toNatClampNeg i2z75_)), pvR 100], Mz75_)) rfl ⟨trivial, trivial, rfl, trivial, ⟨rfl, (zr_in (n := 7) b80_ (by decide) (by decide))⟩, trivial, rfl, trivial, ⟨rfl, (zr_in (n := 7) b80_ (by decide) (by decide))⟩, trivial⟩ ?_
        refine pw_callG hT (as := [pvR 100, pvI (Mz75_.1 109 (Int32.toNatClampNeg i2z75_)), pvI (Mz75_.1 117 (Int32.toNatClampNeg i2z75_))]) (lo1 := [some (pvR 100), some (pvI (Mz75_.1 109 (Int32.toNatClampNeg i2z75_))), some (pvI (Mz75_.1 117 (Int32.toNatClampNeg i2z75_)))]) (d1 := d) (rest := []) rfl rfl rfl rfl rfl (fun _ => rfl) (Nat.zero_le _) rfl rfl rfl (sf_X6_append_100_x_x Mz75_ oz75_ (Mz75_.1 109 (Int32.toNatClampNeg i2z75_)) (Mz75_.1 117 (Int32.toNatClampNeg i2z75_)) b82_ b83_ d) (fun x84_ M85_ b86_ o87_ g88_ => ?_)
        have f89_ : pvFr fp_X6_becomeAs_100_101 M M85_ := pvfr_t g88_ fz75_ fp_X6_becomeAs_100_101_fp_X6_append_100_x_x
        obtain ⟨q91_, b90_⟩ : (Int32.toInt (i2z75_ + 1) = Int32.toInt i2z75_ + 1) ∧ (1 ≤ Int32.toInt (i2z75_ + 1) ∧ Int32.toInt (i2z75_ + 1) ≤ 7) := zadd_k i2z75_ 1 1 1 7 b80_ (by decide) (by decide) (by decide) (by decide) (by decide)
        refine pw_blk hT 3 (S' := (7, [some (pvR 100), some (pvR 101), some (pvI (i2z75_ + 1))], [], M85_)) rfl ⟨trivial, trivial, trivial, trivial⟩ ?_
        exact ihz75_ (i2z75_ + 1) M85_ o87_ f89_ (zr_wide b90_ (by decide) (by decide)) (zhid (pvms_up (zshow hmz75_) h2z75_ q91_ (by decide) (by decide)))
  exact hlz75_ _ 0 M2_ o4_ f6_ (zr_wide (show 0 ≤ Int32.toInt 0 ∧ Int32.toInt 0 ≤ 0 from (by decide)) (by decide) (by decide)) (zhid (Nat.lt_succ_self _))
def fpL_X6_becomeAs_102_103 : List (Nat × Nat × Nat) := [(0, 102, 1), (0, 110, 0), (0, 118, 0)]
def fp_X6_becomeAs_102_103 (q k : Nat) : Bool := pvfp fpL_X6_becomeAs_102_103 q k
theorem fp_X6_becomeAs_102_103_fp_X6_append_102_x_x (a b : Nat) (h : fp_X6_append_102_x_x a b = true) : fp_X6_becomeAs_102_103 a b = true := pvfp_sub (l1 := fpL_X6_append_102_x_x) (l2 := fpL_X6_becomeAs_102_103) (by decide) a b h
theorem fp_X6_becomeAs_102_103_fp_X6_clear_102 (a b : Nat) (h : fp_X6_clear_102 a b = true) : fp_X6_becomeAs_102_103 a b = true := pvfp_sub (l1 := fpL_X6_clear_102) (l2 := fpL_X6_becomeAs_102_103) (by decide) a b h
set_option maxHeartbeats 4000000 in
set_option maxRecDepth 10000 in
theorem sf_X6_becomeAs_102_103 (M : pvM) (hok : pvOk M) (d : Nat) : PW 152 d (0, [some (pvR 102), some (pvR 103), none], [], M) (fun r X => r = none ∧ pvOk X ∧ pvFr fp_X6_becomeAs_102_103 M X) := by
  have hT : pvdom 152 = pvD_152 := rfl
  refine pw_blk hT 1 (S' := (1, [some (pvR 102), some (pvR 103), none], [pvR 102], M)) rfl ⟨trivial, trivial⟩ ?_
  refine pw_callG hT (as := [pvR 102]) (lo1 := [some (pvR 102)]) (d1 := d) (rest := []) rfl rfl rfl rfl rfl (fun _ => rfl) (Nat.zero_le _) rfl rfl rfl (sf_X6_clear_102 M hok d) (fun x1_ M2_ b3_ o4_ g5_ => ?_)
  have f6_ : pvFr fp_X6_becomeAs_102_103 M M2_ := pvfr_t g5_ pvfr_0 fp_X6_becomeAs_102_103_fp_X6_clear_102
  refine pw_blk hT 3 (S' := (7, [some (pvR 102), some (pvR 103), some (pvI 0)], [], M2_)) rfl ⟨trivial, trivial, trivial, trivial⟩ ?_
  have hlz75_ : ∀ (nz75_ : Nat) (i2z75_ : Int32) (Mz75_ : pvM), (pvOk Mz75_) → (pvFr fp_X6_becomeAs_102_103 M Mz75_) → (0 ≤ Int32.toInt i2z75_ ∧ Int32.toInt i2z75_ ≤ 6) → (zhide ((7 - Int32.toInt i2z75_).toNat < nz75_)) → PW 152 d (7, [some (pvR 102), some (pvR 103), some (pvI i2z75_)], [], Mz75_) (fun r X => r = none ∧ pvOk X ∧ pvFr fp_X6_becomeAs_102_103 M X) := by
    intro nz75_
    induction nz75_ with
    | zero => intro i2z75_ Mz75_ oz75_ fz75_ h2z75_ hmz75_; exact absurd (zshow hmz75_) (Nat.not_lt_zero _)
    | succ nz75_ ihz75_ =>
      intro i2z75_ Mz75_ oz75_ fz75_ h2z75_ hmz75_
      have b76_ : 0 ≤ Int32.toInt (Mz75_.1 103 0) ∧ Int32.toInt (Mz75_.1 103 0) ≤ 6 := pvok_r oz75_ 103 0 rfl
      refine pw_blk hT 3 (S' := (12, [some (pvR 102), some (pvR 103), some (pvI i2z75_)], [pvI (Mz75_.1 103 0), pvI i2z75_], Mz75_)) rfl ⟨trivial, trivial, rfl, trivial⟩ ?_
      refine pw_ic hT (c := (Mz75_.1 103 0) ≤ i2z75_) rfl rfl (fun c77_ => ?_) (fun c77_ => ?_)
      · have d78_ : Int32.toInt (Mz75_.1 103 0) ≤ Int32.toInt i2z75_ := (zi_le _ _).mp c77_
        exact pw_ret hT rfl (r := none) (M' := Mz75_) ⟨rfl, rfl⟩ ⟨rfl, oz75_, fz75_⟩
      · have b79_ : 1 ≤ Int32.toInt (Mz75_.1 103 0) ∧ Int32.toInt (Mz75_.1 103 0) ≤ 6 := zr_nle_l 1 c77_ b76_ h2z75_ (by decide)
        have b80_ : 0 ≤ Int32.toInt i2z75_ ∧ Int32.toInt i2z75_ ≤ 5 := zr_nle_r 5 c77_ h2z75_ b79_ (by decide)
        have d81_ : Int32.toInt (Mz75_.1 103 0) > Int32.toInt i2z75_ := Int.not_le.mp ((not_congr (zi_le _ _)).mp c77_)
        have b82_ : 0 ≤ Int32.toInt (Mz75_.1 111 (Int32.toNatClampNeg i2z75_)) ∧ Int32.toInt (Mz75_.1 111 (Int32.toNatClampNeg i2z75_)) ≤ 6 := pvok_r oz75_ 111 (Int32.toNatClampNeg i2z75_) rfl
        have b83_ : 0 ≤ Int32.toInt (Mz75_.1 119 (Int32.toNatClampNeg i2z75_)) ∧ Int32.toInt (Mz75_.1 119 (Int32.toNatClampNeg i2z75_)) ≤ 9999 := pvok_r oz75_ 119 (Int32.toNatClampNeg i2z75_) rfl
        refine pw_blk hT 9 (S' := (28, [some (pvR 102), some (pvR 103), some (pvI i2z75_)], [pvI (Mz75_.1 119 (Int32.toNatClampNeg i2z75_)), pvI (Mz75_.1 111 (Int32.toNatClampNeg i2z75_)), pvR 102], Mz75_)) rfl ⟨trivial, trivial, rfl, trivial, ⟨rfl, (zr_in (n := 6) b80_ (by decide) (by decide))⟩, trivial, rfl, trivial, ⟨rfl, (zr_in (n := 6) b80_ (by decide) (by decide))⟩, trivial⟩ ?_
        refine pw_callG hT (as := [pvR 102, pvI (Mz75_.1 111 (Int32.toNatClampNeg i2z75_)), pvI (Mz75_.1 119 (Int32.toNatClampNeg i2z75_))]) (lo1 := [some (pvR 102), some (pvI (Mz75_.1 111 (Int32.toNatClampNeg i2z75_))), some (pvI (Mz75_.1 119 (Int32.toNatClampNeg i2z75_)))]) (d1 := d) (rest := []) rfl rfl rfl rfl rfl (fun _ => rfl) (Nat.zero_le _) rfl rfl rfl (sf_X6_append_102_x_x Mz75_ oz75_ (Mz75_.1 111 (Int32.toNatClampNeg i2z75_)) (Mz75_.1 119 (Int32.toNatClampNeg i2z75_)) b82_ b83_ d) (fun x84_ M85_ b86_ o87_ g88_ => ?_)
        have f89_ : pvFr fp_X6_becomeAs_102_103 M M85_ := pvfr_t g88_ fz75_ fp_X6_becomeAs_102_103_fp_X6_append_102_x_x
        obtain ⟨q91_, b90_⟩ : (Int32.toInt (i2z75_ + 1) = Int32.toInt i2z75_ + 1) ∧ (1 ≤ Int32.toInt (i2z75_ + 1) ∧ Int32.toInt (i2z75_ + 1) ≤ 6) := zadd_k i2z75_ 1 1 1 6 b80_ (by decide) (by decide) (by decide) (by decide) (by decide)
        refine pw_blk hT 3 (S' := (7, [some (pvR 102), some (pvR 103), some (pvI (i2z75_ + 1))], [], M85_)) rfl ⟨trivial, trivial, trivial, trivial⟩ ?_
        exact ihz75_ (i2z75_ + 1) M85_ o87_ f89_ (zr_wide b90_ (by decide) (by decide)) (zhid (pvms_up (zshow hmz75_) h2z75_ q91_ (by decide) (by decide)))
  exact hlz75_ _ 0 M2_ o4_ f6_ (zr_wide (show 0 ≤ Int32.toInt 0 ∧ Int32.toInt 0 ≤ 0 from (by decide)) (by decide) (by decide)) (zhid (Nat.lt_succ_self _))
def fpL_X6_becomeAs_104_105 : List (Nat × Nat × Nat) := [(0, 104, 1), (0, 112, 0), (0, 120, 0)]
def fp_X6_becomeAs_104_105 (q k : Nat) : Bool := pvfp fpL_X6_becomeAs_104_105 q k
theorem fp_X6_becomeAs_104_105_fp_X6_append_104_x_x (a b : Nat) (h : fp_X6_append_104_x_x a b = true) : fp_X6_becomeAs_104_105 a b = true := pvfp_sub (l1 := fpL_X6_append_104_x_x) (l2 := fpL_X6_becomeAs_104_105) (by decide) a b h
theorem fp_X6_becomeAs_104_105_fp_X6_clear_104 (a b : Nat) (h : fp_X6_clear_104 a b = true) : fp_X6_becomeAs_104_105 a b = true := pvfp_sub (l1 := fpL_X6_clear_104) (l2 := fpL_X6_becomeAs_104_105) (by decide) a b h
set_option maxHeartbeats 4000000 in
set_option maxRecDepth 10000 in
theorem sf_X6_becomeAs_104_105 (M : pvM) (hok : pvOk M) (d : Nat) : PW 152 d (0, [some (pvR 104), some (pvR 105), none], [], M) (fun r X => r = none ∧ pvOk X ∧ pvFr fp_X6_becomeAs_104_105 M X) := by
  have hT : pvdom 152 = pvD_152 := rfl
  refine pw_blk hT 1 (S' := (1, [some (pvR 104), some (pvR 105), none], [pvR 104], M)) rfl ⟨trivial, trivial⟩ ?_
  refine pw_callG hT (as := [pvR 104]) (lo1 := [some (pvR 104)]) (d1 := d) (rest := []) rfl rfl rfl rfl rfl (fun _ => rfl) (Nat.zero_le _) rfl rfl rfl (sf_X6_clear_104 M hok d) (fun x1_ M2_ b3_ o4_ g5_ => ?_)
  have f6_ : pvFr fp_X6_becomeAs_104_105 M M2_ := pvfr_t g5_ pvfr_0 fp_X6_becomeAs_104_105_fp_X6_clear_104
  refine pw_blk hT 3 (S' := (7, [some (pvR 104), some (pvR 105), some (pvI 0)], [], M2_)) rfl ⟨trivial, trivial, trivial, trivial⟩ ?_
  have hlz75_ : ∀ (nz75_ : Nat) (i2z75_ : Int32) (Mz75_ : pvM), (pvOk Mz75_) → (pvFr fp_X6_becomeAs_104_105 M Mz75_) → (0 ≤ Int32.toInt i2z75_ ∧ Int32.toInt i2z75_ ≤ 8) → (zhide ((9 - Int32.toInt i2z75_).toNat < nz75_)) → PW 152 d (7, [some (pvR 104), some (pvR 105), some (pvI i2z75_)], [], Mz75_) (fun r X => r = none ∧ pvOk X ∧ pvFr fp_X6_becomeAs_104_105 M X) := by
    intro nz75_
    induction nz75_ with
    | zero => intro i2z75_ Mz75_ oz75_ fz75_ h2z75_ hmz75_; exact absurd (zshow hmz75_) (Nat.not_lt_zero _)
    | succ nz75_ ihz75_ =>
      intro i2z75_ Mz75_ oz75_ fz75_ h2z75_ hmz75_
      have b76_ : 0 ≤ Int32.toInt (Mz75_.1 105 0) ∧ Int32.toInt (Mz75_.1 105 0) ≤ 8 := pvok_r oz75_ 105 0 rfl
      refine pw_blk hT 3 (S' := (12, [some (pvR 104), some (pvR 105), some (pvI i2z75_)], [pvI (Mz75_.1 105 0), pvI i2z75_], Mz75_)) rfl ⟨trivial, trivial, rfl, trivial⟩ ?_
      refine pw_ic hT (c := (Mz75_.1 105 0) ≤ i2z75_) rfl rfl (fun c77_ => ?_) (fun c77_ => ?_)
      · have d78_ : Int32.toInt (Mz75_.1 105 0) ≤ Int32.toInt i2z75_ := (zi_le _ _).mp c77_
        exact pw_ret hT rfl (r := none) (M' := Mz75_) ⟨rfl, rfl⟩ ⟨rfl, oz75_, fz75_⟩
      · have b79_ : 1 ≤ Int32.toInt (Mz75_.1 105 0) ∧ Int32.toInt (Mz75_.1 105 0) ≤ 8 := zr_nle_l 1 c77_ b76_ h2z75_ (by decide)
        have b80_ : 0 ≤ Int32.toInt i2z75_ ∧ Int32.toInt i2z75_ ≤ 7 := zr_nle_r 7 c77_ h2z75_ b79_ (by decide)
        have d81_ : Int32.toInt (Mz75_.1 105 0) > Int32.toInt i2z75_ := Int.not_le.mp ((not_congr (zi_le _ _)).mp c77_)
        have b82_ : 0 ≤ Int32.toInt (Mz75_.1 113 (Int32.toNatClampNeg i2z75_)) ∧ Int32.toInt (Mz75_.1 113 (Int32.toNatClampNeg i2z75_)) ≤ 6 := pvok_r oz75_ 113 (Int32.toNatClampNeg i2z75_) rfl
        have b83_ : 0 ≤ Int32.toInt (Mz75_.1 121 (Int32.toNatClampNeg i2z75_)) ∧ Int32.toInt (Mz75_.1 121 (Int32.toNatClampNeg i2z75_)) ≤ 9999 := pvok_r oz75_ 121 (Int32.toNatClampNeg i2z75_) rfl
        refine pw_blk hT 9 (S' := (28, [some (pvR 104), some (pvR 105), some (pvI i2z75_)], [pvI (Mz75_.1 121 (Int32.toNatClampNeg i2z75_)), pvI (Mz75_.1 113 (Int32.toNatClampNeg i2z75_)), pvR 104], Mz75_)) rfl ⟨trivial, trivial, rfl, trivial, ⟨rfl, (zr_in (n := 8) b80_ (by decide) (by decide))⟩, trivial, rfl, trivial, ⟨rfl, (zr_in (n := 8) b80_ (by decide) (by decide))⟩, trivial⟩ ?_
        refine pw_callG hT (as := [pvR 104, pvI (Mz75_.1 113 (Int32.toNatClampNeg i2z75_)), pvI (Mz75_.1 121 (Int32.toNatClampNeg i2z75_))]) (lo1 := [some (pvR 104), some (pvI (Mz75_.1 113 (Int32.toNatClampNeg i2z75_))), some (pvI (Mz75_.1 121 (Int32.toNatClampNeg i2z75_)))]) (d1 := d) (rest := []) rfl rfl rfl rfl rfl (fun _ => rfl) (Nat.zero_le _) rfl rfl rfl (sf_X6_append_104_x_x Mz75_ oz75_ (Mz75_.1 113 (Int32.toNatClampNeg i2z75_)) (Mz75_.1 121 (Int32.toNatClampNeg i2z75_)) b82_ b83_ d) (fun x84_ M85_ b86_ o87_ g88_ => ?_)
        have f89_ : pvFr fp_X6_becomeAs_104_105 M M85_ := pvfr_t g88_ fz75_ fp_X6_becomeAs_104_105_fp_X6_append_104_x_x
        obtain ⟨q91_, b90_⟩ : (Int32.toInt (i2z75_ + 1) = Int32.toInt i2z75_ + 1) ∧ (1 ≤ Int32.toInt (i2z75_ + 1) ∧ Int32.toInt (i2z75_ + 1) ≤ 8) := zadd_k i2z75_ 1 1 1 8 b80_ (by decide) (by decide) (by decide) (by decide) (by decide)
        refine pw_blk hT 3 (S' := (7, [some (pvR 104), some (pvR 105), some (pvI (i2z75_ + 1))], [], M85_)) rfl ⟨trivial, trivial, trivial, trivial⟩ ?_
        exact ihz75_ (i2z75_ + 1) M85_ o87_ f89_ (zr_wide b90_ (by decide) (by decide)) (zhid (pvms_up (zshow hmz75_) h2z75_ q91_ (by decide) (by decide)))
  exact hlz75_ _ 0 M2_ o4_ f6_ (zr_wide (show 0 ≤ Int32.toInt 0 ∧ Int32.toInt 0 ≤ 0 from (by decide)) (by decide) (by decide)) (zhid (Nat.lt_succ_self _))
def fpL_X7_becomeAs_8_9 : List (Nat × Nat × Nat) := [(0, 100, 1), (0, 102, 1), (0, 104, 1), (0, 108, 0), (0, 110, 0), (0, 112, 0), (0, 116, 0), (0, 118, 0), (0, 120, 0), (0, 8, 2), (0, 8, 3), (0, 8, 4), (0, 8, 5), (0, 8, 6), (0, 8, 7), (0, 8, 8), (0, 8, 9), (1, 113, 0), (1, 3, 1), (1, 3, 2), (1, 3, 3), (1, 3, 4), (1, 3, 5), (1, 3, 6)]
def fp_X7_becomeAs_8_9 (q k : Nat) : Bool := pvfp fpL_X7_becomeAs_8_9 q k
theorem fp_X7_becomeAs_8_9_fp_X4_becomeAs_x_x (a b : Nat) (h : fp_X4_becomeAs_x_x a b = true) : fp_X7_becomeAs_8_9 a b = true := pvfp_sub (l1 := fpL_X4_becomeAs_x_x) (l2 := fpL_X7_becomeAs_8_9) (by decide) a b h
theorem fp_X7_becomeAs_8_9_fp_X6_becomeAs_100_101 (a b : Nat) (h : fp_X6_becomeAs_100_101 a b = true) : fp_X7_becomeAs_8_9 a b = true := pvfp_sub (l1 := fpL_X6_becomeAs_100_101) (l2 := fpL_X7_becomeAs_8_9) (by decide) a b h
theorem fp_X7_becomeAs_8_9_fp_X6_becomeAs_102_103 (a b : Nat) (h : fp_X6_becomeAs_102_103 a b = true) : fp_X7_becomeAs_8_9 a b = true := pvfp_sub (l1 := fpL_X6_becomeAs_102_103) (l2 := fpL_X7_becomeAs_8_9) (by decide) a b h
theorem fp_X7_becomeAs_8_9_fp_X6_becomeAs_104_105 (a b : Nat) (h : fp_X6_becomeAs_104_105 a b = true) : fp_X7_becomeAs_8_9 a b = true := pvfp_sub (l1 := fpL_X6_becomeAs_104_105) (l2 := fpL_X7_becomeAs_8_9) (by decide) a b h
set_option maxHeartbeats 4000000 in
set_option maxRecDepth 10000 in
theorem sf_X7_becomeAs_8_9 (M : pvM) (hok : pvOk M) (d : Nat) : PW 158 d (0, [some (pvR 8), some (pvR 9), none], [], M) (fun r X => r = none ∧ pvOk X ∧ pvFr fp_X7_becomeAs_8_9 M X) := by
  have hT : pvdom 158 = pvD_158 := rfl
  have b1_ : 0 ≤ Int32.toInt (M.1 9 1) ∧ Int32.toInt (M.1 9 1) ≤ 7 := pvok_r hok 9 1 rfl
  refine pw_blkw hT 4 (pc := 8) (lo := [some (pvR 8), some (pvR 9), none]) (st := []) (M := pvu M 8 1 (M.1 9 1)) rfl ⟨trivial, trivial, rfl, rfl, trivial⟩ (fun M2_ e3_ => ?_)
  have o4_ : pvOk M2_ := pvok_u2 e3_ hok rfl b1_
  have f5_ : pvFr fp_X7_becomeAs_8_9 M M2_ := pvfr_u e3_ pvfr_0 rfl
  refine pw_blk hT 2 (S' := (10, [some (pvR 8), some (pvR 9), some (pvI 0)], [], M2_)) rfl ⟨trivial, trivial, trivial⟩ ?_
  have hlz310_ : ∀ (nz310_ : Nat) (i2z310_ : Int32) (Mz310_ : pvM), (pvOk Mz310_) → (pvFr fp_X7_becomeAs_8_9 M Mz310_) → (0 ≤ Int32.toInt i2z310_ ∧ Int32.toInt i2z310_ ≤ 7) → (zhide ((8 - Int32.toInt i2z310_).toNat < nz310_)) → PW 158 d (10, [some (pvR 8), some (pvR 9), some (pvI i2z310_)], [], Mz310_) (fun r X => r = none ∧ pvOk X ∧ pvFr fp_X7_becomeAs_8_9 M X) := by
    intro nz310_
    induction nz310_ with
    | zero => intro i2z310_ Mz310_ oz310_ fz310_ h2z310_ hmz310_; exact absurd (zshow hmz310_) (Nat.not_lt_zero _)
    | succ nz310_ ihz310_ =>
      intro i2z310_ Mz310_ oz310_ fz310_ h2z310_ hmz310_
      have b311_ : 0 ≤ Int32.toInt (Mz310_.1 8 1) ∧ Int32.toInt (Mz310_.1 8 1) ≤ 7 := pvok_r oz310_ 8 1 rfl
      refine pw_blk hT 3 (S' := (15, [some (pvR 8), some (pvR 9), some (pvI i2z310_)], [pvI (Mz310_.1 8 1), pvI i2z310_], Mz310_)) rfl ⟨trivial, trivial, rfl, trivial⟩ ?_
      refine pw_ic hT (c := (Mz310_.1 8 1) ≤ i2z310_) rfl rfl (fun c312_ => ?_) (fun c312_ => ?_)
      · have d313_ : Int32.toInt (Mz310_.1 8 1) ≤ Int32.toInt i2z310_ := (zi_le _ _).mp c312_
        have b314_ : 0 ≤ Int32.toInt (Mz310_.1 9 2) ∧ Int32.toInt (Mz310_.1 9 2) ≤ 99 := pvok_r oz310_ 9 2 rfl
        refine pw_blkw hT 4 (pc := 47) (lo := [some (pvR 8), some (pvR 9), some (pvI i2z310_)]) (st := []) (M := pvu Mz310_ 8 2 (Mz310_.1 9 2)) rfl ⟨trivial, trivial, rfl, rfl, trivial⟩ (fun M315_ e316_ => ?_)
        have o317_ : pvOk M315_ := pvok_u2 e316_ oz310_ rfl b314_
        have f318_ : pvFr fp_X7_becomeAs_8_9 M M315_ := pvfr_u e316_ fz310_ rfl
        have b319_ : 0 ≤ Int32.toInt (M315_.1 9 3) ∧ Int32.toInt (M315_.1 9 3) ≤ 3 := pvok_r o317_ 9 3 rfl
        refine pw_blkw hT 4 (pc := 55) (lo := [some (pvR 8), some (pvR 9), some (pvI i2z310_)]) (st := []) (M := pvu M315_ 8 3 (M315_.1 9 3)) rfl ⟨trivial, trivial, rfl, rfl, trivial⟩ (fun M320_ e321_ => ?_)
        have o322_ : pvOk M320_ := pvok_u2 e321_ o317_ rfl b319_
        have f323_ : pvFr fp_X7_becomeAs_8_9 M M320_ := pvfr_u e321_ f318_ rfl
        have b324_ : 0 ≤ Int32.toInt (M320_.1 9 4) ∧ Int32.toInt (M320_.1 9 4) ≤ 9999 := pvok_r o322_ 9 4 rfl
        refine pw_blkw hT 4 (pc := 63) (lo := [some (pvR 8), some (pvR 9), some (pvI i2z310_)]) (st := []) (M := pvu M320_ 8 4 (M320_.1 9 4)) rfl ⟨trivial, trivial, rfl, rfl, trivial⟩ (fun M325_ e326_ => ?_)
        have o327_ : pvOk M325_ := pvok_u2 e326_ o322_ rfl b324_
        have f328_ : pvFr fp_X7_becomeAs_8_9 M M325_ := pvfr_u e326_ f323_ rfl
        refine pw_blkw hT 4 (pc := 71) (lo := [some (pvR 8), some (pvR 9), some (pvI i2z310_)]) (st := []) (M := pvu M325_ 8 5 (M325_.1 9 5)) rfl ⟨trivial, trivial, rfl, rfl, trivial⟩ (fun M329_ e330_ => ?_)
        have o331_ : pvOk M329_ := pvok_u2 e330_ o327_ rfl (zbnd (M325_.1 9 5))
        have f332_ : pvFr fp_X7_becomeAs_8_9 M M329_ := pvfr_u e330_ f328_ rfl
        have b333_ : 0 ≤ Int32.toInt (M329_.1 9 6) ∧ Int32.toInt (M329_.1 9 6) ≤ 3 := pvok_r o331_ 9 6 rfl
        refine pw_blkw hT 4 (pc := 79) (lo := [some (pvR 8), some (pvR 9), some (pvI i2z310_)]) (st := []) (M := pvu M329_ 8 6 (M329_.1 9 6)) rfl ⟨trivial, trivial, rfl, rfl, trivial⟩ (fun M334_ e335_ => ?_)
        have o336_ : pvOk M334_ := pvok_u2 e335_ o331_ rfl b333_
        have f337_ : pvFr fp_X7_becomeAs_8_9 M M334_ := pvfr_u e335_ f332_ rfl
        have b338_ : 0 ≤ Int32.toInt (M334_.1 9 7) ∧ Int32.toInt (M334_.1 9 7) ≤ 4 := pvok_r o336_ 9 7 rfl
        refine pw_blkw hT 4 (pc := 87) (lo := [some (pvR 8), some (pvR 9), some (pvI i2z310_)]) (st := []) (M := pvu M334_ 8 7 (M334_.1 9 7)) rfl ⟨trivial, trivial, rfl, rfl, trivial⟩ (fun M339_ e340_ => ?_)
        have o341_ : pvOk M339_ := pvok_u2 e340_ o336_ rfl b338_
        have f342_ : pvFr fp_X7_becomeAs_8_9 M M339_ := pvfr_u e340_ f337_ rfl
        have b343_ : 15 ≤ Int32.toInt (M339_.1 9 8) ∧ Int32.toInt (M339_.1 9 8) ≤ 23 := pvok_r o341_ 9 8 rfl
        refine pw_blkr hT 3 (pc := 92) (lo := [some (pvR 8), some (pvR 9), some (pvI i2z310_)]) (st := [pvR 8]) (M := M339_) (z := (pvhp (M339_.1 9 8))) rfl ⟨trivial, trivial, rfl, trivial⟩ (fun q344_ e346_ => ?_)
        have k345_ : pvkl q344_ = 2 := pvhp_k b343_ e346_
        refine pw_blkw hT 1 (pc := 95) (lo := [some (pvR 8), some (pvR 9), some (pvI i2z310_)]) (st := []) (M := pvu M339_ 8 8 (nI q344_)) rfl ⟨⟨rfl, k345_⟩, trivial⟩ (fun M347_ e348_ => ?_)
        have o349_ : pvOk M347_ := pvok_u2 e348_ o341_ rfl (pvhp_r k345_)
        have f350_ : pvFr fp_X7_becomeAs_8_9 M M347_ := pvfr_u e348_ f342_ rfl
        refine pw_blk hT 4 (S' := (103, [some (pvR 8), some (pvR 9), some (pvI i2z310_)], [pvR 101, pvR 100], M347_)) rfl ⟨trivial, rfl, trivial, rfl, trivial⟩ ?_
        refine pw_callV hT (as := [pvR 100, pvR 101]) (lo1 := [some (pvR 100), some (pvR 101), none]) (d1 := d) (rest := []) rfl rfl rfl rfl rfl (fun _ => rfl) (Nat.zero_le _) rfl rfl rfl (sf_X6_becomeAs_100_101 M347_ o349_ d) (fun M352_ o354_ g355_ => ?_)
        have f356_ : pvFr fp_X7_becomeAs_8_9 M M352_ := pvfr_t g355_ f350_ fp_X7_becomeAs_8_9_fp_X6_becomeAs_100_101
        refine pw_blk hT 4 (S' := (114, [some (pvR 8), some (pvR 9), some (pvI i2z310_)], [pvR 103, pvR 102], M352_)) rfl ⟨trivial, rfl, trivial, rfl, trivial⟩ ?_
        refine pw_callV hT (as := [pvR 102, pvR 103]) (lo1 := [some (pvR 102), some (pvR 103), none]) (d1 := d) (rest := []) rfl rfl rfl rfl rfl (fun _ => rfl) (Nat.zero_le _) rfl rfl rfl (sf_X6_becomeAs_102_103 M352_ o354_ d) (fun M358_ o360_ g361_ => ?_)
        have f362_ : pvFr fp_X7_becomeAs_8_9 M M358_ := pvfr_t g361_ f356_ fp_X7_becomeAs_8_9_fp_X6_becomeAs_102_103
        refine pw_blk hT 4 (S' := (125, [some (pvR 8), some (pvR 9), some (pvI i2z310_)], [pvR 105, pvR 104], M358_)) rfl ⟨trivial, rfl, trivial, rfl, trivial⟩ ?_
        refine pw_callV hT (as := [pvR 104, pvR 105]) (lo1 := [some (pvR 104), some (pvR 105), none]) (d1 := d) (rest := []) rfl rfl rfl rfl rfl (fun _ => rfl) (Nat.zero_le _) rfl rfl rfl (sf_X6_becomeAs_104_105 M358_ o360_ d) (fun M364_ o366_ g367_ => ?_)
        have f368_ : pvFr fp_X7_becomeAs_8_9 M M364_ := pvfr_t g367_ f362_ fp_X7_becomeAs_8_9_fp_X6_becomeAs_104_105
        exact pw_ret hT rfl (r := none) (M' := M364_) ⟨rfl, rfl⟩ ⟨rfl, o366_, f368_⟩
      · have b369_ : 1 ≤ Int32.toInt (Mz310_.1 8 1) ∧ Int32.toInt (Mz310_.1 8 1) ≤ 7 := zr_nle_l 1 c312_ b311_ h2z310_ (by decide)
        have b370_ : 0 ≤ Int32.toInt i2z310_ ∧ Int32.toInt i2z310_ ≤ 6 := zr_nle_r 6 c312_ h2z310_ b369_ (by decide)
        have d371_ : Int32.toInt (Mz310_.1 8 1) > Int32.toInt i2z310_ := Int.not_le.mp ((not_congr (zi_le _ _)).mp c312_)
        refine pw_blkr hT 4 (pc := 24) (lo := [some (pvR 8), some (pvR 9), some (pvI i2z310_)]) (st := []) (M := Mz310_) (z := (pvbs 10 + Int32.toNatClampNeg i2z310_)) rfl ⟨trivial, rfl, trivial, ⟨rfl, (zr_in (n := 7) b370_ (by decide) (by decide))⟩, trivial⟩ (fun q372_ e374_ => ?_)
        have k373_ : pvkl q372_ = 3 := pvel_10 (zr_in (n := 7) b370_ (by decide) (by decide)) e374_
        refine pw_blkr hT 4 (pc := 30) (lo := [some (pvR 8), some (pvR 9), some (pvI i2z310_)]) (st := [pvR q372_]) (M := Mz310_) (z := (pvbs 11 + Int32.toNatClampNeg i2z310_)) rfl ⟨trivial, rfl, trivial, ⟨rfl, (zr_in (n := 7) b370_ (by decide) (by decide))⟩, trivial⟩ (fun q375_ e377_ => ?_)
        have k376_ : pvkl q375_ = 3 := pvel_11 (zr_in (n := 7) b370_ (by decide) (by decide)) e377_
        refine pw_callV hT (as := [pvR q372_, pvR q375_]) (lo1 := [some (pvR q372_), some (pvR q375_)]) (d1 := d) (rest := []) rfl rfl rfl rfl rfl (fun _ => k373_) (Nat.zero_le _) rfl rfl rfl (sf_X4_becomeAs_x_x Mz310_ oz310_ q372_ q375_ k373_ k376_ d) (fun M379_ o381_ g382_ => ?_)
        have f383_ : pvFr fp_X7_becomeAs_8_9 M M379_ := pvfr_t g382_ fz310_ fp_X7_becomeAs_8_9_fp_X4_becomeAs_x_x
        obtain ⟨q385_, b384_⟩ : (Int32.toInt (i2z310_ + 1) = Int32.toInt i2z310_ + 1) ∧ (1 ≤ Int32.toInt (i2z310_ + 1) ∧ Int32.toInt (i2z310_ + 1) ≤ 7) := zadd_k i2z310_ 1 1 1 7 b370_ (by decide) (by decide) (by decide) (by decide) (by decide)
        refine pw_blk hT 2 (S' := (10, [some (pvR 8), some (pvR 9), some (pvI (i2z310_ + 1))], [], M379_)) rfl ⟨trivial, trivial, trivial⟩ ?_
        exact ihz310_ (i2z310_ + 1) M379_ o381_ f383_ (zr_wide b384_ (by decide) (by decide)) (zhid (pvms_up (zshow hmz310_) h2z310_ q385_ (by decide) (by decide)))
  exact hlz310_ _ 0 M2_ o4_ f5_ (zr_wide (show 0 ≤ Int32.toInt 0 ∧ Int32.toInt 0 ≤ 0 from (by decide)) (by decide) (by decide)) (zhid (Nat.lt_succ_self _))
