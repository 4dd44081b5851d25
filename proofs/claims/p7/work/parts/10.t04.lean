set_option maxHeartbeats 4000000 in
set_option maxRecDepth 10000 in
theorem sf_X10_peek_124 (M : pvM) (hok : pvOk M) (d : Nat) : PW 64 d (0, [some (pvR 124)], [], M) (fun r X => r = some (pvI ((if (M.1 124 16) ≤ (M.1 124 17) then (-1) else (M.1 132 (Int32.toNatClampNeg (M.1 124 17)))))) ∧ X = M) := by
  have hT : pvdom 64 = pvD_64 := rfl
  have b1_ : 0 ≤ Int32.toInt (M.1 124 17) ∧ Int32.toInt (M.1 124 17) ≤ 100 := pvok_r hok 124 17 rfl
  have b2_ : 0 ≤ Int32.toInt (M.1 124 16) ∧ Int32.toInt (M.1 124 16) ≤ 100 := pvok_r hok 124 16 rfl
  refine pw_blk hT 4 (S' := (8, [some (pvR 124)], [pvI (M.1 124 16), pvI (M.1 124 17)], M)) rfl ⟨trivial, rfl, trivial, rfl, trivial⟩ ?_
  refine pw_ic hT (c := (M.1 124 16) ≤ (M.1 124 17)) rfl rfl (fun c3_ => ?_) (fun c3_ => ?_)
  · have d4_ : Int32.toInt (M.1 124 16) ≤ Int32.toInt (M.1 124 17) := (zi_le _ _).mp c3_
    refine pw_blk hT 1 (S' := (24, [some (pvR 124)], [pvI (-1)], M)) rfl ⟨trivial, trivial⟩ ?_
    exact pw_ret hT rfl (r := some (pvI (-1))) (M' := M) ⟨rfl, rfl⟩ ⟨(by rw [if_pos c3_]), rfl⟩
  · have b5_ : 1 ≤ Int32.toInt (M.1 124 16) ∧ Int32.toInt (M.1 124 16) ≤ 100 := zr_nle_l 1 c3_ b2_ b1_ (by decide)
    have b6_ : 0 ≤ Int32.toInt (M.1 124 17) ∧ Int32.toInt (M.1 124 17) ≤ 99 := zr_nle_r 99 c3_ b1_ b5_ (by decide)
    have d7_ : Int32.toInt (M.1 124 16) > Int32.toInt (M.1 124 17) := Int.not_le.mp ((not_congr (zi_le _ _)).mp c3_)
    have b8_ : 0 ≤ Int32.toInt (M.1 132 (Int32.toNatClampNeg (M.1 124 17))) ∧ Int32.toInt (M.1 132 (Int32.toNatClampNeg (M.1 124 17))) ≤ 127 := pvok_r hok 132 (Int32.toNatClampNeg (M.1 124 17)) rfl
    refine pw_blk hT 6 (S' := (24, [some (pvR 124)], [pvI (M.1 132 (Int32.toNatClampNeg (M.1 124 17)))], M)) rfl ⟨trivial, rfl, trivial, rfl, ⟨rfl, (zr_in (n := 100) b6_ (by decide) (by decide))⟩, trivial, trivial⟩ ?_
    exact pw_ret hT rfl (r := some (pvI (M.1 132 (Int32.toNatClampNeg (M.1 124 17))))) (M' := M) ⟨rfl, rfl⟩ ⟨(by rw [if_neg c3_]), rfl⟩
set_option maxHeartbeats 4000000 in
set_option maxRecDepth 10000 in
theorem sf_X10_isDigit_124 (M : pvM) (hok : pvOk M) (d : Nat) : PW 37 d (0, [some (pvR 124)], [], M) (fun r X => r = some (pvI ((if (M.1 124 16) ≤ (M.1 124 17) then 0 else (if (M.1 132 (Int32.toNatClampNeg (M.1 124 17))) < 48 then 0 else (if 57 < (M.1 132 (Int32.toNatClampNeg (M.1 124 17))) then 0 else 1))))) ∧ X = M) := by
  have hT : pvdom 37 = pvD_37 := rfl
  refine pw_blk hT 2 (S' := (2, [some (pvR 124)], [pvR 124, pvR 124], M)) rfl ⟨trivial, trivial, trivial⟩ ?_
  refine pw_callT hT (as := [pvR 124]) (lo1 := [some (pvR 124)]) (d1 := d) (rest := [pvR 124]) rfl rfl rfl rfl rfl (fun _ => rfl) (Nat.zero_le _) rfl rfl rfl (sf_X10_peek_124 M hok d) ?_
  have b6_ : 0 ≤ Int32.toInt (M.1 124 16) ∧ Int32.toInt (M.1 124 16) ≤ 100 := pvok_r hok 124 16 rfl
  have b7_ : 0 ≤ Int32.toInt (M.1 124 17) ∧ Int32.toInt (M.1 124 17) ≤ 100 := pvok_r hok 124 17 rfl
  by_cases c8_ : (M.1 124 16) ≤ (M.1 124 17)
  · refine pw_eqI (if_pos c8_) ?_
    have d9_ : Int32.toInt (M.1 124 16) ≤ Int32.toInt (M.1 124 17) := (zi_le _ _).mp c8_
    show PW 37 d (5, [some (pvR 124)], [pvI (-1), pvR 124], M) _
    refine pw_blk hT 2 (S' := (9, [some (pvR 124)], [pvI 57, pvI 48, pvI (-1), pvR 124], M)) rfl ⟨trivial, trivial, trivial⟩ ?_
    refine pw_callT hT (as := [pvR 124, pvI (-1), pvI 48, pvI 57]) (lo1 := [some (pvR 124), some (pvI (-1)), some (pvI 48), some (pvI 57)]) (d1 := d) (rest := []) rfl rfl rfl rfl rfl (fun _ => rfl) (Nat.zero_le _) rfl rfl rfl (sf_X10_in_124_x_x_x M hok (-1) 48 57 d) ?_
    refine pw_eqI (if_pos (by decide)) ?_
    show PW 37 d (12, [some (pvR 124)], [pvI 0], M) _
    exact pw_ret hT rfl (r := some (pvI 0)) (M' := M) ⟨Or.inl rfl, rfl, rfl⟩ ⟨(by rw [if_pos c8_]), rfl⟩
  · refine pw_eqI (if_neg c8_) ?_
    have b15_ : 1 ≤ Int32.toInt (M.1 124 16) ∧ Int32.toInt (M.1 124 16) ≤ 100 := zr_nle_l 1 c8_ b6_ b7_ (by decide)
    have b16_ : 0 ≤ Int32.toInt (M.1 124 17) ∧ Int32.toInt (M.1 124 17) ≤ 99 := zr_nle_r 99 c8_ b7_ b15_ (by decide)
    have d17_ : Int32.toInt (M.1 124 16) > Int32.toInt (M.1 124 17) := Int.not_le.mp ((not_congr (zi_le _ _)).mp c8_)
    have b18_ : 0 ≤ Int32.toInt (M.1 132 (Int32.toNatClampNeg (M.1 124 17))) ∧ Int32.toInt (M.1 132 (Int32.toNatClampNeg (M.1 124 17))) ≤ 127 := pvok_r hok 132 (Int32.toNatClampNeg (M.1 124 17)) rfl
    show PW 37 d (5, [some (pvR 124)], [pvI (M.1 132 (Int32.toNatClampNeg (M.1 124 17))), pvR 124], M) _
    refine pw_blk hT 2 (S' := (9, [some (pvR 124)], [pvI 57, pvI 48, pvI (M.1 132 (Int32.toNatClampNeg (M.1 124 17))), pvR 124], M)) rfl ⟨trivial, trivial, trivial⟩ ?_
    refine pw_callT hT (as := [pvR 124, pvI (M.1 132 (Int32.toNatClampNeg (M.1 124 17))), pvI 48, pvI 57]) (lo1 := [some (pvR 124), some (pvI (M.1 132 (Int32.toNatClampNeg (M.1 124 17)))), some (pvI 48), some (pvI 57)]) (d1 := d) (rest := []) rfl rfl rfl rfl rfl (fun _ => rfl) (Nat.zero_le _) rfl rfl rfl (sf_X10_in_124_x_x_x M hok (M.1 132 (Int32.toNatClampNeg (M.1 124 17))) 48 57 d) ?_
    by_cases c24_ : (M.1 132 (Int32.toNatClampNeg (M.1 124 17))) < 48
    · refine pw_eqI (if_pos c24_) ?_
      have b25_ : 0 ≤ Int32.toInt (M.1 132 (Int32.toNatClampNeg (M.1 124 17))) ∧ Int32.toInt (M.1 132 (Int32.toNatClampNeg (M.1 124 17))) ≤ 47 := zr_lt_l 47 c24_ b18_ (show 48 ≤ Int32.toInt 48 ∧ Int32.toInt 48 ≤ 48 from (by decide)) (by decide)
      show PW 37 d (12, [some (pvR 124)], [pvI 0], M) _
      exact pw_ret hT rfl (r := some (pvI 0)) (M' := M) ⟨Or.inl rfl, rfl, rfl⟩ ⟨(by rw [if_neg c8_, if_pos c24_]), rfl⟩
    · refine pw_eqI (if_neg c24_) ?_
      have b26_ : 48 ≤ Int32.toInt (M.1 132 (Int32.toNatClampNeg (M.1 124 17))) ∧ Int32.toInt (M.1 132 (Int32.toNatClampNeg (M.1 124 17))) ≤ 127 := zr_nlt_l 48 c24_ b18_ (show 48 ≤ Int32.toInt 48 ∧ Int32.toInt 48 ≤ 48 from (by decide)) (by decide)
      by_cases c27_ : 57 < (M.1 132 (Int32.toNatClampNeg (M.1 124 17)))
      · refine pw_eqI (if_pos c27_) ?_
        have b28_ : 58 ≤ Int32.toInt (M.1 132 (Int32.toNatClampNeg (M.1 124 17))) ∧ Int32.toInt (M.1 132 (Int32.toNatClampNeg (M.1 124 17))) ≤ 127 := zr_lt_r 58 c27_ b26_ (show 57 ≤ Int32.toInt 57 ∧ Int32.toInt 57 ≤ 57 from (by decide)) (by decide)
        show PW 37 d (12, [some (pvR 124)], [pvI 0], M) _
        exact pw_ret hT rfl (r := some (pvI 0)) (M' := M) ⟨Or.inl rfl, rfl, rfl⟩ ⟨(by rw [if_neg c8_, if_neg c24_, if_pos c27_]), rfl⟩
      · refine pw_eqI (if_neg c27_) ?_
        have b29_ : 48 ≤ Int32.toInt (M.1 132 (Int32.toNatClampNeg (M.1 124 17))) ∧ Int32.toInt (M.1 132 (Int32.toNatClampNeg (M.1 124 17))) ≤ 57 := zr_nlt_r 57 c27_ b26_ (show 57 ≤ Int32.toInt 57 ∧ Int32.toInt 57 ≤ 57 from (by decide)) (by decide)
        show PW 37 d (12, [some (pvR 124)], [pvI 1], M) _
        exact pw_ret hT rfl (r := some (pvI 1)) (M' := M) ⟨Or.inr rfl, rfl, rfl⟩ ⟨(by rw [if_neg c8_, if_neg c24_, if_neg c27_]), rfl⟩
set_option maxHeartbeats 4000000 in
set_option maxRecDepth 10000 in
theorem sf_X10_isLimit_124_x (M : pvM) (hok : pvOk M) (n1 : Int32) (d : Nat) : PW 38 d (0, [some (pvR 124), some (pvI n1)], [], M) (fun r X => r = some (pvI ((if n1 < 0 then 0 else (if 99999 < n1 then 0 else 1)))) ∧ X = M) := by
  have hT : pvdom 38 = pvD_38 := rfl
  refine pw_blk hT 4 (S' := (6, [some (pvR 124), some (pvI n1)], [pvI 99999, pvI 0, pvI n1, pvR 124], M)) rfl ⟨trivial, trivial, trivial, trivial, trivial⟩ ?_
  refine pw_callT hT (as := [pvR 124, pvI n1, pvI 0, pvI 99999]) (lo1 := [some (pvR 124), some (pvI n1), some (pvI 0), some (pvI 99999)]) (d1 := d) (rest := []) rfl rfl rfl rfl rfl (fun _ => rfl) (Nat.zero_le _) rfl rfl rfl (sf_X10_in_124_x_x_x M hok n1 0 99999 d) ?_
  by_cases c6_ : n1 < 0
  · refine pw_eqI (if_pos c6_) ?_
    have b7_ : (-2147483648) ≤ Int32.toInt n1 ∧ Int32.toInt n1 ≤ (-1) := zr_lt_l (-1) c6_ (zbnd n1) (show 0 ≤ Int32.toInt 0 ∧ Int32.toInt 0 ≤ 0 from (by decide)) (by decide)
    show PW 38 d (9, [some (pvR 124), some (pvI n1)], [pvI 0], M) _
    exact pw_ret hT rfl (r := some (pvI 0)) (M' := M) ⟨Or.inl rfl, rfl, rfl⟩ ⟨(by rw [if_pos c6_]), rfl⟩
  · refine pw_eqI (if_neg c6_) ?_
    have b8_ : 0 ≤ Int32.toInt n1 ∧ Int32.toInt n1 ≤ 2147483647 := zr_nlt_l 0 c6_ (zbnd n1) (show 0 ≤ Int32.toInt 0 ∧ Int32.toInt 0 ≤ 0 from (by decide)) (by decide)
    by_cases c9_ : 99999 < n1
    · refine pw_eqI (if_pos c9_) ?_
      have b10_ : 100000 ≤ Int32.toInt n1 ∧ Int32.toInt n1 ≤ 2147483647 := zr_lt_r 100000 c9_ b8_ (show 99999 ≤ Int32.toInt 99999 ∧ Int32.toInt 99999 ≤ 99999 from (by decide)) (by decide)
      show PW 38 d (9, [some (pvR 124), some (pvI n1)], [pvI 0], M) _
      exact pw_ret hT rfl (r := some (pvI 0)) (M' := M) ⟨Or.inl rfl, rfl, rfl⟩ ⟨(by rw [if_neg c6_, if_pos c9_]), rfl⟩
    · refine pw_eqI (if_neg c9_) ?_
      have b11_ : 0 ≤ Int32.toInt n1 ∧ Int32.toInt n1 ≤ 99999 := zr_nlt_r 99999 c9_ b8_ (show 99999 ≤ Int32.toInt 99999 ∧ Int32.toInt 99999 ≤ 99999 from (by decide)) (by decide)
      show PW 38 d (9, [some (pvR 124), some (pvI n1)], [pvI 1], M) _
      exact pw_ret hT rfl (r := some (pvI 1)) (M' := M) ⟨Or.inr rfl, rfl, rfl⟩ ⟨(by rw [if_neg c6_, if_neg c9_]), rfl⟩
set_option maxHeartbeats 4000000 in
set_option maxRecDepth 10000 in
theorem sf_X10_isPlace_124_x_x (M : pvM) (hok : pvOk M) (n1 : Int32) (n2 : Int32) (d : Nat) : PW 40 d (0, [some (pvR 124), some (pvI n1), some (pvI n2)], [], M) (fun r X => r = some (pvI ((if n1 < 0 then 0 else (if 3 < n1 then 0 else (if n2 < 0 then 0 else (if 4 < n2 then 0 else 1)))))) ∧ X = M) := by
  have hT : pvdom 40 = pvD_40 := rfl
  refine pw_blk hT 4 (S' := (4, [some (pvR 124), some (pvI n1), some (pvI n2)], [pvI 3, pvI 0, pvI n1, pvR 124], M)) rfl ⟨trivial, trivial, trivial, trivial, trivial⟩ ?_
  refine pw_callT hT (as := [pvR 124, pvI n1, pvI 0, pvI 3]) (lo1 := [some (pvR 124), some (pvI n1), some (pvI 0), some (pvI 3)]) (d1 := d) (rest := []) rfl rfl rfl rfl rfl (fun _ => rfl) (Nat.zero_le _) rfl rfl rfl (sf_X10_in_124_x_x_x M hok n1 0 3 d) ?_
  by_cases c6_ : n1 < 0
  · refine pw_eqI (if_pos c6_) ?_
    have b7_ : (-2147483648) ≤ Int32.toInt n1 ∧ Int32.toInt n1 ≤ (-1) := zr_lt_l (-1) c6_ (zbnd n1) (show 0 ≤ Int32.toInt 0 ∧ Int32.toInt 0 ≤ 0 from (by decide)) (by decide)
    show PW 40 d (7, [some (pvR 124), some (pvI n1), some (pvI n2)], [pvI 0], M) _
    refine pw_if hT (c := 0 = 0) rfl rfl (fun c8_ => ?_) (fun c8_ => absurd (by decide) c8_)
    refine pw_blk hT 1 (S' := (25, [some (pvR 124), some (pvI n1), some (pvI n2)], [pvI 0], M)) rfl ⟨trivial, trivial⟩ ?_
    exact pw_ret hT rfl (r := some (pvI 0)) (M' := M) ⟨Or.inl rfl, rfl, rfl⟩ ⟨(by rw [if_pos c6_]), rfl⟩
  · refine pw_eqI (if_neg c6_) ?_
    have b9_ : 0 ≤ Int32.toInt n1 ∧ Int32.toInt n1 ≤ 2147483647 := zr_nlt_l 0 c6_ (zbnd n1) (show 0 ≤ Int32.toInt 0 ∧ Int32.toInt 0 ≤ 0 from (by decide)) (by decide)
    by_cases c10_ : 3 < n1
    · refine pw_eqI (if_pos c10_) ?_
      have b11_ : 4 ≤ Int32.toInt n1 ∧ Int32.toInt n1 ≤ 2147483647 := zr_lt_r 4 c10_ b9_ (show 3 ≤ Int32.toInt 3 ∧ Int32.toInt 3 ≤ 3 from (by decide)) (by decide)
      show PW 40 d (7, [some (pvR 124), some (pvI n1), some (pvI n2)], [pvI 0], M) _
      refine pw_if hT (c := 0 = 0) rfl rfl (fun c12_ => ?_) (fun c12_ => absurd (by decide) c12_)
      refine pw_blk hT 1 (S' := (25, [some (pvR 124), some (pvI n1), some (pvI n2)], [pvI 0], M)) rfl ⟨trivial, trivial⟩ ?_
      exact pw_ret hT rfl (r := some (pvI 0)) (M' := M) ⟨Or.inl rfl, rfl, rfl⟩ ⟨(by rw [if_neg c6_, if_pos c10_]), rfl⟩
    · refine pw_eqI (if_neg c10_) ?_
      have b13_ : 0 ≤ Int32.toInt n1 ∧ Int32.toInt n1 ≤ 3 := zr_nlt_r 3 c10_ b9_ (show 3 ≤ Int32.toInt 3 ∧ Int32.toInt 3 ≤ 3 from (by decide)) (by decide)
      show PW 40 d (7, [some (pvR 124), some (pvI n1), some (pvI n2)], [pvI 1], M) _
      refine pw_if hT (c := 1 = 0) rfl rfl (fun c14_ => absurd c14_ (by decide)) (fun c14_ => ?_)
      refine pw_blk hT 4 (S' := (14, [some (pvR 124), some (pvI n1), some (pvI n2)], [pvI 4, pvI 0, pvI n2, pvR 124], M)) rfl ⟨trivial, trivial, trivial, trivial, trivial⟩ ?_
      refine pw_callT hT (as := [pvR 124, pvI n2, pvI 0, pvI 4]) (lo1 := [some (pvR 124), some (pvI n2), some (pvI 0), some (pvI 4)]) (d1 := d) (rest := []) rfl rfl rfl rfl rfl (fun _ => rfl) (Nat.zero_le _) rfl rfl rfl (sf_X10_in_124_x_x_x M hok n2 0 4 d) ?_
      by_cases c20_ : n2 < 0
      · refine pw_eqI (if_pos c20_) ?_
        have b21_ : (-2147483648) ≤ Int32.toInt n2 ∧ Int32.toInt n2 ≤ (-1) := zr_lt_l (-1) c20_ (zbnd n2) (show 0 ≤ Int32.toInt 0 ∧ Int32.toInt 0 ≤ 0 from (by decide)) (by decide)
        show PW 40 d (17, [some (pvR 124), some (pvI n1), some (pvI n2)], [pvI 0], M) _
        refine pw_if hT (c := 0 = 0) rfl rfl (fun c22_ => ?_) (fun c22_ => absurd (by decide) c22_)
        refine pw_blk hT 1 (S' := (25, [some (pvR 124), some (pvI n1), some (pvI n2)], [pvI 0], M)) rfl ⟨trivial, trivial⟩ ?_
        exact pw_ret hT rfl (r := some (pvI 0)) (M' := M) ⟨Or.inl rfl, rfl, rfl⟩ ⟨(by rw [if_neg c6_, if_neg c10_, if_pos c20_]), rfl⟩
      · refine pw_eqI (if_neg c20_) ?_
        have b23_ : 0 ≤ Int32.toInt n2 ∧ Int32.toInt n2 ≤ 2147483647 := zr_nlt_l 0 c20_ (zbnd n2) (show 0 ≤ Int32.toInt 0 ∧ Int32.toInt 0 ≤ 0 from (by decide)) (by decide)
        by_cases c24_ : 4 < n2
        · refine pw_eqI (if_pos c24_) ?_
          have b25_ : 5 ≤ Int32.toInt n2 ∧ Int32.toInt n2 ≤ 2147483647 := zr_lt_r 5 c24_ b23_ (show 4 ≤ Int32.toInt 4 ∧ Int32.toInt 4 ≤ 4 from (by decide)) (by decide)
          show PW 40 d (17, [some (pvR 124), some (pvI n1), some (pvI n2)], [pvI 0], M) _
          refine pw_if hT (c := 0 = 0) rfl rfl (fun c26_ => ?_) (fun c26_ => absurd (by decide) c26_)
          refine pw_blk hT 1 (S' := (25, [some (pvR 124), some (pvI n1), some (pvI n2)], [pvI 0], M)) rfl ⟨trivial, trivial⟩ ?_
          exact pw_ret hT rfl (r := some (pvI 0)) (M' := M) ⟨Or.inl rfl, rfl, rfl⟩ ⟨(by rw [if_neg c6_, if_neg c10_, if_neg c20_, if_pos c24_]), rfl⟩
        · refine pw_eqI (if_neg c24_) ?_
          have b27_ : 0 ≤ Int32.toInt n2 ∧ Int32.toInt n2 ≤ 4 := zr_nlt_r 4 c24_ b23_ (show 4 ≤ Int32.toInt 4 ∧ Int32.toInt 4 ≤ 4 from (by decide)) (by decide)
          show PW 40 d (17, [some (pvR 124), some (pvI n1), some (pvI n2)], [pvI 1], M) _
          refine pw_if hT (c := 1 = 0) rfl rfl (fun c28_ => absurd c28_ (by decide)) (fun c28_ => ?_)
          refine pw_blk hT 2 (S' := (25, [some (pvR 124), some (pvI n1), some (pvI n2)], [pvI 1], M)) rfl ⟨trivial, trivial, trivial⟩ ?_
          exact pw_ret hT rfl (r := some (pvI 1)) (M' := M) ⟨Or.inr rfl, rfl, rfl⟩ ⟨(by rw [if_neg c6_, if_neg c10_, if_neg c20_, if_neg c24_]), rfl⟩
set_option maxHeartbeats 4000000 in
set_option maxRecDepth 10000 in
theorem sf_X10_isTape_124_x (M : pvM) (hok : pvOk M) (n1 : Int32) (d : Nat) : PW 41 d (0, [some (pvR 124), some (pvI n1)], [], M) (fun r X => r = some (pvI ((if n1 < 0 then 0 else (if 5 < n1 then 0 else 1)))) ∧ X = M) := by
  have hT : pvdom 41 = pvD_41 := rfl
  refine pw_blk hT 4 (S' := (4, [some (pvR 124), some (pvI n1)], [pvI 5, pvI 0, pvI n1, pvR 124], M)) rfl ⟨trivial, trivial, trivial, trivial, trivial⟩ ?_
  refine pw_callT hT (as := [pvR 124, pvI n1, pvI 0, pvI 5]) (lo1 := [some (pvR 124), some (pvI n1), some (pvI 0), some (pvI 5)]) (d1 := d) (rest := []) rfl rfl rfl rfl rfl (fun _ => rfl) (Nat.zero_le _) rfl rfl rfl (sf_X10_in_124_x_x_x M hok n1 0 5 d) ?_
  by_cases c6_ : n1 < 0
  · refine pw_eqI (if_pos c6_) ?_
    have b7_ : (-2147483648) ≤ Int32.toInt n1 ∧ Int32.toInt n1 ≤ (-1) := zr_lt_l (-1) c6_ (zbnd n1) (show 0 ≤ Int32.toInt 0 ∧ Int32.toInt 0 ≤ 0 from (by decide)) (by decide)
    show PW 41 d (7, [some (pvR 124), some (pvI n1)], [pvI 0], M) _
    exact pw_ret hT rfl (r := some (pvI 0)) (M' := M) ⟨Or.inl rfl, rfl, rfl⟩ ⟨(by rw [if_pos c6_]), rfl⟩
  · refine pw_eqI (if_neg c6_) ?_
    have b8_ : 0 ≤ Int32.toInt n1 ∧ Int32.toInt n1 ≤ 2147483647 := zr_nlt_l 0 c6_ (zbnd n1) (show 0 ≤ Int32.toInt 0 ∧ Int32.toInt 0 ≤ 0 from (by decide)) (by decide)
    by_cases c9_ : 5 < n1
    · refine pw_eqI (if_pos c9_) ?_
      have b10_ : 6 ≤ Int32.toInt n1 ∧ Int32.toInt n1 ≤ 2147483647 := zr_lt_r 6 c9_ b8_ (show 5 ≤ Int32.toInt 5 ∧ Int32.toInt 5 ≤ 5 from (by decide)) (by decide)
      show PW 41 d (7, [some (pvR 124), some (pvI n1)], [pvI 0], M) _
      exact pw_ret hT rfl (r := some (pvI 0)) (M' := M) ⟨Or.inl rfl, rfl, rfl⟩ ⟨(by rw [if_neg c6_, if_pos c9_]), rfl⟩
    · refine pw_eqI (if_neg c9_) ?_
      have b11_ : 0 ≤ Int32.toInt n1 ∧ Int32.toInt n1 ≤ 5 := zr_nlt_r 5 c9_ b8_ (show 5 ≤ Int32.toInt 5 ∧ Int32.toInt 5 ≤ 5 from (by decide)) (by decide)
      show PW 41 d (7, [some (pvR 124), some (pvI n1)], [pvI 1], M) _
      exact pw_ret hT rfl (r := some (pvI 1)) (M' := M) ⟨Or.inr rfl, rfl, rfl⟩ ⟨(by rw [if_neg c6_, if_neg c9_]), rfl⟩
set_option maxHeartbeats 4000000 in
set_option maxRecDepth 10000 in
theorem sf_X10_narrow_124_x_x (M : pvM) (hok : pvOk M) (n1 : Int32) (n2 : Int64) (d : Nat) : PW 56 d (0, [some (pvR 124), some (pvI n1), some (pvJ n2), none], [], M) (fun r X => (∃ x : Int64, r = some (pvJ x)) ∧ X = M) := by
  have hT : pvdom 56 = pvD_56 := rfl
  refine pw_blk hT 1 (S' := (1, [some (pvR 124), some (pvI n1), some (pvJ n2), none], [pvI n1], M)) rfl ⟨trivial, trivial⟩ ?_
  refine pw_ifn hT (c := n1 = 0) rfl rfl (fun c1_ => ?_) (fun c1_ => ?_)
  · refine pw_blk hT 2 (S' := (13, [some (pvR 124), some (pvI n1), some (pvJ n2), none], [pvI 1, pvI n1], M)) rfl ⟨trivial, trivial, trivial⟩ ?_
    refine pw_icn hT (c := n1 = 1) rfl rfl (fun c2_ => ?_) (fun c2_ => ?_)
    · refine pw_blk hT 2 (S' := (25, [some (pvR 124), some (pvI n1), some (pvJ n2), none], [pvI 2, pvI n1], M)) rfl ⟨trivial, trivial, trivial⟩ ?_
      refine pw_icn hT (c := n1 = 2) rfl rfl (fun c3_ => ?_) (fun c3_ => ?_)
      · refine pw_blk hT 2 (S' := (36, [some (pvR 124), some (pvI n1), some (pvJ n2), none], [pvI 4, pvI n1], M)) rfl ⟨trivial, trivial, trivial⟩ ?_
        refine pw_icn hT (c := n1 = 4) rfl rfl (fun c4_ => ?_) (fun c4_ => ?_)
        · refine pw_blk hT 1 (S' := (54, [some (pvR 124), some (pvI n1), some (pvJ n2), none], [pvJ n2], M)) rfl ⟨trivial, trivial⟩ ?_
          exact pw_ret hT rfl (r := some (pvJ n2)) (M' := M) ⟨rfl, rfl⟩ ⟨⟨_, rfl⟩, rfl⟩
        · have b5_ : 4 ≤ Int32.toInt n1 ∧ Int32.toInt n1 ≤ 4 := (by have u0 := (zbnd n1); have u1 := (zi_eq _ _).mp c4_; have u2 := (show 4 ≤ Int32.toInt 4 ∧ Int32.toInt 4 ≤ 4 from (by decide)); omega)
          refine pw_blk hT 3 (S' := (42, [some (pvR 124), some (pvI n1), some (pvJ n2), none], [pvI (lg_cmp n2 0)], M)) rfl ⟨trivial, trivial, trivial, trivial⟩ ?_
          refine pw_if hT (c := (lg_cmp n2 0) = 0) rfl rfl (fun c6_ => ?_) (fun c6_ => ?_)
          · have b7_ : 0 ≤ Int32.toInt (lg_cmp n2 0) ∧ Int32.toInt (lg_cmp n2 0) ≤ 0 := (by have u0 := (zbnd (lg_cmp n2 0)); have u1 := (zi_eq _ _).mp c6_; have u2 := (show 0 ≤ Int32.toInt 0 ∧ Int32.toInt 0 ≤ 0 from (by decide)); omega)
            refine pw_blk hT 2 (S' := (54, [some (pvR 124), some (pvI n1), some (pvJ n2), none], [pvJ 0], M)) rfl ⟨trivial, trivial, trivial⟩ ?_
            exact pw_ret hT rfl (r := some (pvJ 0)) (M' := M) ⟨rfl, rfl⟩ ⟨⟨_, rfl⟩, rfl⟩
          · refine pw_blk hT 2 (S' := (54, [some (pvR 124), some (pvI n1), some (pvJ n2), none], [pvJ 1], M)) rfl ⟨trivial, trivial, trivial⟩ ?_
            exact pw_ret hT rfl (r := some (pvJ 1)) (M' := M) ⟨rfl, rfl⟩ ⟨⟨_, rfl⟩, rfl⟩
      · have b8_ : 2 ≤ Int32.toInt n1 ∧ Int32.toInt n1 ≤ 2 := (by have u0 := (zbnd n1); have u1 := (zi_eq _ _).mp c3_; have u2 := (show 2 ≤ Int32.toInt 2 ∧ Int32.toInt 2 ≤ 2 from (by decide)); omega)
        refine pw_blk hT 4 (S' := (54, [some (pvR 124), some (pvI n1), some (pvJ n2), none], [pvJ (Int32.toInt64 (Int64.toInt32 n2))], M)) rfl ⟨trivial, trivial, trivial, trivial, trivial⟩ ?_
        exact pw_ret hT rfl (r := some (pvJ (Int32.toInt64 (Int64.toInt32 n2)))) (M' := M) ⟨rfl, rfl⟩ ⟨⟨_, rfl⟩, rfl⟩
    · have b9_ : 1 ≤ Int32.toInt n1 ∧ Int32.toInt n1 ≤ 1 := (by have u0 := (zbnd n1); have u1 := (zi_eq _ _).mp c2_; have u2 := (show 1 ≤ Int32.toInt 1 ∧ Int32.toInt 1 ≤ 1 from (by decide)); omega)
      refine pw_blk hT 5 (S' := (54, [some (pvR 124), some (pvI n1), some (pvJ n2), none], [pvJ (Int32.toInt64 (Int16.toInt32 (Int32.toInt16 (Int64.toInt32 n2))))], M)) rfl ⟨trivial, trivial, trivial, trivial, trivial, trivial⟩ ?_
      exact pw_ret hT rfl (r := some (pvJ (Int32.toInt64 (Int16.toInt32 (Int32.toInt16 (Int64.toInt32 n2)))))) (M' := M) ⟨rfl, rfl⟩ ⟨⟨_, rfl⟩, rfl⟩
  · have b10_ : 0 ≤ Int32.toInt n1 ∧ Int32.toInt n1 ≤ 0 := (by have u0 := (zbnd n1); have u1 := (zi_eq _ _).mp c1_; have u2 := (show 0 ≤ Int32.toInt 0 ∧ Int32.toInt 0 ≤ 0 from (by decide)); omega)
    refine pw_blk hT 5 (S' := (54, [some (pvR 124), some (pvI n1), some (pvJ n2), none], [pvJ (Int32.toInt64 (Int8.toInt32 (Int32.toInt8 (Int64.toInt32 n2))))], M)) rfl ⟨trivial, trivial, trivial, trivial, trivial, trivial⟩ ?_
    exact pw_ret hT rfl (r := some (pvJ (Int32.toInt64 (Int8.toInt32 (Int32.toInt8 (Int64.toInt32 n2)))))) (M' := M) ⟨rfl, rfl⟩ ⟨⟨_, rfl⟩, rfl⟩
def fpL_X10_item_124_x_x_x : List (Nat × Nat × Nat) := []
def fp_X10_item_124_x_x_x (q k : Nat) : Bool := pvfp fpL_X10_item_124_x_x_x q k
set_option maxHeartbeats 4000000 in
set_option maxRecDepth 10000 in
theorem sf_X10_item_124_x_x_x (M : pvM) (hok : pvOk M) (n1 : Int32) (n2 : Int32) (n3 : Int64) (d : Nat) : PW 43 d (0, [some (pvR 124), some (pvI n1), some (pvI n2), some (pvJ n3), none], [], M) (fun r X => (∃ x : Int32, r = some (pvI x) ∧ (-13) ≤ Int32.toInt x ∧ Int32.toInt x ≤ 1) ∧ pvOk X ∧ pvFr fp_X10_item_124_x_x_x M X) := by
  have hT : pvdom 43 = pvD_43 := rfl
  refine pw_blk hT 2 (S' := (2, [some (pvR 124), some (pvI n1), some (pvI n2), some (pvJ n3), none], [pvI n1, pvR 124], M)) rfl ⟨trivial, trivial, trivial⟩ ?_
  refine pw_callT hT (as := [pvR 124, pvI n1]) (lo1 := [some (pvR 124), some (pvI n1)]) (d1 := d) (rest := []) rfl rfl rfl rfl rfl (fun _ => rfl) (Nat.zero_le _) rfl rfl rfl (sf_X10_isTape_124_x M hok n1 d) ?_
  by_cases c6_ : n1 < 0
  · refine pw_eqI (if_pos c6_) ?_
    have b7_ : (-2147483648) ≤ Int32.toInt n1 ∧ Int32.toInt n1 ≤ (-1) := zr_lt_l (-1) c6_ (zbnd n1) (show 0 ≤ Int32.toInt 0 ∧ Int32.toInt 0 ≤ 0 from (by decide)) (by decide)
    show PW 43 d (5, [some (pvR 124), some (pvI n1), some (pvI n2), some (pvJ n3), none], [pvI 0], M) _
    refine pw_ifn hT (c := 0 = 0) rfl rfl (fun c8_ => absurd (by decide) c8_) (fun c8_ => ?_)
    refine pw_blk hT 1 (S' := (9, [some (pvR 124), some (pvI n1), some (pvI n2), some (pvJ n3), none], [pvI (-1)], M)) rfl ⟨trivial, trivial⟩ ?_
    exact pw_ret hT rfl (r := some (pvI (-1))) (M' := M) ⟨rfl, rfl⟩ ⟨⟨_, rfl, (zr_wide (show (-1) ≤ Int32.toInt (-1) ∧ Int32.toInt (-1) ≤ (-1) from (by decide)) (by decide) (by decide))⟩, hok, pvfr_0⟩
  · refine pw_eqI (if_neg c6_) ?_
    have b9_ : 0 ≤ Int32.toInt n1 ∧ Int32.toInt n1 ≤ 2147483647 := zr_nlt_l 0 c6_ (zbnd n1) (show 0 ≤ Int32.toInt 0 ∧ Int32.toInt 0 ≤ 0 from (by decide)) (by decide)
    by_cases c10_ : 5 < n1
    · refine pw_eqI (if_pos c10_) ?_
      have b11_ : 6 ≤ Int32.toInt n1 ∧ Int32.toInt n1 ≤ 2147483647 := zr_lt_r 6 c10_ b9_ (show 5 ≤ Int32.toInt 5 ∧ Int32.toInt 5 ≤ 5 from (by decide)) (by decide)
      show PW 43 d (5, [some (pvR 124), some (pvI n1), some (pvI n2), some (pvJ n3), none], [pvI 0], M) _
      refine pw_ifn hT (c := 0 = 0) rfl rfl (fun c12_ => absurd (by decide) c12_) (fun c12_ => ?_)
      refine pw_blk hT 1 (S' := (9, [some (pvR 124), some (pvI n1), some (pvI n2), some (pvJ n3), none], [pvI (-1)], M)) rfl ⟨trivial, trivial⟩ ?_
      exact pw_ret hT rfl (r := some (pvI (-1))) (M' := M) ⟨rfl, rfl⟩ ⟨⟨_, rfl, (zr_wide (show (-1) ≤ Int32.toInt (-1) ∧ Int32.toInt (-1) ≤ (-1) from (by decide)) (by decide) (by decide))⟩, hok, pvfr_0⟩
    · refine pw_eqI (if_neg c10_) ?_
      have b13_ : 0 ≤ Int32.toInt n1 ∧ Int32.toInt n1 ≤ 5 := zr_nlt_r 5 c10_ b9_ (show 5 ≤ Int32.toInt 5 ∧ Int32.toInt 5 ≤ 5 from (by decide)) (by decide)
      show PW 43 d (5, [some (pvR 124), some (pvI n1), some (pvI n2), some (pvJ n3), none], [pvI 1], M) _
      refine pw_ifn hT (c := 1 = 0) rfl rfl (fun c14_ => ?_) (fun c14_ => absurd c14_ (by decide))
      have b15_ : (-1) ≤ Int32.toInt (M.1 164 (Int32.toNatClampNeg n1)) ∧ Int32.toInt (M.1 164 (Int32.toNatClampNeg n1)) ≤ 4 := pvok_r hok 164 (Int32.toNatClampNeg n1) rfl
      refine pw_blk hT 4 (S' := (16, [some (pvR 124), some (pvI n1), some (pvI n2), some (pvJ n3), none], [pvI (M.1 164 (Int32.toNatClampNeg n1))], M)) rfl ⟨trivial, rfl, trivial, ⟨rfl, (zr_in (n := 6) b13_ (by decide) (by decide))⟩, trivial⟩ ?_
      refine pw_if hT (c := 0 ≤ (M.1 164 (Int32.toNatClampNeg n1))) rfl rfl (fun c16_ => ?_) (fun c16_ => ?_)
      · have b17_ : 0 ≤ Int32.toInt (M.1 164 (Int32.toNatClampNeg n1)) ∧ Int32.toInt (M.1 164 (Int32.toNatClampNeg n1)) ≤ 4 := zr_le_r 0 c16_ b15_ (show 0 ≤ Int32.toInt 0 ∧ Int32.toInt 0 ≤ 0 from (by decide)) (by decide)
        have b18_ : 0 ≤ Int32.toInt (M.1 165 (Int32.toNatClampNeg n1)) ∧ Int32.toInt (M.1 165 (Int32.toNatClampNeg n1)) ≤ 60 := pvok_r hok 165 (Int32.toNatClampNeg n1) rfl
        obtain ⟨q20_, b19_⟩ : (Int32.toInt ((M.1 165 (Int32.toNatClampNeg n1)) - 1) = Int32.toInt (M.1 165 (Int32.toNatClampNeg n1)) - Int32.toInt 1) ∧ ((-1) ≤ Int32.toInt ((M.1 165 (Int32.toNatClampNeg n1)) - 1) ∧ Int32.toInt ((M.1 165 (Int32.toNatClampNeg n1)) - 1) ≤ 59) := zsub_r (M.1 165 (Int32.toNatClampNeg n1)) 1 (-1) 59 b18_ (show 1 ≤ Int32.toInt 1 ∧ Int32.toInt 1 ≤ 1 from (by decide)) (by decide) (by decide) (by decide) (by decide)
        have u21_ : Int32.toInt 1 = 1 := by decide
        refine pw_blk hT 9 (S' := (33, [some (pvR 124), some (pvI n1), some (pvI n2), some (pvJ n3), none], [pvI ((M.1 165 (Int32.toNatClampNeg n1)) - 1), pvI 0, pvI n2, pvR 124], M)) rfl ⟨trivial, trivial, trivial, trivial, rfl, trivial, ⟨rfl, (zr_in (n := 6) b13_ (by decide) (by decide))⟩, trivial, trivial, trivial⟩ ?_
        refine pw_callT hT (as := [pvR 124, pvI n2, pvI 0, pvI ((M.1 165 (Int32.toNatClampNeg n1)) - 1)]) (lo1 := [some (pvR 124), some (pvI n2), some (pvI 0), some (pvI ((M.1 165 (Int32.toNatClampNeg n1)) - 1))]) (d1 := d) (rest := []) rfl rfl rfl rfl rfl (fun _ => rfl) (Nat.zero_le _) rfl rfl rfl (sf_X10_in_124_x_x_x M hok n2 0 ((M.1 165 (Int32.toNatClampNeg n1)) - 1) d) ?_
        by_cases c27_ : n2 < 0
        · refine pw_eqI (if_pos c27_) ?_
          have b28_ : (-2147483648) ≤ Int32.toInt n2 ∧ Int32.toInt n2 ≤ (-1) := zr_lt_l (-1) c27_ (zbnd n2) (show 0 ≤ Int32.toInt 0 ∧ Int32.toInt 0 ≤ 0 from (by decide)) (by decide)
          show PW 43 d (36, [some (pvR 124), some (pvI n1), some (pvI n2), some (pvJ n3), none], [pvI 0], M) _
          refine pw_ifn hT (c := 0 = 0) rfl rfl (fun c29_ => absurd (by decide) c29_) (fun c29_ => ?_)
          refine pw_blk hT 1 (S' := (41, [some (pvR 124), some (pvI n1), some (pvI n2), some (pvJ n3), none], [pvI (-13)], M)) rfl ⟨trivial, trivial⟩ ?_
          exact pw_ret hT rfl (r := some (pvI (-13))) (M' := M) ⟨rfl, rfl⟩ ⟨⟨_, rfl, (zr_wide (show (-13) ≤ Int32.toInt (-13) ∧ Int32.toInt (-13) ≤ (-13) from (by decide)) (by decide) (by decide))⟩, hok, pvfr_0⟩
        · refine pw_eqI (if_neg c27_) ?_
          have b30_ : 0 ≤ Int32.toInt n2 ∧ Int32.toInt n2 ≤ 2147483647 := zr_nlt_l 0 c27_ (zbnd n2) (show 0 ≤ Int32.toInt 0 ∧ Int32.toInt 0 ≤ 0 from (by decide)) (by decide)
          by_cases c31_ : ((M.1 165 (Int32.toNatClampNeg n1)) - 1) < n2
          · refine pw_eqI (if_pos c31_) ?_
            have d32_ : Int32.toInt ((M.1 165 (Int32.toNatClampNeg n1)) - 1) < Int32.toInt n2 := (zi_lt _ _).mp c31_
            show PW 43 d (36, [some (pvR 124), some (pvI n1), some (pvI n2), some (pvJ n3), none], [pvI 0], M) _
            refine pw_ifn hT (c := 0 = 0) rfl rfl (fun c33_ => absurd (by decide) c33_) (fun c33_ => ?_)
            refine pw_blk hT 1 (S' := (41, [some (pvR 124), some (pvI n1), some (pvI n2), some (pvJ n3), none], [pvI (-13)], M)) rfl ⟨trivial, trivial⟩ ?_
            exact pw_ret hT rfl (r := some (pvI (-13))) (M' := M) ⟨rfl, rfl⟩ ⟨⟨_, rfl, (zr_wide (show (-13) ≤ Int32.toInt (-13) ∧ Int32.toInt (-13) ≤ (-13) from (by decide)) (by decide) (by decide))⟩, hok, pvfr_0⟩
          · refine pw_eqI (if_neg c31_) ?_
            have b34_ : 0 ≤ Int32.toInt ((M.1 165 (Int32.toNatClampNeg n1)) - 1) ∧ Int32.toInt ((M.1 165 (Int32.toNatClampNeg n1)) - 1) ≤ 59 := zr_nlt_l 0 c31_ b19_ b30_ (by decide)
            have b35_ : 0 ≤ Int32.toInt n2 ∧ Int32.toInt n2 ≤ 59 := zr_nlt_r 59 c31_ b30_ b34_ (by decide)
            have d36_ : Int32.toInt ((M.1 165 (Int32.toNatClampNeg n1)) - 1) ≥ Int32.toInt n2 := Int.not_lt.mp ((not_congr (zi_lt _ _)).mp c31_)
            show PW 43 d (36, [some (pvR 124), some (pvI n1), some (pvI n2), some (pvJ n3), none], [pvI 1], M) _
            refine pw_ifn hT (c := 1 = 0) rfl rfl (fun c37_ => ?_) (fun c37_ => absurd c37_ (by decide))
            have q38_ : Int32.toInt (60 * n1) = 60 * Int32.toInt n1 := by have u0 : Int32.toInt 60 = 60 := (by decide); have u1 := b13_; have u2 := zmul 60 n1 (by rw [u0]; omega) (by rw [u0]; omega); rw [u0] at u2; omega
            have b39_ : 0 ≤ Int32.toInt (60 * n1) ∧ Int32.toInt (60 * n1) ≤ 300 := (by have u1 := b13_; omega)
            obtain ⟨q41_, b40_⟩ : (Int32.toInt ((60 * n1) + n2) = Int32.toInt (60 * n1) + Int32.toInt n2) ∧ (0 ≤ Int32.toInt ((60 * n1) + n2) ∧ Int32.toInt ((60 * n1) + n2) ≤ 359) := zadd_r (60 * n1) n2 0 359 b39_ b35_ (by decide) (by decide) (by decide) (by decide)
            refine pw_blk hT 13 (S' := (60, [some (pvR 124), some (pvI n1), some (pvI n2), some (pvJ n3), none], [pvJ n3, pvI (M.1 164 (Int32.toNatClampNeg n1)), pvR 124, pvI ((60 * n1) + n2), pvR 166], M)) rfl ⟨trivial, rfl, trivial, trivial, trivial, trivial, trivial, trivial, trivial, rfl, trivial, ⟨rfl, (zr_in (n := 6) b13_ (by decide) (by decide))⟩, trivial, trivial⟩ ?_
            refine pw_callJp hT (as := [pvR 124, pvI (M.1 164 (Int32.toNatClampNeg n1)), pvJ n3]) (lo1 := [some (pvR 124), some (pvI (M.1 164 (Int32.toNatClampNeg n1))), some (pvJ n3), none]) (d1 := d) (rest := [pvI ((60 * n1) + n2), pvR 166]) rfl rfl rfl rfl rfl (fun _ => rfl) (Nat.zero_le _) rfl rfl rfl (sf_X10_narrow_124_x_x M hok (M.1 164 (Int32.toNatClampNeg n1)) n3 d) (fun x42_ b44_ => ?_)
            refine pw_blkw hT 1 (pc := 64) (lo := [some (pvR 124), some (pvI n1), some (pvI n2), some (pvJ n3), none]) (st := []) (M := pvw M 166 (Int32.toNatClampNeg ((60 * n1) + n2)) x42_) rfl ⟨⟨rfl, (zr_in (n := 360) b40_ (by decide) (by decide))⟩, trivial⟩ (fun M47_ e48_ => ?_)
            have o49_ : pvOk M47_ := pvok_w e48_ hok
            have f50_ : pvFr fp_X10_item_124_x_x_x M M47_ := pvfr_w e48_ pvfr_0
            refine pw_blk hT 1 (S' := (65, [some (pvR 124), some (pvI n1), some (pvI n2), some (pvJ n3), none], [pvI 1], M47_)) rfl ⟨trivial, trivial⟩ ?_
            exact pw_ret hT rfl (r := some (pvI 1)) (M' := M47_) ⟨rfl, rfl⟩ ⟨⟨_, rfl, (zr_wide (show 1 ≤ Int32.toInt 1 ∧ Int32.toInt 1 ≤ 1 from (by decide)) (by decide) (by decide))⟩, o49_, f50_⟩
      · have b51_ : (-1) ≤ Int32.toInt (M.1 164 (Int32.toNatClampNeg n1)) ∧ Int32.toInt (M.1 164 (Int32.toNatClampNeg n1)) ≤ (-1) := zr_nle_r (-1) c16_ b15_ (show 0 ≤ Int32.toInt 0 ∧ Int32.toInt 0 ≤ 0 from (by decide)) (by decide)
        refine pw_blk hT 1 (S' := (21, [some (pvR 124), some (pvI n1), some (pvI n2), some (pvJ n3), none], [pvI (-11)], M)) rfl ⟨trivial, trivial⟩ ?_
        exact pw_ret hT rfl (r := some (pvI (-11))) (M' := M) ⟨rfl, rfl⟩ ⟨⟨_, rfl, (zr_wide (show (-11) ≤ Int32.toInt (-11) ∧ Int32.toInt (-11) ≤ (-11) from (by decide)) (by decide) (by decide))⟩, hok, pvfr_0⟩
set_option maxHeartbeats 4000000 in
set_option maxRecDepth 10000 in
theorem sf_X10_judge_124_x_x (M : pvM) (hok : pvOk M) (n1 : Int32) (n2 : Int32) (d : Nat) : PW 44 d (0, [some (pvR 124), some (pvI n1), some (pvI n2), none], [], M) (fun r X => (∃ x : Int32, r = some (pvI x) ∧ (-12) ≤ Int32.toInt x ∧ Int32.toInt x ≤ 106) ∧ X = M) := by
  have hT : pvdom 44 = pvD_44 := rfl
  refine pw_blk hT 2 (S' := (2, [some (pvR 124), some (pvI n1), some (pvI n2), none], [pvI n1, pvR 124], M)) rfl ⟨trivial, trivial, trivial⟩ ?_
  refine pw_callT hT (as := [pvR 124, pvI n1]) (lo1 := [some (pvR 124), some (pvI n1)]) (d1 := d) (rest := []) rfl rfl rfl rfl rfl (fun _ => rfl) (Nat.zero_le _) rfl rfl rfl (sf_X10_isTape_124_x M hok n1 d) ?_
  by_cases c6_ : n1 < 0
  · refine pw_eqI (if_pos c6_) ?_
    have b7_ : (-2147483648) ≤ Int32.toInt n1 ∧ Int32.toInt n1 ≤ (-1) := zr_lt_l (-1) c6_ (zbnd n1) (show 0 ≤ Int32.toInt 0 ∧ Int32.toInt 0 ≤ 0 from (by decide)) (by decide)
    show PW 44 d (5, [some (pvR 124), some (pvI n1), some (pvI n2), none], [pvI 0], M) _
    refine pw_ifn hT (c := 0 = 0) rfl rfl (fun c8_ => absurd (by decide) c8_) (fun c8_ => ?_)
    refine pw_blk hT 1 (S' := (9, [some (pvR 124), some (pvI n1), some (pvI n2), none], [pvI (-1)], M)) rfl ⟨trivial, trivial⟩ ?_
    exact pw_ret hT rfl (r := some (pvI (-1))) (M' := M) ⟨rfl, rfl⟩ ⟨⟨_, rfl, (zr_wide (show (-1) ≤ Int32.toInt (-1) ∧ Int32.toInt (-1) ≤ (-1) from (by decide)) (by decide) (by decide))⟩, rfl⟩
  · refine pw_eqI (if_neg c6_) ?_
    have b9_ : 0 ≤ Int32.toInt n1 ∧ Int32.toInt n1 ≤ 2147483647 := zr_nlt_l 0 c6_ (zbnd n1) (show 0 ≤ Int32.toInt 0 ∧ Int32.toInt 0 ≤ 0 from (by decide)) (by decide)
    by_cases c10_ : 5 < n1
    · refine pw_eqI (if_pos c10_) ?_
      have b11_ : 6 ≤ Int32.toInt n1 ∧ Int32.toInt n1 ≤ 2147483647 := zr_lt_r 6 c10_ b9_ (show 5 ≤ Int32.toInt 5 ∧ Int32.toInt 5 ≤ 5 from (by decide)) (by decide)
      show PW 44 d (5, [some (pvR 124), some (pvI n1), some (pvI n2), none], [pvI 0], M) _
      refine pw_ifn hT (c := 0 = 0) rfl rfl (fun c12_ => absurd (by decide) c12_) (fun c12_ => ?_)
      refine pw_blk hT 1 (S' := (9, [some (pvR 124), some (pvI n1), some (pvI n2), none], [pvI (-1)], M)) rfl ⟨trivial, trivial⟩ ?_
      exact pw_ret hT rfl (r := some (pvI (-1))) (M' := M) ⟨rfl, rfl⟩ ⟨⟨_, rfl, (zr_wide (show (-1) ≤ Int32.toInt (-1) ∧ Int32.toInt (-1) ≤ (-1) from (by decide)) (by decide) (by decide))⟩, rfl⟩
    · refine pw_eqI (if_neg c10_) ?_
      have b13_ : 0 ≤ Int32.toInt n1 ∧ Int32.toInt n1 ≤ 5 := zr_nlt_r 5 c10_ b9_ (show 5 ≤ Int32.toInt 5 ∧ Int32.toInt 5 ≤ 5 from (by decide)) (by decide)
      show PW 44 d (5, [some (pvR 124), some (pvI n1), some (pvI n2), none], [pvI 1], M) _
      refine pw_ifn hT (c := 1 = 0) rfl rfl (fun c14_ => ?_) (fun c14_ => absurd c14_ (by decide))
      have b15_ : (-1) ≤ Int32.toInt (M.1 164 (Int32.toNatClampNeg n1)) ∧ Int32.toInt (M.1 164 (Int32.toNatClampNeg n1)) ≤ 4 := pvok_r hok 164 (Int32.toNatClampNeg n1) rfl
      refine pw_blk hT 4 (S' := (16, [some (pvR 124), some (pvI n1), some (pvI n2), none], [pvI (M.1 164 (Int32.toNatClampNeg n1))], M)) rfl ⟨trivial, rfl, trivial, ⟨rfl, (zr_in (n := 6) b13_ (by decide) (by decide))⟩, trivial⟩ ?_
      refine pw_if hT (c := (M.1 164 (Int32.toNatClampNeg n1)) < 0) rfl rfl (fun c16_ => ?_) (fun c16_ => ?_)
      · have b17_ : (-1) ≤ Int32.toInt (M.1 164 (Int32.toNatClampNeg n1)) ∧ Int32.toInt (M.1 164 (Int32.toNatClampNeg n1)) ≤ (-1) := zr_lt_l (-1) c16_ b15_ (show 0 ≤ Int32.toInt 0 ∧ Int32.toInt 0 ≤ 0 from (by decide)) (by decide)
        refine pw_blk hT 2 (S' := (34, [some (pvR 124), some (pvI n1), some (pvI n2), some (pvI 0)], [], M)) rfl ⟨trivial, trivial, trivial⟩ ?_
        have hlz29_ : ∀ (nz29_ : Nat) (i3z29_ : Int32), (0 ≤ Int32.toInt i3z29_ ∧ Int32.toInt i3z29_ ≤ 0) → (0 < nz29_) → PW 44 d (34, [some (pvR 124), some (pvI n1), some (pvI n2), some (pvI i3z29_)], [], M) (fun r X => (∃ x : Int32, r = some (pvI x) ∧ (-12) ≤ Int32.toInt x ∧ Int32.toInt x ≤ 106) ∧ X = M) := by
          intro nz29_
          induction nz29_ with
          | zero => intro i3z29_ h3z29_ hmz29_; exact absurd hmz29_ (Nat.not_lt_zero _)
          | succ nz29_ ihz29_ =>
            intro i3z29_ h3z29_ hmz29_
            have b30_ : 0 ≤ Int32.toInt (M.1 124 0) ∧ Int32.toInt (M.1 124 0) ≤ 7 := pvok_r hok 124 0 rfl
            refine pw_blk hT 3 (S' := (39, [some (pvR 124), some (pvI n1), some (pvI n2), some (pvI i3z29_)], [pvI (M.1 124 0), pvI i3z29_], M)) rfl ⟨trivial, trivial, rfl, trivial⟩ ?_
            refine pw_ic hT (c := (M.1 124 0) ≤ i3z29_) rfl rfl (fun c31_ => ?_) (fun c31_ => ?_)
            · have b32_ : 0 ≤ Int32.toInt (M.1 124 0) ∧ Int32.toInt (M.1 124 0) ≤ 0 := zr_le_l 0 c31_ b30_ h3z29_ (by decide)
              have d33_ : Int32.toInt (M.1 124 0) ≤ Int32.toInt i3z29_ := (zi_le _ _).mp c31_
              refine pw_blk hT 1 (S' := (115, [some (pvR 124), some (pvI n1), some (pvI n2), some (pvI i3z29_)], [pvI (-5)], M)) rfl ⟨trivial, trivial⟩ ?_
              exact pw_ret hT rfl (r := some (pvI (-5))) (M' := M) ⟨rfl, rfl⟩ ⟨⟨_, rfl, (zr_wide (show (-5) ≤ Int32.toInt (-5) ∧ Int32.toInt (-5) ≤ (-5) from (by decide)) (by decide) (by decide))⟩, rfl⟩
            · have b34_ : 1 ≤ Int32.toInt (M.1 124 0) ∧ Int32.toInt (M.1 124 0) ≤ 7 := zr_nle_l 1 c31_ b30_ h3z29_ (by decide)
              have d35_ : Int32.toInt (M.1 124 0) > Int32.toInt i3z29_ := Int.not_le.mp ((not_congr (zi_le _ _)).mp c31_)
              refine pw_blk hT 4 (S' := (48, [some (pvR 124), some (pvI n1), some (pvI n2), some (pvI i3z29_)], [pvI (M.1 164 (Int32.toNatClampNeg n1))], M)) rfl ⟨trivial, rfl, trivial, ⟨rfl, (zr_in (n := 6) b13_ (by decide) (by decide))⟩, trivial⟩ ?_
              refine pw_if hT (c := (M.1 164 (Int32.toNatClampNeg n1)) < 0) rfl rfl (fun c36_ => ?_) (fun c36_ => absurd c16_ c36_)
              obtain ⟨q38_, b37_⟩ : (Int32.toInt (100 + i3z29_) = Int32.toInt 100 + Int32.toInt i3z29_) ∧ (100 ≤ Int32.toInt (100 + i3z29_) ∧ Int32.toInt (100 + i3z29_) ≤ 100) := zadd_r 100 i3z29_ 100 100 (show 100 ≤ Int32.toInt 100 ∧ Int32.toInt 100 ≤ 100 from (by decide)) h3z29_ (by decide) (by decide) (by decide) (by decide)
              have u39_ : Int32.toInt 100 = 100 := by decide
              refine pw_blk hT 3 (S' := (73, [some (pvR 124), some (pvI n1), some (pvI n2), some (pvI i3z29_)], [pvI (100 + i3z29_)], M)) rfl ⟨trivial, trivial, trivial, trivial⟩ ?_
              exact pw_ret hT rfl (r := some (pvI (100 + i3z29_))) (M' := M) ⟨rfl, rfl⟩ ⟨⟨_, rfl, (zr_wide b37_ (by decide) (by decide))⟩, rfl⟩
        exact hlz29_ _ 0 (show 0 ≤ Int32.toInt 0 ∧ Int32.toInt 0 ≤ 0 from (by decide)) (Nat.lt_succ_self _)
      · have b40_ : 0 ≤ Int32.toInt (M.1 164 (Int32.toNatClampNeg n1)) ∧ Int32.toInt (M.1 164 (Int32.toNatClampNeg n1)) ≤ 4 := zr_nlt_l 0 c16_ b15_ (show 0 ≤ Int32.toInt 0 ∧ Int32.toInt 0 ≤ 0 from (by decide)) (by decide)
        refine pw_blk hT 5 (S' := (26, [some (pvR 124), some (pvI n1), some (pvI n2), none], [pvI 4, pvI (M.1 164 (Int32.toNatClampNeg n1))], M)) rfl ⟨trivial, rfl, trivial, ⟨rfl, (zr_in (n := 6) b13_ (by decide) (by decide))⟩, trivial, trivial⟩ ?_
        refine pw_ic hT (c := (M.1 164 (Int32.toNatClampNeg n1)) = 4) rfl rfl (fun c41_ => ?_) (fun c41_ => ?_)
        · have b42_ : 4 ≤ Int32.toInt (M.1 164 (Int32.toNatClampNeg n1)) ∧ Int32.toInt (M.1 164 (Int32.toNatClampNeg n1)) ≤ 4 := (by have u0 := b40_; have u1 := (zi_eq _ _).mp c41_; have u2 := (show 4 ≤ Int32.toInt 4 ∧ Int32.toInt 4 ≤ 4 from (by decide)); omega)
          refine pw_blk hT 2 (S' := (34, [some (pvR 124), some (pvI n1), some (pvI n2), some (pvI 0)], [], M)) rfl ⟨trivial, trivial, trivial⟩ ?_
          have hlz181_ : ∀ (nz181_ : Nat) (i3z181_ : Int32), (0 ≤ Int32.toInt i3z181_ ∧ Int32.toInt i3z181_ ≤ 7) → ((8 - Int32.toInt i3z181_).toNat < nz181_) → PW 44 d (34, [some (pvR 124), some (pvI n1), some (pvI n2), some (pvI i3z181_)], [], M) (fun r X => (∃ x : Int32, r = some (pvI x) ∧ (-12) ≤ Int32.toInt x ∧ Int32.toInt x ≤ 106) ∧ X = M) := by
            intro nz181_
            induction nz181_ with
            | zero => intro i3z181_ h3z181_ hmz181_; exact absurd hmz181_ (Nat.not_lt_zero _)
            | succ nz181_ ihz181_ =>
              intro i3z181_ h3z181_ hmz181_
              have b182_ : 0 ≤ Int32.toInt (M.1 124 0) ∧ Int32.toInt (M.1 124 0) ≤ 7 := pvok_r hok 124 0 rfl
              refine pw_blk hT 3 (S' := (39, [some (pvR 124), some (pvI n1), some (pvI n2), some (pvI i3z181_)], [pvI (M.1 124 0), pvI i3z181_], M)) rfl ⟨trivial, trivial, rfl, trivial⟩ ?_
              refine pw_ic hT (c := (M.1 124 0) ≤ i3z181_) rfl rfl (fun c183_ => ?_) (fun c183_ => ?_)
              · have d184_ : Int32.toInt (M.1 124 0) ≤ Int32.toInt i3z181_ := (zi_le _ _).mp c183_
                refine pw_blk hT 1 (S' := (115, [some (pvR 124), some (pvI n1), some (pvI n2), some (pvI i3z181_)], [pvI (-5)], M)) rfl ⟨trivial, trivial⟩ ?_
                exact pw_ret hT rfl (r := some (pvI (-5))) (M' := M) ⟨rfl, rfl⟩ ⟨⟨_, rfl, (zr_wide (show (-5) ≤ Int32.toInt (-5) ∧ Int32.toInt (-5) ≤ (-5) from (by decide)) (by decide) (by decide))⟩, rfl⟩
              · have b185_ : 1 ≤ Int32.toInt (M.1 124 0) ∧ Int32.toInt (M.1 124 0) ≤ 7 := zr_nle_l 1 c183_ b182_ h3z181_ (by decide)
                have b186_ : 0 ≤ Int32.toInt i3z181_ ∧ Int32.toInt i3z181_ ≤ 6 := zr_nle_r 6 c183_ h3z181_ b185_ (by decide)
                have d187_ : Int32.toInt (M.1 124 0) > Int32.toInt i3z181_ := Int.not_le.mp ((not_congr (zi_le _ _)).mp c183_)
                refine pw_blk hT 4 (S' := (48, [some (pvR 124), some (pvI n1), some (pvI n2), some (pvI i3z181_)], [pvI (M.1 164 (Int32.toNatClampNeg n1))], M)) rfl ⟨trivial, rfl, trivial, ⟨rfl, (zr_in (n := 6) b13_ (by decide) (by decide))⟩, trivial⟩ ?_
                refine pw_if hT (c := (M.1 164 (Int32.toNatClampNeg n1)) < 0) rfl rfl (fun c188_ => absurd c188_ c16_) (fun c188_ => ?_)
                refine pw_blk hT 1 (S' := (52, [some (pvR 124), some (pvI n1), some (pvI n2), some (pvI i3z181_)], [pvI n2], M)) rfl ⟨trivial, trivial⟩ ?_
                refine pw_if hT (c := n2 < 0) rfl rfl (fun c189_ => ?_) (fun c189_ => ?_)
                · have b190_ : (-2147483648) ≤ Int32.toInt n2 ∧ Int32.toInt n2 ≤ (-1) := zr_lt_l (-1) c189_ (zbnd n2) (show 0 ≤ Int32.toInt 0 ∧ Int32.toInt 0 ≤ 0 from (by decide)) (by decide)
                  obtain ⟨q192_, b191_⟩ : (Int32.toInt (100 + i3z181_) = Int32.toInt 100 + Int32.toInt i3z181_) ∧ (100 ≤ Int32.toInt (100 + i3z181_) ∧ Int32.toInt (100 + i3z181_) ≤ 106) := zadd_r 100 i3z181_ 100 106 (show 100 ≤ Int32.toInt 100 ∧ Int32.toInt 100 ≤ 100 from (by decide)) b186_ (by decide) (by decide) (by decide) (by decide)
                  have u193_ : Int32.toInt 100 = 100 := by decide
                  refine pw_blk hT 3 (S' := (73, [some (pvR 124), some (pvI n1), some (pvI n2), some (pvI i3z181_)], [pvI (100 + i3z181_)], M)) rfl ⟨trivial, trivial, trivial, trivial⟩ ?_
                  exact pw_ret hT rfl (r := some (pvI (100 + i3z181_))) (M' := M) ⟨rfl, rfl⟩ ⟨⟨_, rfl, (zr_wide b191_ (by decide) (by decide))⟩, rfl⟩
                · have b194_ : 0 ≤ Int32.toInt n2 ∧ Int32.toInt n2 ≤ 2147483647 := zr_nlt_l 0 c189_ (zbnd n2) (show 0 ≤ Int32.toInt 0 ∧ Int32.toInt 0 ≤ 0 from (by decide)) (by decide)
                  have b195_ : 0 ≤ Int32.toInt (M.1 165 (Int32.toNatClampNeg n1)) ∧ Int32.toInt (M.1 165 (Int32.toNatClampNeg n1)) ≤ 60 := pvok_r hok 165 (Int32.toNatClampNeg n1) rfl
                  obtain ⟨q197_, b196_⟩ : (Int32.toInt ((M.1 165 (Int32.toNatClampNeg n1)) - i3z181_) = Int32.toInt (M.1 165 (Int32.toNatClampNeg n1)) - Int32.toInt i3z181_) ∧ ((-6) ≤ Int32.toInt ((M.1 165 (Int32.toNatClampNeg n1)) - i3z181_) ∧ Int32.toInt ((M.1 165 (Int32.toNatClampNeg n1)) - i3z181_) ≤ 60) := zsub_r (M.1 165 (Int32.toNatClampNeg n1)) i3z181_ (-6) 60 b195_ b186_ (by decide) (by decide) (by decide) (by decide)
                  obtain ⟨q199_, b198_⟩ : (Int32.toInt (((M.1 165 (Int32.toNatClampNeg n1)) - i3z181_) - 1) = Int32.toInt ((M.1 165 (Int32.toNatClampNeg n1)) - i3z181_) - Int32.toInt 1) ∧ ((-7) ≤ Int32.toInt (((M.1 165 (Int32.toNatClampNeg n1)) - i3z181_) - 1) ∧ Int32.toInt (((M.1 165 (Int32.toNatClampNeg n1)) - i3z181_) - 1) ≤ 59) := zsub_r ((M.1 165 (Int32.toNatClampNeg n1)) - i3z181_) 1 (-7) 59 b196_ (show 1 ≤ Int32.toInt 1 ∧ Int32.toInt 1 ≤ 1 from (by decide)) (by decide) (by decide) (by decide) (by decide)
                  have u200_ : Int32.toInt 1 = 1 := by decide
                  refine pw_blk hT 9 (S' := (66, [some (pvR 124), some (pvI n1), some (pvI n2), some (pvI i3z181_)], [pvI (((M.1 165 (Int32.toNatClampNeg n1)) - i3z181_) - 1), pvI n2], M)) rfl ⟨trivial, trivial, rfl, trivial, ⟨rfl, (zr_in (n := 6) b13_ (by decide) (by decide))⟩, trivial, trivial, trivial, trivial, trivial⟩ ?_
                  refine pw_ic hT (c := n2 ≤ (((M.1 165 (Int32.toNatClampNeg n1)) - i3z181_) - 1)) rfl rfl (fun c201_ => ?_) (fun c201_ => ?_)
                  · have b202_ : 0 ≤ Int32.toInt n2 ∧ Int32.toInt n2 ≤ 59 := zr_le_l 59 c201_ b194_ b198_ (by decide)
                    have b203_ : 0 ≤ Int32.toInt (((M.1 165 (Int32.toNatClampNeg n1)) - i3z181_) - 1) ∧ Int32.toInt (((M.1 165 (Int32.toNatClampNeg n1)) - i3z181_) - 1) ≤ 59 := zr_le_r 0 c201_ b198_ b202_ (by decide)
                    have d204_ : Int32.toInt n2 ≤ Int32.toInt (((M.1 165 (Int32.toNatClampNeg n1)) - i3z181_) - 1) := (zi_le _ _).mp c201_
                    have q205_ : Int32.toInt (60 * n1) = 60 * Int32.toInt n1 := by have u0 : Int32.toInt 60 = 60 := (by decide); have u1 := b13_; have u2 := zmul 60 n1 (by rw [u0]; omega) (by rw [u0]; omega); rw [u0] at u2; omega
                    have b206_ : 0 ≤ Int32.toInt (60 * n1) ∧ Int32.toInt (60 * n1) ≤ 300 := (by have u1 := b13_; omega)
                    obtain ⟨q208_, b207_⟩ : (Int32.toInt ((60 * n1) + n2) = Int32.toInt (60 * n1) + Int32.toInt n2) ∧ (0 ≤ Int32.toInt ((60 * n1) + n2) ∧ Int32.toInt ((60 * n1) + n2) ≤ 359) := zadd_r (60 * n1) n2 0 359 b206_ b202_ (by decide) (by decide) (by decide) (by decide)
                    obtain ⟨q210_, b209_⟩ : (Int32.toInt (((60 * n1) + n2) + i3z181_) = Int32.toInt ((60 * n1) + n2) + Int32.toInt i3z181_) ∧ (0 ≤ Int32.toInt (((60 * n1) + n2) + i3z181_) ∧ Int32.toInt (((60 * n1) + n2) + i3z181_) ≤ 365) := zadd_r ((60 * n1) + n2) i3z181_ 0 365 b207_ b186_ (by decide) (by decide) (by decide) (by decide)
                    have b211_ : 0 ≤ Int32.toInt (M.1 131 (Int32.toNatClampNeg i3z181_)) ∧ Int32.toInt (M.1 131 (Int32.toNatClampNeg i3z181_)) ≤ 1 := pvok_r hok 131 (Int32.toNatClampNeg i3z181_) rfl
                    refine pw_blk hT 14 (S' := (93, [some (pvR 124), some (pvI n1), some (pvI n2), some (pvI i3z181_)], [pvI (M.1 131 (Int32.toNatClampNeg i3z181_)), pvJ (M.2 166 (Int32.toNatClampNeg (((60 * n1) + n2) + i3z181_)))], M)) rfl ⟨trivial, rfl, trivial, trivial, trivial, trivial, trivial, trivial, trivial, ⟨rfl, (vp_in_iff.mpr (show 0 ≤ Int32.toInt (((60 * n1) + n2) + i3z181_) ∧ Int32.toInt (((60 * n1) + n2) + i3z181_) < ((360 : Nat) : Int) from (by have u0 := b209_; omega)))⟩, trivial, rfl, trivial, ⟨rfl, (zr_in (n := 7) b186_ (by decide) (by decide))⟩, trivial⟩ ?_
                    refine pw_if hT (c := (M.1 131 (Int32.toNatClampNeg i3z181_)) = 0) rfl rfl (fun c212_ => ?_) (fun c212_ => ?_)
                    · have b213_ : 0 ≤ Int32.toInt (M.1 131 (Int32.toNatClampNeg i3z181_)) ∧ Int32.toInt (M.1 131 (Int32.toNatClampNeg i3z181_)) ≤ 0 := (by have u0 := b211_; have u1 := (zi_eq _ _).mp c212_; have u2 := (show 0 ≤ Int32.toInt 0 ∧ Int32.toInt 0 ≤ 0 from (by decide)); omega)
                      refine pw_blk hT 2 (S' := (102, [some (pvR 124), some (pvI n1), some (pvI n2), some (pvI i3z181_)], [pvI (lg_cmp (M.2 166 (Int32.toNatClampNeg (((60 * n1) + n2) + i3z181_))) 0)], M)) rfl ⟨trivial, trivial, trivial⟩ ?_
                      refine pw_if hT (c := (lg_cmp (M.2 166 (Int32.toNatClampNeg (((60 * n1) + n2) + i3z181_))) 0) = 0) rfl rfl (fun c214_ => ?_) (fun c214_ => ?_)
                      · have b215_ : 0 ≤ Int32.toInt (lg_cmp (M.2 166 (Int32.toNatClampNeg (((60 * n1) + n2) + i3z181_))) 0) ∧ Int32.toInt (lg_cmp (M.2 166 (Int32.toNatClampNeg (((60 * n1) + n2) + i3z181_))) 0) ≤ 0 := (by have u0 := (zbnd (lg_cmp (M.2 166 (Int32.toNatClampNeg (((60 * n1) + n2) + i3z181_))) 0)); have u1 := (zi_eq _ _).mp c214_; have u2 := (show 0 ≤ Int32.toInt 0 ∧ Int32.toInt 0 ≤ 0 from (by decide)); omega)
                        obtain ⟨q217_, b216_⟩ : (Int32.toInt (i3z181_ + 1) = Int32.toInt i3z181_ + Int32.toInt 1) ∧ (1 ≤ Int32.toInt (i3z181_ + 1) ∧ Int32.toInt (i3z181_ + 1) ≤ 7) := zadd_r i3z181_ 1 1 7 b186_ (show 1 ≤ Int32.toInt 1 ∧ Int32.toInt 1 ≤ 1 from (by decide)) (by decide) (by decide) (by decide) (by decide)
                        refine pw_blk hT 2 (S' := (34, [some (pvR 124), some (pvI n1), some (pvI n2), some (pvI (i3z181_ + 1))], [], M)) rfl ⟨trivial, trivial, trivial⟩ ?_
                        exact ihz181_ (i3z181_ + 1) (zr_wide b216_ (by decide) (by decide)) (by omega)
                      · refine pw_blk hT 1 (S' := (106, [some (pvR 124), some (pvI n1), some (pvI n2), some (pvI i3z181_)], [pvI i3z181_], M)) rfl ⟨trivial, trivial⟩ ?_
                        exact pw_ret hT rfl (r := some (pvI i3z181_)) (M' := M) ⟨rfl, rfl⟩ ⟨⟨_, rfl, (zr_wide b186_ (by decide) (by decide))⟩, rfl⟩
                    · have b218_ : 1 ≤ Int32.toInt (M.1 131 (Int32.toNatClampNeg i3z181_)) ∧ Int32.toInt (M.1 131 (Int32.toNatClampNeg i3z181_)) ≤ 1 := (by have u0 := b211_; have u1 := (not_congr (zi_eq _ _)).mp c212_; have u2 := (show 0 ≤ Int32.toInt 0 ∧ Int32.toInt 0 ≤ 0 from (by decide)); omega)
                      refine pw_blk hT 3 (S' := (102, [some (pvR 124), some (pvI n1), some (pvI n2), some (pvI i3z181_)], [pvI (lg_cmp (M.2 166 (Int32.toNatClampNeg (((60 * n1) + n2) + i3z181_))) 1)], M)) rfl ⟨trivial, trivial, trivial, trivial⟩ ?_
                      refine pw_if hT (c := (lg_cmp (M.2 166 (Int32.toNatClampNeg (((60 * n1) + n2) + i3z181_))) 1) = 0) rfl rfl (fun c219_ => ?_) (fun c219_ => ?_)
                      · have b220_ : 0 ≤ Int32.toInt (lg_cmp (M.2 166 (Int32.toNatClampNeg (((60 * n1) + n2) + i3z181_))) 1) ∧ Int32.toInt (lg_cmp (M.2 166 (Int32.toNatClampNeg (((60 * n1) + n2) + i3z181_))) 1) ≤ 0 := (by have u0 := (zbnd (lg_cmp (M.2 166 (Int32.toNatClampNeg (((60 * n1) + n2) + i3z181_))) 1)); have u1 := (zi_eq _ _).mp c219_; have u2 := (show 0 ≤ Int32.toInt 0 ∧ Int32.toInt 0 ≤ 0 from (by decide)); omega)
                        obtain ⟨q222_, b221_⟩ : (Int32.toInt (i3z181_ + 1) = Int32.toInt i3z181_ + Int32.toInt 1) ∧ (1 ≤ Int32.toInt (i3z181_ + 1) ∧ Int32.toInt (i3z181_ + 1) ≤ 7) := zadd_r i3z181_ 1 1 7 b186_ (show 1 ≤ Int32.toInt 1 ∧ Int32.toInt 1 ≤ 1 from (by decide)) (by decide) (by decide) (by decide) (by decide)
                        refine pw_blk hT 2 (S' := (34, [some (pvR 124), some (pvI n1), some (pvI n2), some (pvI (i3z181_ + 1))], [], M)) rfl ⟨trivial, trivial, trivial⟩ ?_
                        exact ihz181_ (i3z181_ + 1) (zr_wide b221_ (by decide) (by decide)) (by omega)
                      · refine pw_blk hT 1 (S' := (106, [some (pvR 124), some (pvI n1), some (pvI n2), some (pvI i3z181_)], [pvI i3z181_], M)) rfl ⟨trivial, trivial⟩ ?_
                        exact pw_ret hT rfl (r := some (pvI i3z181_)) (M' := M) ⟨rfl, rfl⟩ ⟨⟨_, rfl, (zr_wide b186_ (by decide) (by decide))⟩, rfl⟩
                  · have d223_ : Int32.toInt n2 > Int32.toInt (((M.1 165 (Int32.toNatClampNeg n1)) - i3z181_) - 1) := Int.not_le.mp ((not_congr (zi_le _ _)).mp c201_)
                    obtain ⟨q225_, b224_⟩ : (Int32.toInt (100 + i3z181_) = Int32.toInt 100 + Int32.toInt i3z181_) ∧ (100 ≤ Int32.toInt (100 + i3z181_) ∧ Int32.toInt (100 + i3z181_) ≤ 106) := zadd_r 100 i3z181_ 100 106 (show 100 ≤ Int32.toInt 100 ∧ Int32.toInt 100 ≤ 100 from (by decide)) b186_ (by decide) (by decide) (by decide) (by decide)
                    have u226_ : Int32.toInt 100 = 100 := by decide
                    refine pw_blk hT 3 (S' := (73, [some (pvR 124), some (pvI n1), some (pvI n2), some (pvI i3z181_)], [pvI (100 + i3z181_)], M)) rfl ⟨trivial, trivial, trivial, trivial⟩ ?_
                    exact pw_ret hT rfl (r := some (pvI (100 + i3z181_))) (M' := M) ⟨rfl, rfl⟩ ⟨⟨_, rfl, (zr_wide b224_ (by decide) (by decide))⟩, rfl⟩
          exact hlz181_ _ 0 (zr_wide (show 0 ≤ Int32.toInt 0 ∧ Int32.toInt 0 ≤ 0 from (by decide)) (by decide) (by decide)) (Nat.lt_succ_self _)
        · have b227_ : 0 ≤ Int32.toInt (M.1 164 (Int32.toNatClampNeg n1)) ∧ Int32.toInt (M.1 164 (Int32.toNatClampNeg n1)) ≤ 3 := (by have u0 := b40_; have u1 := (not_congr (zi_eq _ _)).mp c41_; have u2 := (show 4 ≤ Int32.toInt 4 ∧ Int32.toInt 4 ≤ 4 from (by decide)); omega)
          refine pw_blk hT 1 (S' := (31, [some (pvR 124), some (pvI n1), some (pvI n2), none], [pvI (-12)], M)) rfl ⟨trivial, trivial⟩ ?_
          exact pw_ret hT rfl (r := some (pvI (-12))) (M' := M) ⟨rfl, rfl⟩ ⟨⟨_, rfl, (zr_wide (show (-12) ≤ Int32.toInt (-12) ∧ Int32.toInt (-12) ≤ (-12) from (by decide)) (by decide) (by decide))⟩, rfl⟩
def fpL_X10_late_124_x : List (Nat × Nat × Nat) := [(0, 124, 33), (0, 124, 36), (0, 141, 0), (0, 142, 0), (0, 143, 0), (0, 144, 0)]
def fp_X10_late_124_x (q k : Nat) : Bool := pvfp fpL_X10_late_124_x q k
theorem fp_X10_late_124_x_fp_X10_costOfPath_124_x (a b : Nat) (h : fp_X10_costOfPath_124_x a b = true) : fp_X10_late_124_x a b = true := pvfp_sub (l1 := fpL_X10_costOfPath_124_x) (l2 := fpL_X10_late_124_x) (by decide) a b h
theorem fp_X10_late_124_x_fp_X10_layRain_124 (a b : Nat) (h : fp_X10_layRain_124 a b = true) : fp_X10_late_124_x a b = true := pvfp_sub (l1 := fpL_X10_layRain_124) (l2 := fpL_X10_late_124_x) (by decide) a b h
theorem fp_X10_late_124_x_fp_X10_layRound_124 (a b : Nat) (h : fp_X10_layRound_124 a b = true) : fp_X10_late_124_x a b = true := pvfp_sub (l1 := fpL_X10_layRound_124) (l2 := fpL_X10_late_124_x) (by decide) a b h
set_option maxHeartbeats 4000000 in
set_option maxRecDepth 10000 in
theorem sf_X10_late_124_x (M : pvM) (hok : pvOk M) (n1 : Int32) (d : Nat) : PW 47 d (0, [some (pvR 124), some (pvI n1), none], [], M) (fun r X => (∃ x : Int32, r = some (pvI x) ∧ (-5) ≤ Int32.toInt x ∧ Int32.toInt x ≤ 60) ∧ pvOk X ∧ pvFr fp_X10_late_124_x M X) := by
  have hT : pvdom 47 = pvD_47 := rfl
  refine pw_blk hT 2 (S' := (2, [some (pvR 124), some (pvI n1), none], [pvI n1, pvR 124], M)) rfl ⟨trivial, trivial, trivial⟩ ?_
  refine pw_callT hT (as := [pvR 124, pvI n1]) (lo1 := [some (pvR 124), some (pvI n1)]) (d1 := d) (rest := []) rfl rfl rfl rfl rfl (fun _ => rfl) (Nat.zero_le _) rfl rfl rfl (sf_X10_isLimit_124_x M hok n1 d) ?_
  by_cases c6_ : n1 < 0
  · refine pw_eqI (if_pos c6_) ?_
    have b7_ : (-2147483648) ≤ Int32.toInt n1 ∧ Int32.toInt n1 ≤ (-1) := zr_lt_l (-1) c6_ (zbnd n1) (show 0 ≤ Int32.toInt 0 ∧ Int32.toInt 0 ≤ 0 from (by decide)) (by decide)
    show PW 47 d (5, [some (pvR 124), some (pvI n1), none], [pvI 0], M) _
    refine pw_ifn hT (c := 0 = 0) rfl rfl (fun c8_ => absurd (by decide) c8_) (fun c8_ => ?_)
    refine pw_blk hT 1 (S' := (10, [some (pvR 124), some (pvI n1), none], [pvI (-2)], M)) rfl ⟨trivial, trivial⟩ ?_
    exact pw_ret hT rfl (r := some (pvI (-2))) (M' := M) ⟨rfl, rfl⟩ ⟨⟨_, rfl, (zr_wide (show (-2) ≤ Int32.toInt (-2) ∧ Int32.toInt (-2) ≤ (-2) from (by decide)) (by decide) (by decide))⟩, hok, pvfr_0⟩
  · refine pw_eqI (if_neg c6_) ?_
    have b9_ : 0 ≤ Int32.toInt n1 ∧ Int32.toInt n1 ≤ 2147483647 := zr_nlt_l 0 c6_ (zbnd n1) (show 0 ≤ Int32.toInt 0 ∧ Int32.toInt 0 ≤ 0 from (by decide)) (by decide)
    by_cases c10_ : 99999 < n1
    · refine pw_eqI (if_pos c10_) ?_
      have b11_ : 100000 ≤ Int32.toInt n1 ∧ Int32.toInt n1 ≤ 2147483647 := zr_lt_r 100000 c10_ b9_ (show 99999 ≤ Int32.toInt 99999 ∧ Int32.toInt 99999 ≤ 99999 from (by decide)) (by decide)
      show PW 47 d (5, [some (pvR 124), some (pvI n1), none], [pvI 0], M) _
      refine pw_ifn hT (c := 0 = 0) rfl rfl (fun c12_ => absurd (by decide) c12_) (fun c12_ => ?_)
      refine pw_blk hT 1 (S' := (10, [some (pvR 124), some (pvI n1), none], [pvI (-2)], M)) rfl ⟨trivial, trivial⟩ ?_
      exact pw_ret hT rfl (r := some (pvI (-2))) (M' := M) ⟨rfl, rfl⟩ ⟨⟨_, rfl, (zr_wide (show (-2) ≤ Int32.toInt (-2) ∧ Int32.toInt (-2) ≤ (-2) from (by decide)) (by decide) (by decide))⟩, hok, pvfr_0⟩
    · refine pw_eqI (if_neg c10_) ?_
      have b13_ : 0 ≤ Int32.toInt n1 ∧ Int32.toInt n1 ≤ 99999 := zr_nlt_r 99999 c10_ b9_ (show 99999 ≤ Int32.toInt 99999 ∧ Int32.toInt 99999 ≤ 99999 from (by decide)) (by decide)
      show PW 47 d (5, [some (pvR 124), some (pvI n1), none], [pvI 1], M) _
      refine pw_ifn hT (c := 1 = 0) rfl rfl (fun c14_ => ?_) (fun c14_ => absurd c14_ (by decide))
      refine pw_blk hT 1 (S' := (12, [some (pvR 124), some (pvI n1), none], [pvR 124], M)) rfl ⟨trivial, trivial⟩ ?_
      refine pw_callV hT (as := [pvR 124]) (lo1 := [some (pvR 124), none, none]) (d1 := d) (rest := []) rfl rfl rfl rfl rfl (fun _ => rfl) (Nat.zero_le _) rfl rfl rfl (sf_X10_layRain_124 M hok d) (fun M16_ o18_ g19_ => ?_)
      have f20_ : pvFr fp_X10_late_124_x M M16_ := pvfr_t g19_ pvfr_0 fp_X10_late_124_x_fp_X10_layRain_124
      refine pw_blk hT 1 (S' := (16, [some (pvR 124), some (pvI n1), none], [pvR 124], M16_)) rfl ⟨trivial, trivial⟩ ?_
      refine pw_callV hT (as := [pvR 124]) (lo1 := [some (pvR 124), none]) (d1 := d) (rest := []) rfl rfl rfl rfl rfl (fun _ => rfl) (Nat.zero_le _) rfl rfl rfl (sf_X10_layRound_124 M16_ o18_ d) (fun M22_ o24_ g25_ => ?_)
      have f26_ : pvFr fp_X10_late_124_x M M22_ := pvfr_t g25_ f20_ fp_X10_late_124_x_fp_X10_layRound_124
      refine pw_blk hT 2 (S' := (22, [some (pvR 124), some (pvI n1), some (pvI 60)], [], M22_)) rfl ⟨trivial, trivial, trivial⟩ ?_
      have hlz97_ : ∀ (nz97_ : Nat) (i2z97_ : Int32) (Mz97_ : pvM), (pvOk Mz97_) → (pvFr fp_X10_late_124_x M Mz97_) → ((-1) ≤ Int32.toInt i2z97_ ∧ Int32.toInt i2z97_ ≤ 60) → ((Int32.toInt i2z97_ - (-2)).toNat < nz97_) → PW 47 d (22, [some (pvR 124), some (pvI n1), some (pvI i2z97_)], [], Mz97_) (fun r X => (∃ x : Int32, r = some (pvI x) ∧ (-5) ≤ Int32.toInt x ∧ Int32.toInt x ≤ 60) ∧ pvOk X ∧ pvFr fp_X10_late_124_x M X) := by
        intro nz97_
        induction nz97_ with
        | zero => intro i2z97_ Mz97_ oz97_ fz97_ h2z97_ hmz97_; exact absurd hmz97_ (Nat.not_lt_zero _)
        | succ nz97_ ihz97_ =>
          intro i2z97_ Mz97_ oz97_ fz97_ h2z97_ hmz97_
          refine pw_blk hT 1 (S' := (23, [some (pvR 124), some (pvI n1), some (pvI i2z97_)], [pvI i2z97_], Mz97_)) rfl ⟨trivial, trivial⟩ ?_
          refine pw_if hT (c := i2z97_ < 0) rfl rfl (fun c98_ => ?_) (fun c98_ => ?_)
          · have b99_ : (-1) ≤ Int32.toInt i2z97_ ∧ Int32.toInt i2z97_ ≤ (-1) := zr_lt_l (-1) c98_ h2z97_ (show 0 ≤ Int32.toInt 0 ∧ Int32.toInt 0 ≤ 0 from (by decide)) (by decide)
            refine pw_blk hT 1 (S' := (45, [some (pvR 124), some (pvI n1), some (pvI i2z97_)], [pvI (-5)], Mz97_)) rfl ⟨trivial, trivial⟩ ?_
            exact pw_ret hT rfl (r := some (pvI (-5))) (M' := Mz97_) ⟨rfl, rfl⟩ ⟨⟨_, rfl, (zr_wide (show (-5) ≤ Int32.toInt (-5) ∧ Int32.toInt (-5) ≤ (-5) from (by decide)) (by decide) (by decide))⟩, oz97_, fz97_⟩
          · have b100_ : 0 ≤ Int32.toInt i2z97_ ∧ Int32.toInt i2z97_ ≤ 60 := zr_nlt_l 0 c98_ h2z97_ (show 0 ≤ Int32.toInt 0 ∧ Int32.toInt 0 ≤ 0 from (by decide)) (by decide)
            refine pw_blk hT 2 (S' := (28, [some (pvR 124), some (pvI n1), some (pvI i2z97_)], [pvI i2z97_, pvR 124], Mz97_)) rfl ⟨trivial, trivial, trivial⟩ ?_
            refine pw_callG hT (as := [pvR 124, pvI i2z97_]) (lo1 := [some (pvR 124), some (pvI i2z97_), none]) (d1 := d) (rest := []) rfl rfl rfl rfl rfl (fun _ => rfl) (Nat.zero_le _) rfl rfl rfl (sf_X10_costOfPath_124_x Mz97_ oz97_ i2z97_ b100_ d) (fun x101_ M102_ b103_ o104_ g105_ => ?_)
            have f106_ : pvFr fp_X10_late_124_x M M102_ := pvfr_t g105_ fz97_ fp_X10_late_124_x_fp_X10_costOfPath_124_x
            refine pw_blk hT 1 (S' := (32, [some (pvR 124), some (pvI n1), some (pvI i2z97_)], [pvI n1, pvI x101_], M102_)) rfl ⟨trivial, trivial⟩ ?_
            refine pw_ic hT (c := n1 < x101_) rfl rfl (fun c107_ => ?_) (fun c107_ => ?_)
            · have b108_ : 1 ≤ Int32.toInt x101_ ∧ Int32.toInt x101_ ≤ 9000000 := zr_lt_r 1 c107_ b103_ b13_ (by decide)
              have d109_ : Int32.toInt n1 < Int32.toInt x101_ := (zi_lt _ _).mp c107_
              obtain ⟨q111_, b110_⟩ : (Int32.toInt (i2z97_ + (-1)) = Int32.toInt i2z97_ + Int32.toInt (-1)) ∧ ((-1) ≤ Int32.toInt (i2z97_ + (-1)) ∧ Int32.toInt (i2z97_ + (-1)) ≤ 59) := zadd_r i2z97_ (-1) (-1) 59 b100_ (show (-1) ≤ Int32.toInt (-1) ∧ Int32.toInt (-1) ≤ (-1) from (by decide)) (by decide) (by decide) (by decide) (by decide)
              have u112_ : Int32.toInt (-1) = (-1) := by decide
              refine pw_blk hT 2 (S' := (22, [some (pvR 124), some (pvI n1), some (pvI (i2z97_ + (-1)))], [], M102_)) rfl ⟨trivial, trivial, trivial⟩ ?_
              exact ihz97_ (i2z97_ + (-1)) M102_ o104_ f106_ (zr_wide b110_ (by decide) (by decide)) (by omega)
            · have b113_ : 0 ≤ Int32.toInt x101_ ∧ Int32.toInt x101_ ≤ 99999 := zr_nlt_r 99999 c107_ b103_ b13_ (by decide)
              have d114_ : Int32.toInt n1 ≥ Int32.toInt x101_ := Int.not_lt.mp ((not_congr (zi_lt _ _)).mp c107_)
              refine pw_blk hT 1 (S' := (36, [some (pvR 124), some (pvI n1), some (pvI i2z97_)], [pvI i2z97_], M102_)) rfl ⟨trivial, trivial⟩ ?_
              exact pw_ret hT rfl (r := some (pvI i2z97_)) (M' := M102_) ⟨rfl, rfl⟩ ⟨⟨_, rfl, (zr_wide b100_ (by decide) (by decide))⟩, o104_, f106_⟩
      exact hlz97_ _ 60 M22_ o24_ f26_ (zr_wide (show 60 ≤ Int32.toInt 60 ∧ Int32.toInt 60 ≤ 60 from (by decide)) (by decide) (by decide)) (Nat.lt_succ_self _)
def fpL_X10_leave_124 : List (Nat × Nat × Nat) := [(0, 124, 33), (0, 124, 36), (0, 141, 0), (0, 142, 0), (0, 143, 0), (0, 144, 0)]
def fp_X10_leave_124 (q k : Nat) : Bool := pvfp fpL_X10_leave_124 q k
theorem fp_X10_leave_124_fp_X10_costOfPath_124_x (a b : Nat) (h : fp_X10_costOfPath_124_x a b = true) : fp_X10_leave_124 a b = true := pvfp_sub (l1 := fpL_X10_costOfPath_124_x) (l2 := fpL_X10_leave_124) (by decide) a b h
theorem fp_X10_leave_124_fp_X10_costOfRound_124_x (a b : Nat) (h : fp_X10_costOfRound_124_x a b = true) : fp_X10_leave_124 a b = true := pvfp_sub (l1 := fpL_X10_costOfRound_124_x) (l2 := fpL_X10_leave_124) (by decide) a b h
set_option maxHeartbeats 4000000 in
set_option maxRecDepth 10000 in
theorem sf_X10_leave_124 (M : pvM) (hok : pvOk M) (d : Nat) : PW 52 d (0, [some (pvR 124), none, none, none, none], [], M) (fun r X => (∃ x : Int32, r = some (pvI x) ∧ True) ∧ pvOk X ∧ pvFr fp_X10_leave_124 M X) := by
  have hT : pvdom 52 = pvD_52 := rfl
  refine pw_blk hT 2 (S' := (2, [some (pvR 124), none, none, none, none], [pvI 0, pvR 124], M)) rfl ⟨trivial, trivial, trivial⟩ ?_
  refine pw_callG hT (as := [pvR 124, pvI 0]) (lo1 := [some (pvR 124), some (pvI 0)]) (d1 := d) (rest := []) rfl rfl rfl rfl rfl (fun _ => rfl) (Nat.zero_le _) rfl rfl rfl (sf_X10_costOfRound_124_x M hok 0 (zr_wide (show 0 ≤ Int32.toInt 0 ∧ Int32.toInt 0 ≤ 0 from (by decide)) (by decide) (by decide)) d) (fun x1_ M2_ b3_ o4_ g5_ => ?_)
  have f6_ : pvFr fp_X10_leave_124 M M2_ := pvfr_t g5_ pvfr_0 fp_X10_leave_124_fp_X10_costOfRound_124_x
  refine pw_blk hT 5 (S' := (10, [some (pvR 124), some (pvI x1_), some (pvI 0), some (pvI 0), none], [], M2_)) rfl ⟨trivial, trivial, trivial, trivial, trivial, trivial⟩ ?_
  have hlz869_ : ∀ (nz869_ : Nat) (i2z869_ : Int32) (i3z869_ : Int32) (v4z869_ : Option pvV) (Mz869_ : pvM), (pvOk Mz869_) → (pvFr fp_X10_leave_124 M Mz869_) → (0 ≤ Int32.toInt i3z869_ ∧ Int32.toInt i3z869_ ≤ 7) → ((8 - Int32.toInt i3z869_).toNat < nz869_) → PW 52 d (10, [some (pvR 124), some (pvI x1_), some (pvI i2z869_), some (pvI i3z869_), v4z869_], [], Mz869_) (fun r X => (∃ x : Int32, r = some (pvI x) ∧ True) ∧ pvOk X ∧ pvFr fp_X10_leave_124 M X) := by
    intro nz869_
    induction nz869_ with
    | zero => intro i2z869_ i3z869_ v4z869_ Mz869_ oz869_ fz869_ h3z869_ hmz869_; exact absurd hmz869_ (Nat.not_lt_zero _)
    | succ nz869_ ihz869_ =>
      intro i2z869_ i3z869_ v4z869_ Mz869_ oz869_ fz869_ h3z869_ hmz869_
      have b870_ : 0 ≤ Int32.toInt (Mz869_.1 124 37) ∧ Int32.toInt (Mz869_.1 124 37) ≤ 7 := pvok_r oz869_ 124 37 rfl
      refine pw_blk hT 3 (S' := (15, [some (pvR 124), some (pvI x1_), some (pvI i2z869_), some (pvI i3z869_), v4z869_], [pvI (Mz869_.1 124 37), pvI i3z869_], Mz869_)) rfl ⟨trivial, trivial, rfl, trivial⟩ ?_
      refine pw_ic hT (c := (Mz869_.1 124 37) ≤ i3z869_) rfl rfl (fun c871_ => ?_) (fun c871_ => ?_)
      · have d872_ : Int32.toInt (Mz869_.1 124 37) ≤ Int32.toInt i3z869_ := (zi_le _ _).mp c871_
        refine pw_blk hT 1 (S' := (107, [some (pvR 124), some (pvI x1_), some (pvI i2z869_), some (pvI i3z869_), v4z869_], [pvI i2z869_], Mz869_)) rfl ⟨trivial, trivial⟩ ?_
        exact pw_ret hT rfl (r := some (pvI i2z869_)) (M' := Mz869_) ⟨rfl, rfl⟩ ⟨⟨_, rfl, trivial⟩, oz869_, fz869_⟩
      · have b873_ : 1 ≤ Int32.toInt (Mz869_.1 124 37) ∧ Int32.toInt (Mz869_.1 124 37) ≤ 7 := zr_nle_l 1 c871_ b870_ h3z869_ (by decide)
        have b874_ : 0 ≤ Int32.toInt i3z869_ ∧ Int32.toInt i3z869_ ≤ 6 := zr_nle_r 6 c871_ h3z869_ b873_ (by decide)
        have d875_ : Int32.toInt (Mz869_.1 124 37) > Int32.toInt i3z869_ := Int.not_le.mp ((not_congr (zi_le _ _)).mp c871_)
        refine pw_blkw hT 3 (pc := 23) (lo := [some (pvR 124), some (pvI x1_), some (pvI i2z869_), some (pvI i3z869_), v4z869_]) (st := []) (M := pvu Mz869_ 124 35 0) rfl ⟨trivial, trivial, rfl, trivial⟩ (fun M876_ e877_ => ?_)
        have o878_ : pvOk M876_ := pvok_u2 e877_ oz869_ rfl (zr_wide (show 0 ≤ Int32.toInt 0 ∧ Int32.toInt 0 ≤ 0 from (by decide)) (by decide) (by decide))
        have f879_ : pvFr fp_X10_leave_124 M M876_ := pvfr_u e877_ fz869_ rfl
        refine pw_blk hT 2 (S' := (26, [some (pvR 124), some (pvI x1_), some (pvI i2z869_), some (pvI i3z869_), some (pvI 0)], [], M876_)) rfl ⟨trivial, trivial, trivial⟩ ?_
        have e880_ : (M876_.1 124 37) = (Mz869_.1 124 37) := (pvu_n e877_ 124 37 (Or.inr (by decide)))
        have b881_ : 1 ≤ Int32.toInt (M876_.1 124 37) ∧ Int32.toInt (M876_.1 124 37) ≤ 7 := (by rw [e880_]; exact b873_)
        have hlz1030_ : ∀ (nz1030_ : Nat) (i4z1030_ : Int32) (Mz1030_ : pvM), (pvOk Mz1030_) → (pvFr fp_X10_leave_124 M Mz1030_) → (Mz1030_.1 124 37 = M876_.1 124 37) → (0 ≤ Int32.toInt i4z1030_ ∧ Int32.toInt i4z1030_ ≤ 7) → (Int32.toInt (Mz1030_.1 124 35) ≤ Int32.toInt i4z1030_) → ((8 - Int32.toInt i4z1030_).toNat < nz1030_) → PW 52 d (26, [some (pvR 124), some (pvI x1_), some (pvI i2z869_), some (pvI i3z869_), some (pvI i4z1030_)], [], Mz1030_) (fun r X => (∃ x : Int32, r = some (pvI x) ∧ True) ∧ pvOk X ∧ pvFr fp_X10_leave_124 M X) := by
          intro nz1030_
          induction nz1030_ with
          | zero => intro i4z1030_ Mz1030_ oz1030_ fz1030_ k124_37z1030_ h4z1030_ j0z1030_ hmz1030_; exact absurd hmz1030_ (Nat.not_lt_zero _)
          | succ nz1030_ ihz1030_ =>
            intro i4z1030_ Mz1030_ oz1030_ fz1030_ k124_37z1030_ h4z1030_ j0z1030_ hmz1030_
            have b1031_ : 0 ≤ Int32.toInt (Mz1030_.1 124 35) ∧ Int32.toInt (Mz1030_.1 124 35) ≤ 7 := pvok_r oz1030_ 124 35 rfl
            have e1032_ : (Mz1030_.1 124 37) = (M876_.1 124 37) := (k124_37z1030_)
            have b1033_ : 1 ≤ Int32.toInt (Mz1030_.1 124 37) ∧ Int32.toInt (Mz1030_.1 124 37) ≤ 7 := (by rw [e1032_]; exact b881_)
            refine pw_blk hT 3 (S' := (32, [some (pvR 124), some (pvI x1_), some (pvI i2z869_), some (pvI i3z869_), some (pvI i4z1030_)], [pvI (Mz1030_.1 124 37), pvI i4z1030_], Mz1030_)) rfl ⟨trivial, trivial, rfl, trivial⟩ ?_
            refine pw_ic hT (c := (Mz1030_.1 124 37) ≤ i4z1030_) rfl rfl (fun c1034_ => ?_) (fun c1034_ => ?_)
            · have b1035_ : 1 ≤ Int32.toInt i4z1030_ ∧ Int32.toInt i4z1030_ ≤ 7 := zr_le_r 1 c1034_ h4z1030_ b1033_ (by decide)
              have d1036_ : Int32.toInt (Mz1030_.1 124 37) ≤ Int32.toInt i4z1030_ := (zi_le _ _).mp c1034_
              refine pw_blk hT 3 (S' := (79, [some (pvR 124), some (pvI x1_), some (pvI i2z869_), some (pvI i3z869_), some (pvI i4z1030_)], [pvI 0, pvR 124, pvI i2z869_], Mz1030_)) rfl ⟨trivial, trivial, trivial, trivial⟩ ?_
              refine pw_callG hT (as := [pvR 124, pvI 0]) (lo1 := [some (pvR 124), some (pvI 0), none]) (d1 := d) (rest := [pvI i2z869_]) rfl rfl rfl rfl rfl (fun _ => rfl) (Nat.zero_le _) rfl rfl rfl (sf_X10_costOfPath_124_x Mz1030_ oz1030_ 0 (zr_wide (show 0 ≤ Int32.toInt 0 ∧ Int32.toInt 0 ≤ 0 from (by decide)) (by decide) (by decide)) d) (fun x1037_ M1038_ b1039_ o1040_ g1041_ => ?_)
              have f1042_ : pvFr fp_X10_leave_124 M M1038_ := pvfr_t g1041_ fz1030_ fp_X10_leave_124_fp_X10_costOfPath_124_x
              refine pw_blk hT 1 (S' := (83, [some (pvR 124), some (pvI x1_), some (pvI i2z869_), some (pvI i3z869_), some (pvI i4z1030_)], [pvI x1_, pvI x1037_, pvI i2z869_], M1038_)) rfl ⟨trivial, trivial⟩ ?_
              refine pw_ic hT (c := x1_ < x1037_) rfl rfl (fun c1043_ => ?_) (fun c1043_ => ?_)
              · have b1044_ : 0 ≤ Int32.toInt x1_ ∧ Int32.toInt x1_ ≤ 8999999 := zr_lt_l 8999999 c1043_ b3_ b1039_ (by decide)
                have b1045_ : 1 ≤ Int32.toInt x1037_ ∧ Int32.toInt x1037_ ≤ 9000000 := zr_lt_r 1 c1043_ b1039_ b1044_ (by decide)
                have d1046_ : Int32.toInt x1_ < Int32.toInt x1037_ := (zi_lt _ _).mp c1043_
                obtain ⟨q1048_, b1047_⟩ : (Int32.toInt (i3z869_ + 1) = Int32.toInt i3z869_ + Int32.toInt 1) ∧ (1 ≤ Int32.toInt (i3z869_ + 1) ∧ Int32.toInt (i3z869_ + 1) ≤ 7) := zadd_r i3z869_ 1 1 7 b874_ (show 1 ≤ Int32.toInt 1 ∧ Int32.toInt 1 ≤ 1 from (by decide)) (by decide) (by decide) (by decide) (by decide)
                have u1049_ : Int32.toInt 1 = 1 := by decide
                refine pw_blk hT 5 (S' := (10, [some (pvR 124), some (pvI x1_), some (pvI (i2z869_ ||| 0)), some (pvI (i3z869_ + 1)), some (pvI i4z1030_)], [], M1038_)) rfl ⟨trivial, trivial, trivial, trivial, trivial, trivial⟩ ?_
                exact ihz869_ (i2z869_ ||| 0) (i3z869_ + 1) (some (pvI i4z1030_)) M1038_ o1040_ f1042_ (zr_wide b1047_ (by decide) (by decide)) (by omega)
              · have d1050_ : Int32.toInt x1_ ≥ Int32.toInt x1037_ := Int.not_lt.mp ((not_congr (zi_lt _ _)).mp c1043_)
                have b1051_ : 0 ≤ Int32.toInt (M1038_.1 145 (Int32.toNatClampNeg i3z869_)) ∧ Int32.toInt (M1038_.1 145 (Int32.toNatClampNeg i3z869_)) ≤ 6 := pvok_r o1040_ 145 (Int32.toNatClampNeg i3z869_) rfl
                obtain ⟨q1053_, b1052_⟩ : (Int32.toInt (i3z869_ + 1) = Int32.toInt i3z869_ + Int32.toInt 1) ∧ (1 ≤ Int32.toInt (i3z869_ + 1) ∧ Int32.toInt (i3z869_ + 1) ≤ 7) := zadd_r i3z869_ 1 1 7 b874_ (show 1 ≤ Int32.toInt 1 ∧ Int32.toInt 1 ≤ 1 from (by decide)) (by decide) (by decide) (by decide) (by decide)
                have u1054_ : Int32.toInt 1 = 1 := by decide
                refine pw_blk hT 11 (S' := (10, [some (pvR 124), some (pvI x1_), some (pvI (i2z869_ ||| (1 <<< ((M1038_.1 145 (Int32.toNatClampNeg i3z869_)) &&& 31)))), some (pvI (i3z869_ + 1)), some (pvI i4z1030_)], [], M1038_)) rfl ⟨trivial, trivial, rfl, trivial, ⟨rfl, (zr_in (n := 7) b874_ (by decide) (by decide))⟩, trivial, trivial, trivial, trivial, trivial, trivial, trivial⟩ ?_
                exact ihz869_ (i2z869_ ||| (1 <<< ((M1038_.1 145 (Int32.toNatClampNeg i3z869_)) &&& 31))) (i3z869_ + 1) (some (pvI i4z1030_)) M1038_ o1040_ f1042_ (zr_wide b1052_ (by decide) (by decide)) (by omega)
            · have b1055_ : 0 ≤ Int32.toInt i4z1030_ ∧ Int32.toInt i4z1030_ ≤ 6 := zr_nle_r 6 c1034_ h4z1030_ b1033_ (by decide)
              have d1056_ : Int32.toInt (Mz1030_.1 124 37) > Int32.toInt i4z1030_ := Int.not_le.mp ((not_congr (zi_le _ _)).mp c1034_)
              refine pw_blk hT 2 (S' := (38, [some (pvR 124), some (pvI x1_), some (pvI i2z869_), some (pvI i3z869_), some (pvI i4z1030_)], [pvI i3z869_, pvI i4z1030_], Mz1030_)) rfl ⟨trivial, trivial, trivial⟩ ?_
              refine pw_icn hT (c := i4z1030_ = i3z869_) rfl rfl (fun c1057_ => ?_) (fun c1057_ => ?_)
              · have b1058_ : 0 ≤ Int32.toInt (Mz1030_.1 145 (Int32.toNatClampNeg i4z1030_)) ∧ Int32.toInt (Mz1030_.1 145 (Int32.toNatClampNeg i4z1030_)) ≤ 6 := pvok_r oz1030_ 145 (Int32.toNatClampNeg i4z1030_) rfl
                refine pw_blkw hT 9 (pc := 60) (lo := [some (pvR 124), some (pvI x1_), some (pvI i2z869_), some (pvI i3z869_), some (pvI i4z1030_)]) (st := []) (M := pvu Mz1030_ 144 (Int32.toNatClampNeg (Mz1030_.1 124 35)) (Mz1030_.1 145 (Int32.toNatClampNeg i4z1030_))) rfl ⟨trivial, rfl, trivial, rfl, trivial, rfl, trivial, ⟨rfl, (zr_in (n := 7) b1055_ (by decide) (by decide))⟩, ⟨rfl, (vp_in_iff.mpr (show 0 ≤ Int32.toInt (Mz1030_.1 124 35) ∧ Int32.toInt (Mz1030_.1 124 35) < ((7 : Nat) : Int) from (by have u0 := b1031_; omega)))⟩, trivial⟩ (fun M1059_ e1060_ => ?_)
                have o1061_ : pvOk M1059_ := pvok_u2 e1060_ oz1030_ rfl b1058_
                have f1062_ : pvFr fp_X10_leave_124 M M1059_ := pvfr_u e1060_ fz1030_ rfl
                have e1063_ : (M1059_.1 124 35) = (Mz1030_.1 124 35) := (pvu_n e1060_ 124 35 (Or.inl (by decide)))
                have b1064_ : 0 ≤ Int32.toInt (M1059_.1 124 35) ∧ Int32.toInt (M1059_.1 124 35) ≤ 7 := (by rw [e1063_]; exact b1031_)
                have d1065_ : Int32.toInt (M1059_.1 124 35) = Int32.toInt (Mz1030_.1 124 35) := congrArg Int32.toInt e1063_
                obtain ⟨q1067_, b1066_⟩ : (Int32.toInt ((M1059_.1 124 35) + 1) = Int32.toInt (M1059_.1 124 35) + Int32.toInt 1) ∧ (1 ≤ Int32.toInt ((M1059_.1 124 35) + 1) ∧ Int32.toInt ((M1059_.1 124 35) + 1) ≤ 8) := zadd_r (M1059_.1 124 35) 1 1 8 b1064_ (show 1 ≤ Int32.toInt 1 ∧ Int32.toInt 1 ≤ 1 from (by decide)) (by decide) (by decide) (by decide) (by decide)
                have u1068_ : Int32.toInt 1 = 1 := by decide
                refine pw_blkw hT 6 (pc := 70) (lo := [some (pvR 124), some (pvI x1_), some (pvI i2z869_), some (pvI i3z869_), some (pvI i4z1030_)]) (st := []) (M := pvu M1059_ 124 35 ((M1059_.1 124 35) + 1)) rfl ⟨trivial, trivial, rfl, trivial, trivial, rfl, trivial⟩ (fun M1069_ e1070_ => ?_)
                have o1071_ : pvOk M1069_ := pvok_u2 e1070_ o1061_ rfl (by have u0 := b1066_; omega)
                have f1072_ : pvFr fp_X10_leave_124 M M1069_ := pvfr_u e1070_ f1062_ rfl
                obtain ⟨q1074_, b1073_⟩ : (Int32.toInt (i4z1030_ + 1) = Int32.toInt i4z1030_ + Int32.toInt 1) ∧ (1 ≤ Int32.toInt (i4z1030_ + 1) ∧ Int32.toInt (i4z1030_ + 1) ≤ 7) := zadd_r i4z1030_ 1 1 7 b1055_ (show 1 ≤ Int32.toInt 1 ∧ Int32.toInt 1 ≤ 1 from (by decide)) (by decide) (by decide) (by decide) (by decide)
                refine pw_blk hT 2 (S' := (26, [some (pvR 124), some (pvI x1_), some (pvI i2z869_), some (pvI i3z869_), some (pvI (i4z1030_ + 1))], [], M1069_)) rfl ⟨trivial, trivial, trivial⟩ ?_
                have j1075_ : Int32.toInt (M1069_.1 124 35) ≤ Int32.toInt (i4z1030_ + 1) := by have y01 : Int32.toInt (M1069_.1 124 35) = Int32.toInt ((M1059_.1 124 35) + 1) := congrArg Int32.toInt (pvu_s e1070_); have y02 : Int32.toInt (M1059_.1 124 35) = Int32.toInt (Mz1030_.1 124 35) := congrArg Int32.toInt (pvu_n e1060_ 124 35 (Or.inl (by decide))); omega
                exact ihz1030_ (i4z1030_ + 1) M1069_ o1071_ f1072_ (((pvu_n e1070_ 124 37 (Or.inr (by decide))).trans (pvu_n e1060_ 124 37 (Or.inl (by decide)))).trans (k124_37z1030_)) (zr_wide b1073_ (by decide) (by decide)) j1075_ (by have y01 : Int32.toInt (M1069_.1 124 35) = Int32.toInt ((M1059_.1 124 35) + 1) := congrArg Int32.toInt (pvu_s e1070_); have y02 : Int32.toInt (M1059_.1 124 35) = Int32.toInt (Mz1030_.1 124 35) := congrArg Int32.toInt (pvu_n e1060_ 124 35 (Or.inl (by decide))); omega)
              · have d1076_ : Int32.toInt i4z1030_ = Int32.toInt i3z869_ := (zi_eq _ _).mp c1057_
                obtain ⟨q1078_, b1077_⟩ : (Int32.toInt (i4z1030_ + 1) = Int32.toInt i4z1030_ + Int32.toInt 1) ∧ (1 ≤ Int32.toInt (i4z1030_ + 1) ∧ Int32.toInt (i4z1030_ + 1) ≤ 7) := zadd_r i4z1030_ 1 1 7 b1055_ (show 1 ≤ Int32.toInt 1 ∧ Int32.toInt 1 ≤ 1 from (by decide)) (by decide) (by decide) (by decide) (by decide)
                have u1079_ : Int32.toInt 1 = 1 := by decide
                refine pw_blk hT 3 (S' := (26, [some (pvR 124), some (pvI x1_), some (pvI i2z869_), some (pvI i3z869_), some (pvI (i4z1030_ + 1))], [], Mz1030_)) rfl ⟨trivial, trivial, trivial, trivial⟩ ?_
                have j1080_ : Int32.toInt (Mz1030_.1 124 35) ≤ Int32.toInt (i4z1030_ + 1) := by omega
                exact ihz1030_ (i4z1030_ + 1) Mz1030_ oz1030_ fz1030_ (k124_37z1030_) (zr_wide b1077_ (by decide) (by decide)) j1080_ (by omega)
        have u1081_ : Int32.toInt 0 = 0 := by decide
        have j1082_ : Int32.toInt (M876_.1 124 35) ≤ Int32.toInt 0 := by have y01 : Int32.toInt (M876_.1 124 35) = Int32.toInt 0 := congrArg Int32.toInt (pvu_s e877_); have y03 : Int32.toInt 0 = 0 := (by decide); omega
        exact hlz1030_ _ 0 M876_ o878_ f879_ rfl (zr_wide (show 0 ≤ Int32.toInt 0 ∧ Int32.toInt 0 ≤ 0 from (by decide)) (by decide) (by decide)) j1082_ (Nat.lt_succ_self _)
  exact hlz869_ _ 0 0 none M2_ o4_ f6_ (zr_wide (show 0 ≤ Int32.toInt 0 ∧ Int32.toInt 0 ≤ 0 from (by decide)) (by decide) (by decide)) (Nat.lt_succ_self _)
def fpL_X10_looked_124 : List (Nat × Nat × Nat) := [(0, 124, 36), (0, 143, 0), (0, 144, 0)]
def fp_X10_looked_124 (q k : Nat) : Bool := pvfp fpL_X10_looked_124 q k
theorem fp_X10_looked_124_fp_X10_goes_124_x_x_x (a b : Nat) (h : fp_X10_goes_124_x_x_x a b = true) : fp_X10_looked_124 a b = true := pvfp_sub (l1 := fpL_X10_goes_124_x_x_x) (l2 := fpL_X10_looked_124) (by decide) a b h
theorem fp_X10_looked_124_fp_X10_layOpen_124 (a b : Nat) (h : fp_X10_layOpen_124 a b = true) : fp_X10_looked_124 a b = true := pvfp_sub (l1 := fpL_X10_layOpen_124) (l2 := fpL_X10_looked_124) (by decide) a b h
theorem fp_X10_looked_124_fp_X10_layRound_124 (a b : Nat) (h : fp_X10_layRound_124 a b = true) : fp_X10_looked_124 a b = true := pvfp_sub (l1 := fpL_X10_layRound_124) (l2 := fpL_X10_looked_124) (by decide) a b h
set_option maxHeartbeats 4000000 in
set_option maxRecDepth 10000 in
theorem sf_X10_looked_124 (M : pvM) (hok : pvOk M) (d : Nat) : PW 53 d (0, [some (pvR 124), none, none], [], M) (fun r X => (∃ x : Int32, r = some (pvI x) ∧ (-5) ≤ Int32.toInt x ∧ Int32.toInt x ≤ 7) ∧ pvOk X ∧ pvFr fp_X10_looked_124 M X) := by
  have hT : pvdom 53 = pvD_53 := rfl
  refine pw_blk hT 1 (S' := (1, [some (pvR 124), none, none], [pvR 124], M)) rfl ⟨trivial, trivial⟩ ?_
  refine pw_callV hT (as := [pvR 124]) (lo1 := [some (pvR 124), none]) (d1 := d) (rest := []) rfl rfl rfl rfl rfl (fun _ => rfl) (Nat.zero_le _) rfl rfl rfl (sf_X10_layRound_124 M hok d) (fun M2_ o4_ g5_ => ?_)
  have f6_ : pvFr fp_X10_looked_124 M M2_ := pvfr_t g5_ pvfr_0 fp_X10_looked_124_fp_X10_layRound_124
  refine pw_blk hT 1 (S' := (5, [some (pvR 124), none, none], [pvR 124], M2_)) rfl ⟨trivial, trivial⟩ ?_
  refine pw_callV hT (as := [pvR 124]) (lo1 := [some (pvR 124), none]) (d1 := d) (rest := []) rfl rfl rfl rfl rfl (fun _ => rfl) (Nat.zero_le _) rfl rfl rfl (sf_X10_layOpen_124 M2_ o4_ d) (fun M8_ o10_ g11_ => ?_)
  have f12_ : pvFr fp_X10_looked_124 M M8_ := pvfr_t g11_ f6_ fp_X10_looked_124_fp_X10_layOpen_124
  have b13_ : 0 ≤ Int32.toInt (M8_.1 124 35) ∧ Int32.toInt (M8_.1 124 35) ≤ 7 := pvok_r o10_ 124 35 rfl
  have b14_ : 0 ≤ Int32.toInt (M8_.1 124 1) ∧ Int32.toInt (M8_.1 124 1) ≤ 9999 := pvok_r o10_ 124 1 rfl
  refine pw_blk hT 6 (S' := (18, [some (pvR 124), none, none], [pvI (M8_.1 124 1), pvI (M8_.1 124 35), pvI 0, pvR 124], M8_)) rfl ⟨trivial, trivial, trivial, rfl, trivial, rfl, trivial⟩ ?_
  refine pw_callG hT (as := [pvR 124, pvI 0, pvI (M8_.1 124 35), pvI (M8_.1 124 1)]) (lo1 := [some (pvR 124), some (pvI 0), some (pvI (M8_.1 124 35)), some (pvI (M8_.1 124 1)), none, none, none, none, none]) (d1 := d) (rest := []) rfl rfl rfl rfl rfl (fun _ => rfl) (Nat.zero_le _) rfl rfl rfl (sf_X10_goes_124_x_x_x M8_ o10_ 0 (M8_.1 124 35) (M8_.1 124 1) (zr_wide (show 0 ≤ Int32.toInt 0 ∧ Int32.toInt 0 ≤ 0 from (by decide)) (by decide) (by decide)) b13_ (zr_wide b14_ (by decide) (by decide)) d) (fun x15_ M16_ b17_ o18_ g19_ => ?_)
  have f20_ : pvFr fp_X10_looked_124 M M16_ := pvfr_t g19_ f12_ fp_X10_looked_124_fp_X10_goes_124_x_x_x
  refine pw_blk hT 3 (S' := (24, [some (pvR 124), some (pvI x15_), some (pvI 0)], [], M16_)) rfl ⟨trivial, trivial, trivial, trivial⟩ ?_
  have hlz75_ : ∀ (nz75_ : Nat) (i2z75_ : Int32), (0 ≤ Int32.toInt i2z75_ ∧ Int32.toInt i2z75_ ≤ 8) → ((9 - Int32.toInt i2z75_).toNat < nz75_) → PW 53 d (24, [some (pvR 124), some (pvI x15_), some (pvI i2z75_)], [], M16_) (fun r X => (∃ x : Int32, r = some (pvI x) ∧ (-5) ≤ Int32.toInt x ∧ Int32.toInt x ≤ 7) ∧ pvOk X ∧ pvFr fp_X10_looked_124 M X) := by
    intro nz75_
    induction nz75_ with
    | zero => intro i2z75_ h2z75_ hmz75_; exact absurd hmz75_ (Nat.not_lt_zero _)
    | succ nz75_ ihz75_ =>
      intro i2z75_ h2z75_ hmz75_
      have b76_ : 0 ≤ Int32.toInt (M16_.1 124 43) ∧ Int32.toInt (M16_.1 124 43) ≤ 8 := pvok_r o18_ 124 43 rfl
      refine pw_blk hT 3 (S' := (29, [some (pvR 124), some (pvI x15_), some (pvI i2z75_)], [pvI (M16_.1 124 43), pvI i2z75_], M16_)) rfl ⟨trivial, trivial, rfl, trivial⟩ ?_
      refine pw_ic hT (c := (M16_.1 124 43) ≤ i2z75_) rfl rfl (fun c77_ => ?_) (fun c77_ => ?_)
      · have d78_ : Int32.toInt (M16_.1 124 43) ≤ Int32.toInt i2z75_ := (zi_le _ _).mp c77_
        refine pw_blk hT 1 (S' := (62, [some (pvR 124), some (pvI x15_), some (pvI i2z75_)], [pvI (-5)], M16_)) rfl ⟨trivial, trivial⟩ ?_
        exact pw_ret hT rfl (r := some (pvI (-5))) (M' := M16_) ⟨rfl, rfl⟩ ⟨⟨_, rfl, (zr_wide (show (-5) ≤ Int32.toInt (-5) ∧ Int32.toInt (-5) ≤ (-5) from (by decide)) (by decide) (by decide))⟩, o18_, f20_⟩
      · have b79_ : 1 ≤ Int32.toInt (M16_.1 124 43) ∧ Int32.toInt (M16_.1 124 43) ≤ 8 := zr_nle_l 1 c77_ b76_ h2z75_ (by decide)
        have b80_ : 0 ≤ Int32.toInt i2z75_ ∧ Int32.toInt i2z75_ ≤ 7 := zr_nle_r 7 c77_ h2z75_ b79_ (by decide)
        have d81_ : Int32.toInt (M16_.1 124 43) > Int32.toInt i2z75_ := Int.not_le.mp ((not_congr (zi_le _ _)).mp c77_)
        have b82_ : 0 ≤ Int32.toInt (M16_.1 149 (Int32.toNatClampNeg i2z75_)) ∧ Int32.toInt (M16_.1 149 (Int32.toNatClampNeg i2z75_)) ≤ 6 := pvok_r o18_ 149 (Int32.toNatClampNeg i2z75_) rfl
        have b83_ : (-1) ≤ Int32.toInt (M16_.1 143 (Int32.toNatClampNeg (M16_.1 149 (Int32.toNatClampNeg i2z75_)))) ∧ Int32.toInt (M16_.1 143 (Int32.toNatClampNeg (M16_.1 149 (Int32.toNatClampNeg i2z75_)))) ≤ 99999 := pvok_r o18_ 143 (Int32.toNatClampNeg (M16_.1 149 (Int32.toNatClampNeg i2z75_))) rfl
        have b84_ : 0 ≤ Int32.toInt (M16_.1 150 (Int32.toNatClampNeg i2z75_)) ∧ Int32.toInt (M16_.1 150 (Int32.toNatClampNeg i2z75_)) ≤ 9999 := pvok_r o18_ 150 (Int32.toNatClampNeg i2z75_) rfl
        refine pw_blk hT 11 (S' := (49, [some (pvR 124), some (pvI x15_), some (pvI i2z75_)], [pvI (M16_.1 150 (Int32.toNatClampNeg i2z75_)), pvI (M16_.1 143 (Int32.toNatClampNeg (M16_.1 149 (Int32.toNatClampNeg i2z75_))))], M16_)) rfl ⟨trivial, rfl, trivial, rfl, trivial, ⟨rfl, (zr_in (n := 8) b80_ (by decide) (by decide))⟩, ⟨rfl, (zr_in (n := 7) b82_ (by decide) (by decide))⟩, trivial, rfl, trivial, ⟨rfl, (zr_in (n := 8) b80_ (by decide) (by decide))⟩, trivial⟩ ?_
        refine pw_ic hT (c := (M16_.1 143 (Int32.toNatClampNeg (M16_.1 149 (Int32.toNatClampNeg i2z75_)))) ≤ (M16_.1 150 (Int32.toNatClampNeg i2z75_))) rfl rfl (fun c85_ => ?_) (fun c85_ => ?_)
        · have b86_ : (-1) ≤ Int32.toInt (M16_.1 143 (Int32.toNatClampNeg (M16_.1 149 (Int32.toNatClampNeg i2z75_)))) ∧ Int32.toInt (M16_.1 143 (Int32.toNatClampNeg (M16_.1 149 (Int32.toNatClampNeg i2z75_)))) ≤ 9999 := zr_le_l 9999 c85_ b83_ b84_ (by decide)
          have d87_ : Int32.toInt (M16_.1 143 (Int32.toNatClampNeg (M16_.1 149 (Int32.toNatClampNeg i2z75_)))) ≤ Int32.toInt (M16_.1 150 (Int32.toNatClampNeg i2z75_)) := (zi_le _ _).mp c85_
          obtain ⟨q89_, b88_⟩ : (Int32.toInt (i2z75_ + 1) = Int32.toInt i2z75_ + Int32.toInt 1) ∧ (1 ≤ Int32.toInt (i2z75_ + 1) ∧ Int32.toInt (i2z75_ + 1) ≤ 8) := zadd_r i2z75_ 1 1 8 b80_ (show 1 ≤ Int32.toInt 1 ∧ Int32.toInt 1 ≤ 1 from (by decide)) (by decide) (by decide) (by decide) (by decide)
          have u90_ : Int32.toInt 1 = 1 := by decide
          refine pw_blk hT 2 (S' := (24, [some (pvR 124), some (pvI x15_), some (pvI (i2z75_ + 1))], [], M16_)) rfl ⟨trivial, trivial, trivial⟩ ?_
          exact ihz75_ (i2z75_ + 1) (zr_wide b88_ (by decide) (by decide)) (by omega)
        · have b91_ : 1 ≤ Int32.toInt (M16_.1 143 (Int32.toNatClampNeg (M16_.1 149 (Int32.toNatClampNeg i2z75_)))) ∧ Int32.toInt (M16_.1 143 (Int32.toNatClampNeg (M16_.1 149 (Int32.toNatClampNeg i2z75_)))) ≤ 99999 := zr_nle_l 1 c85_ b83_ b84_ (by decide)
          have d92_ : Int32.toInt (M16_.1 143 (Int32.toNatClampNeg (M16_.1 149 (Int32.toNatClampNeg i2z75_)))) > Int32.toInt (M16_.1 150 (Int32.toNatClampNeg i2z75_)) := Int.not_le.mp ((not_congr (zi_le _ _)).mp c85_)
          refine pw_blk hT 1 (S' := (53, [some (pvR 124), some (pvI x15_), some (pvI i2z75_)], [pvI i2z75_], M16_)) rfl ⟨trivial, trivial⟩ ?_
          exact pw_ret hT rfl (r := some (pvI i2z75_)) (M' := M16_) ⟨rfl, rfl⟩ ⟨⟨_, rfl, (zr_wide b80_ (by decide) (by decide))⟩, o18_, f20_⟩
  exact hlz75_ _ 0 (zr_wide (show 0 ≤ Int32.toInt 0 ∧ Int32.toInt 0 ≤ 0 from (by decide)) (by decide) (by decide)) (Nat.lt_succ_self _)
set_option maxHeartbeats 4000000 in
set_option maxRecDepth 10000 in
theorem sf_X10_lowest_124_x_x_x (M : pvM) (hok : pvOk M) (n1 : Int32) (n2 : Int32) (n3 : Int32) (hn1 : 0 ≤ Int32.toInt n1 ∧ Int32.toInt n1 ≤ 90000000) (hn2 : 1 ≤ Int32.toInt n2 ∧ Int32.toInt n2 ≤ 10) (d : Nat) : PW 54 d (0, [some (pvR 124), some (pvI n1), some (pvI n2), some (pvI n3), none], [], M) (fun r X => (∃ x : Int64, r = some (pvJ x)) ∧ X = M) := by
  have hT : pvdom 54 = pvD_54 := rfl
  refine pw_blk hT 3 (S' := (3, [some (pvR 124), some (pvI n1), some (pvI n2), some (pvI n3), none], [pvI n2, pvI n1, pvR 124], M)) rfl ⟨trivial, trivial, trivial, trivial⟩ ?_
  refine pw_callGp hT (as := [pvR 124, pvI n1, pvI n2]) (lo1 := [some (pvR 124), some (pvI n1), some (pvI n2), none, none, none]) (d1 := d) (rest := []) rfl rfl rfl rfl rfl (fun _ => rfl) (Nat.zero_le _) rfl rfl rfl (sf_X10_divisor_124_x_x M hok n1 n2 hn1 hn2 d) (fun x1_ b3_ => ?_)
  refine pw_blk hT 2 (S' := (9, [some (pvR 124), some (pvI n1), some (pvI n2), some (pvI n3), some (pvI x1_)], [pvI n3], M)) rfl ⟨trivial, trivial, trivial⟩ ?_
  refine pw_ifn hT (c := n3 = 0) rfl rfl (fun c6_ => ?_) (fun c6_ => ?_)
  · refine pw_blk hT 4 (S' := (25, [some (pvR 124), some (pvI n1), some (pvI n2), some (pvI n3), some (pvI x1_)], [pvJ (Int32.toInt64 (n2 / x1_))], M)) rfl ⟨trivial, trivial, (fun z0 => by have u0 := b3_; have u1 := (zi_eq _ _).mp z0; have u2 : (0 : Int32).toInt = 0 := (by decide); omega), trivial, trivial⟩ ?_
    exact pw_ret hT rfl (r := some (pvJ (Int32.toInt64 (n2 / x1_)))) (M' := M) ⟨rfl, rfl⟩ ⟨⟨_, rfl⟩, rfl⟩
  · have b7_ : 0 ≤ Int32.toInt n3 ∧ Int32.toInt n3 ≤ 0 := (by have u0 := (zbnd n3); have u1 := (zi_eq _ _).mp c6_; have u2 := (show 0 ≤ Int32.toInt 0 ∧ Int32.toInt 0 ≤ 0 from (by decide)); omega)
    refine pw_blk hT 5 (S' := (25, [some (pvR 124), some (pvI n1), some (pvI n2), some (pvI n3), some (pvI x1_)], [pvJ (Int32.toInt64 (n1 / x1_))], M)) rfl ⟨trivial, trivial, (fun z0 => by have u0 := b3_; have u1 := (zi_eq _ _).mp z0; have u2 : (0 : Int32).toInt = 0 := (by decide); omega), trivial, trivial, trivial⟩ ?_
    exact pw_ret hT rfl (r := some (pvJ (Int32.toInt64 (n1 / x1_)))) (M' := M) ⟨rfl, rfl⟩ ⟨⟨_, rfl⟩, rfl⟩
def fpL_X10_mean_124_x : List (Nat × Nat × Nat) := [(0, 124, 4), (0, 124, 33), (0, 124, 36), (0, 141, 0), (0, 142, 0), (0, 143, 0), (0, 144, 0)]
def fp_X10_mean_124_x (q k : Nat) : Bool := pvfp fpL_X10_mean_124_x q k
theorem fp_X10_mean_124_x_fp_X10_costOfRound_124_x (a b : Nat) (h : fp_X10_costOfRound_124_x a b = true) : fp_X10_mean_124_x a b = true := pvfp_sub (l1 := fpL_X10_costOfRound_124_x) (l2 := fpL_X10_mean_124_x) (by decide) a b h
set_option maxHeartbeats 4000000 in
set_option maxRecDepth 10000 in
theorem sf_X10_mean_124_x (M : pvM) (hok : pvOk M) (n1 : Int32) (hx0 : Int32.toInt (M.1 124 3) ≤ 99) (d : Nat) : PW 55 d (0, [some (pvR 124), some (pvI n1), none, none, none], [], M) (fun r X => (∃ x : Int64, r = some (pvJ x)) ∧ pvOk X ∧ pvFr fp_X10_mean_124_x M X ∧ X.1 124 3 = M.1 124 3) := by
  have hT : pvdom 55 = pvD_55 := rfl
  refine pw_blk hT 4 (S' := (4, [some (pvR 124), some (pvI n1), none, none, none], [pvI 1, pvI 0, pvI n1, pvR 124], M)) rfl ⟨trivial, trivial, trivial, trivial, trivial⟩ ?_
  refine pw_callT hT (as := [pvR 124, pvI n1, pvI 0, pvI 1]) (lo1 := [some (pvR 124), some (pvI n1), some (pvI 0), some (pvI 1)]) (d1 := d) (rest := []) rfl rfl rfl rfl rfl (fun _ => rfl) (Nat.zero_le _) rfl rfl rfl (sf_X10_in_124_x_x_x M hok n1 0 1 d) ?_
  by_cases c6_ : n1 < 0
  · refine pw_eqI (if_pos c6_) ?_
    have b7_ : (-2147483648) ≤ Int32.toInt n1 ∧ Int32.toInt n1 ≤ (-1) := zr_lt_l (-1) c6_ (zbnd n1) (show 0 ≤ Int32.toInt 0 ∧ Int32.toInt 0 ≤ 0 from (by decide)) (by decide)
    show PW 55 d (7, [some (pvR 124), some (pvI n1), none, none, none], [pvI 0], M) _
    refine pw_ifn hT (c := 0 = 0) rfl rfl (fun c8_ => absurd (by decide) c8_) (fun c8_ => ?_)
    refine pw_blk hT 1 (S' := (13, [some (pvR 124), some (pvI n1), none, none, none], [pvJ (-9223372036854775808)], M)) rfl ⟨trivial, trivial⟩ ?_
    exact pw_ret hT rfl (r := some (pvJ (-9223372036854775808))) (M' := M) ⟨rfl, rfl⟩ ⟨⟨_, rfl⟩, hok, pvfr_0, rfl⟩
  · refine pw_eqI (if_neg c6_) ?_
    have b9_ : 0 ≤ Int32.toInt n1 ∧ Int32.toInt n1 ≤ 2147483647 := zr_nlt_l 0 c6_ (zbnd n1) (show 0 ≤ Int32.toInt 0 ∧ Int32.toInt 0 ≤ 0 from (by decide)) (by decide)
    by_cases c10_ : 1 < n1
    · refine pw_eqI (if_pos c10_) ?_
      have b11_ : 2 ≤ Int32.toInt n1 ∧ Int32.toInt n1 ≤ 2147483647 := zr_lt_r 2 c10_ b9_ (show 1 ≤ Int32.toInt 1 ∧ Int32.toInt 1 ≤ 1 from (by decide)) (by decide)
      show PW 55 d (7, [some (pvR 124), some (pvI n1), none, none, none], [pvI 0], M) _
      refine pw_ifn hT (c := 0 = 0) rfl rfl (fun c12_ => absurd (by decide) c12_) (fun c12_ => ?_)
      refine pw_blk hT 1 (S' := (13, [some (pvR 124), some (pvI n1), none, none, none], [pvJ (-9223372036854775808)], M)) rfl ⟨trivial, trivial⟩ ?_
      exact pw_ret hT rfl (r := some (pvJ (-9223372036854775808))) (M' := M) ⟨rfl, rfl⟩ ⟨⟨_, rfl⟩, hok, pvfr_0, rfl⟩
    · refine pw_eqI (if_neg c10_) ?_
      have b13_ : 0 ≤ Int32.toInt n1 ∧ Int32.toInt n1 ≤ 1 := zr_nlt_r 1 c10_ b9_ (show 1 ≤ Int32.toInt 1 ∧ Int32.toInt 1 ≤ 1 from (by decide)) (by decide)
      show PW 55 d (7, [some (pvR 124), some (pvI n1), none, none, none], [pvI 1], M) _
      refine pw_ifn hT (c := 1 = 0) rfl rfl (fun c14_ => ?_) (fun c14_ => absurd c14_ (by decide))
      have b15_ : 0 ≤ Int32.toInt (M.1 124 3) ∧ Int32.toInt (M.1 124 3) ≤ 108 := pvok_r hok 124 3 rfl
      refine pw_blk hT 7 (S' := (24, [some (pvR 124), some (pvI n1), some (pvI (M.1 124 3)), some (pvI 0), some (pvI 0)], [], M)) rfl ⟨trivial, rfl, trivial, trivial, trivial, trivial, trivial, trivial⟩ ?_
      have hlz121_ : ∀ (nz121_ : Nat) (i3z121_ : Int32) (i4z121_ : Int32) (Mz121_ : pvM), (pvOk Mz121_) → (pvFr fp_X10_mean_124_x M Mz121_) → (0 ≤ Int32.toInt i3z121_ ∧ Int32.toInt i3z121_ ≤ 90000000) → (0 ≤ Int32.toInt i4z121_ ∧ Int32.toInt i4z121_ ≤ 10) → (Int32.toInt i3z121_ ≤ 9000000 * Int32.toInt i4z121_) → ((11 - Int32.toInt i4z121_).toNat < nz121_) → PW 55 d (24, [some (pvR 124), some (pvI n1), some (pvI (M.1 124 3)), some (pvI i3z121_), some (pvI i4z121_)], [], Mz121_) (fun r X => (∃ x : Int64, r = some (pvJ x)) ∧ pvOk X ∧ pvFr fp_X10_mean_124_x M X ∧ X.1 124 3 = M.1 124 3) := by
        intro nz121_
        induction nz121_ with
        | zero => intro i3z121_ i4z121_ Mz121_ oz121_ fz121_ h3z121_ h4z121_ j0z121_ hmz121_; exact absurd hmz121_ (Nat.not_lt_zero _)
        | succ nz121_ ihz121_ =>
          intro i3z121_ i4z121_ Mz121_ oz121_ fz121_ h3z121_ h4z121_ j0z121_ hmz121_
          refine pw_blk hT 2 (S' := (28, [some (pvR 124), some (pvI n1), some (pvI (M.1 124 3)), some (pvI i3z121_), some (pvI i4z121_)], [pvI 10, pvI i4z121_], Mz121_)) rfl ⟨trivial, trivial, trivial⟩ ?_
          refine pw_ic hT (c := 10 ≤ i4z121_) rfl rfl (fun c122_ => ?_) (fun c122_ => ?_)
          · have b123_ : 10 ≤ Int32.toInt i4z121_ ∧ Int32.toInt i4z121_ ≤ 10 := zr_le_r 10 c122_ h4z121_ (show 10 ≤ Int32.toInt 10 ∧ Int32.toInt 10 ≤ 10 from (by decide)) (by decide)
            refine pw_blkw hT 3 (pc := 58) (lo := [some (pvR 124), some (pvI n1), some (pvI (M.1 124 3)), some (pvI i3z121_), some (pvI i4z121_)]) (st := []) (M := pvu Mz121_ 124 3 (M.1 124 3)) rfl ⟨trivial, trivial, rfl, trivial⟩ (fun M124_ e125_ => ?_)
            have o126_ : pvOk M124_ := pvok_u2 e125_ oz121_ rfl b15_
            have f127_ : pvFr fp_X10_mean_124_x M M124_ := pvfr_u e125_ fz121_ rfl
            refine pw_blk hT 4 (S' := (63, [some (pvR 124), some (pvI n1), some (pvI (M.1 124 3)), some (pvI i3z121_), some (pvI i4z121_)], [pvI n1, pvI 10, pvI i3z121_, pvR 124], M124_)) rfl ⟨trivial, trivial, trivial, trivial, trivial⟩ ?_
            refine pw_callJp hT (as := [pvR 124, pvI i3z121_, pvI 10, pvI n1]) (lo1 := [some (pvR 124), some (pvI i3z121_), some (pvI 10), some (pvI n1), none]) (d1 := d) (rest := []) rfl rfl rfl rfl rfl (fun _ => rfl) (Nat.zero_le _) rfl rfl rfl (sf_X10_lowest_124_x_x_x M124_ o126_ i3z121_ 10 n1 h3z121_ (zr_wide (show 10 ≤ Int32.toInt 10 ∧ Int32.toInt 10 ≤ 10 from (by decide)) (by decide) (by decide)) d) (fun x128_ b130_ => ?_)
            exact pw_ret hT rfl (r := some (pvJ x128_)) (M' := M124_) ⟨rfl, rfl⟩ ⟨⟨_, rfl⟩, o126_, f127_, (pvu_s e125_)⟩
          · have b133_ : 0 ≤ Int32.toInt i4z121_ ∧ Int32.toInt i4z121_ ≤ 9 := zr_nle_r 9 c122_ h4z121_ (show 10 ≤ Int32.toInt 10 ∧ Int32.toInt 10 ≤ 10 from (by decide)) (by decide)
            obtain ⟨q135_, b134_⟩ : (Int32.toInt ((M.1 124 3) + i4z121_) = Int32.toInt (M.1 124 3) + Int32.toInt i4z121_) ∧ (0 ≤ Int32.toInt ((M.1 124 3) + i4z121_) ∧ Int32.toInt ((M.1 124 3) + i4z121_) ≤ 117) := zadd_r (M.1 124 3) i4z121_ 0 117 b15_ b133_ (by decide) (by decide) (by decide) (by decide)
            refine pw_blkw hT 5 (pc := 39) (lo := [some (pvR 124), some (pvI n1), some (pvI (M.1 124 3)), some (pvI i3z121_), some (pvI i4z121_)]) (st := []) (M := pvu Mz121_ 124 3 ((M.1 124 3) + i4z121_)) rfl ⟨trivial, trivial, trivial, trivial, rfl, trivial⟩ (fun M136_ e137_ => ?_)
            have o138_ : pvOk M136_ := pvok_u2 e137_ oz121_ rfl (by have u0 := b134_; omega)
            have f139_ : pvFr fp_X10_mean_124_x M M136_ := pvfr_u e137_ fz121_ rfl
            refine pw_blk hT 3 (S' := (42, [some (pvR 124), some (pvI n1), some (pvI (M.1 124 3)), some (pvI i3z121_), some (pvI i4z121_)], [pvI 0, pvR 124, pvI i3z121_], M136_)) rfl ⟨trivial, trivial, trivial, trivial⟩ ?_
            refine pw_callG hT (as := [pvR 124, pvI 0]) (lo1 := [some (pvR 124), some (pvI 0)]) (d1 := d) (rest := [pvI i3z121_]) rfl rfl rfl rfl rfl (fun _ => rfl) (Nat.zero_le _) rfl rfl rfl (sf_X10_costOfRound_124_x M136_ o138_ 0 (zr_wide (show 0 ≤ Int32.toInt 0 ∧ Int32.toInt 0 ≤ 0 from (by decide)) (by decide) (by decide)) d) (fun x140_ M141_ b142_ o143_ g144_ => ?_)
            have f145_ : pvFr fp_X10_mean_124_x M M141_ := pvfr_t g144_ f139_ fp_X10_mean_124_x_fp_X10_costOfRound_124_x
            obtain ⟨q147_, b146_⟩ : (Int32.toInt (i3z121_ + x140_) = Int32.toInt i3z121_ + Int32.toInt x140_) ∧ (0 ≤ Int32.toInt (i3z121_ + x140_) ∧ Int32.toInt (i3z121_ + x140_) ≤ 99000000) := zadd_r i3z121_ x140_ 0 99000000 h3z121_ b142_ (by decide) (by decide) (by decide) (by decide)
            obtain ⟨q149_, b148_⟩ : (Int32.toInt (i4z121_ + 1) = Int32.toInt i4z121_ + Int32.toInt 1) ∧ (1 ≤ Int32.toInt (i4z121_ + 1) ∧ Int32.toInt (i4z121_ + 1) ≤ 10) := zadd_r i4z121_ 1 1 10 b133_ (show 1 ≤ Int32.toInt 1 ∧ Int32.toInt 1 ≤ 1 from (by decide)) (by decide) (by decide) (by decide) (by decide)
            have u150_ : Int32.toInt 1 = 1 := by decide
            refine pw_blk hT 4 (S' := (24, [some (pvR 124), some (pvI n1), some (pvI (M.1 124 3)), some (pvI (i3z121_ + x140_)), some (pvI (i4z121_ + 1))], [], M141_)) rfl ⟨trivial, trivial, trivial, trivial, trivial⟩ ?_
            have j151_ : Int32.toInt (i3z121_ + x140_) ≤ 9000000 * Int32.toInt (i4z121_ + 1) := by omega
            exact ihz121_ (i3z121_ + x140_) (i4z121_ + 1) M141_ o143_ f145_ (by have u0 := b146_; omega) (zr_wide b148_ (by decide) (by decide)) j151_ (by omega)
      have u152_ : Int32.toInt 0 = 0 := by decide
      have j153_ : Int32.toInt 0 ≤ 9000000 * Int32.toInt 0 := by omega
      exact hlz121_ _ 0 0 M hok pvfr_0 (zr_wide (show 0 ≤ Int32.toInt 0 ∧ Int32.toInt 0 ≤ 0 from (by decide)) (by decide) (by decide)) (zr_wide (show 0 ≤ Int32.toInt 0 ∧ Int32.toInt 0 ≤ 0 from (by decide)) (by decide) (by decide)) j153_ (Nat.lt_succ_self _)
