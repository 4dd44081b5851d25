set_option maxHeartbeats 4000000 in
set_option maxRecDepth 10000 in
theorem sf_X10_peek_124 (M : pvM) (hok : pvOk M) (d : Nat) : PW 64 d (0, [some (pvR 124)], [], M) (fun r X => r = some (pvI ((if (M.1 124 16) ≤ (M.1 124 17) then (-1) else (M.1 132 (Int32.toNatClampNeg (M.1 124 17)))))) ∧ X = M) := by
  have hT : pvdom 64 = pvD_64 := rfl
  have b1_ : 0 ≤ Int32.toInt (M.1 124 17) ∧ Int32.toInt (M.1 124 17) ≤ 100 := pvok_r hok 124 17 rfl
  have b2_ : 0 ≤ Int32.toInt (M.1 124 16) ∧ Int32.toInt (M.1 124 16) ≤ 100 := pvok_r hok 124 16 rfl
  refine pw_blk hT 4 (S' := (8, [some (pvR 124)], [pvI (M.1 124 16), pvI (M.1 124 17)], M)) rfl ⟨trivial, rfl, trivial, rfl, trivial⟩ ?_
  refine pw_ic hT (c := (M.1 124 16) ≤ (M.1 124 17)) rfl rfl (fun c3_ => ?_) (fun c3_ => ?_)
  · have d4_ : Int32.toInt (M.1 124 16) ≤ Int32.toInt (M.1 124 17) := (zi_le _ _).mp c3_
    refine pw_blk hT 1 (S' := (24, [some (pvR 124)], [pvI (-1)], M)) rfl ⟨trivial, trivial⟩ ?_
    exact pw_ret hT rfl (r := some (pvI (-1))) (M' := M) ⟨rfl, rfl⟩ ⟨(by rw [if_pos c3_]), rfl⟩
  · have b5_ : 1 ≤ Int32.toInt (M.1 124 16) ∧ Int32.toInt (M.1 124 16) ≤ 100 := zr_nle_l 1 c3_ b2_ b1_ (by decide)
    have b6_ : 0 ≤ Int32.toInt (M.1 124 17) ∧ Int32.toInt (M.1 124 17) ≤ 99 := zr_nle_r 99 c3_ b1_ b5_ (by decide)
    have d7_ : Int32.toInt (M.1 124 16) > Int32.toInt (M.1 124 17) := Int.not_le.mp ((not_congr (zi_le _ _)).mp c3_)
    have b8_ : 0 ≤ Int32.toInt (M.1 132 (Int32.toNatClampNeg (M.1 124 17))) ∧ Int32.toInt (M.1 132 (Int32.toNatClampNeg (M.1 124 17))) ≤ 127 := pvok_r hok 132 (Int32.toNatClampNeg (M.1 124 17)) rfl
    refine pw_blk hT 6 (S' := (24, [some (pvR 124)], [pvI (M.1 132 (Int32.toNatClampNeg (M.1 124 17)))], M)) rfl ⟨trivial, rfl, trivial, rfl, ⟨rfl, (zr_in (n := 100) b6_ (by decide) (by decide))⟩, trivial, trivial⟩ ?_
    exact pw_ret hT rfl (r := some (pvI (M.1 132 (Int32.toNatClampNeg (M.1 124 17))))) (M' := M) ⟨rfl, rfl⟩ ⟨(by rw [if_neg c3_]), rfl⟩
set_option maxHeartbeats 4000000 in
set_option maxRecDepth 10000 in
theorem sf_X10_isDigit_124 (M : pvM) (hok : pvOk M) (d : Nat) : PW 37 d (0, [some (pvR 124)], [], M) (fun r X => r = some (pvI ((if (M.1 124 16) ≤ (M.1 124 17) then 0 else (if (M.1 132 (Int32.toNatClampNeg (M.1 124 17))) < 48 then 0 else (if 57 < (M.1 132 (Int32.toNatClampNeg (M.1 124 17))) then 0 else 1))))) ∧ X = M) := by
  have hT : pvdom 37 = pvD_37 := rfl
  refine pw_blk hT 2 (S' := (2, [some (pvR 124)], [pvR 124, pvR 124], M)) rfl ⟨trivial, trivial, trivial⟩ ?_
  refine pw_callT hT (as := [pvR 124]) (lo1 := [some (pvR 124)]) (d1 := d) (rest := [pvR 124]) rfl rfl rfl rfl rfl (fun _ => rfl) (Nat.zero_le _) rfl rfl rfl (sf_X10_peek_124 M hok d) ?_
  have b6_ : 0 ≤ Int32.toInt (M.1 124 16) ∧ Int32.toInt (M.1 124 16) ≤ 100 := pvok_r hok 124 16 rfl
  have b7_ : 0 ≤ Int32.toInt (M.1 124 17) ∧ Int32.toInt (M.1 124 17) ≤ 100 := pvok_r hok 124 17 rfl
  by_cases c8_ : (M.1 124 16) ≤ (M.1 124 17)
  · refine pw_eqI (if_pos c8_) ?_
    have d9_ : Int32.toInt (M.1 124 16) ≤ Int32.toInt (M.1 124 17) := (zi_le _ _).mp c8_
    show PW 37 d (5, [some (pvR 124)], [pvI (-1), pvR 124], M) _
    refine pw_blk hT 2 (S' := (9, [some (pvR 124)], [pvI 57, pvI 48, pvI (-1), pvR 124], M)) rfl ⟨trivial, trivial, trivial⟩ ?_
    refine pw_callT hT (as := [pvR 124, pvI (-1), pvI 48, pvI 57]) (lo1 := [some (pvR 124), some (pvI (-1)), some (pvI 48), some (pvI 57)]) (d1 := d) (rest := []) rfl rfl rfl rfl rfl (fun _ => rfl) (Nat.zero_le _) rfl rfl rfl (sf_X10_in_124_x_x_x M hok (-1) 48 57 d) ?_
    refine pw_eqI (if_pos (by decide)) ?_
    show PW 37 d (12, [some (pvR 124)], [pvI 0], M) _
    exact pw_ret hT rfl (r := some (pvI 0)) (M' := M) ⟨Or.inl rfl, rfl, rfl⟩ ⟨(by rw [if_pos c8_]), rfl⟩
  · refine pw_eqI (if_neg c8_) ?_
    have b15_ : 1 ≤ Int32.toInt (M.1 124 16) ∧ Int32.toInt (M.1 124 16) ≤ 100 := zr_nle_l 1 c8_ b6_ b7_ (by decide)
    have b16_ : 0 ≤ Int32.toInt (M.1 124 17) ∧ Int32.toInt (M.1 124 17) ≤ 99 := zr_nle_r 99 c8_ b7_ b15_ (by decide)
    have d17_ : Int32.toInt (M.1 124 16) > Int32.toInt (M.1 124 17) := Int.not_le.mp ((not_congr (zi_le _ _)).mp c8_)
    have b18_ : 0 ≤ Int32.toInt (M.1 132 (Int32.toNatClampNeg (M.1 124 17))) ∧ Int32.toInt (M.1 132 (Int32.toNatClampNeg (M.1 124 17))) ≤ 127 := pvok_r hok 132 (Int32.toNatClampNeg (M.1 124 17)) rfl
    show PW 37 d (5, [some (pvR 124)], [pvI (M.1 132 (Int32.toNatClampNeg (M.1 124 17))), pvR 124], M) _
    refine pw_blk hT 2 (S' := (9, [some (pvR 124)], [pvI 57, pvI 48, pvI (M.1 132 (Int32.toNatClampNeg (M.1 124 17))), pvR 124], M)) rfl ⟨trivial, trivial, trivial⟩ ?_
    refine pw_callT hT (as := [pvR 124, pvI (M.1 132 (Int32.toNatClampNeg (M.1 124 17))), pvI 48, pvI 57]) (lo1 := [some (pvR 124), some (pvI (M.1 132 (Int32.toNatClampNeg (M.1 124 17)))), some (pvI 48), some (pvI 57)]) (d1 := d) (rest := []) rfl rfl rfl rfl rfl (fun _ => rfl) (Nat.zero_le _) rfl rfl rfl (sf_X10_in_124_x_x_x M hok (M.1 132 (Int32.toNatClampNeg (M.1 124 17))) 48 57 d) ?_
    by_cases c24_ : (M.1 132 (Int32.toNatClampNeg (M.1 124 17))) < 48
    · refine pw_eqI (if_pos c24_) ?_
      have b25_ : 0 ≤ Int32.toInt (M.1 132 (Int32.toNatClampNeg (M.1 124 17))) ∧ Int32.toInt (M.1 132 (Int32.toNatClampNeg (M.1 124 17))) ≤ 47 := zr_lt_l 47 c24_ b18_ (show 48 ≤ Int32.toInt 48 ∧ Int32.toInt 48 ≤ 48 from (by decide)) (by decide)
      show PW 37 d (12, [some (pvR 124)], [pvI 0], M) _
      exact pw_ret hT rfl (r := some (pvI 0)) (M' := M) ⟨Or.inl rfl, rfl, rfl⟩ ⟨(by rw [if_neg c8_, if_pos c24_]), rfl⟩
    · refine pw_eqI (if_neg c24_) ?_
      have b26_ : 48 ≤ Int32.toInt (M.1 132 (Int32.toNatClampNeg (M.1 124 17))) ∧ Int32.toInt (M.1 132 (Int32.toNatClampNeg (M.1 124 17))) ≤ 127 := zr_nlt_l 48 c24_ b18_ (show 48 ≤ Int32.toInt 48 ∧ Int32.toInt 48 ≤ 48 from (by decide)) (by decide)
      by_cases c27_ : 57 < (M.1 132 (Int32.toNatClampNeg (M.1 124 17)))
      · refine pw_eqI (if_pos c27_) ?_
        have b28_ : 58 ≤ Int32.toInt (M.1 132 (Int32.toNatClampNeg (M.1 124 17))) ∧ Int32.toInt (M.1 132 (Int32.toNatClampNeg (M.1 124 17))) ≤ 127 := zr_lt_r 58 c27_ b26_ (show 57 ≤ Int32.toInt 57 ∧ Int32.toInt 57 ≤ 57 from (by decide)) (by decide)
        show PW 37 d (12, [some (pvR 124)], [pvI 0], M) _
        exact pw_ret hT rfl (r := some (pvI 0)) (M' := M) ⟨Or.inl rfl, rfl, rfl⟩ ⟨(by rw [if_neg c8_, if_neg c24_, if_pos c27_]), rfl⟩
      · refine pw_eqI (if_neg c27_) ?_
        have b29_ : 48 ≤ Int32.toInt (M.1 132 (Int32.toNatClampNeg (M.1 124 17))) ∧ Int32.toInt (M.1 132 (Int32.toNatClampNeg (M.1 124 17))) ≤ 57 := zr_nlt_r 57 c27_ b26_ (show 57 ≤ Int32.toInt 57 ∧ Int32.toInt 57 ≤ 57 from (by decide)) (by decide)
        show PW 37 d (12, [some (pvR 124)], [pvI 1], M) _
        exact pw_ret hT rfl (r := some (pvI 1)) (M' := M) ⟨Or.inr rfl, rfl, rfl⟩ ⟨(by rw [if_neg c8_, if_neg c24_, if_neg c27_]), rfl⟩
set_option maxHeartbeats 4000000 in
set_option maxRecDepth 10000 in
theorem sf_X10_isLimit_124_x (M : pvM) (hok : pvOk M) (n1 : Int32) (d : Nat) : PW 38 d (0, [some (pvR 124), some (pvI n1)], [], M) (fun r X => r = some (pvI ((if n1 < 0 then 0 else (if 99999 < n1 then 0 else 1)))) ∧ X = M) := by
  have hT : pvdom 38 = pvD_38 := rfl
  refine pw_blk hT 4 (S' := (6, [some (pvR 124), some (pvI n1)], [pvI 99999, pvI 0, pvI n1, pvR 124], M)) rfl ⟨trivial, trivial, trivial, trivial, trivial⟩ ?_
  refine pw_callT hT (as := [pvR 124, pvI n1, pvI 0, pvI 99999]) (lo1 := [some (pvR 124), some (pvI n1), some (pvI 0), some (pvI 99999)]) (d1 := d) (rest := []) rfl rfl rfl rfl rfl (fun _ => rfl) (Nat.zero_le _) rfl rfl rfl (sf_X10_in_124_x_x_x M hok n1 0 99999 d) ?_
  by_cases c6_ : n1 < 0
  · refine pw_eqI (if_pos c6_) ?_
    have b7_ : (-2147483648) ≤ Int32.toInt n1 ∧ Int32.toInt n1 ≤ (-1) := zr_lt_l (-1) c6_ (zbnd n1) (show 0 ≤ Int32.toInt 0 ∧ Int32.toInt 0 ≤ 0 from (by decide)) (by decide)
    show PW 38 d (9, [some (pvR 124), some (pvI n1)], [pvI 0], M) _
    exact pw_ret hT rfl (r := some (pvI 0)) (M' := M) ⟨Or.inl rfl, rfl, rfl⟩ ⟨(by rw [if_pos c6_]), rfl⟩
  · refine pw_eqI (if_neg c6_) ?_
    have b8_ : 0 ≤ Int32.toInt n1 ∧ Int32.toInt n1 ≤ 2147483647 := zr_nlt_l 0 c6_ (zbnd n1) (show 0 ≤ Int32.toInt 0 ∧ Int32.toInt 0 ≤ 0 from (by decide)) (by decide)
    by_cases c9_ : 99999 < n1
    · refine pw_eqI (if_pos c9_) ?_
      have b10_ : 100000 ≤ Int32.toInt n1 ∧ Int32.toInt n1 ≤ 2147483647 := zr_lt_r 100000 c9_ b8_ (show 99999 ≤ Int32.toInt 99999 ∧ Int32.toInt 99999 ≤ 99999 from (by decide)) (by decide)
      show PW 38 d (9, [some (pvR 124), some (pvI n1)], [pvI 0], M) _
      exact pw_ret hT rfl (r := some (pvI 0)) (M' := M) ⟨Or.inl rfl, rfl, rfl⟩ ⟨(by rw [if_neg c6_, if_pos c9_]), rfl⟩
    · refine pw_eqI (if_neg c9_) ?_
      have b11_ : 0 ≤ Int32.toInt n1 ∧ Int32.toInt n1 ≤ 99999 := zr_nlt_r 99999 c9_ b8_ (show 99999 ≤ Int32.toInt 99999 ∧ Int32.toInt 99999 ≤ 99999 from (by decide)) (by decide)
      show PW 38 d (9, [some (pvR 124), some (pvI n1)], [pvI 1], M) _
      exact pw_ret hT rfl (r := some (pvI 1)) (M' := M) ⟨Or.inr rfl, rfl, rfl⟩ ⟨(by rw [if_neg c6_, if_neg c9_]), rfl⟩
set_option maxHeartbeats 4000000 in
set_option maxRecDepth 10000 in
theorem sf_X10_isPlace_124_x_x (M : pvM) (hok : pvOk M) (n1 : Int32) (n2 : Int32) (d : Nat) : PW 40 d (0, [some (pvR 124), some (pvI n1), some (pvI n2)], [], M) (fun r X => r = some (pvI ((if n1 < 0 then 0 else (if 3 < n1 then 0 else (if n2 < 0 then 0 else (if 4 < n2 then 0 else 1)))))) ∧ X = M) := by
  have hT : pvdom 40 = pvD_40 := rfl
  refine pw_blk hT 4 (S' := (4, [some (pvR 124), some (pvI n1), some (pvI n2)], [pvI 3, pvI 0, pvI n1, pvR 124], M)) rfl ⟨trivial, trivial, trivial, trivial, trivial⟩ ?_
  refine pw_callT hT (as := [pvR 124, pvI n1, pvI 0, pvI 3]) (lo1 := [some (pvR 124), some (pvI n1), some (pvI 0), some (pvI 3)]) (d1 := d) (rest := []) rfl rfl rfl rfl rfl (fun _ => rfl) (Nat.zero_le _) rfl rfl rfl (sf_X10_in_124_x_x_x M hok n1 0 3 d) ?_
  by_cases c6_ : n1 < 0
  · refine pw_eqI (if_pos c6_) ?_
    have b7_ : (-2147483648) ≤ Int32.toInt n1 ∧ Int32.toInt n1 ≤ (-1) := zr_lt_l (-1) c6_ (zbnd n1) (show 0 ≤ Int32.toInt 0 ∧ Int32.toInt 0 ≤ 0 from (by decide)) (by decide)
    show PW 40 d (7, [some (pvR 124), some (pvI n1), some (pvI n2)], [pvI 0], M) _
    refine pw_if hT (c := 0 = 0) rfl rfl (fun c8_ => ?_) (fun c8_ => absurd (by decide) c8_)
    refine pw_blk hT 1 (S' := (25, [some (pvR 124), some (pvI n1), some (pvI n2)], [pvI 0], M)) rfl ⟨trivial, trivial⟩ ?_
    exact pw_ret hT rfl (r := some (pvI 0)) (M' := M) ⟨Or.inl rfl, rfl, rfl⟩ ⟨(by rw [if_pos c6_]), rfl⟩
  · refine pw_eqI (if_neg c6_) ?_
    have b9_ : 0 ≤ Int32.toInt n1 ∧ Int32.toInt n1 ≤ 2147483647 := zr_nlt_l 0 c6_ (zbnd n1) (show 0 ≤ Int32.toInt 0 ∧ Int32.toInt 0 ≤ 0 from (by decide)) (by decide)
    by_cases c10_ : 3 < n1
    · refine pw_eqI (if_pos c10_) ?_
      have b11_ : 4 ≤ Int32.toInt n1 ∧ Int32.toInt n1 ≤ 2147483647 := zr_lt_r 4 c10_ b9_ (show 3 ≤ Int32.toInt 3 ∧ Int32.toInt 3 ≤ 3 from (by decide)) (by decide)
      show PW 40 d (7, [some (pvR 124), some (pvI n1), some (pvI n2)], [pvI 0], M) _
      refine pw_if hT (c := 0 = 0) rfl rfl (fun c12_ => ?_) (fun c12_ => absurd (by decide) c12_)
      refine pw_blk hT 1 (S' := (25, [some (pvR 124), some (pvI n1), some (pvI n2)], [pvI 0], M)) rfl ⟨trivial, trivial⟩ ?_
      exact pw_ret hT rfl (r := some (pvI 0)) (M' := M) ⟨Or.inl rfl, rfl, rfl⟩ ⟨(by rw [if_neg c6_, if_pos c10_]), rfl⟩
    · refine pw_eqI (if_neg c10_) ?_
      have b13_ : 0 ≤ Int32.toInt n1 ∧ Int32.toInt n1 ≤ 3 := zr_nlt_r 3 c10_ b9_ (show 3 ≤ Int32.toInt 3 ∧ Int32.toInt 3 ≤ 3 from (by decide)) (by decide)
      show PW 40 d (7, [some (pvR 124), some (pvI n1), some (pvI n2)], [pvI 1], M) _
      refine pw_if hT (c := 1 = 0) rfl rfl (fun c14_ => absurd c14_ (by decide)) (fun c14_ => ?_)
      refine pw_blk hT 4 (S' := (14, [some (pvR 124), some (pvI n1), some (pvI n2)], [pvI 4, pvI 0, pvI n2, pvR 124], M)) rfl ⟨trivial, trivial, trivial, trivial, trivial⟩ ?_
      refine pw_callT hT (as := [pvR 124, pvI n2, pvI 0, pvI 4]) (lo1 := [some (pvR 124), some (pvI n2), some (pvI 0), some (pvI 4)]) (d1 := d) (rest := []) rfl rfl rfl rfl rfl (fun _ => rfl) (Nat.zero_le _) rfl rfl rfl (sf_X10_in_124_x_x_x M hok n2 0 4 d) ?_
      by_cases c20_ : n2 < 0
      · refine pw_eqI (if_pos c20_) ?_
        have b21_ : (-2147483648) ≤ Int32.toInt n2 ∧ Int32.toInt n2 ≤ (-1) := zr_lt_l (-1) c20_ (zbnd n2) (show 0 ≤ Int32.toInt 0 ∧ Int32.toInt 0 ≤ 0 from (by decide)) (by decide)
        show PW 40 d (17, [some (pvR 124), some (pvI n1), some (pvI n2)], [pvI 0], M) _
        refine pw_if hT (c := 0 = 0) rfl rfl (fun c22_ => ?_) (fun c22_ => absurd (by decide) c22_)
        refine pw_blk hT 1 (S' := (25, [some (pvR 124), some (pvI n1), some (pvI n2)], [pvI 0], M)) rfl ⟨trivial, trivial⟩ ?_
        exact pw_ret hT rfl (r := some (pvI 0)) (M' := M) ⟨Or.inl rfl, rfl, rfl⟩ ⟨(by rw [if_neg c6_, if_neg c10_, if_pos c20_]), rfl⟩
      · refine pw_eqI (if_neg c20_) ?_
        have b23_ : 0 ≤ Int32.toInt n2 ∧ Int32.toInt n2 ≤ 2147483647 := zr_nlt_l 0 c20_ (zbnd n2) (show 0 ≤ Int32.toInt 0 ∧ Int32.toInt 0 ≤ 0 from (by decide)) (by decide)
        by_cases c24_ : 4 < n2
        · refine pw_eqI (if_pos c24_) ?_
          have b25_ : 5 ≤ Int32.toInt n2 ∧ Int32.toInt n2 ≤ 2147483647 := zr_lt_r 5 c24_ b23_ (show 4 ≤ Int32.toInt 4 ∧ Int32.toInt 4 ≤ 4 from (by decide)) (by decide)
          show PW 40 d (17, [some (pvR 124), some (pvI n1), some (pvI n2)], [pvI 0], M) _
          refine pw_if hT (c := 0 = 0) rfl rfl (fun c26_ => ?_) (fun c26_ => absurd (by decide) c26_)
          refine pw_blk hT 1 (S' := (25, [some (pvR 124), some (pvI n1), some (pvI n2)], [pvI 0], M)) rfl ⟨trivial, trivial⟩ ?_
          exact pw_ret hT rfl (r := some (pvI 0)) (M' := M) ⟨Or.inl rfl, rfl, rfl⟩ ⟨(by rw [if_neg c6_, if_neg c10_, if_neg c20_, if_pos c24_]), rfl⟩
        · refine pw_eqI (if_neg c24_) ?_
          have b27_ : 0 ≤ Int32.toInt n2 ∧ Int32.toInt n2 ≤ 4 := zr_nlt_r 4 c24_ b23_ (show 4 ≤ Int32.toInt 4 ∧ Int32.toInt 4 ≤ 4 from (by decide)) (by decide)
          show PW 40 d (17, [some (pvR 124), some (pvI n1), some (pvI n2)], [pvI 1], M) _
          refine pw_if hT (c := 1 = 0) rfl rfl (fun c28_ => absurd c28_ (by decide)) (fun c28_ => ?_)
          refine pw_blk hT 2 (S' := (25, [some (pvR 124), some (pvI n1), some (pvI n2)], [pvI 1], M)) rfl ⟨trivial, trivial, trivial⟩ ?_
          exact pw_ret hT rfl (r := some (pvI 1)) (M' := M) ⟨Or.inr rfl, rfl, rfl⟩ ⟨(by rw [if_neg c6_, if_neg c10_, if_neg c20_, if_neg c24_]), rfl⟩
set_option maxHeartbeats 4000000 in
set_option maxRecDepth 10000 in
theorem sf_X10_isTape_124_x (M : pvM) (hok : pvOk M) (n1 : Int32) (d : Nat) : PW 41 d (0, [some (pvR 124), some (pvI n1)], [], M) (fun r X => r = some (pvI ((if n1 < 0 then 0 else (if 5 < n1 then 0 else 1)))) ∧ X = M) := by
  have hT : pvdom 41 = pvD_41 := rfl
  refine pw_blk hT 4 (S' := (4, [some (pvR 124), some (pvI n1)], [pvI 5, pvI 0, pvI n1, pvR 124], M)) rfl ⟨trivial, trivial, trivial, trivial, trivial⟩ ?_
  refine pw_callT hT (as := [pvR 124, pvI n1, pvI 0, pvI 5]) (lo1 := [some (pvR 124), some (pvI n1), some (pvI 0), some (pvI 5)]) (d1 := d) (rest := []) rfl rfl rfl rfl rfl (fun _ => rfl) (Nat.zero_le _) rfl rfl rfl (sf_X10_in_124_x_x_x M hok n1 0 5 d) ?_
  by_cases c6_ : n1 < 0
  · refine pw_eqI (if_pos c6_) ?_
    have b7_ : (-2147483648) ≤ Int32.toInt n1 ∧ Int32.toInt n1 ≤ (-1) := zr_lt_l (-1) c6_ (zbnd n1) (show 0 ≤ Int32.toInt 0 ∧ Int32.toInt 0 ≤ 0 from (by decide)) (by decide)
    show PW 41 d (7, [some (pvR 124), some (pvI n1)], [pvI 0], M) _
    exact pw_ret hT rfl (r := some (pvI 0)) (M' := M) ⟨Or.inl rfl, rfl, rfl⟩ ⟨(by rw [if_pos c6_]), rfl⟩
  · refine pw_eqI (if_neg c6_) ?_
    have b8_ : 0 ≤ Int32.toInt n1 ∧ Int32.toInt n1 ≤ 2147483647 := zr_nlt_l 0 c6_ (zbnd n1) (show 0 ≤ Int32.toInt 0 ∧ Int32.toInt 0 ≤ 0 from (by decide)) (by decide)
    by_cases c9_ : 5 < n1
    · refine pw_eqI (if_pos c9_) ?_
      have b10_ : 6 ≤ Int32.toInt n1 ∧ Int32.toInt n1 ≤ 2147483647 := zr_lt_r 6 c9_ b8_ (show 5 ≤ Int32.toInt 5 ∧ Int32.toInt 5 ≤ 5 from (by decide)) (by decide)
      show PW 41 d (7, [some (pvR 124), some (pvI n1)], [pvI 0], M) _
      exact pw_ret hT rfl (r := some (pvI 0)) (M' := M) ⟨Or.inl rfl, rfl, rfl⟩ ⟨(by rw [if_neg c6_, if_pos c9_]), rfl⟩
    · refine pw_eqI (if_neg c9_) ?_
      have b11_ : 0 ≤ Int32.toInt n1 ∧ Int32.toInt n1 ≤ 5 := zr_nlt_r 5 c9_ b8_ (show 5 ≤ Int32.toInt 5 ∧ Int32.toInt 5 ≤ 5 from (by decide)) (by decide)
      show PW 41 d (7, [some (pvR 124), some (pvI n1)], [pvI 1], M) _
      exact pw_ret hT rfl (r := some (pvI 1)) (M' := M) ⟨Or.inr rfl, rfl, rfl⟩ ⟨(by rw [if_neg c6_, if_neg c9_]), rfl⟩
set_option maxHeartbeats 4000000 in
set_option maxRecDepth 10000 in
theorem sf_X10_narrow_124_x_x (M : pvM) (hok : pvOk M) (n1 : Int32) (n2 : Int64) (d : Nat) : PW 56 d (0, [some (pvR 124), some (pvI n1), some (pvJ n2), none], [], M) (fun r X => (∃ x : Int64, r = some (pvJ x)) ∧ X = M) := by
  have hT : pvdom 56 = pvD_56 := rfl
  refine pw_blk hT 1 (S' := (1, [some (pvR 124), some (pvI n1), some (pvJ n2), none], [pvI n1], M)) rfl ⟨trivial, trivial⟩ ?_
  refine pw_ifn hT (c := n1 = 0) rfl rfl (fun c1_ => ?_) (fun c1_ => ?_)
  · refine pw_blk hT 2 (S' := (13, [some (pvR 124), some (pvI n1), some (pvJ n2), none], [pvI 1, pvI n1], M)) rfl ⟨trivial, trivial, trivial⟩ ?_
    refine pw_icn hT (c := n1 = 1) rfl rfl (fun c2_ => ?_) (fun c2_ => ?_)
    · refine pw_blk hT 2 (S' := (25, [some (pvR 124), some (pvI n1), some (pvJ n2), none], [pvI 2, pvI n1], M)) rfl ⟨trivial, trivial, trivial⟩ ?_
      refine pw_icn hT (c := n1 = 2) rfl rfl (fun c3_ => ?_) (fun c3_ => ?_)
      · refine pw_blk hT 2 (S' := (36, [some (pvR 124), some (pvI n1), some (pvJ n2), none], [pvI 4, pvI n1], M)) rfl ⟨trivial, trivial, trivial⟩ ?_
        refine pw_icn hT (c := n1 = 4) rfl rfl (fun c4_ => ?_) (fun c4_ => ?_)
        · refine pw_blk hT 1 (S' := (54, [some (pvR 124), some (pvI n1), some (pvJ n2), none], [pvJ n2], M)) rfl ⟨trivial, trivial⟩ ?_
          exact pw_ret hT rfl (r := some (pvJ n2)) (M' := M) ⟨rfl, rfl⟩ ⟨⟨_, rfl⟩, rfl⟩
        · have b5_ : 4 ≤ Int32.toInt n1 ∧ Int32.toInt n1 ≤ 4 := (by have u0 := (zbnd n1); have u1 := (zi_eq _ _).mp c4_; have u2 := (show 4 ≤ Int32.toInt 4 ∧ Int32.toInt 4 ≤ 4 from (by decide)); omega)
          refine pw_blk hT 3 (S' := (42, [some (pvR 124), some (pvI n1), some (pvJ n2), none], [pvI (lg_cmp n2 0)], M)) rfl ⟨trivial, trivial, trivial, trivial⟩ ?_
          refine pw_if hT (c := (lg_cmp n2 0) = 0) rfl rfl (fun c6_ => ?_) (fun c6_ => ?_)
          · have b7_ : 0 ≤ Int32.toInt (lg_cmp n2 0) ∧ Int32.toInt (lg_cmp n2 0) ≤ 0 := (by have u0 := (zbnd (lg_cmp n2 0)); have u1 := (zi_eq _ _).mp c6_; have u2 := (show 0 ≤ Int32.toInt 0 ∧ Int32.toInt 0 ≤ 0 from (by decide)); omega)
            refine pw_blk hT 2 (S' := (54, [some (pvR 124), some (pvI n1), some (pvJ n2), none], [pvJ 0], M)) rfl ⟨trivial, trivial, trivial⟩ ?_
            exact pw_ret hT rfl (r := some (pvJ 0)) (M' := M) ⟨rfl, rfl⟩ ⟨⟨_, rfl⟩, rfl⟩
          · refine pw_blk hT 2 (S' := (54, [some (pvR 124), some (pvI n1), some (pvJ n2), none], [pvJ 1], M)) rfl ⟨trivial, trivial, trivial⟩ ?_
            exact pw_ret hT rfl (r := some (pvJ 1)) (M' := M) ⟨rfl, rfl⟩ ⟨⟨_, rfl⟩, rfl⟩
      · have b8_ : 2 ≤ Int32.toInt n1 ∧ Int32.toInt n1 ≤ 2 := (by have u0 := (zbnd n1); have u1 := (zi_eq _ _).mp c3_; have u2 := (show 2 ≤ Int32.toInt 2 ∧ Int32.toInt 2 ≤ 2 from (by decide)); omega)
        refine pw_blk hT 4 (S' := (54, [some (pvR 124), some (pvI n1), some (pvJ n2), none], [pvJ (Int32.toInt64 (Int64.toInt32 n2))], M)) rfl ⟨trivial, trivial, trivial, trivial, trivial⟩ ?_
        exact pw_ret hT rfl (r := some (pvJ (Int32.toInt64 (Int64.toInt32 n2)))) (M' := M) ⟨rfl, rfl⟩ ⟨⟨_, rfl⟩, rfl⟩
    · have b9_ : 1 ≤ Int32.toInt n1 ∧ Int32.toInt n1 ≤ 1 := (by have u0 := (zbnd n1); have u1 := (zi_eq _ _).mp c2_; have u2 := (show 1 ≤ Int32.toInt 1 ∧ Int32.toInt 1 ≤ 1 from (by decide)); omega)
      refine pw_blk hT 5 (S' := (54, [some (pvR 124), some (pvI n1), some (pvJ n2), none], [pvJ (Int32.toInt64 (Int16.toInt32 (Int32.toInt16 (Int64.toInt32 n2))))], M)) rfl ⟨trivial, trivial, trivial, trivial, trivial, trivial⟩ ?_
      exact pw_ret hT rfl (r := some (pvJ (Int32.toInt64 (Int16.toInt32 (Int32.toInt16 (Int64.toInt32 n2)))))) (M' := M) ⟨rfl, rfl⟩ ⟨⟨_, rfl⟩, rfl⟩
  · have b10_ : 0 ≤ Int32.toInt n1 ∧ Int32.toInt n1 ≤ 0 := (by have u0 := (zbnd n1); have u1 := (zi_eq _ _).mp c1_; have u2 := (show 0 ≤ Int32.toInt 0 ∧ Int32.toInt 0 ≤ 0 from (by decide)); omega)
    refine pw_blk hT 5 (S' := (54, [some (pvR 124), some (pvI n1), some (pvJ n2), none], [pvJ (Int32.toInt64 (Int8.toInt32 (Int32.toInt8 (Int64.toInt32 n2))))], M)) rfl ⟨trivial, trivial, trivial, trivial, trivial, trivial⟩ ?_
    exact pw_ret hT rfl (r := some (pvJ (Int32.toInt64 (Int8.toInt32 (Int32.toInt8 (Int64.toInt32 n2)))))) (M' := M) ⟨rfl, rfl⟩ ⟨⟨_, rfl⟩, rfl⟩
def fpL_X10_item_124_x_x_x : List (Nat × Nat × Nat) := []
def fp_X10_item_124_x_x_x (q k : Nat) : Bool := pvfp fpL_X10_item_124_x_x_x q k
set_option maxHeartbeats 4000000 in
set_option maxRecDepth 10000 in
theorem sf_X10_item_124_x_x_x (M : pvM) (hok : pvOk M) (n1 : Int32) (n2 : Int32) (n3 : Int64) (d : Nat) : PW 43 d (0, [some (pvR 124), some (pvI n1), some (pvI n2), some (pvJ n3), none], [], M) (fun r X => (∃ x : Int32, r = some (pvI x) ∧ (-13) ≤ Int32.toInt x ∧ Int32.toInt x ≤ 1) ∧ pvOk X ∧ pvFr fp_X10_item_124_x_x_x M X) := by
  have hT : pvdom 43 = pvD_43 := rfl
  refine pw_blk hT 2 (S' := (2, [some (pvR 124), some (pvI n1), some (pvI n2), some (pvJ n3), none], [pvI n1, pvR 124], M)) rfl ⟨trivial, trivial, trivial⟩ ?_
  refine pw_callT hT (as := [pvR 124, pvI n1]) (lo1 := [some (pvR 124), some (pvI n1)]) (d1 := d) (rest := []) rfl rfl rfl rfl rfl (fun _ => rfl) (Nat.zero_le _) rfl rfl rfl (sf_X10_isTape_124_x M hok n1 d) ?_
  by_cases c6_ : n1 < 0
  · refine pw_eqI (if_pos c6_) ?_
    have b7_ : (-2147483648) ≤ Int32.toInt n1 ∧ Int32.toInt n1 ≤ (-1) := zr_lt_l (-1) c6_ (zbnd n1) (show 0 ≤ Int32.toInt 0 ∧ Int32.toInt 0 ≤ 0 from (by decide)) (by decide)
    show PW 43 d (5, [some (pvR 124), some (pvI n1), some (pvI n2), some (pvJ n3), none], [pvI 0], M) _
    refine pw_ifn hT (c := 0 = 0) rfl rfl (fun c8_ => absurd (by decide) c8_) (fun c8_ => ?_)
    refine pw_blk hT 1 (S' := (9, [some (pvR 124), some (pvI n1), some (pvI n2), some (pvJ n3), none], [pvI (-1)], M)) rfl ⟨trivial, trivial⟩ ?_
    exact pw_ret hT rfl (r := some (pvI (-1))) (M' := M) ⟨rfl, rfl⟩ ⟨⟨_, rfl, (zr_wide (show (-1) ≤ Int32.toInt (-1) ∧ Int32.toInt (-1) ≤ (-1) from (by decide)) (by decide) (by decide))⟩, hok, pvfr_0⟩
  · refine pw_eqI (if_neg c6_) ?_
    have b9_ : 0 ≤ Int32.toInt n1 ∧ Int32.toInt n1 ≤ 2147483647 := zr_nlt_l 0 c6_ (zbnd n1) (show 0 ≤ Int32.toInt 0 ∧ Int32.toInt 0 ≤ 0 from (by decide)) (by decide)
    by_cases c10_ : 5 < n1
    · refine pw_eqI (if_pos c10_) ?_
      have b11_ : 6 ≤ Int32.toInt n1 ∧ Int32.toInt n1 ≤ 2147483647 := zr_lt_r 6 c10_ b9_ (show 5 ≤ Int32.toInt 5 ∧ Int32.toInt 5 ≤ 5 from (by decide)) (by decide)
      show PW 43 d (5, [some (pvR 124), some (pvI n1), some (pvI n2), some (pvJ n3), none], [pvI 0], M) _
      refine pw_ifn hT (c := 0 = 0) rfl rfl (fun c12_ => absurd (by decide) c12_) (fun c12_ => ?_)
      refine pw_blk hT 1 (S' := (9, [some (pvR 124), some (pvI n1), some (pvI n2), some (pvJ n3), none], [pvI (-1)], M)) rfl ⟨trivial, trivial⟩ ?_
      exact pw_ret hT rfl (r := some (pvI (-1))) (M' := M) ⟨rfl, rfl⟩ ⟨⟨_, rfl, (zr_wide (show (-1) ≤ Int32.toInt (-1) ∧ Int32.toInt (-1) ≤ (-1) from (by decide)) (by decide) (by decide))⟩, hok, pvfr_0⟩
    · refine pw_eqI (if_neg c10_) ?_
      have b13_ : 0 ≤ Int32.toInt n1 ∧ Int32.toInt n1 ≤ 5 := zr_nlt_r 5 c10_ b9_ (show 5 ≤ Int32.toInt 5 ∧ Int32.toInt 5 ≤ 5 from (by decide)) (by decide)
      show PW 43 d (5, [some (pvR 124), some (pvI n1), some (pvI n2), some (pvJ n3), none], [pvI 1], M) _
      refine pw_ifn hT (c := 1 = 0) rfl rfl (fun c14_ => ?_) (fun c14_ => absurd c14_ (by decide))
      have b15_ : (-1) ≤ Int32.toInt (M.1 164 (Int32.toNatClampNeg n1)) ∧ Int32.toInt (M.1 164 (Int32.toNatClampNeg n1)) ≤ 4 := pvok_r hok 164 (Int32.toNatClampNeg n1) rfl
      refine pw_blk hT 4 (S' := (16, [some (pvR 124), some (pvI n1), some (pvI n2), some (pvJ n3), none], [pvI (M.1 164 (Int32.toNatClampNeg n1))], M)) rfl ⟨trivial, rfl, trivial, ⟨rfl, (zr_in (n := 6) b13_ (by decide) (by decide))⟩, trivial⟩ ?_
      refine pw_if hT (c := 0 ≤ (M.1 164 (Int32.toNatClampNeg n1))) rfl rfl (fun c16_ => ?_) (fun c16_ => ?_)
      · have b17_ : 0 ≤ Int32.toInt (M.1 164 (Int32.toNatClampNeg n1)) ∧ Int32.toInt (M.1 164 (Int32.toNatClampNeg n1)) ≤ 4 := zr_le_r 0 c16_ b15_ (show 0 ≤ Int32.toInt 0 ∧ Int32.toInt 0 ≤ 0 from (by decide)) (by decide)
        have b18_ : 0 ≤ Int32.toInt (M.1 165 (Int32.toNatClampNeg n1)) ∧ Int32.toInt (M.1 165 (Int32.toNatClampNeg n1)) ≤ 60 := pvok_r hok 165 (Int32.toNatClampNeg n1) rfl
        obtain ⟨q20_, b19_⟩ : (Int32.toInt ((M.1 165 (Int32.toNatClampNeg n1)) - 1) = Int32.toInt (M.1 165 (Int32.toNatClampNeg n1)) - 1) ∧ ((-1) ≤ Int32.toInt ((M.1 165 (Int32.toNatClampNeg n1)) - 1) ∧ Int32.toInt ((M.1 165 (Int32.toNatClampNeg n1)) - 1) ≤ 59) := zsub_k (M.1 165 (Int32.toNatClampNeg n1)) 1 1 (-1) 59 b18_ (by decide) (by decide) (by decide) (by decide) (by decide)
        refine pw_blk hT 9 (S' := (33, [some (pvR 124), some (pvI n1), some (pvI n2), some (pvJ n3), none], [pvI ((M.1 165 (Int32.toNatClampNeg n1)) - 1), pvI 0, pvI n2, pvR 124], M)) rfl ⟨trivial, trivial, trivial, trivial, rfl, trivial, ⟨rfl, (zr_in (n := 6) b13_ (by decide) (by decide))⟩, trivial, trivial, trivial⟩ ?_
        refine pw_callT hT (as := [pvR 124, pvI n2, pvI 0, pvI ((M.1 165 (Int32.toNatClampNeg n1)) - 1)]) (lo1 := [some (pvR 124), some (pvI n2), some (pvI 0), some (pvI ((M.1 165 (Int32.toNatClampNeg n1)) - 1))]) (d1 := d) (rest := []) rfl rfl rfl rfl rfl (fun _ => rfl) (Nat.zero_le _) rfl rfl rfl (sf_X10_in_124_x_x_x M hok n2 0 ((M.1 165 (Int32.toNatClampNeg n1)) - 1) d) ?_
        by_cases c26_ : n2 < 0
        · refine pw_eqI (if_pos c26_) ?_
          have b27_ : (-2147483648) ≤ Int32.toInt n2 ∧ Int32.toInt n2 ≤ (-1) := zr_lt_l (-1) c26_ (zbnd n2) (show 0 ≤ Int32.toInt 0 ∧ Int32.toInt 0 ≤ 0 from (by decide)) (by decide)
          show PW 43 d (36, [some (pvR 124), some (pvI n1), some (pvI n2), some (pvJ n3), none], [pvI 0], M) _
          refine pw_ifn hT (c := 0 = 0) rfl rfl (fun c28_ => absurd (by decide) c28_) (fun c28_ => ?_)
          refine pw_blk hT 1 (S' := (41, [some (pvR 124), some (pvI n1), some (pvI n2), some (pvJ n3), none], [pvI (-13)], M)) rfl ⟨trivial, trivial⟩ ?_
          exact pw_ret hT rfl (r := some (pvI (-13))) (M' := M) ⟨rfl, rfl⟩ ⟨⟨_, rfl, (zr_wide (show (-13) ≤ Int32.toInt (-13) ∧ Int32.toInt (-13) ≤ (-13) from (by decide)) (by decide) (by decide))⟩, hok, pvfr_0⟩
        · refine pw_eqI (if_neg c26_) ?_
          have b29_ : 0 ≤ Int32.toInt n2 ∧ Int32.toInt n2 ≤ 2147483647 := zr_nlt_l 0 c26_ (zbnd n2) (show 0 ≤ Int32.toInt 0 ∧ Int32.toInt 0 ≤ 0 from (by decide)) (by decide)
          by_cases c30_ : ((M.1 165 (Int32.toNatClampNeg n1)) - 1) < n2
          · refine pw_eqI (if_pos c30_) ?_
            have d31_ : Int32.toInt ((M.1 165 (Int32.toNatClampNeg n1)) - 1) < Int32.toInt n2 := (zi_lt _ _).mp c30_
            show PW 43 d (36, [some (pvR 124), some (pvI n1), some (pvI n2), some (pvJ n3), none], [pvI 0], M) _
            refine pw_ifn hT (c := 0 = 0) rfl rfl (fun c32_ => absurd (by decide) c32_) (fun c32_ => ?_)
            refine pw_blk hT 1 (S' := (41, [some (pvR 124), some (pvI n1), some (pvI n2), some (pvJ n3), none], [pvI (-13)], M)) rfl ⟨trivial, trivial⟩ ?_
            exact pw_ret hT rfl (r := some (pvI (-13))) (M' := M) ⟨rfl, rfl⟩ ⟨⟨_, rfl, (zr_wide (show (-13) ≤ Int32.toInt (-13) ∧ Int32.toInt (-13) ≤ (-13) from (by decide)) (by decide) (by decide))⟩, hok, pvfr_0⟩
          · refine pw_eqI (if_neg c30_) ?_
            have b33_ : 0 ≤ Int32.toInt ((M.1 165 (Int32.toNatClampNeg n1)) - 1) ∧ Int32.toInt ((M.1 165 (Int32.toNatClampNeg n1)) - 1) ≤ 59 := zr_nlt_l 0 c30_ b19_ b29_ (by decide)
            have b34_ : 0 ≤ Int32.toInt n2 ∧ Int32.toInt n2 ≤ 59 := zr_nlt_r 59 c30_ b29_ b33_ (by decide)
            have d35_ : Int32.toInt ((M.1 165 (Int32.toNatClampNeg n1)) - 1) ≥ Int32.toInt n2 := Int.not_lt.mp ((not_congr (zi_lt _ _)).mp c30_)
            show PW 43 d (36, [some (pvR 124), some (pvI n1), some (pvI n2), some (pvJ n3), none], [pvI 1], M) _
            refine pw_ifn hT (c := 1 = 0) rfl rfl (fun c36_ => ?_) (fun c36_ => absurd c36_ (by decide))
            have q37_ : Int32.toInt (60 * n1) = 60 * Int32.toInt n1 := by have u0 : Int32.toInt 60 = 60 := (by decide); have u1 := b13_; have u2 := zmul 60 n1 (by rw [u0]; omega) (by rw [u0]; omega); rw [u0] at u2; omega
            have b38_ : 0 ≤ Int32.toInt (60 * n1) ∧ Int32.toInt (60 * n1) ≤ 300 := (by have u1 := b13_; omega)
            obtain ⟨q40_, b39_⟩ : (Int32.toInt ((60 * n1) + n2) = Int32.toInt (60 * n1) + Int32.toInt n2) ∧ (0 ≤ Int32.toInt ((60 * n1) + n2) ∧ Int32.toInt ((60 * n1) + n2) ≤ 359) := zadd_r (60 * n1) n2 0 359 b38_ b34_ (by decide) (by decide) (by decide) (by decide)
            refine pw_blk hT 13 (S' := (60, [some (pvR 124), some (pvI n1), some (pvI n2), some (pvJ n3), none], [pvJ n3, pvI (M.1 164 (Int32.toNatClampNeg n1)), pvR 124, pvI ((60 * n1) + n2), pvR 166], M)) rfl ⟨trivial, rfl, trivial, trivial, trivial, trivial, trivial, trivial, trivial, rfl, trivial, ⟨rfl, (zr_in (n := 6) b13_ (by decide) (by decide))⟩, trivial, trivial⟩ ?_
            refine pw_callJp hT (as := [pvR 124, pvI (M.1 164 (Int32.toNatClampNeg n1)), pvJ n3]) (lo1 := [some (pvR 124), some (pvI (M.1 164 (Int32.toNatClampNeg n1))), some (pvJ n3), none]) (d1 := d) (rest := [pvI ((60 * n1) + n2), pvR 166]) rfl rfl rfl rfl rfl (fun _ => rfl) (Nat.zero_le _) rfl rfl rfl (sf_X10_narrow_124_x_x M hok (M.1 164 (Int32.toNatClampNeg n1)) n3 d) (fun x41_ b43_ => ?_)
            refine pw_blkw hT 1 (pc := 64) (lo := [some (pvR 124), some (pvI n1), some (pvI n2), some (pvJ n3), none]) (st := []) (M := pvw M 166 (Int32.toNatClampNeg ((60 * n1) + n2)) x41_) rfl ⟨⟨rfl, (zr_in (n := 360) b39_ (by decide) (by decide))⟩, trivial⟩ (fun M46_ e47_ => ?_)
            have o48_ : pvOk M46_ := pvok_w e47_ hok
            have f49_ : pvFr fp_X10_item_124_x_x_x M M46_ := pvfr_w e47_ pvfr_0
            refine pw_blk hT 1 (S' := (65, [some (pvR 124), some (pvI n1), some (pvI n2), some (pvJ n3), none], [pvI 1], M46_)) rfl ⟨trivial, trivial⟩ ?_
            exact pw_ret hT rfl (r := some (pvI 1)) (M' := M46_) ⟨rfl, rfl⟩ ⟨⟨_, rfl, (zr_wide (show 1 ≤ Int32.toInt 1 ∧ Int32.toInt 1 ≤ 1 from (by decide)) (by decide) (by decide))⟩, o48_, f49_⟩
      · have b50_ : (-1) ≤ Int32.toInt (M.1 164 (Int32.toNatClampNeg n1)) ∧ Int32.toInt (M.1 164 (Int32.toNatClampNeg n1)) ≤ (-1) := zr_nle_r (-1) c16_ b15_ (show 0 ≤ Int32.toInt 0 ∧ Int32.toInt 0 ≤ 0 from (by decide)) (by decide)
        refine pw_blk hT 1 (S' := (21, [some (pvR 124), some (pvI n1), some (pvI n2), some (pvJ n3), none], [pvI (-11)], M)) rfl ⟨trivial, trivial⟩ ?_
        exact pw_ret hT rfl (r := some (pvI (-11))) (M' := M) ⟨rfl, rfl⟩ ⟨⟨_, rfl, (zr_wide (show (-11) ≤ Int32.toInt (-11) ∧ Int32.toInt (-11) ≤ (-11) from (by decide)) (by decide) (by decide))⟩, hok, pvfr_0⟩
set_option maxHeartbeats 4000000 in
set_option maxRecDepth 10000 in
theorem sf_X10_judge_124_x_x (M : pvM) (hok : pvOk M) (n1 : Int32) (n2 : Int32) (d : Nat) : PW 44 d (0, [some (pvR 124), some (pvI n1), some (pvI n2), none], [], M) (fun r X => (∃ x : Int32, r = some (pvI x) ∧ (-12) ≤ Int32.toInt x ∧ Int32.toInt x ≤ 106) ∧ X = M) := by
  have hT : pvdom 44 = pvD_44 := rfl
  refine pw_blk hT 2 (S' := (2, [some (pvR 124), some (pvI n1), some (pvI n2), none], [pvI n1, pvR 124], M)) rfl ⟨trivial, trivial, trivial⟩ ?_
  refine pw_callT hT (as := [pvR 124, pvI n1]) (lo1 := [some (pvR 124), some (pvI n1)]) (d1 := d) (rest := []) rfl rfl rfl rfl rfl (fun _ => rfl) (Nat.zero_le _) rfl rfl rfl (sf_X10_isTape_124_x M hok n1 d) ?_
  by_cases c6_ : n1 < 0
  · refine pw_eqI (if_pos c6_) ?_
    have b7_ : (-2147483648) ≤ Int32.toInt n1 ∧ Int32.toInt n1 ≤ (-1) := zr_lt_l (-1) c6_ (zbnd n1) (show 0 ≤ Int32.toInt 0 ∧ Int32.toInt 0 ≤ 0 from (by decide)) (by decide)
    show PW 44 d (5, [some (pvR 124), some (pvI n1), some (pvI n2), none], [pvI 0], M) _
    refine pw_ifn hT (c := 0 = 0) rfl rfl (fun c8_ => absurd (by decide) c8_) (fun c8_ => ?_)
    refine pw_blk hT 1 (S' := (9, [some (pvR 124), some (pvI n1), some (pvI n2), none], [pvI (-1)], M)) rfl ⟨trivial, trivial⟩ ?_
    exact pw_ret hT rfl (r := some (pvI (-1))) (M' := M) ⟨rfl, rfl⟩ ⟨⟨_, rfl, (zr_wide (show (-1) ≤ Int32.toInt (-1) ∧ Int32.toInt (-1) ≤ (-1) from (by decide)) (by decide) (by decide))⟩, rfl⟩
  · refine pw_eqI (if_neg c6_) ?_
    have b9_ : 0 ≤ Int32.toInt n1 ∧ Int32.toInt n1 ≤ 2147483647 := zr_nlt_l 0 c6_ (zbnd n1) (show 0 ≤ Int32.toInt 0 ∧ Int32.toInt 0 ≤ 0 from (by decide)) (by decide)
    by_cases c10_ : 5 < n1
    · refine pw_eqI (if_pos c10_) ?_
      have b11_ : 6 ≤ Int32.toInt n1 ∧ Int32.toInt n1 ≤ 2147483647 := zr_lt_r 6 c10_ b9_ (show 5 ≤ Int32.toInt 5 ∧ Int32.toInt 5 ≤ 5 from (by decide)) (by decide)
      show PW 44 d (5, [some (pvR 124), some (pvI n1), some (pvI n2), none], [pvI 0], M) _
      refine pw_ifn hT (c := 0 = 0) rfl rfl (fun c12_ => absurd (by decide) c12_) (fun c12_ => ?_)
      refine pw_blk hT 1 (S' := (9, [some (pvR 124), some (pvI n1), some (pvI n2), none], [pvI (-1)], M)) rfl ⟨trivial, trivial⟩ ?_
      exact pw_ret hT rfl (r := some (pvI (-1))) (M' := M) ⟨rfl, rfl⟩ ⟨⟨_, rfl, (zr_wide (show (-1) ≤ Int32.toInt (-1) ∧ Int32.toInt (-1) ≤ (-1) from (by decide)) (by decide) (by decide))⟩, rfl⟩
    · refine pw_eqI (if_neg c10_) ?_
      have b13_ : 0 ≤ Int32.toInt n1 ∧ Int32.toInt n1 ≤ 5 := zr_nlt_r 5 c10_ b9_ (show 5 ≤ Int32.toInt 5 ∧ Int32.toInt 5 ≤ 5 from (by decide)) (by decide)
      show PW 44 d (5, [some (pvR 124), some (pvI n1), some (pvI n2), none], [pvI 1], M) _
      refine pw_ifn hT (c := 1 = 0) rfl rfl (fun c14_ => ?_) (fun c14_ => absurd c14_ (by decide))
      have b15_ : (-1) ≤ Int32.toInt (M.1 164 (Int32.toNatClampNeg n1)) ∧ Int32.toInt (M.1 164 (Int32.toNatClampNeg n1)) ≤ 4 := pvok_r hok 164 (Int32.toNatClampNeg n1) rfl
      refine pw_blk hT 4 (S' := (16, [some (pvR 124), some (pvI n1), some (pvI n2), none], [pvI (M.1 164 (Int32.toNatClampNeg n1))], M)) rfl ⟨trivial, rfl, trivial, ⟨rfl, (zr_in (n := 6) b13_ (by decide) (by decide))⟩, trivial⟩ ?_
      refine pw_if hT (c := (M.1 164 (Int32.toNatClampNeg n1)) < 0) rfl rfl (fun c16_ => ?_) (fun c16_ => ?_)
      · have b17_ : (-1) ≤ Int32.toInt (M.1 164 (Int32.toNatClampNeg n1)) ∧ Int32.toInt (M.1 164 (Int32.toNatClampNeg n1)) ≤ (-1) := zr_lt_l (-1) c16_ b15_ (show 0 ≤ Int32.toInt 0 ∧ Int32.toInt 0 ≤ 0 from (by decide)) (by decide)
        refine pw_blk hT 2 (S' := (34, [some (pvR 124), some (pvI n1), some (pvI n2), some (pvI 0)], [], M)) rfl ⟨trivial, trivial, trivial⟩ ?_
        have hlz28_ : ∀ (nz28_ : Nat) (i3z28_ : Int32), (0 ≤ Int32.toInt i3z28_ ∧ Int32.toInt i3z28_ ≤ 0) → (zhide (0 < nz28_)) → PW 44 d (34, [some (pvR 124), some (pvI n1), some (pvI n2), some (pvI i3z28_)], [], M) (fun r X => (∃ x : Int32, r = some (pvI x) ∧ (-12) ≤ Int32.toInt x ∧ Int32.toInt x ≤ 106) ∧ X = M) := by
          intro nz28_
          induction nz28_ with
          | zero => intro i3z28_ h3z28_ hmz28_; exact absurd (zshow hmz28_) (Nat.not_lt_zero _)
          | succ nz28_ ihz28_ =>
            intro i3z28_ h3z28_ hmz28_
            have b29_ : 0 ≤ Int32.toInt (M.1 124 0) ∧ Int32.toInt (M.1 124 0) ≤ 7 := pvok_r hok 124 0 rfl
            refine pw_blk hT 3 (S' := (39, [some (pvR 124), some (pvI n1), some (pvI n2), some (pvI i3z28_)], [pvI (M.1 124 0), pvI i3z28_], M)) rfl ⟨trivial, trivial, rfl, trivial⟩ ?_
            refine pw_ic hT (c := (M.1 124 0) ≤ i3z28_) rfl rfl (fun c30_ => ?_) (fun c30_ => ?_)
            · have b31_ : 0 ≤ Int32.toInt (M.1 124 0) ∧ Int32.toInt (M.1 124 0) ≤ 0 := zr_le_l 0 c30_ b29_ h3z28_ (by decide)
              have d32_ : Int32.toInt (M.1 124 0) ≤ Int32.toInt i3z28_ := (zi_le _ _).mp c30_
              refine pw_blk hT 1 (S' := (115, [some (pvR 124), some (pvI n1), some (pvI n2), some (pvI i3z28_)], [pvI (-5)], M)) rfl ⟨trivial, trivial⟩ ?_
              exact pw_ret hT rfl (r := some (pvI (-5))) (M' := M) ⟨rfl, rfl⟩ ⟨⟨_, rfl, (zr_wide (show (-5) ≤ Int32.toInt (-5) ∧ Int32.toInt (-5) ≤ (-5) from (by decide)) (by decide) (by decide))⟩, rfl⟩
            · have b33_ : 1 ≤ Int32.toInt (M.1 124 0) ∧ Int32.toInt (M.1 124 0) ≤ 7 := zr_nle_l 1 c30_ b29_ h3z28_ (by decide)
              have d34_ : Int32.toInt (M.1 124 0) > Int32.toInt i3z28_ := Int.not_le.mp ((not_congr (zi_le _ _)).mp c30_)
              refine pw_blk hT 4 (S' := (48, [some (pvR 124), some (pvI n1), some (pvI n2), some (pvI i3z28_)], [pvI (M.1 164 (Int32.toNatClampNeg n1))], M)) rfl ⟨trivial, rfl, trivial, ⟨rfl, (zr_in (n := 6) b13_ (by decide) (by decide))⟩, trivial⟩ ?_
              refine pw_if hT (c := (M.1 164 (Int32.toNatClampNeg n1)) < 0) rfl rfl (fun c35_ => ?_) (fun c35_ => absurd c16_ c35_)
              obtain ⟨q37_, b36_⟩ : (Int32.toInt (100 + i3z28_) = 100 + Int32.toInt i3z28_) ∧ (100 ≤ Int32.toInt (100 + i3z28_) ∧ Int32.toInt (100 + i3z28_) ≤ 100) := zadd_q 100 i3z28_ 100 100 100 h3z28_ (by decide) (by decide) (by decide) (by decide) (by decide)
              refine pw_blk hT 3 (S' := (73, [some (pvR 124), some (pvI n1), some (pvI n2), some (pvI i3z28_)], [pvI (100 + i3z28_)], M)) rfl ⟨trivial, trivial, trivial, trivial⟩ ?_
              exact pw_ret hT rfl (r := some (pvI (100 + i3z28_))) (M' := M) ⟨rfl, rfl⟩ ⟨⟨_, rfl, (zr_wide b36_ (by decide) (by decide))⟩, rfl⟩
        exact hlz28_ _ 0 (show 0 ≤ Int32.toInt 0 ∧ Int32.toInt 0 ≤ 0 from (by decide)) (zhid (Nat.lt_succ_self _))
      · have b38_ : 0 ≤ Int32.toInt (M.1 164 (Int32.toNatClampNeg n1)) ∧ Int32.toInt (M.1 164 (Int32.toNatClampNeg n1)) ≤ 4 := zr_nlt_l 0 c16_ b15_ (show 0 ≤ Int32.toInt 0 ∧ Int32.toInt 0 ≤ 0 from (by decide)) (by decide)
        refine pw_blk hT 5 (S' := (26, [some (pvR 124), some (pvI n1), some (pvI n2), none], [pvI 4, pvI (M.1 164 (Int32.toNatClampNeg n1))], M)) rfl ⟨trivial, rfl, trivial, ⟨rfl, (zr_in (n := 6) b13_ (by decide) (by decide))⟩, trivial, trivial⟩ ?_
        refine pw_ic hT (c := (M.1 164 (Int32.toNatClampNeg n1)) = 4) rfl rfl (fun c39_ => ?_) (fun c39_ => ?_)
        · have b40_ : 4 ≤ Int32.toInt (M.1 164 (Int32.toNatClampNeg n1)) ∧ Int32.toInt (M.1 164 (Int32.toNatClampNeg n1)) ≤ 4 := (by have u0 := b38_; have u1 := (zi_eq _ _).mp c39_; have u2 := (show 4 ≤ Int32.toInt 4 ∧ Int32.toInt 4 ≤ 4 from (by decide)); omega)
          refine pw_blk hT 2 (S' := (34, [some (pvR 124), some (pvI n1), some (pvI n2), some (pvI 0)], [], M)) rfl ⟨trivial, trivial, trivial⟩ ?_
          have hlz170_ : ∀ (nz170_ : Nat) (i3z170_ : Int32), (0 ≤ Int32.toInt i3z170_ ∧ Int32.toInt i3z170_ ≤ 7) → (zhide ((8 - Int32.toInt i3z170_).toNat < nz170_)) → PW 44 d (34, [some (pvR 124), some (pvI n1), some (pvI n2), some (pvI i3z170_)], [], M) (fun r X => (∃ x : Int32, r = some (pvI x) ∧ (-12) ≤ Int32.toInt x ∧ Int32.toInt x ≤ 106) ∧ X = M) := by
            intro nz170_
            induction nz170_ with
            | zero => intro i3z170_ h3z170_ hmz170_; exact absurd (zshow hmz170_) (Nat.not_lt_zero _)
            | succ nz170_ ihz170_ =>
              intro i3z170_ h3z170_ hmz170_
              have b171_ : 0 ≤ Int32.toInt (M.1 124 0) ∧ Int32.toInt (M.1 124 0) ≤ 7 := pvok_r hok 124 0 rfl
              refine pw_blk hT 3 (S' := (39, [some (pvR 124), some (pvI n1), some (pvI n2), some (pvI i3z170_)], [pvI (M.1 124 0), pvI i3z170_], M)) rfl ⟨trivial, trivial, rfl, trivial⟩ ?_
              refine pw_ic hT (c := (M.1 124 0) ≤ i3z170_) rfl rfl (fun c172_ => ?_) (fun c172_ => ?_)
              · have d173_ : Int32.toInt (M.1 124 0) ≤ Int32.toInt i3z170_ := (zi_le _ _).mp c172_
                refine pw_blk hT 1 (S' := (115, [some (pvR 124), some (pvI n1), some (pvI n2), some (pvI i3z170_)], [pvI (-5)], M)) rfl ⟨trivial, trivial⟩ ?_
                exact pw_ret hT rfl (r := some (pvI (-5))) (M' := M) ⟨rfl, rfl⟩ ⟨⟨_, rfl, (zr_wide (show (-5) ≤ Int32.toInt (-5) ∧ Int32.toInt (-5) ≤ (-5) from (by decide)) (by decide) (by decide))⟩, rfl⟩
              · have b174_ : 1 ≤ Int32.toInt (M.1 124 0) ∧ Int32.toInt (M.1 124 0) ≤ 7 := zr_nle_l 1 c172_ b171_ h3z170_ (by decide)
                have b175_ : 0 ≤ Int32.toInt i3z170_ ∧ Int32.toInt i3z170_ ≤ 6 := zr_nle_r 6 c172_ h3z170_ b174_ (by decide)
                have d176_ : Int32.toInt (M.1 124 0) > Int32.toInt i3z170_ := Int.not_le.mp ((not_congr (zi_le _ _)).mp c172_)
                refine pw_blk hT 4 (S' := (48, [some (pvR 124), some (pvI n1), some (pvI n2), some (pvI i3z170_)], [pvI (M.1 164 (Int32.toNatClampNeg n1))], M)) rfl ⟨trivial, rfl, trivial, ⟨rfl, (zr_in (n := 6) b13_ (by decide) (by decide))⟩, trivial⟩ ?_
                refine pw_if hT (c := (M.1 164 (Int32.toNatClampNeg n1)) < 0) rfl rfl (fun c177_ => absurd c177_ c16_) (fun c177_ => ?_)
                refine pw_blk hT 1 (S' := (52, [some (pvR 124), some (pvI n1), some (pvI n2), some (pvI i3z170_)], [pvI n2], M)) rfl ⟨trivial, trivial⟩ ?_
                refine pw_if hT (c := n2 < 0) rfl rfl (fun c178_ => ?_) (fun c178_ => ?_)
                · have b179_ : (-2147483648) ≤ Int32.toInt n2 ∧ Int32.toInt n2 ≤ (-1) := zr_lt_l (-1) c178_ (zbnd n2) (show 0 ≤ Int32.toInt 0 ∧ Int32.toInt 0 ≤ 0 from (by decide)) (by decide)
                  obtain ⟨q181_, b180_⟩ : (Int32.toInt (100 + i3z170_) = 100 + Int32.toInt i3z170_) ∧ (100 ≤ Int32.toInt (100 + i3z170_) ∧ Int32.toInt (100 + i3z170_) ≤ 106) := zadd_q 100 i3z170_ 100 100 106 b175_ (by decide) (by decide) (by decide) (by decide) (by decide)
                  refine pw_blk hT 3 (S' := (73, [some (pvR 124), some (pvI n1), some (pvI n2), some (pvI i3z170_)], [pvI (100 + i3z170_)], M)) rfl ⟨trivial, trivial, trivial, trivial⟩ ?_
                  exact pw_ret hT rfl (r := some (pvI (100 + i3z170_))) (M' := M) ⟨rfl, rfl⟩ ⟨⟨_, rfl, (zr_wide b180_ (by decide) (by decide))⟩, rfl⟩
                · have b182_ : 0 ≤ Int32.toInt n2 ∧ Int32.toInt n2 ≤ 2147483647 := zr_nlt_l 0 c178_ (zbnd n2) (show 0 ≤ Int32.toInt 0 ∧ Int32.toInt 0 ≤ 0 from (by decide)) (by decide)
                  have b183_ : 0 ≤ Int32.toInt (M.1 165 (Int32.toNatClampNeg n1)) ∧ Int32.toInt (M.1 165 (Int32.toNatClampNeg n1)) ≤ 60 := pvok_r hok 165 (Int32.toNatClampNeg n1) rfl
                  obtain ⟨q185_, b184_⟩ : (Int32.toInt ((M.1 165 (Int32.toNatClampNeg n1)) - i3z170_) = Int32.toInt (M.1 165 (Int32.toNatClampNeg n1)) - Int32.toInt i3z170_) ∧ ((-6) ≤ Int32.toInt ((M.1 165 (Int32.toNatClampNeg n1)) - i3z170_) ∧ Int32.toInt ((M.1 165 (Int32.toNatClampNeg n1)) - i3z170_) ≤ 60) := zsub_r (M.1 165 (Int32.toNatClampNeg n1)) i3z170_ (-6) 60 b183_ b175_ (by decide) (by decide) (by decide) (by decide)
                  obtain ⟨q187_, b186_⟩ : (Int32.toInt (((M.1 165 (Int32.toNatClampNeg n1)) - i3z170_) - 1) = Int32.toInt ((M.1 165 (Int32.toNatClampNeg n1)) - i3z170_) - 1) ∧ ((-7) ≤ Int32.toInt (((M.1 165 (Int32.toNatClampNeg n1)) - i3z170_) - 1) ∧ Int32.toInt (((M.1 165 (Int32.toNatClampNeg n1)) - i3z170_) - 1) ≤ 59) := zsub_k ((M.1 165 (Int32.toNatClampNeg n1)) - i3z170_) 1 1 (-7) 59 b184_ (by decide) (by decide) (by decide) (by decide) (by decide)
                  refine pw_blk hT 9 (S' := (66, [some (pvR 124), some (pvI n1), some (pvI n2), some (pvI i3z170_)], [pvI (((M.1 165 (Int32.toNatClampNeg n1)) - i3z170_) - 1), pvI n2], M)) rfl ⟨trivial, trivial, rfl, trivial, ⟨rfl, (zr_in (n := 6) b13_ (by decide) (by decide))⟩, trivial, trivial, trivial, trivial, trivial⟩ ?_
                  refine pw_ic hT (c := n2 ≤ (((M.1 165 (Int32.toNatClampNeg n1)) - i3z170_) - 1)) rfl rfl (fun c188_ => ?_) (fun c188_ => ?_)
                  · have b189_ : 0 ≤ Int32.toInt n2 ∧ Int32.toInt n2 ≤ 59 := zr_le_l 59 c188_ b182_ b186_ (by decide)
                    have b190_ : 0 ≤ Int32.toInt (((M.1 165 (Int32.toNatClampNeg n1)) - i3z170_) - 1) ∧ Int32.toInt (((M.1 165 (Int32.toNatClampNeg n1)) - i3z170_) - 1) ≤ 59 := zr_le_r 0 c188_ b186_ b189_ (by decide)
                    have d191_ : Int32.toInt n2 ≤ Int32.toInt (((M.1 165 (Int32.toNatClampNeg n1)) - i3z170_) - 1) := (zi_le _ _).mp c188_
                    have q192_ : Int32.toInt (60 * n1) = 60 * Int32.toInt n1 := by have u0 : Int32.toInt 60 = 60 := (by decide); have u1 := b13_; have u2 := zmul 60 n1 (by rw [u0]; omega) (by rw [u0]; omega); rw [u0] at u2; omega
                    have b193_ : 0 ≤ Int32.toInt (60 * n1) ∧ Int32.toInt (60 * n1) ≤ 300 := (by have u1 := b13_; omega)
                    obtain ⟨q195_, b194_⟩ : (Int32.toInt ((60 * n1) + n2) = Int32.toInt (60 * n1) + Int32.toInt n2) ∧ (0 ≤ Int32.toInt ((60 * n1) + n2) ∧ Int32.toInt ((60 * n1) + n2) ≤ 359) := zadd_r (60 * n1) n2 0 359 b193_ b189_ (by decide) (by decide) (by decide) (by decide)
                    obtain ⟨q197_, b196_⟩ : (Int32.toInt (((60 * n1) + n2) + i3z170_) = Int32.toInt ((60 * n1) + n2) + Int32.toInt i3z170_) ∧ (0 ≤ Int32.toInt (((60 * n1) + n2) + i3z170_) ∧ Int32.toInt (((60 * n1) + n2) + i3z170_) ≤ 365) := zadd_r ((60 * n1) + n2) i3z170_ 0 365 b194_ b175_ (by decide) (by decide) (by decide) (by decide)
                    have b198_ : 0 ≤ Int32.toInt (M.1 131 (Int32.toNatClampNeg i3z170_)) ∧ Int32.toInt (M.1 131 (Int32.toNatClampNeg i3z170_)) ≤ 1 := pvok_r hok 131 (Int32.toNatClampNeg i3z170_) rfl
                    refine pw_blk hT 14 (S' := (93, [some (pvR 124), some (pvI n1), some (pvI n2), some (pvI i3z170_)], [pvI (M.1 131 (Int32.toNatClampNeg i3z170_)), pvJ (M.2 166 (Int32.toNatClampNeg (((60 * n1) + n2) + i3z170_)))], M)) rfl ⟨trivial, rfl, trivial, trivial, trivial, trivial, trivial, trivial, trivial, ⟨rfl, (vp_in_iff.mpr (show 0 ≤ Int32.toInt (((60 * n1) + n2) + i3z170_) ∧ Int32.toInt (((60 * n1) + n2) + i3z170_) < ((360 : Nat) : Int) from (by have u0 := b196_; omega)))⟩, trivial, rfl, trivial, ⟨rfl, (zr_in (n := 7) b175_ (by decide) (by decide))⟩, trivial⟩ ?_
                    refine pw_if hT (c := (M.1 131 (Int32.toNatClampNeg i3z170_)) = 0) rfl rfl (fun c199_ => ?_) (fun c199_ => ?_)
                    · have b200_ : 0 ≤ Int32.toInt (M.1 131 (Int32.toNatClampNeg i3z170_)) ∧ Int32.toInt (M.1 131 (Int32.toNatClampNeg i3z170_)) ≤ 0 := (by have u0 := b198_; have u1 := (zi_eq _ _).mp c199_; have u2 := (show 0 ≤ Int32.toInt 0 ∧ Int32.toInt 0 ≤ 0 from (by decide)); omega)
                      refine pw_blk hT 2 (S' := (102, [some (pvR 124), some (pvI n1), some (pvI n2), some (pvI i3z170_)], [pvI (lg_cmp (M.2 166 (Int32.toNatClampNeg (((60 * n1) + n2) + i3z170_))) 0)], M)) rfl ⟨trivial, trivial, trivial⟩ ?_
                      refine pw_if hT (c := (lg_cmp (M.2 166 (Int32.toNatClampNeg (((60 * n1) + n2) + i3z170_))) 0) = 0) rfl rfl (fun c201_ => ?_) (fun c201_ => ?_)
                      · have b202_ : 0 ≤ Int32.toInt (lg_cmp (M.2 166 (Int32.toNatClampNeg (((60 * n1) + n2) + i3z170_))) 0) ∧ Int32.toInt (lg_cmp (M.2 166 (Int32.toNatClampNeg (((60 * n1) + n2) + i3z170_))) 0) ≤ 0 := (by have u0 := (zbnd (lg_cmp (M.2 166 (Int32.toNatClampNeg (((60 * n1) + n2) + i3z170_))) 0)); have u1 := (zi_eq _ _).mp c201_; have u2 := (show 0 ≤ Int32.toInt 0 ∧ Int32.toInt 0 ≤ 0 from (by decide)); omega)
                        obtain ⟨q204_, b203_⟩ : (Int32.toInt (i3z170_ + 1) = Int32.toInt i3z170_ + 1) ∧ (1 ≤ Int32.toInt (i3z170_ + 1) ∧ Int32.toInt (i3z170_ + 1) ≤ 7) := zadd_k i3z170_ 1 1 1 7 b175_ (by decide) (by decide) (by decide) (by decide) (by decide)
                        refine pw_blk hT 2 (S' := (34, [some (pvR 124), some (pvI n1), some (pvI n2), some (pvI (i3z170_ + 1))], [], M)) rfl ⟨trivial, trivial, trivial⟩ ?_
                        exact ihz170_ (i3z170_ + 1) (zr_wide b203_ (by decide) (by decide)) (zhid (pvms_up (zshow hmz170_) h3z170_ q204_ (by decide) (by decide)))
                      · refine pw_blk hT 1 (S' := (106, [some (pvR 124), some (pvI n1), some (pvI n2), some (pvI i3z170_)], [pvI i3z170_], M)) rfl ⟨trivial, trivial⟩ ?_
                        exact pw_ret hT rfl (r := some (pvI i3z170_)) (M' := M) ⟨rfl, rfl⟩ ⟨⟨_, rfl, (zr_wide b175_ (by decide) (by decide))⟩, rfl⟩
                    · have b205_ : 1 ≤ Int32.toInt (M.1 131 (Int32.toNatClampNeg i3z170_)) ∧ Int32.toInt (M.1 131 (Int32.toNatClampNeg i3z170_)) ≤ 1 := (by have u0 := b198_; have u1 := (not_congr (zi_eq _ _)).mp c199_; have u2 := (show 0 ≤ Int32.toInt 0 ∧ Int32.toInt 0 ≤ 0 from (by decide)); omega)
                      refine pw_blk hT 3 (S' := (102, [some (pvR 124), some (pvI n1), some (pvI n2), some (pvI i3z170_)], [pvI (lg_cmp (M.2 166 (Int32.toNatClampNeg (((60 * n1) + n2) + i3z170_))) 1)], M)) rfl ⟨trivial, trivial, trivial, trivial⟩ ?_
                      refine pw_if hT (c := (lg_cmp (M.2 166 (Int32.toNatClampNeg (((60 * n1) + n2) + i3z170_))) 1) = 0) rfl rfl (fun c206_ => ?_) (fun c206_ => ?_)
                      · have b207_ : 0 ≤ Int32.toInt (lg_cmp (M.2 166 (Int32.toNatClampNeg (((60 * n1) + n2) + i3z170_))) 1) ∧ Int32.toInt (lg_cmp (M.2 166 (Int32.toNatClampNeg (((60 * n1) + n2) + i3z170_))) 1) ≤ 0 := (by have u0 := (zbnd (lg_cmp (M.2 166 (Int32.toNatClampNeg (((60 * n1) + n2) + i3z170_))) 1)); have u1 := (zi_eq _ _).mp c206_; have u2 := (show 0 ≤ Int32.toInt 0 ∧ Int32.toInt 0 ≤ 0 from (by decide)); omega)
                        obtain ⟨q209_, b208_⟩ : (Int32.toInt (i3z170_ + 1) = Int32.toInt i3z170_ + 1) ∧ (1 ≤ Int32.toInt (i3z170_ + 1) ∧ Int32.toInt (i3z170_ + 1) ≤ 7) := zadd_k i3z170_ 1 1 1 7 b175_ (by decide) (by decide) (by decide) (by decide) (by decide)
                        refine pw_blk hT 2 (S' := (34, [some (pvR 124), some (pvI n1), some (pvI n2), some (pvI (i3z170_ + 1))], [], M)) rfl ⟨trivial, trivial, trivial⟩ ?_
                        exact ihz170_ (i3z170_ + 1) (zr_wide b208_ (by decide) (by decide)) (zhid (pvms_up (zshow hmz170_) h3z170_ q209_ (by decide) (by decide)))
                      · refine pw_blk hT 1 (S' := (106, [some (pvR 124), some (pvI n1), some (pvI n2), some (pvI i3z170_)], [pvI i3z170_], M)) rfl ⟨trivial, trivial⟩ ?_
                        exact pw_ret hT rfl (r := some (pvI i3z170_)) (M' := M) ⟨rfl, rfl⟩ ⟨⟨_, rfl, (zr_wide b175_ (by decide) (by decide))⟩, rfl⟩
                  · have d210_ : Int32.toInt n2 > Int32.toInt (((M.1 165 (Int32.toNatClampNeg n1)) - i3z170_) - 1) := Int.not_le.mp ((not_congr (zi_le _ _)).mp c188_)
                    obtain ⟨q212_, b211_⟩ : (Int32.toInt (100 + i3z170_) = 100 + Int32.toInt i3z170_) ∧ (100 ≤ Int32.toInt (100 + i3z170_) ∧ Int32.toInt (100 + i3z170_) ≤ 106) := zadd_q 100 i3z170_ 100 100 106 b175_ (by decide) (by decide) (by decide) (by decide) (by decide)
                    refine pw_blk hT 3 (S' := (73, [some (pvR 124), some (pvI n1), some (pvI n2), some (pvI i3z170_)], [pvI (100 + i3z170_)], M)) rfl ⟨trivial, trivial, trivial, trivial⟩ ?_
                    exact pw_ret hT rfl (r := some (pvI (100 + i3z170_))) (M' := M) ⟨rfl, rfl⟩ ⟨⟨_, rfl, (zr_wide b211_ (by decide) (by decide))⟩, rfl⟩
          exact hlz170_ _ 0 (zr_wide (show 0 ≤ Int32.toInt 0 ∧ Int32.toInt 0 ≤ 0 from (by decide)) (by decide) (by decide)) (zhid (Nat.lt_succ_self _))
        · have b213_ : 0 ≤ Int32.toInt (M.1 164 (Int32.toNatClampNeg n1)) ∧ Int32.toInt (M.1 164 (Int32.toNatClampNeg n1)) ≤ 3 := (by have u0 := b38_; have u1 := (not_congr (zi_eq _ _)).mp c39_; have u2 := (show 4 ≤ Int32.toInt 4 ∧ Int32.toInt 4 ≤ 4 from (by decide)); omega)
          refine pw_blk hT 1 (S' := (31, [some (pvR 124), some (pvI n1), some (pvI n2), none], [pvI (-12)], M)) rfl ⟨trivial, trivial⟩ ?_
          exact pw_ret hT rfl (r := some (pvI (-12))) (M' := M) ⟨rfl, rfl⟩ ⟨⟨_, rfl, (zr_wide (show (-12) ≤ Int32.toInt (-12) ∧ Int32.toInt (-12) ≤ (-12) from (by decide)) (by decide) (by decide))⟩, rfl⟩
def fpL_X10_late_124_x : List (Nat × Nat × Nat) := [(0, 124, 33), (0, 124, 36), (0, 141, 0), (0, 142, 0), (0, 143, 0), (0, 144, 0)]
def fp_X10_late_124_x (q k : Nat) : Bool := pvfp fpL_X10_late_124_x q k
theorem fp_X10_late_124_x_fp_X10_costOfPath_124_x (a b : Nat) (h : fp_X10_costOfPath_124_x a b = true) : fp_X10_late_124_x a b = true := pvfp_sub (l1 := fpL_X10_costOfPath_124_x) (l2 := fpL_X10_late_124_x) (by decide) a b h
theorem fp_X10_late_124_x_fp_X10_layRain_124 (a b : Nat) (h : fp_X10_layRain_124 a b = true) : fp_X10_late_124_x a b = true := pvfp_sub (l1 := fpL_X10_layRain_124) (l2 := fpL_X10_late_124_x) (by decide) a b h
theorem fp_X10_late_124_x_fp_X10_layRound_124 (a b : Nat) (h : fp_X10_layRound_124 a b = true) : fp_X10_late_124_x a b = true := pvfp_sub (l1 := fpL_X10_layRound_124) (l2 := fpL_X10_late_124_x) (by decide) a b h
set_option maxHeartbeats 4000000 in
set_option maxRecDepth 10000 in
theorem sf_X10_late_124_x (M : pvM) (hok : pvOk M) (n1 : Int32) (d : Nat) : PW 47 d (0, [some (pvR 124), some (pvI n1), none], [], M) (fun r X => (∃ x : Int32, r = some (pvI x) ∧ (-5) ≤ Int32.toInt x ∧ Int32.toInt x ≤ 60) ∧ pvOk X ∧ pvFr fp_X10_late_124_x M X) := by
  have hT : pvdom 47 = pvD_47 := rfl
  refine pw_blk hT 2 (S' := (2, [some (pvR 124), some (pvI n1), none], [pvI n1, pvR 124], M)) rfl ⟨trivial, trivial, trivial⟩ ?_
  refine pw_callT hT (as := [pvR 124, pvI n1]) (lo1 := [some (pvR 124), some (pvI n1)]) (d1 := d) (rest := []) rfl rfl rfl rfl rfl (fun _ => rfl) (Nat.zero_le _) rfl rfl rfl (sf_X10_isLimit_124_x M hok n1 d) ?_
  by_cases c6_ : n1 < 0
  · refine pw_eqI (if_pos c6_) ?_
    have b7_ : (-2147483648) ≤ Int32.toInt n1 ∧ Int32.toInt n1 ≤ (-1) := zr_lt_l (-1) c6_ (zbnd n1) (show 0 ≤ Int32.toInt 0 ∧ Int32.toInt 0 ≤ 0 from (by decide)) (by decide)
    show PW 47 d (5, [some (pvR 124), some (pvI n1), none], [pvI 0], M) _
    refine pw_ifn hT (c := 0 = 0) rfl rfl (fun c8_ => absurd (by decide) c8_) (fun c8_ => ?_)
    refine pw_blk hT 1 (S' := (10, [some (pvR 124), some (pvI n1), none], [pvI (-2)], M)) rfl ⟨trivial, trivial⟩ ?_
    exact pw_ret hT rfl (r := some (pvI (-2))) (M' := M) ⟨rfl, rfl⟩ ⟨⟨_, rfl, (zr_wide (show (-2) ≤ Int32.toInt (-2) ∧ Int32.toInt (-2) ≤ (-2) from (by decide)) (by decide) (by decide))⟩, hok, pvfr_0⟩
  · refine pw_eqI (if_neg c6_) ?_
    have b9_ : 0 ≤ Int32.toInt n1 ∧ Int32.toInt n1 ≤ 2147483647 := zr_nlt_l 0 c6_ (zbnd n1) (show 0 ≤ Int32.toInt 0 ∧ Int32.toInt 0 ≤ 0 from (by decide)) (by decide)
    by_cases c10_ : 99999 < n1
    · refine pw_eqI (if_pos c10_) ?_
      have b11_ : 100000 ≤ Int32.toInt n1 ∧ Int32.toInt n1 ≤ 2147483647 := zr_lt_r 100000 c10_ b9_ (show 99999 ≤ Int32.toInt 99999 ∧ Int32.toInt 99999 ≤ 99999 from (by decide)) (by decide)
      show PW 47 d (5, [some (pvR 124), some (pvI n1), none], [pvI 0], M) _
      refine pw_ifn hT (c := 0 = 0) rfl rfl (fun c12_ => absurd (by decide) c12_) (fun c12_ => ?_)
      refine pw_blk hT 1 (S' := (10, [some (pvR 124), some (pvI n1), none], [pvI (-2)], M)) rfl ⟨trivial, trivial⟩ ?_
      exact pw_ret hT rfl (r := some (pvI (-2))) (M' := M) ⟨rfl, rfl⟩ ⟨⟨_, rfl, (zr_wide (show (-2) ≤ Int32.toInt (-2) ∧ Int32.toInt (-2) ≤ (-2) from (by decide)) (by decide) (by decide))⟩, hok, pvfr_0⟩
    · refine pw_eqI (if_neg c10_) ?_
      have b13_ : 0 ≤ Int32.toInt n1 ∧ Int32.toInt n1 ≤ 99999 := zr_nlt_r 99999 c10_ b9_ (show 99999 ≤ Int32.toInt 99999 ∧ Int32.toInt 99999 ≤ 99999 from (by decide)) (by decide)
      show PW 47 d (5, [some (pvR 124), some (pvI n1), none], [pvI 1], M) _
      refine pw_ifn hT (c := 1 = 0) rfl rfl (fun c14_ => ?_) (fun c14_ => absurd c14_ (by decide))
      refine pw_blk hT 1 (S' := (12, [some (pvR 124), some (pvI n1), none], [pvR 124], M)) rfl ⟨trivial, trivial⟩ ?_
      refine pw_callV hT (as := [pvR 124]) (lo1 := [some (pvR 124), none, none]) (d1 := d) (rest := []) rfl rfl rfl rfl rfl (fun _ => rfl) (Nat.zero_le _) rfl rfl rfl (sf_X10_layRain_124 M hok d) (fun M16_ o18_ g19_ => ?_)
      have f20_ : pvFr fp_X10_late_124_x M M16_ := pvfr_t g19_ pvfr_0 fp_X10_late_124_x_fp_X10_layRain_124
      refine pw_blk hT 1 (S' := (16, [some (pvR 124), some (pvI n1), none], [pvR 124], M16_)) rfl ⟨trivial, trivial⟩ ?_
      refine pw_callV hT (as := [pvR 124]) (lo1 := [some (pvR 124), none]) (d1 := d) (rest := []) rfl rfl rfl rfl rfl (fun _ => rfl) (Nat.zero_le _) rfl rfl rfl (sf_X10_layRound_124 M16_ o18_ d) (fun M22_ o24_ g25_ => ?_)
      have f26_ : pvFr fp_X10_late_124_x M M22_ := pvfr_t g25_ f20_ fp_X10_late_124_x_fp_X10_layRound_124
      refine pw_blk hT 2 (S' := (22, [some (pvR 124), some (pvI n1), some (pvI 60)], [], M22_)) rfl ⟨trivial, trivial, trivial⟩ ?_
      have hlz93_ : ∀ (nz93_ : Nat) (i2z93_ : Int32) (Mz93_ : pvM), (pvOk Mz93_) → (pvFr fp_X10_late_124_x M Mz93_) → ((-1) ≤ Int32.toInt i2z93_ ∧ Int32.toInt i2z93_ ≤ 60) → (zhide ((Int32.toInt i2z93_ + 2).toNat < nz93_)) → PW 47 d (22, [some (pvR 124), some (pvI n1), some (pvI i2z93_)], [], Mz93_) (fun r X => (∃ x : Int32, r = some (pvI x) ∧ (-5) ≤ Int32.toInt x ∧ Int32.toInt x ≤ 60) ∧ pvOk X ∧ pvFr fp_X10_late_124_x M X) := by
        intro nz93_
        induction nz93_ with
        | zero => intro i2z93_ Mz93_ oz93_ fz93_ h2z93_ hmz93_; exact absurd (zshow hmz93_) (Nat.not_lt_zero _)
        | succ nz93_ ihz93_ =>
          intro i2z93_ Mz93_ oz93_ fz93_ h2z93_ hmz93_
          refine pw_blk hT 1 (S' := (23, [some (pvR 124), some (pvI n1), some (pvI i2z93_)], [pvI i2z93_], Mz93_)) rfl ⟨trivial, trivial⟩ ?_
          refine pw_if hT (c := i2z93_ < 0) rfl rfl (fun c94_ => ?_) (fun c94_ => ?_)
          · have b95_ : (-1) ≤ Int32.toInt i2z93_ ∧ Int32.toInt i2z93_ ≤ (-1) := zr_lt_l (-1) c94_ h2z93_ (show 0 ≤ Int32.toInt 0 ∧ Int32.toInt 0 ≤ 0 from (by decide)) (by decide)
            refine pw_blk hT 1 (S' := (45, [some (pvR 124), some (pvI n1), some (pvI i2z93_)], [pvI (-5)], Mz93_)) rfl ⟨trivial, trivial⟩ ?_
            exact pw_ret hT rfl (r := some (pvI (-5))) (M' := Mz93_) ⟨rfl, rfl⟩ ⟨⟨_, rfl, (zr_wide (show (-5) ≤ Int32.toInt (-5) ∧ Int32.toInt (-5) ≤ (-5) from (by decide)) (by decide) (by decide))⟩, oz93_, fz93_⟩
          · have b96_ : 0 ≤ Int32.toInt i2z93_ ∧ Int32.toInt i2z93_ ≤ 60 := zr_nlt_l 0 c94_ h2z93_ (show 0 ≤ Int32.toInt 0 ∧ Int32.toInt 0 ≤ 0 from (by decide)) (by decide)
            refine pw_blk hT 2 (S' := (28, [some (pvR 124), some (pvI n1), some (pvI i2z93_)], [pvI i2z93_, pvR 124], Mz93_)) rfl ⟨trivial, trivial, trivial⟩ ?_
            refine pw_callG hT (as := [pvR 124, pvI i2z93_]) (lo1 := [some (pvR 124), some (pvI i2z93_), none]) (d1 := d) (rest := []) rfl rfl rfl rfl rfl (fun _ => rfl) (Nat.zero_le _) rfl rfl rfl (sf_X10_costOfPath_124_x Mz93_ oz93_ i2z93_ b96_ d) (fun x97_ M98_ b99_ o100_ g101_ => ?_)
            have f102_ : pvFr fp_X10_late_124_x M M98_ := pvfr_t g101_ fz93_ fp_X10_late_124_x_fp_X10_costOfPath_124_x
            refine pw_blk hT 1 (S' := (32, [some (pvR 124), some (pvI n1), some (pvI i2z93_)], [pvI n1, pvI x97_], M98_)) rfl ⟨trivial, trivial⟩ ?_
            refine pw_ic hT (c := n1 < x97_) rfl rfl (fun c103_ => ?_) (fun c103_ => ?_)
            · have b104_ : 1 ≤ Int32.toInt x97_ ∧ Int32.toInt x97_ ≤ 9000000 := zr_lt_r 1 c103_ b99_ b13_ (by decide)
              have d105_ : Int32.toInt n1 < Int32.toInt x97_ := (zi_lt _ _).mp c103_
              obtain ⟨q107_, b106_⟩ : (Int32.toInt (i2z93_ + (-1)) = Int32.toInt i2z93_ + (-1)) ∧ ((-1) ≤ Int32.toInt (i2z93_ + (-1)) ∧ Int32.toInt (i2z93_ + (-1)) ≤ 59) := zadd_k i2z93_ (-1) (-1) (-1) 59 b96_ (by decide) (by decide) (by decide) (by decide) (by decide)
              refine pw_blk hT 2 (S' := (22, [some (pvR 124), some (pvI n1), some (pvI (i2z93_ + (-1)))], [], M98_)) rfl ⟨trivial, trivial, trivial⟩ ?_
              exact ihz93_ (i2z93_ + (-1)) M98_ o100_ f102_ (zr_wide b106_ (by decide) (by decide)) (zhid (pvms_dn (zshow hmz93_) h2z93_ q107_ (by decide) (by decide)))
            · have b108_ : 0 ≤ Int32.toInt x97_ ∧ Int32.toInt x97_ ≤ 99999 := zr_nlt_r 99999 c103_ b99_ b13_ (by decide)
              have d109_ : Int32.toInt n1 ≥ Int32.toInt x97_ := Int.not_lt.mp ((not_congr (zi_lt _ _)).mp c103_)
              refine pw_blk hT 1 (S' := (36, [some (pvR 124), some (pvI n1), some (pvI i2z93_)], [pvI i2z93_], M98_)) rfl ⟨trivial, trivial⟩ ?_
              exact pw_ret hT rfl (r := some (pvI i2z93_)) (M' := M98_) ⟨rfl, rfl⟩ ⟨⟨_, rfl, (zr_wide b96_ (by decide) (by decide))⟩, o100_, f102_⟩
      exact hlz93_ _ 60 M22_ o24_ f26_ (zr_wide (show 60 ≤ Int32.toInt 60 ∧ Int32.toInt 60 ≤ 60 from (by decide)) (by decide) (by decide)) (zhid (Nat.lt_succ_self _))
def fpL_X10_leave_124 : List (Nat × Nat × Nat) := [(0, 124, 33), (0, 124, 36), (0, 141, 0), (0, 142, 0), (0, 143, 0), (0, 144, 0)]
def fp_X10_leave_124 (q k : Nat) : Bool := pvfp fpL_X10_leave_124 q k
theorem fp_X10_leave_124_fp_X10_costOfPath_124_x (a b : Nat) (h : fp_X10_costOfPath_124_x a b = true) : fp_X10_leave_124 a b = true := pvfp_sub (l1 := fpL_X10_costOfPath_124_x) (l2 := fpL_X10_leave_124) (by decide) a b h
theorem fp_X10_leave_124_fp_X10_costOfRound_124_x (a b : Nat) (h : fp_X10_costOfRound_124_x a b = true) : fp_X10_leave_124 a b = true := pvfp_sub (l1 := fpL_X10_costOfRound_124_x) (l2 := fpL_X10_leave_124) (by decide) a b h
set_option maxHeartbeats 4000000 in
set_option maxRecDepth 10000 in
theorem sf_X10_leave_124 (M : pvM) (hok : pvOk M) (d : Nat) : PW 52 d (0, [some (pvR 124), none, none, none, none], [], M) (fun r X => (∃ x : Int32, r = some (pvI x) ∧ True) ∧ pvOk X ∧ pvFr fp_X10_leave_124 M X) := by
  have hT : pvdom 52 = pvD_52 := rfl
  refine pw_blk hT 2 (S' := (2, [some (pvR 124), none, none, none, none], [pvI 0, pvR 124], M)) rfl ⟨trivial, trivial, trivial⟩ ?_
  refine pw_callG hT (as := [pvR 124, pvI 0]) (lo1 := [some (pvR 124), some (pvI 0)]) (d1 := d) (rest := []) rfl rfl rfl rfl rfl (fun _ => rfl) (Nat.zero_le _) rfl rfl rfl (sf_X10_costOfRound_124_x M hok 0 (zr_wide (show 0 ≤ Int32.toInt 0 ∧ Int32.toInt 0 ≤ 0 from (by decide)) (by decide) (by decide)) d) (fun x1_ M2_ b3_ o4_ g5_ => ?_)
  have f6_ : pvFr fp_X10_leave_124 M M2_ := pvfr_t g5_ pvfr_0 fp_X10_leave_124_fp_X10_costOfRound_124_x
  refine pw_blk hT 5 (S' := (10, [some (pvR 124), some (pvI x1_), some (pvI 0), some (pvI 0), none], [], M2_)) rfl ⟨trivial, trivial, trivial, trivial, trivial, trivial⟩ ?_
  have hlz803_ : ∀ (nz803_ : Nat) (i2z803_ : Int32) (i3z803_ : Int32) (v4z803_ : Option pvV) (Mz803_ : pvM), (pvOk Mz803_) → (pvFr fp_X10_leave_124 M Mz803_) → (0 ≤ Int32.toInt i3z803_ ∧ Int32.toInt i3z803_ ≤ 7) → (zhide ((8 - Int32.toInt i3z803_).toNat < nz803_)) → PW 52 d (10, [some (pvR 124), some (pvI x1_), some (pvI i2z803_), some (pvI i3z803_), v4z803_], [], Mz803_) (fun r X => (∃ x : Int32, r = some (pvI x) ∧ True) ∧ pvOk X ∧ pvFr fp_X10_leave_124 M X) := by
    intro nz803_
    induction nz803_ with
    | zero => intro i2z803_ i3z803_ v4z803_ Mz803_ oz803_ fz803_ h3z803_ hmz803_; exact absurd (zshow hmz803_) (Nat.not_lt_zero _)
    | succ nz803_ ihz803_ =>
      intro i2z803_ i3z803_ v4z803_ Mz803_ oz803_ fz803_ h3z803_ hmz803_
      have b804_ : 0 ≤ Int32.toInt (Mz803_.1 124 37) ∧ Int32.toInt (Mz803_.1 124 37) ≤ 7 := pvok_r oz803_ 124 37 rfl
      refine pw_blk hT 3 (S' := (15, [some (pvR 124), some (pvI x1_), some (pvI i2z803_), some (pvI i3z803_), v4z803_], [pvI (Mz803_.1 124 37), pvI i3z803_], Mz803_)) rfl ⟨trivial, trivial, rfl, trivial⟩ ?_
      refine pw_ic hT (c := (Mz803_.1 124 37) ≤ i3z803_) rfl rfl (fun c805_ => ?_) (fun c805_ => ?_)
      · have d806_ : Int32.toInt (Mz803_.1 124 37) ≤ Int32.toInt i3z803_ := (zi_le _ _).mp c805_
        refine pw_blk hT 1 (S' := (107, [some (pvR 124), some (pvI x1_), some (pvI i2z803_), some (pvI i3z803_), v4z803_], [pvI i2z803_], Mz803_)) rfl ⟨trivial, trivial⟩ ?_
        exact pw_ret hT rfl (r := some (pvI i2z803_)) (M' := Mz803_) ⟨rfl, rfl⟩ ⟨⟨_, rfl, trivial⟩, oz803_, fz803_⟩
      · have b807_ : 1 ≤ Int32.toInt (Mz803_.1 124 37) ∧ Int32.toInt (Mz803_.1 124 37) ≤ 7 := zr_nle_l 1 c805_ b804_ h3z803_ (by decide)
        have b808_ : 0 ≤ Int32.toInt i3z803_ ∧ Int32.toInt i3z803_ ≤ 6 := zr_nle_r 6 c805_ h3z803_ b807_ (by decide)
        have d809_ : Int32.toInt (Mz803_.1 124 37) > Int32.toInt i3z803_ := Int.not_le.mp ((not_congr (zi_le _ _)).mp c805_)
        refine pw_blkw hT 3 (pc := 23) (lo := [some (pvR 124), some (pvI x1_), some (pvI i2z803_), some (pvI i3z803_), v4z803_]) (st := []) (M := pvu Mz803_ 124 35 0) rfl ⟨trivial, trivial, rfl, trivial⟩ (fun M810_ e811_ => ?_)
        have o812_ : pvOk M810_ := pvok_u2 e811_ oz803_ rfl (zr_wide (show 0 ≤ Int32.toInt 0 ∧ Int32.toInt 0 ≤ 0 from (by decide)) (by decide) (by decide))
        have f813_ : pvFr fp_X10_leave_124 M M810_ := pvfr_u e811_ fz803_ rfl
        refine pw_blk hT 2 (S' := (26, [some (pvR 124), some (pvI x1_), some (pvI i2z803_), some (pvI i3z803_), some (pvI 0)], [], M810_)) rfl ⟨trivial, trivial, trivial⟩ ?_
        have e814_ : (M810_.1 124 37) = (Mz803_.1 124 37) := (pvu_n e811_ 124 37 (Or.inr (by decide)))
        have b815_ : 1 ≤ Int32.toInt (M810_.1 124 37) ∧ Int32.toInt (M810_.1 124 37) ≤ 7 := (by rw [e814_]; exact b807_)
        have hlz952_ : ∀ (nz952_ : Nat) (i4z952_ : Int32) (Mz952_ : pvM), (pvOk Mz952_) → (pvFr fp_X10_leave_124 M Mz952_) → (Mz952_.1 124 37 = M810_.1 124 37) → (0 ≤ Int32.toInt i4z952_ ∧ Int32.toInt i4z952_ ≤ 7) → (Int32.toInt (Mz952_.1 124 35) ≤ Int32.toInt i4z952_) → (zhide ((8 - Int32.toInt i4z952_).toNat < nz952_)) → PW 52 d (26, [some (pvR 124), some (pvI x1_), some (pvI i2z803_), some (pvI i3z803_), some (pvI i4z952_)], [], Mz952_) (fun r X => (∃ x : Int32, r = some (pvI x) ∧ True) ∧ pvOk X ∧ pvFr fp_X10_leave_124 M X) := by
          intro nz952_
          induction nz952_ with
          | zero => intro i4z952_ Mz952_ oz952_ fz952_ k124_37z952_ h4z952_ j0z952_ hmz952_; exact absurd (zshow hmz952_) (Nat.not_lt_zero _)
          | succ nz952_ ihz952_ =>
            intro i4z952_ Mz952_ oz952_ fz952_ k124_37z952_ h4z952_ j0z952_ hmz952_
            have b953_ : 0 ≤ Int32.toInt (Mz952_.1 124 35) ∧ Int32.toInt (Mz952_.1 124 35) ≤ 7 := pvok_r oz952_ 124 35 rfl
            have e954_ : (Mz952_.1 124 37) = (M810_.1 124 37) := (k124_37z952_)
            have b955_ : 1 ≤ Int32.toInt (Mz952_.1 124 37) ∧ Int32.toInt (Mz952_.1 124 37) ≤ 7 := (by rw [e954_]; exact b815_)
            refine pw_blk hT 3 (S' := (32, [some (pvR 124), some (pvI x1_), some (pvI i2z803_), some (pvI i3z803_), some (pvI i4z952_)], [pvI (Mz952_.1 124 37), pvI i4z952_], Mz952_)) rfl ⟨trivial, trivial, rfl, trivial⟩ ?_
            refine pw_ic hT (c := (Mz952_.1 124 37) ≤ i4z952_) rfl rfl (fun c956_ => ?_) (fun c956_ => ?_)
            · have b957_ : 1 ≤ Int32.toInt i4z952_ ∧ Int32.toInt i4z952_ ≤ 7 := zr_le_r 1 c956_ h4z952_ b955_ (by decide)
              have d958_ : Int32.toInt (Mz952_.1 124 37) ≤ Int32.toInt i4z952_ := (zi_le _ _).mp c956_
              refine pw_blk hT 3 (S' := (79, [some (pvR 124), some (pvI x1_), some (pvI i2z803_), some (pvI i3z803_), some (pvI i4z952_)], [pvI 0, pvR 124, pvI i2z803_], Mz952_)) rfl ⟨trivial, trivial, trivial, trivial⟩ ?_
              refine pw_callG hT (as := [pvR 124, pvI 0]) (lo1 := [some (pvR 124), some (pvI 0), none]) (d1 := d) (rest := [pvI i2z803_]) rfl rfl rfl rfl rfl (fun _ => rfl) (Nat.zero_le _) rfl rfl rfl (sf_X10_costOfPath_124_x Mz952_ oz952_ 0 (zr_wide (show 0 ≤ Int32.toInt 0 ∧ Int32.toInt 0 ≤ 0 from (by decide)) (by decide) (by decide)) d) (fun x959_ M960_ b961_ o962_ g963_ => ?_)
              have f964_ : pvFr fp_X10_leave_124 M M960_ := pvfr_t g963_ fz952_ fp_X10_leave_124_fp_X10_costOfPath_124_x
              refine pw_blk hT 1 (S' := (83, [some (pvR 124), some (pvI x1_), some (pvI i2z803_), some (pvI i3z803_), some (pvI i4z952_)], [pvI x1_, pvI x959_, pvI i2z803_], M960_)) rfl ⟨trivial, trivial⟩ ?_
              refine pw_ic hT (c := x1_ < x959_) rfl rfl (fun c965_ => ?_) (fun c965_ => ?_)
              · have b966_ : 0 ≤ Int32.toInt x1_ ∧ Int32.toInt x1_ ≤ 8999999 := zr_lt_l 8999999 c965_ b3_ b961_ (by decide)
                have b967_ : 1 ≤ Int32.toInt x959_ ∧ Int32.toInt x959_ ≤ 9000000 := zr_lt_r 1 c965_ b961_ b966_ (by decide)
                have d968_ : Int32.toInt x1_ < Int32.toInt x959_ := (zi_lt _ _).mp c965_
                obtain ⟨q970_, b969_⟩ : (Int32.toInt (i3z803_ + 1) = Int32.toInt i3z803_ + 1) ∧ (1 ≤ Int32.toInt (i3z803_ + 1) ∧ Int32.toInt (i3z803_ + 1) ≤ 7) := zadd_k i3z803_ 1 1 1 7 b808_ (by decide) (by decide) (by decide) (by decide) (by decide)
                refine pw_blk hT 5 (S' := (10, [some (pvR 124), some (pvI x1_), some (pvI (i2z803_ ||| 0)), some (pvI (i3z803_ + 1)), some (pvI i4z952_)], [], M960_)) rfl ⟨trivial, trivial, trivial, trivial, trivial, trivial⟩ ?_
                exact ihz803_ (i2z803_ ||| 0) (i3z803_ + 1) (some (pvI i4z952_)) M960_ o962_ f964_ (zr_wide b969_ (by decide) (by decide)) (zhid (pvms_up (zshow hmz803_) h3z803_ q970_ (by decide) (by decide)))
              · have d971_ : Int32.toInt x1_ ≥ Int32.toInt x959_ := Int.not_lt.mp ((not_congr (zi_lt _ _)).mp c965_)
                have b972_ : 0 ≤ Int32.toInt (M960_.1 145 (Int32.toNatClampNeg i3z803_)) ∧ Int32.toInt (M960_.1 145 (Int32.toNatClampNeg i3z803_)) ≤ 6 := pvok_r o962_ 145 (Int32.toNatClampNeg i3z803_) rfl
                obtain ⟨q974_, b973_⟩ : (Int32.toInt (i3z803_ + 1) = Int32.toInt i3z803_ + 1) ∧ (1 ≤ Int32.toInt (i3z803_ + 1) ∧ Int32.toInt (i3z803_ + 1) ≤ 7) := zadd_k i3z803_ 1 1 1 7 b808_ (by decide) (by decide) (by decide) (by decide) (by decide)
                refine pw_blk hT 11 (S' := (10, [some (pvR 124), some (pvI x1_), some (pvI (i2z803_ ||| (1 <<< ((M960_.1 145 (Int32.toNatClampNeg i3z803_)) &&& 31)))), some (pvI (i3z803_ + 1)), some (pvI i4z952_)], [], M960_)) rfl ⟨trivial, trivial, rfl, trivial, ⟨rfl, (zr_in (n := 7) b808_ (by decide) (by decide))⟩, trivial, trivial, trivial, trivial, trivial, trivial, trivial⟩ ?_
                exact ihz803_ (i2z803_ ||| (1 <<< ((M960_.1 145 (Int32.toNatClampNeg i3z803_)) &&& 31))) (i3z803_ + 1) (some (pvI i4z952_)) M960_ o962_ f964_ (zr_wide b973_ (by decide) (by decide)) (zhid (pvms_up (zshow hmz803_) h3z803_ q974_ (by decide) (by decide)))
            · have b975_ : 0 ≤ Int32.toInt i4z952_ ∧ Int32.toInt i4z952_ ≤ 6 := zr_nle_r 6 c956_ h4z952_ b955_ (by decide)
              have d976_ : Int32.toInt (Mz952_.1 124 37) > Int32.toInt i4z952_ := Int.not_le.mp ((not_congr (zi_le _ _)).mp c956_)
              refine pw_blk hT 2 (S' := (38, [some (pvR 124), some (pvI x1_), some (pvI i2z803_), some (pvI i3z803_), some (pvI i4z952_)], [pvI i3z803_, pvI i4z952_], Mz952_)) rfl ⟨trivial, trivial, trivial⟩ ?_
              refine pw_icn hT (c := i4z952_ = i3z803_) rfl rfl (fun c977_ => ?_) (fun c977_ => ?_)
              · have b978_ : 0 ≤ Int32.toInt (Mz952_.1 145 (Int32.toNatClampNeg i4z952_)) ∧ Int32.toInt (Mz952_.1 145 (Int32.toNatClampNeg i4z952_)) ≤ 6 := pvok_r oz952_ 145 (Int32.toNatClampNeg i4z952_) rfl
                refine pw_blkw hT 9 (pc := 60) (lo := [some (pvR 124), some (pvI x1_), some (pvI i2z803_), some (pvI i3z803_), some (pvI i4z952_)]) (st := []) (M := pvu Mz952_ 144 (Int32.toNatClampNeg (Mz952_.1 124 35)) (Mz952_.1 145 (Int32.toNatClampNeg i4z952_))) rfl ⟨trivial, rfl, trivial, rfl, trivial, rfl, trivial, ⟨rfl, (zr_in (n := 7) b975_ (by decide) (by decide))⟩, ⟨rfl, (vp_in_iff.mpr (show 0 ≤ Int32.toInt (Mz952_.1 124 35) ∧ Int32.toInt (Mz952_.1 124 35) < ((7 : Nat) : Int) from (by have u0 := b953_; omega)))⟩, trivial⟩ (fun M979_ e980_ => ?_)
                have o981_ : pvOk M979_ := pvok_u2 e980_ oz952_ rfl b978_
                have f982_ : pvFr fp_X10_leave_124 M M979_ := pvfr_u e980_ fz952_ rfl
                have e983_ : (M979_.1 124 35) = (Mz952_.1 124 35) := (pvu_n e980_ 124 35 (Or.inl (by decide)))
                have b984_ : 0 ≤ Int32.toInt (M979_.1 124 35) ∧ Int32.toInt (M979_.1 124 35) ≤ 7 := pvok_r o981_ 124 35 rfl
                have d985_ : Int32.toInt (M979_.1 124 35) = Int32.toInt (Mz952_.1 124 35) := congrArg Int32.toInt e983_
                obtain ⟨q987_, b986_⟩ : (Int32.toInt ((M979_.1 124 35) + 1) = Int32.toInt (M979_.1 124 35) + 1) ∧ (1 ≤ Int32.toInt ((M979_.1 124 35) + 1) ∧ Int32.toInt ((M979_.1 124 35) + 1) ≤ 8) := zadd_k (M979_.1 124 35) 1 1 1 8 b984_ (by decide) (by decide) (by decide) (by decide) (by decide)
                refine pw_blkw hT 6 (pc := 70) (lo := [some (pvR 124), some (pvI x1_), some (pvI i2z803_), some (pvI i3z803_), some (pvI i4z952_)]) (st := []) (M := pvu M979_ 124 35 ((M979_.1 124 35) + 1)) rfl ⟨trivial, trivial, rfl, trivial, trivial, rfl, trivial⟩ (fun M988_ e989_ => ?_)
                have o990_ : pvOk M988_ := pvok_u2 e989_ o981_ rfl (by have u0 := b986_; omega)
                have f991_ : pvFr fp_X10_leave_124 M M988_ := pvfr_u e989_ f982_ rfl
                obtain ⟨q993_, b992_⟩ : (Int32.toInt (i4z952_ + 1) = Int32.toInt i4z952_ + 1) ∧ (1 ≤ Int32.toInt (i4z952_ + 1) ∧ Int32.toInt (i4z952_ + 1) ≤ 7) := zadd_k i4z952_ 1 1 1 7 b975_ (by decide) (by decide) (by decide) (by decide) (by decide)
                refine pw_blk hT 2 (S' := (26, [some (pvR 124), some (pvI x1_), some (pvI i2z803_), some (pvI i3z803_), some (pvI (i4z952_ + 1))], [], M988_)) rfl ⟨trivial, trivial, trivial⟩ ?_
                have j994_ : Int32.toInt (M988_.1 124 35) ≤ Int32.toInt (i4z952_ + 1) := by have y01 : Int32.toInt (M988_.1 124 35) = Int32.toInt ((M979_.1 124 35) + 1) := congrArg Int32.toInt (pvu_s e989_); have y02 : Int32.toInt (M979_.1 124 35) = Int32.toInt (Mz952_.1 124 35) := congrArg Int32.toInt (pvu_n e980_ 124 35 (Or.inl (by decide))); omega
                exact ihz952_ (i4z952_ + 1) M988_ o990_ f991_ (((pvu_n e989_ 124 37 (Or.inr (by decide))).trans (pvu_n e980_ 124 37 (Or.inl (by decide)))).trans (k124_37z952_)) (zr_wide b992_ (by decide) (by decide)) j994_ (zhid (by have hm0 := zshow hmz952_; have y01 : Int32.toInt (M988_.1 124 35) = Int32.toInt ((M979_.1 124 35) + 1) := congrArg Int32.toInt (pvu_s e989_); have y02 : Int32.toInt (M979_.1 124 35) = Int32.toInt (Mz952_.1 124 35) := congrArg Int32.toInt (pvu_n e980_ 124 35 (Or.inl (by decide))); omega))
              · have d995_ : Int32.toInt i4z952_ = Int32.toInt i3z803_ := (zi_eq _ _).mp c977_
                obtain ⟨q997_, b996_⟩ : (Int32.toInt (i4z952_ + 1) = Int32.toInt i4z952_ + 1) ∧ (1 ≤ Int32.toInt (i4z952_ + 1) ∧ Int32.toInt (i4z952_ + 1) ≤ 7) := zadd_k i4z952_ 1 1 1 7 b975_ (by decide) (by decide) (by decide) (by decide) (by decide)
                refine pw_blk hT 3 (S' := (26, [some (pvR 124), some (pvI x1_), some (pvI i2z803_), some (pvI i3z803_), some (pvI (i4z952_ + 1))], [], Mz952_)) rfl ⟨trivial, trivial, trivial, trivial⟩ ?_
                have j998_ : Int32.toInt (Mz952_.1 124 35) ≤ Int32.toInt (i4z952_ + 1) := by omega
                exact ihz952_ (i4z952_ + 1) Mz952_ oz952_ fz952_ (k124_37z952_) (zr_wide b996_ (by decide) (by decide)) j998_ (zhid (pvms_up (zshow hmz952_) h4z952_ q997_ (by decide) (by decide)))
        have u999_ : Int32.toInt 0 = 0 := by decide
        have j1000_ : Int32.toInt (M810_.1 124 35) ≤ Int32.toInt 0 := by have y01 : Int32.toInt (M810_.1 124 35) = Int32.toInt 0 := congrArg Int32.toInt (pvu_s e811_); have y03 : Int32.toInt 0 = 0 := (by decide); omega
        exact hlz952_ _ 0 M810_ o812_ f813_ rfl (zr_wide (show 0 ≤ Int32.toInt 0 ∧ Int32.toInt 0 ≤ 0 from (by decide)) (by decide) (by decide)) j1000_ (zhid (Nat.lt_succ_self _))
  exact hlz803_ _ 0 0 none M2_ o4_ f6_ (zr_wide (show 0 ≤ Int32.toInt 0 ∧ Int32.toInt 0 ≤ 0 from (by decide)) (by decide) (by decide)) (zhid (Nat.lt_succ_self _))
def fpL_X10_looked_124 : List (Nat × Nat × Nat) := [(0, 124, 36), (0, 143, 0), (0, 144, 0)]
def fp_X10_looked_124 (q k : Nat) : Bool := pvfp fpL_X10_looked_124 q k
theorem fp_X10_looked_124_fp_X10_goes_124_x_x_x (a b : Nat) (h : fp_X10_goes_124_x_x_x a b = true) : fp_X10_looked_124 a b = true := pvfp_sub (l1 := fpL_X10_goes_124_x_x_x) (l2 := fpL_X10_looked_124) (by decide) a b h
theorem fp_X10_looked_124_fp_X10_layOpen_124 (a b : Nat) (h : fp_X10_layOpen_124 a b = true) : fp_X10_looked_124 a b = true := pvfp_sub (l1 := fpL_X10_layOpen_124) (l2 := fpL_X10_looked_124) (by decide) a b h
theorem fp_X10_looked_124_fp_X10_layRound_124 (a b : Nat) (h : fp_X10_layRound_124 a b = true) : fp_X10_looked_124 a b = true := pvfp_sub (l1 := fpL_X10_layRound_124) (l2 := fpL_X10_looked_124) (by decide) a b h
set_option maxHeartbeats 4000000 in
set_option maxRecDepth 10000 in
theorem sf_X10_looked_124 (M : pvM) (hok : pvOk M) (d : Nat) : PW 53 d (0, [some (pvR 124), none, none], [], M) (fun r X => (∃ x : Int32, r = some (pvI x) ∧ (-5) ≤ Int32.toInt x ∧ Int32.toInt x ≤ 7) ∧ pvOk X ∧ pvFr fp_X10_looked_124 M X) := by
  have hT : pvdom 53 = pvD_53 := rfl
  refine pw_blk hT 1 (S' := (1, [some (pvR 124), none, none], [pvR 124], M)) rfl ⟨trivial, trivial⟩ ?_
  refine pw_callV hT (as := [pvR 124]) (lo1 := [some (pvR 124), none]) (d1 := d) (rest := []) rfl rfl rfl rfl rfl (fun _ => rfl) (Nat.zero_le _) rfl rfl rfl (sf_X10_layRound_124 M hok d) (fun M2_ o4_ g5_ => ?_)
  have f6_ : pvFr fp_X10_looked_124 M M2_ := pvfr_t g5_ pvfr_0 fp_X10_looked_124_fp_X10_layRound_124
  refine pw_blk hT 1 (S' := (5, [some (pvR 124), none, none], [pvR 124], M2_)) rfl ⟨trivial, trivial⟩ ?_
  refine pw_callV hT (as := [pvR 124]) (lo1 := [some (pvR 124), none]) (d1 := d) (rest := []) rfl rfl rfl rfl rfl (fun _ => rfl) (Nat.zero_le _) rfl rfl rfl (sf_X10_layOpen_124 M2_ o4_ d) (fun M8_ o10_ g11_ => ?_)
  have f12_ : pvFr fp_X10_looked_124 M M8_ := pvfr_t g11_ f6_ fp_X10_looked_124_fp_X10_layOpen_124
  have b13_ : 0 ≤ Int32.toInt (M8_.1 124 35) ∧ Int32.toInt (M8_.1 124 35) ≤ 7 := pvok_r o10_ 124 35 rfl
  have b14_ : 0 ≤ Int32.toInt (M8_.1 124 1) ∧ Int32.toInt (M8_.1 124 1) ≤ 9999 := pvok_r o10_ 124 1 rfl
  refine pw_blk hT 6 (S' := (18, [some (pvR 124), none, none], [pvI (M8_.1 124 1), pvI (M8_.1 124 35), pvI 0, pvR 124], M8_)) rfl ⟨trivial, trivial, trivial, rfl, trivial, rfl, trivial⟩ ?_
  refine pw_callG hT (as := [pvR 124, pvI 0, pvI (M8_.1 124 35), pvI (M8_.1 124 1)]) (lo1 := [some (pvR 124), some (pvI 0), some (pvI (M8_.1 124 35)), some (pvI (M8_.1 124 1)), none, none, none, none, none]) (d1 := d) (rest := []) rfl rfl rfl rfl rfl (fun _ => rfl) (Nat.zero_le _) rfl rfl rfl (sf_X10_goes_124_x_x_x M8_ o10_ 0 (M8_.1 124 35) (M8_.1 124 1) (zr_wide (show 0 ≤ Int32.toInt 0 ∧ Int32.toInt 0 ≤ 0 from (by decide)) (by decide) (by decide)) b13_ (zr_wide b14_ (by decide) (by decide)) d) (fun x15_ M16_ b17_ o18_ g19_ => ?_)
  have f20_ : pvFr fp_X10_looked_124 M M16_ := pvfr_t g19_ f12_ fp_X10_looked_124_fp_X10_goes_124_x_x_x
  refine pw_blk hT 3 (S' := (24, [some (pvR 124), some (pvI x15_), some (pvI 0)], [], M16_)) rfl ⟨trivial, trivial, trivial, trivial⟩ ?_
  have hlz72_ : ∀ (nz72_ : Nat) (i2z72_ : Int32), (0 ≤ Int32.toInt i2z72_ ∧ Int32.toInt i2z72_ ≤ 8) → (zhide ((9 - Int32.toInt i2z72_).toNat < nz72_)) → PW 53 d (24, [some (pvR 124), some (pvI x15_), some (pvI i2z72_)], [], M16_) (fun r X => (∃ x : Int32, r = some (pvI x) ∧ (-5) ≤ Int32.toInt x ∧ Int32.toInt x ≤ 7) ∧ pvOk X ∧ pvFr fp_X10_looked_124 M X) := by
    intro nz72_
    induction nz72_ with
    | zero => intro i2z72_ h2z72_ hmz72_; exact absurd (zshow hmz72_) (Nat.not_lt_zero _)
    | succ nz72_ ihz72_ =>
      intro i2z72_ h2z72_ hmz72_
      have b73_ : 0 ≤ Int32.toInt (M16_.1 124 43) ∧ Int32.toInt (M16_.1 124 43) ≤ 8 := pvok_r o18_ 124 43 rfl
      refine pw_blk hT 3 (S' := (29, [some (pvR 124), some (pvI x15_), some (pvI i2z72_)], [pvI (M16_.1 124 43), pvI i2z72_], M16_)) rfl ⟨trivial, trivial, rfl, trivial⟩ ?_
      refine pw_ic hT (c := (M16_.1 124 43) ≤ i2z72_) rfl rfl (fun c74_ => ?_) (fun c74_ => ?_)
      · have d75_ : Int32.toInt (M16_.1 124 43) ≤ Int32.toInt i2z72_ := (zi_le _ _).mp c74_
        refine pw_blk hT 1 (S' := (62, [some (pvR 124), some (pvI x15_), some (pvI i2z72_)], [pvI (-5)], M16_)) rfl ⟨trivial, trivial⟩ ?_
        exact pw_ret hT rfl (r := some (pvI (-5))) (M' := M16_) ⟨rfl, rfl⟩ ⟨⟨_, rfl, (zr_wide (show (-5) ≤ Int32.toInt (-5) ∧ Int32.toInt (-5) ≤ (-5) from (by decide)) (by decide) (by decide))⟩, o18_, f20_⟩
      · have b76_ : 1 ≤ Int32.toInt (M16_.1 124 43) ∧ Int32.toInt (M16_.1 124 43) ≤ 8 := zr_nle_l 1 c74_ b73_ h2z72_ (by decide)
        have b77_ : 0 ≤ Int32.toInt i2z72_ ∧ Int32.toInt i2z72_ ≤ 7 := zr_nle_r 7 c74_ h2z72_ b76_ (by decide)
        have d78_ : Int32.toInt (M16_.1 124 43) > Int32.toInt i2z72_ := Int.not_le.mp ((not_congr (zi_le _ _)).mp c74_)
        have b79_ : 0 ≤ Int32.toInt (M16_.1 149 (Int32.toNatClampNeg i2z72_)) ∧ Int32.toInt (M16_.1 149 (Int32.toNatClampNeg i2z72_)) ≤ 6 := pvok_r o18_ 149 (Int32.toNatClampNeg i2z72_) rfl
        have b80_ : (-1) ≤ Int32.toInt (M16_.1 143 (Int32.toNatClampNeg (M16_.1 149 (Int32.toNatClampNeg i2z72_)))) ∧ Int32.toInt (M16_.1 143 (Int32.toNatClampNeg (M16_.1 149 (Int32.toNatClampNeg i2z72_)))) ≤ 99999 := pvok_r o18_ 143 (Int32.toNatClampNeg (M16_.1 149 (Int32.toNatClampNeg i2z72_))) rfl
        have b81_ : 0 ≤ Int32.toInt (M16_.1 150 (Int32.toNatClampNeg i2z72_)) ∧ Int32.toInt (M16_.1 150 (Int32.toNatClampNeg i2z72_)) ≤ 9999 := pvok_r o18_ 150 (Int32.toNatClampNeg i2z72_) rfl
        refine pw_blk hT 11 (S' := (49, [some (pvR 124), some (pvI x15_), some (pvI i2z72_)], [pvI (M16_.1 150 (Int32.toNatClampNeg i2z72_)), pvI (M16_.1 143 (Int32.toNatClampNeg (M16_.1 149 (Int32.toNatClampNeg i2z72_))))], M16_)) rfl ⟨trivial, rfl, trivial, rfl, trivial, ⟨rfl, (zr_in (n := 8) b77_ (by decide) (by decide))⟩, ⟨rfl, (zr_in (n := 7) b79_ (by decide) (by decide))⟩, trivial, rfl, trivial, ⟨rfl, (zr_in (n := 8) b77_ (by decide) (by decide))⟩, trivial⟩ ?_
        refine pw_ic hT (c := (M16_.1 143 (Int32.toNatClampNeg (M16_.1 149 (Int32.toNatClampNeg i2z72_)))) ≤ (M16_.1 150 (Int32.toNatClampNeg i2z72_))) rfl rfl (fun c82_ => ?_) (fun c82_ => ?_)
        · have b83_ : (-1) ≤ Int32.toInt (M16_.1 143 (Int32.toNatClampNeg (M16_.1 149 (Int32.toNatClampNeg i2z72_)))) ∧ Int32.toInt (M16_.1 143 (Int32.toNatClampNeg (M16_.1 149 (Int32.toNatClampNeg i2z72_)))) ≤ 9999 := zr_le_l 9999 c82_ b80_ b81_ (by decide)
          have d84_ : Int32.toInt (M16_.1 143 (Int32.toNatClampNeg (M16_.1 149 (Int32.toNatClampNeg i2z72_)))) ≤ Int32.toInt (M16_.1 150 (Int32.toNatClampNeg i2z72_)) := (zi_le _ _).mp c82_
          obtain ⟨q86_, b85_⟩ : (Int32.toInt (i2z72_ + 1) = Int32.toInt i2z72_ + 1) ∧ (1 ≤ Int32.toInt (i2z72_ + 1) ∧ Int32.toInt (i2z72_ + 1) ≤ 8) := zadd_k i2z72_ 1 1 1 8 b77_ (by decide) (by decide) (by decide) (by decide) (by decide)
          refine pw_blk hT 2 (S' := (24, [some (pvR 124), some (pvI x15_), some (pvI (i2z72_ + 1))], [], M16_)) rfl ⟨trivial, trivial, trivial⟩ ?_
          exact ihz72_ (i2z72_ + 1) (zr_wide b85_ (by decide) (by decide)) (zhid (pvms_up (zshow hmz72_) h2z72_ q86_ (by decide) (by decide)))
        · have b87_ : 1 ≤ Int32.toInt (M16_.1 143 (Int32.toNatClampNeg (M16_.1 149 (Int32.toNatClampNeg i2z72_)))) ∧ Int32.toInt (M16_.1 143 (Int32.toNatClampNeg (M16_.1 149 (Int32.toNatClampNeg i2z72_)))) ≤ 99999 := zr_nle_l 1 c82_ b80_ b81_ (by decide)
          have d88_ : Int32.toInt (M16_.1 143 (Int32.toNatClampNeg (M16_.1 149 (Int32.toNatClampNeg i2z72_)))) > Int32.toInt (M16_.1 150 (Int32.toNatClampNeg i2z72_)) := Int.not_le.mp ((not_congr (zi_le _ _)).mp c82_)
          refine pw_blk hT 1 (S' := (53, [some (pvR 124), some (pvI x15_), some (pvI i2z72_)], [pvI i2z72_], M16_)) rfl ⟨trivial, trivial⟩ ?_
          exact pw_ret hT rfl (r := some (pvI i2z72_)) (M' := M16_) ⟨rfl, rfl⟩ ⟨⟨_, rfl, (zr_wide b77_ (by decide) (by decide))⟩, o18_, f20_⟩
  exact hlz72_ _ 0 (zr_wide (show 0 ≤ Int32.toInt 0 ∧ Int32.toInt 0 ≤ 0 from (by decide)) (by decide) (by decide)) (zhid (Nat.lt_succ_self _))
set_option maxHeartbeats 4000000 in
set_option maxRecDepth 10000 in
theorem sf_X10_lowest_124_x_x_x (M : pvM) (hok : pvOk M) (n1 : Int32) (n2 : Int32) (n3 : Int32) (hn1 : 0 ≤ Int32.toInt n1 ∧ Int32.toInt n1 ≤ 90000000) (hn2 : 1 ≤ Int32.toInt n2 ∧ Int32.toInt n2 ≤ 10) (d : Nat) : PW 54 d (0, [some (pvR 124), some (pvI n1), some (pvI n2), some (pvI n3), none], [], M) (fun r X => (∃ x : Int64, r = some (pvJ x)) ∧ X = M) := by
  have hT : pvdom 54 = pvD_54 := rfl
  refine pw_blk hT 3 (S' := (3, [some (pvR 124), some (pvI n1), some (pvI n2), some (pvI n3), none], [pvI n2, pvI n1, pvR 124], M)) rfl ⟨trivial, trivial, trivial, trivial⟩ ?_
  refine pw_callGp hT (as := [pvR 124, pvI n1, pvI n2]) (lo1 := [some (pvR 124), some (pvI n1), some (pvI n2), none, none, none]) (d1 := d) (rest := []) rfl rfl rfl rfl rfl (fun _ => rfl) (Nat.zero_le _) rfl rfl rfl (sf_X10_divisor_124_x_x M hok n1 n2 hn1 hn2 d) (fun x1_ b3_ => ?_)
  refine pw_blk hT 2 (S' := (9, [some (pvR 124), some (pvI n1), some (pvI n2), some (pvI n3), some (pvI x1_)], [pvI n3], M)) rfl ⟨trivial, trivial, trivial⟩ ?_
  refine pw_ifn hT (c := n3 = 0) rfl rfl (fun c6_ => ?_) (fun c6_ => ?_)
  · refine pw_blk hT 4 (S' := (25, [some (pvR 124), some (pvI n1), some (pvI n2), some (pvI n3), some (pvI x1_)], [pvJ (Int32.toInt64 (n2 / x1_))], M)) rfl ⟨trivial, trivial, (fun z0 => by have u0 := b3_; have u1 := (zi_eq _ _).mp z0; have u2 : (0 : Int32).toInt = 0 := (by decide); omega), trivial, trivial⟩ ?_
    exact pw_ret hT rfl (r := some (pvJ (Int32.toInt64 (n2 / x1_)))) (M' := M) ⟨rfl, rfl⟩ ⟨⟨_, rfl⟩, rfl⟩
  · have b7_ : 0 ≤ Int32.toInt n3 ∧ Int32.toInt n3 ≤ 0 := (by have u0 := (zbnd n3); have u1 := (zi_eq _ _).mp c6_; have u2 := (show 0 ≤ Int32.toInt 0 ∧ Int32.toInt 0 ≤ 0 from (by decide)); omega)
    refine pw_blk hT 5 (S' := (25, [some (pvR 124), some (pvI n1), some (pvI n2), some (pvI n3), some (pvI x1_)], [pvJ (Int32.toInt64 (n1 / x1_))], M)) rfl ⟨trivial, trivial, (fun z0 => by have u0 := b3_; have u1 := (zi_eq _ _).mp z0; have u2 : (0 : Int32).toInt = 0 := (by decide); omega), trivial, trivial, trivial⟩ ?_
    exact pw_ret hT rfl (r := some (pvJ (Int32.toInt64 (n1 / x1_)))) (M' := M) ⟨rfl, rfl⟩ ⟨⟨_, rfl⟩, rfl⟩
def fpL_X10_mean_124_x : List (Nat × Nat × Nat) := [(0, 124, 4), (0, 124, 33), (0, 124, 36), (0, 141, 0), (0, 142, 0), (0, 143, 0), (0, 144, 0)]
def fp_X10_mean_124_x (q k : Nat) : Bool := pvfp fpL_X10_mean_124_x q k
theorem fp_X10_mean_124_x_fp_X10_costOfRound_124_x (a b : Nat) (h : fp_X10_costOfRound_124_x a b = true) : fp_X10_mean_124_x a b = true := pvfp_sub (l1 := fpL_X10_costOfRound_124_x) (l2 := fpL_X10_mean_124_x) (by decide) a b h
set_option maxHeartbeats 4000000 in
set_option maxRecDepth 10000 in
theorem sf_X10_mean_124_x (M : pvM) (hok : pvOk M) (n1 : Int32) (hx0 : Int32.toInt (M.1 124 3) ≤ 99) (d : Nat) : PW 55 d (0, [some (pvR 124), some (pvI n1), none, none, none], [], M) (fun r X => (∃ x : Int64, r = some (pvJ x)) ∧ pvOk X ∧ pvFr fp_X10_mean_124_x M X ∧ X.1 124 3 = M.1 124 3) := by
  have hT : pvdom 55 = pvD_55 := rfl
  refine pw_blk hT 4 (S' := (4, [some (pvR 124), some (pvI n1), none, none, none], [pvI 1, pvI 0, pvI n1, pvR 124], M)) rfl ⟨trivial, trivial, trivial, trivial, trivial⟩ ?_
  refine pw_callT hT (as := [pvR 124, pvI n1, pvI 0, pvI 1]) (lo1 := [some (pvR 124), some (pvI n1), some (pvI 0), some (pvI 1)]) (d1 := d) (rest := []) rfl rfl rfl rfl rfl (fun _ => rfl) (Nat.zero_le _) rfl rfl rfl (sf_X10_in_124_x_x_x M hok n1 0 1 d) ?_
  by_cases c6_ : n1 < 0
  · refine pw_eqI (if_pos c6_) ?_
    have b7_ : (-2147483648) ≤ Int32.toInt n1 ∧ Int32.toInt n1 ≤ (-1) := zr_lt_l (-1) c6_ (zbnd n1) (show 0 ≤ Int32.toInt 0 ∧ Int32.toInt 0 ≤ 0 from (by decide)) (by decide)
    show PW 55 d (7, [some (pvR 124), some (pvI n1), none, none, none], [pvI 0], M) _
    refine pw_ifn hT (c := 0 = 0) rfl rfl (fun c8_ => absurd (by decide) c8_) (fun c8_ => ?_)
    refine pw_blk hT 1 (S' := (13, [some (pvR 124), some (pvI n1), none, none, none], [pvJ (-9223372036854775808)], M)) rfl ⟨trivial, trivial⟩ ?_
    exact pw_ret hT rfl (r := some (pvJ (-9223372036854775808))) (M' := M) ⟨rfl, rfl⟩ ⟨⟨_, rfl⟩, hok, pvfr_0, rfl⟩
  · refine pw_eqI (if_neg c6_) ?_
    have b9_ : 0 ≤ Int32.toInt n1 ∧ Int32.toInt n1 ≤ 2147483647 := zr_nlt_l 0 c6_ (zbnd n1) (show 0 ≤ Int32.toInt 0 ∧ Int32.toInt 0 ≤ 0 from (by decide)) (by decide)
    by_cases c10_ : 1 < n1
    · refine pw_eqI (if_pos c10_) ?_
      have b11_ : 2 ≤ Int32.toInt n1 ∧ Int32.toInt n1 ≤ 2147483647 := zr_lt_r 2 c10_ b9_ (show 1 ≤ Int32.toInt 1 ∧ Int32.toInt 1 ≤ 1 from (by decide)) (by decide)
      show PW 55 d (7, [some (pvR 124), some (pvI n1), none, none, none], [pvI 0], M) _
      refine pw_ifn hT (c := 0 = 0) rfl rfl (fun c12_ => absurd (by decide) c12_) (fun c12_ => ?_)
      refine pw_blk hT 1 (S' := (13, [some (pvR 124), some (pvI n1), none, none, none], [pvJ (-9223372036854775808)], M)) rfl ⟨trivial, trivial⟩ ?_
      exact pw_ret hT rfl (r := some (pvJ (-9223372036854775808))) (M' := M) ⟨rfl, rfl⟩ ⟨⟨_, rfl⟩, hok, pvfr_0, rfl⟩
    · refine pw_eqI (if_neg c10_) ?_
      have b13_ : 0 ≤ Int32.toInt n1 ∧ Int32.toInt n1 ≤ 1 := zr_nlt_r 1 c10_ b9_ (show 1 ≤ Int32.toInt 1 ∧ Int32.toInt 1 ≤ 1 from (by decide)) (by decide)
      show PW 55 d (7, [some (pvR 124), some (pvI n1), none, none, none], [pvI 1], M) _
      refine pw_ifn hT (c := 1 = 0) rfl rfl (fun c14_ => ?_) (fun c14_ => absurd c14_ (by decide))
      have b15_ : 0 ≤ Int32.toInt (M.1 124 3) ∧ Int32.toInt (M.1 124 3) ≤ 108 := pvok_r hok 124 3 rfl
      refine pw_blk hT 7 (S' := (24, [some (pvR 124), some (pvI n1), some (pvI (M.1 124 3)), some (pvI 0), some (pvI 0)], [], M)) rfl ⟨trivial, rfl, trivial, trivial, trivial, trivial, trivial, trivial⟩ ?_
      have hlz117_ : ∀ (nz117_ : Nat) (i3z117_ : Int32) (i4z117_ : Int32) (Mz117_ : pvM), (pvOk Mz117_) → (pvFr fp_X10_mean_124_x M Mz117_) → (0 ≤ Int32.toInt i3z117_ ∧ Int32.toInt i3z117_ ≤ 90000000) → (0 ≤ Int32.toInt i4z117_ ∧ Int32.toInt i4z117_ ≤ 10) → (Int32.toInt i3z117_ ≤ 9000000 * Int32.toInt i4z117_) → (zhide ((11 - Int32.toInt i4z117_).toNat < nz117_)) → PW 55 d (24, [some (pvR 124), some (pvI n1), some (pvI (M.1 124 3)), some (pvI i3z117_), some (pvI i4z117_)], [], Mz117_) (fun r X => (∃ x : Int64, r = some (pvJ x)) ∧ pvOk X ∧ pvFr fp_X10_mean_124_x M X ∧ X.1 124 3 = M.1 124 3) := by
        intro nz117_
        induction nz117_ with
        | zero => intro i3z117_ i4z117_ Mz117_ oz117_ fz117_ h3z117_ h4z117_ j0z117_ hmz117_; exact absurd (zshow hmz117_) (Nat.not_lt_zero _)
        | succ nz117_ ihz117_ =>
          intro i3z117_ i4z117_ Mz117_ oz117_ fz117_ h3z117_ h4z117_ j0z117_ hmz117_
          refine pw_blk hT 2 (S' := (28, [some (pvR 124), some (pvI n1), some (pvI (M.1 124 3)), some (pvI i3z117_), some (pvI i4z117_)], [pvI 10, pvI i4z117_], Mz117_)) rfl ⟨trivial, trivial, trivial⟩ ?_
          refine pw_ic hT (c := 10 ≤ i4z117_) rfl rfl (fun c118_ => ?_) (fun c118_ => ?_)
          · have b119_ : 10 ≤ Int32.toInt i4z117_ ∧ Int32.toInt i4z117_ ≤ 10 := zr_le_r 10 c118_ h4z117_ (show 10 ≤ Int32.toInt 10 ∧ Int32.toInt 10 ≤ 10 from (by decide)) (by decide)
            refine pw_blkw hT 3 (pc := 58) (lo := [some (pvR 124), some (pvI n1), some (pvI (M.1 124 3)), some (pvI i3z117_), some (pvI i4z117_)]) (st := []) (M := pvu Mz117_ 124 3 (M.1 124 3)) rfl ⟨trivial, trivial, rfl, trivial⟩ (fun M120_ e121_ => ?_)
            have o122_ : pvOk M120_ := pvok_u2 e121_ oz117_ rfl b15_
            have f123_ : pvFr fp_X10_mean_124_x M M120_ := pvfr_u e121_ fz117_ rfl
            refine pw_blk hT 4 (S' := (63, [some (pvR 124), some (pvI n1), some (pvI (M.1 124 3)), some (pvI i3z117_), some (pvI i4z117_)], [pvI n1, pvI 10, pvI i3z117_, pvR 124], M120_)) rfl ⟨trivial, trivial, trivial, trivial, trivial⟩ ?_
            refine pw_callJp hT (as := [pvR 124, pvI i3z117_, pvI 10, pvI n1]) (lo1 := [some (pvR 124), some (pvI i3z117_), some (pvI 10), some (pvI n1), none]) (d1 := d) (rest := []) rfl rfl rfl rfl rfl (fun _ => rfl) (Nat.zero_le _) rfl rfl rfl (sf_X10_lowest_124_x_x_x M120_ o122_ i3z117_ 10 n1 h3z117_ (zr_wide (show 10 ≤ Int32.toInt 10 ∧ Int32.toInt 10 ≤ 10 from (by decide)) (by decide) (by decide)) d) (fun x124_ b126_ => ?_)
            exact pw_ret hT rfl (r := some (pvJ x124_)) (M' := M120_) ⟨rfl, rfl⟩ ⟨⟨_, rfl⟩, o122_, f123_, (pvu_s e121_)⟩
          · have b129_ : 0 ≤ Int32.toInt i4z117_ ∧ Int32.toInt i4z117_ ≤ 9 := zr_nle_r 9 c118_ h4z117_ (show 10 ≤ Int32.toInt 10 ∧ Int32.toInt 10 ≤ 10 from (by decide)) (by decide)
            obtain ⟨q131_, b130_⟩ : (Int32.toInt ((M.1 124 3) + i4z117_) = Int32.toInt (M.1 124 3) + Int32.toInt i4z117_) ∧ (0 ≤ Int32.toInt ((M.1 124 3) + i4z117_) ∧ Int32.toInt ((M.1 124 3) + i4z117_) ≤ 117) := zadd_r (M.1 124 3) i4z117_ 0 117 b15_ b129_ (by decide) (by decide) (by decide) (by decide)
            refine pw_blkw hT 5 (pc := 39) (lo := [some (pvR 124), some (pvI n1), some (pvI (M.1 124 3)), some (pvI i3z117_), some (pvI i4z117_)]) (st := []) (M := pvu Mz117_ 124 3 ((M.1 124 3) + i4z117_)) rfl ⟨trivial, trivial, trivial, trivial, rfl, trivial⟩ (fun M132_ e133_ => ?_)
            have o134_ : pvOk M132_ := pvok_u2 e133_ oz117_ rfl (by have u0 := b130_; omega)
            have f135_ : pvFr fp_X10_mean_124_x M M132_ := pvfr_u e133_ fz117_ rfl
            refine pw_blk hT 3 (S' := (42, [some (pvR 124), some (pvI n1), some (pvI (M.1 124 3)), some (pvI i3z117_), some (pvI i4z117_)], [pvI 0, pvR 124, pvI i3z117_], M132_)) rfl ⟨trivial, trivial, trivial, trivial⟩ ?_
            refine pw_callG hT (as := [pvR 124, pvI 0]) (lo1 := [some (pvR 124), some (pvI 0)]) (d1 := d) (rest := [pvI i3z117_]) rfl rfl rfl rfl rfl (fun _ => rfl) (Nat.zero_le _) rfl rfl rfl (sf_X10_costOfRound_124_x M132_ o134_ 0 (zr_wide (show 0 ≤ Int32.toInt 0 ∧ Int32.toInt 0 ≤ 0 from (by decide)) (by decide) (by decide)) d) (fun x136_ M137_ b138_ o139_ g140_ => ?_)
            have f141_ : pvFr fp_X10_mean_124_x M M137_ := pvfr_t g140_ f135_ fp_X10_mean_124_x_fp_X10_costOfRound_124_x
            obtain ⟨q143_, b142_⟩ : (Int32.toInt (i3z117_ + x136_) = Int32.toInt i3z117_ + Int32.toInt x136_) ∧ (0 ≤ Int32.toInt (i3z117_ + x136_) ∧ Int32.toInt (i3z117_ + x136_) ≤ 99000000) := zadd_r i3z117_ x136_ 0 99000000 h3z117_ b138_ (by decide) (by decide) (by decide) (by decide)
            obtain ⟨q145_, b144_⟩ : (Int32.toInt (i4z117_ + 1) = Int32.toInt i4z117_ + 1) ∧ (1 ≤ Int32.toInt (i4z117_ + 1) ∧ Int32.toInt (i4z117_ + 1) ≤ 10) := zadd_k i4z117_ 1 1 1 10 b129_ (by decide) (by decide) (by decide) (by decide) (by decide)
            refine pw_blk hT 4 (S' := (24, [some (pvR 124), some (pvI n1), some (pvI (M.1 124 3)), some (pvI (i3z117_ + x136_)), some (pvI (i4z117_ + 1))], [], M137_)) rfl ⟨trivial, trivial, trivial, trivial, trivial⟩ ?_
            have j146_ : Int32.toInt (i3z117_ + x136_) ≤ 9000000 * Int32.toInt (i4z117_ + 1) := by omega
            exact ihz117_ (i3z117_ + x136_) (i4z117_ + 1) M137_ o139_ f141_ (by have u0 := b142_; omega) (zr_wide b144_ (by decide) (by decide)) j146_ (zhid (pvms_up (zshow hmz117_) h4z117_ q145_ (by decide) (by decide)))
      have u147_ : Int32.toInt 0 = 0 := by decide
      have j148_ : Int32.toInt 0 ≤ 9000000 * Int32.toInt 0 := by omega
      exact hlz117_ _ 0 0 M hok pvfr_0 (zr_wide (show 0 ≤ Int32.toInt 0 ∧ Int32.toInt 0 ≤ 0 from (by decide)) (by decide) (by decide)) (zr_wide (show 0 ≤ Int32.toInt 0 ∧ Int32.toInt 0 ≤ 0 from (by decide)) (by decide) (by decide)) j148_ (zhid (Nat.lt_succ_self _))
