set_option maxHeartbeats 4000000 in
set_option maxRecDepth 10000 in
theorem sf_X10_peek_124 (M : pvM) (hok : pvOk M) (d : Nat) : PW 64 d (0, [some (pvR 124)], [], M) (fun r X => r = some (pvI ((if (M.1 124 16) ≤ (M.1 124 17) then (-1) else (M.1 132 (Int32.toNatClampNeg (M.1 124 17)))))) ∧ X = M) := by
  have hT : pvdom 64 = pvD_64 := rfl
  have b1_ : 0 ≤ Int32.toInt (M.1 124 17) ∧ Int32.toInt (M.1 124 17) ≤ 100 := pvok_r hok 124 17 rfl
  have b2_ : 0 ≤ Int32.toInt (M.1 124 16) ∧ Int32.toInt (M.1 124 16) ≤ 100 := pvok_r hok 124 16 rfl
  refine pw_blk hT 4 (S' := (8, [some (pvR 124)], [pvI (M.1 124 16), pvI (M.1 124 17)], M)) rfl ⟨trivial, rfl, trivial, rfl, trivial⟩ ?_
  refine pw_ic hT (c := (M.1 124 16) ≤ (M.1 124 17)) rfl rfl (fun c3_ => ?_) (fun c3_ => ?_)
  · have d4_ : Int32.toInt (M.1 124 16) ≤ Int32.toInt (M.1 124 17) := (zi_le _ _).mp c3_
    refine pw_blk hT 1 (S' := (24, [some (pvR 124)], [pvI (-1)], M)) rfl ⟨trivial, trivial⟩ ?_
    exact pw_ret hT rfl (r := some (pvI (-1))) (M' := M) ⟨rfl, rfl⟩ ⟨(by rw [if_pos c3_]), rfl⟩
  · have b5_ : 1 ≤ Int32.toInt (M.1 124 16) ∧ Int32.toInt (M.1 124 16) ≤ 100 := zr_nle_l 1 c3_ b2_ b1_ (by decide)
    have b6_ : 0 ≤ Int32.toInt (M.1 124 17) ∧ Int32.toInt (M.1 124 17) ≤ 99 := zr_nle_r 99 c3_ b1_ b5_ (by decide)
    have d7_ : Int32.toInt (M.1 124 16) > Int32.toInt (M.1 124 17) := Int.not_le.mp ((not_congr (zi_le _ _)).mp c3_)
    have b8_ : 0 ≤ Int32.toInt (M.1 132 (Int32.toNatClampNeg (M.1 124 17))) ∧ Int32.toInt (M.1 132 (Int32.toNatClampNeg (M.1 124 17))) ≤ 127 := pvok_r hok 132 (Int32.toNatClampNeg (M.1 124 17)) rfl
    refine pw_blk hT 6 (S' := (24, [some (pvR 124)], [pvI (M.1 132 (Int32.toNatClampNeg (M.1 124 17)))], M)) rfl ⟨trivial, rfl, trivial, rfl, ⟨rfl, (zr_in (n := 100) b6_ (by decide) (by decide))⟩, trivial, trivial⟩ ?_
    exact pw_ret hT rfl (r := some (pvI (M.1 132 (Int32.toNatClampNeg (M.1 124 17))))) (M' := M) ⟨rfl, rfl⟩ ⟨(by rw [if_neg c3_]), rfl⟩
set_option maxHeartbeats 4000000 in
set_option maxRecDepth 10000 in
theorem sf_X10_isDigit_124 (M : pvM) (hok : pvOk M) (d : Nat) : PW 37 d (0, [some (pvR 124)], [], M) (fun r X => r = some (pvI ((if (M.1 124 16) ≤ (M.1 124 17) then 0 else (if (M.1 132 (Int32.toNatClampNeg (M.1 124 17))) < 48 then 0 else (if 57 < (M.1 132 (Int32.toNatClampNeg (M.1 124 17))) then 0 else 1))))) ∧ X = M) := by
  have hT : pvdom 37 = pvD_37 := rfl
  refine pw_blk hT 2 (S' := (2, [some (pvR 124)], [pvR 124, pvR 124], M)) rfl ⟨trivial, trivial, trivial⟩ ?_
  refine pw_callT hT (as := [pvR 124]) (lo1 := [some (pvR 124)]) (d1 := d) (rest := [pvR 124]) rfl rfl rfl rfl rfl (fun _ => rfl) (Nat.zero_le _) rfl rfl rfl (sf_X10_peek_124 M hok d) ?_
  have b6_ : 0 ≤ Int32.toInt (M.1 124 16) ∧ Int32.toInt (M.1 124 16) ≤ 100 := pvok_r hok 124 16 rfl
  have b7_ : 0 ≤ Int32.toInt (M.1 124 17) ∧ Int32.toInt (M.1 124 17) ≤ 100 := pvok_r hok 124 17 rfl
  by_cases c8_ : (M.1 124 16) ≤ (M.1 124 17)
  · refine pw_eqI (if_pos c8_) ?_
    have d9_ : Int32.toInt (M.1 124 16) ≤ Int32.toInt (M.1 124 17) := (zi_le _ _).mp c8_
    show PW 37 d (5, [some (pvR 124)], [pvI (-1), pvR 124], M) _
    refine pw_blk hT 2 (S' := (9, [some (pvR 124)], [pvI 57, pvI 48, pvI (-1), pvR 124], M)) rfl ⟨trivial, trivial, trivial⟩ ?_
    refine pw_callT hT (as := [pvR 124, pvI (-1), pvI 48, pvI 57]) (lo1 := [some (pvR 124), some (pvI (-1)), some (pvI 48), some (pvI 57)]) (d1 := d) (rest := []) rfl rfl rfl rfl rfl (fun _ => rfl) (Nat.zero_le _) rfl rfl rfl (sf_X10_in_124_x_x_x M hok (-1) 48 57 d) ?_
    refine pw_eqI (if_pos (by decide)) ?_
    show PW 37 d (12, [some (pvR 124)], [pvI 0], M) _
    exact pw_ret hT rfl (r := some (pvI 0)) (M' := M) ⟨Or.inl rfl, rfl, rfl⟩ ⟨(by rw [if_pos c8_]), rfl⟩
  · refine pw_eqI (if_neg c8_) ?_
    have b15_ : 1 ≤ Int32.toInt (M.1 124 16) ∧ Int32.toInt (M.1 124 16) ≤ 100 := zr_nle_l 1 c8_ b6_ b7_ (by decide)
    have b16_ : 0 ≤ Int32.toInt (M.1 124 17) ∧ Int32.toInt (M.1 124 17) ≤ 99 := zr_nle_r 99 c8_ b7_ b15_ (by decide)
    have d17_ : Int32.toInt (M.1 124 16) > Int32.toInt (M.1 124 17) := Int.not_le.mp ((not_congr (zi_le _ _)).mp c8_)
    have b18_ : 0 ≤ Int32.toInt (M.1 132 (Int32.toNatClampNeg (M.1 124 17))) ∧ Int32.toInt (M.1 132 (Int32.toNatClampNeg (M.1 124 17))) ≤ 127 := pvok_r hok 132 (Int32.toNatClampNeg (M.1 124 17)) rfl
    show PW 37 d (5, [some (pvR 124)], [pvI (M.1 132 (Int32.toNatClampNeg (M.1 124 17))), pvR 124], M) _
    refine pw_blk hT 2 (S' := (9, [some (pvR 124)], [pvI 57, pvI 48, pvI (M.1 132 (Int32.toNatClampNeg (M.1 124 17))), pvR 124], M)) rfl ⟨trivial, trivial, trivial⟩ ?_
    refine pw_callT hT (as := [pvR 124, pvI (M.1 132 (Int32.toNatClampNeg (M.1 124 17))), pvI 48, pvI 57]) (lo1 := [some (pvR 124), some (pvI (M.1 132 (Int32.toNatClampNeg (M.1 124 17)))), some (pvI 48), some (pvI 57)]) (d1 := d) (rest := []) rfl rfl rfl rfl rfl (fun _ => rfl) (Nat.zero_le _) rfl rfl rfl (sf_X10_in_124_x_x_x M hok (M.1 132 (Int32.toNatClampNeg (M.1 124 17))) 48 57 d) ?_
    by_cases c24_ : (M.1 132 (Int32.toNatClampNeg (M.1 124 17))) < 48
    · refine pw_eqI (if_pos c24_) ?_
      have b25_ : 0 ≤ Int32.toInt (M.1 132 (Int32.toNatClampNeg (M.1 124 17))) ∧ Int32.toInt (M.1 132 (Int32.toNatClampNeg (M.1 124 17))) ≤ 47 := zr_lt_l 47 c24_ b18_ (show 48 ≤ Int32.toInt 48 ∧ Int32.toInt 48 ≤ 48 from (by decide)) (by decide)
      show PW 37 d (12, [some (pvR 124)], [pvI 0], M) _
      exact pw_ret hT rfl (r := some (pvI 0)) (M' := M) ⟨Or.inl rfl, rfl, rfl⟩ ⟨(by rw [if_neg c8_, if_pos c24_]), rfl⟩
    · refine pw_eqI (if_neg c24_) ?_
      have b26_ : 48 ≤ Int32.toInt (M.1 132 (Int32.toNatClampNeg (M.1 124 17))) ∧ Int32.toInt (M.1 132 (Int32.toNatClampNeg (M.1 124 17))) ≤ 127 := zr_nlt_l 48 c24_ b18_ (show 48 ≤ Int32.toInt 48 ∧ Int32.toInt 48 ≤ 48 from (by decide)) (by decide)
      by_cases c27_ : 57 < (M.1 132 (Int32.toNatClampNeg (M.1 124 17)))
      · refine pw_eqI (if_pos c27_) ?_
        have b28_ : 58 ≤ Int32.toInt (M.1 132 (Int32.toNatClampNeg (M.1 124 17))) ∧ Int32.toInt (M.1 132 (Int32.toNatClampNeg (M.1 124 17))) ≤ 127 := zr_lt_r 58 c27_ b26_ (show 57 ≤ Int32.toInt 57 ∧ Int32.toInt 57 ≤ 57 from (by decide)) (by decide)
        show PW 37 d (12, [some (pvR 124)], [pvI 0], M) _
        exact pw_ret hT rfl (r := some (pvI 0)) (M' := M) ⟨Or.inl rfl, rfl, rfl⟩ ⟨(by rw [if_neg c8_, if_neg c24_, if_pos c27_]), rfl⟩
      · refine pw_eqI (if_neg c27_) ?_
        have b29_ : 48 ≤ Int32.toInt (M.1 132 (Int32.toNatClampNeg (M.1 124 17))) ∧ Int32.toInt (M.1 132 (Int32.toNatClampNeg (M.1 124 17))) ≤ 57 := zr_nlt_r 57 c27_ b26_ (show 57 ≤ Int32.toInt 57 ∧ Int32.toInt 57 ≤ 57 from (by decide)) (by decide)
        show PW 37 d (12, [some (pvR 124)], [pvI 1], M) _
        exact pw_ret hT rfl (r := some (pvI 1)) (M' := M) ⟨Or.inr rfl, rfl, rfl⟩ ⟨(by rw [if_neg c8_, if_neg c24_, if_neg c27_]), rfl⟩
set_option maxHeartbeats 4000000 in
set_option maxRecDepth 10000 in
theorem sf_X10_isLimit_124_x (M : pvM) (hok : pvOk M) (n1 : Int32) (d : Nat) : PW 38 d (0, [some (pvR 124), some (pvI n1)], [], M) (fun r X => r = some (pvI ((if n1 < 0 then 0 else (if 99999 < n1 then 0 else 1)))) ∧ X = M) := by
  have hT : pvdom 38 = pvD_38 := rfl
  refine pw_blk hT 4 (S' := (6, [some (pvR 124), some (pvI n1)], [pvI 99999, pvI 0, pvI n1, pvR 124], M)) rfl ⟨trivial, trivial, trivial, trivial, trivial⟩ ?_
  refine pw_callT hT (as := [pvR 124, pvI n1, pvI 0, pvI 99999]) (lo1 := [some (pvR 124), some (pvI n1), some (pvI 0), some (pvI 99999)]) (d1 := d) (rest := []) rfl rfl rfl rfl rfl (fun _ => rfl) (Nat.zero_le _) rfl rfl rfl (sf_X10_in_124_x_x_x M hok n1 0 99999 d) ?_
  by_cases c6_ : n1 < 0
  · refine pw_eqI (if_pos c6_) ?_
    have b7_ : (-2147483648) ≤ Int32.toInt n1 ∧ Int32.toInt n1 ≤ (-1) := zr_lt_l (-1) c6_ (zbnd n1) (show 0 ≤ Int32.toInt 0 ∧ Int32.toInt 0 ≤ 0 from (by decide)) (by decide)
    show PW 38 d (9, [some (pvR 124), some (pvI n1)], [pvI 0], M) _
    exact pw_ret hT rfl (r := some (pvI 0)) (M' := M) ⟨Or.inl rfl, rfl, rfl⟩ ⟨(by rw [if_pos c6_]), rfl⟩
  · refine pw_eqI (if_neg c6_) ?_
    have b8_ : 0 ≤ Int32.toInt n1 ∧ Int32.toInt n1 ≤ 2147483647 := zr_nlt_l 0 c6_ (zbnd n1) (show 0 ≤ Int32.toInt 0 ∧ Int32.toInt 0 ≤ 0 from (by decide)) (by decide)
    by_cases c9_ : 99999 < n1
    · refine pw_eqI (if_pos c9_) ?_
      have b10_ : 100000 ≤ Int32.toInt n1 ∧ Int32.toInt n1 ≤ 2147483647 := zr_lt_r 100000 c9_ b8_ (show 99999 ≤ Int32.toInt 99999 ∧ Int32.toInt 99999 ≤ 99999 from (by decide)) (by decide)
      show PW 38 d (9, [some (pvR 124), some (pvI n1)], [pvI 0], M) _
      exact pw_ret hT rfl (r := some (pvI 0)) (M' := M) ⟨Or.inl rfl, rfl, rfl⟩ ⟨(by rw [if_neg c6_, if_pos c9_]), rfl⟩
    · refine pw_eqI (if_neg c9_) ?_
      have b11_ : 0 ≤ Int32.toInt n1 ∧ Int32.toInt n1 ≤ 99999 := zr_nlt_r 99999 c9_ b8_ (show 99999 ≤ Int32.toInt 99999 ∧ Int32.toInt 99999 ≤ 99999 from (by decide)) (by decide)
      show PW 38 d (9, [some (pvR 124), some (pvI n1)], [pvI 1], M) _
      exact pw_ret hT rfl (r := some (pvI 1)) (M' := M) ⟨Or.inr rfl, rfl, rfl⟩ ⟨(by rw [if_neg c6_, if_neg c9_]), rfl⟩
set_option maxHeartbeats 4000000 in
set_option maxRecDepth 10000 in
theorem sf_X10_isPlace_124_x_x (M : pvM) (hok : pvOk M) (n1 : Int32) (n2 : Int32) (d : Nat) : PW 40 d (0, [some (pvR 124), some (pvI n1), some (pvI n2)], [], M) (fun r X => r = some (pvI ((if n1 < 0 then 0 else (if 3 < n1 then 0 else (if n2 < 0 then 0 else (if 4 < n2 then 0 else 1)))))) ∧ X = M) := by
  have hT : pvdom 40 = pvD_40 := rfl
  refine pw_blk hT 4 (S' := (4, [some (pvR 124), some (pvI n1), some (pvI n2)], [pvI 3, pvI 0, pvI n1, pvR 124], M)) rfl ⟨trivial, trivial, trivial, trivial, trivial⟩ ?_
  refine pw_callT hT (as := [pvR 124, pvI n1, pvI 0, pvI 3]) (lo1 := [some (pvR 124), some (pvI n1), some (pvI 0), some (pvI 3)]) (d1 := d) (rest := []) rfl rfl rfl rfl rfl (fun _ => rfl) (Nat.zero_le _) rfl rfl rfl (sf_X10_in_124_x_x_x M hok n1 0 3 d) ?_
  by_cases c6_ : n1 < 0
  · refine pw_eqI (if_pos c6_) ?_
    have b7_ : (-2147483648) ≤ Int32.toInt n1 ∧ Int32.toInt n1 ≤ (-1) := zr_lt_l (-1) c6_ (zbnd n1) (show 0 ≤ Int32.toInt 0 ∧ Int32.toInt 0 ≤ 0 from (by decide)) (by decide)
    show PW 40 d (7, [some (pvR 124), some (pvI n1), some (pvI n2)], [pvI 0], M) _
    refine pw_if hT (c := 0 = 0) rfl rfl (fun c8_ => ?_) (fun c8_ => absurd (by decide) c8_)
    refine pw_blk hT 1 (S' := (25, [some (pvR 124), some (pvI n1), some (pvI n2)], [pvI 0], M)) rfl ⟨trivial, trivial⟩ ?_
    exact pw_ret hT rfl (r := some (pvI 0)) (M' := M) ⟨Or.inl rfl, rfl, rfl⟩ ⟨(by rw [if_pos c6_]), rfl⟩
  · refine pw_eqI (if_neg c6_) ?_
    have b9_ : 0 ≤ Int32.toInt n1 ∧ Int32.toInt n1 ≤ 2147483647 := zr_nlt_l 0 c6_ (zbnd n1) (show 0 ≤ Int32.toInt 0 ∧ Int32.toInt 0 ≤ 0 from (by decide)) (by decide)
    by_cases c10_ : 3 < n1
    · refine pw_eqI (if_pos c10_) ?_
      have b11_ : 4 ≤ Int32.toInt n1 ∧ Int32.toInt n1 ≤ 2147483647 := zr_lt_r 4 c10_ b9_ (show 3 ≤ Int32.toInt 3 ∧ Int32.toInt 3 ≤ 3 from (by decide)) (by decide)
      show PW 40 d (7, [some (pvR 124), some (pvI n1), some (pvI n2)], [pvI 0], M) _
      refine pw_if hT (c := 0 = 0) rfl rfl (fun c12_ => ?_) (fun c12_ => absurd (by decide) c12_)
      refine pw_blk hT 1 (S' := (25, [some (pvR 124), some (pvI n1), some (pvI n2)], [pvI 0], M)) rfl ⟨trivial, trivial⟩ ?_
      exact pw_ret hT rfl (r := some (pvI 0)) (M' := M) ⟨Or.inl rfl, rfl, rfl⟩ ⟨(by rw [if_neg c6_, if_pos c10_]), rfl⟩
    · refine pw_eqI (if_neg c10_) ?_
      have b13_ : 0 ≤ Int32.toInt n1 ∧ Int32.toInt n1 ≤ 3 := zr_nlt_r 3 c10_ b9_ (show 3 ≤ Int32.toInt 3 ∧ Int32.toInt 3 ≤ 3 from (by decide)) (by decide)
      show PW 40 d (7, [some (pvR 124), some (pvI n1), some (pvI n2)], [pvI 1], M) _
      refine pw_if hT (c := 1 = 0) rfl rfl (fun c14_ => absurd c14_ (by decide)) (fun c14_ => ?_)
      refine pw_blk hT 4 (S' := (14, [some (pvR 124), some (pvI n1), some (pvI n2)], [pvI 4, pvI 0, pvI n2, pvR 124], M)) rfl ⟨trivial, trivial, trivial, trivial, trivial⟩ ?_
      refine pw_callT hT (as := [pvR 124, pvI n2, pvI 0, pvI 4]) (lo1 := [some (pvR 124), some (pvI n2), some (pvI 0), some (pvI 4)]) (d1 := d) (rest := []) rfl rfl rfl rfl rfl (fun _ => rfl) (Nat.zero_le _) rfl rfl rfl (sf_X10_in_124_x_x_x M hok n2 0 4 d) ?_
      by_cases c20_ : n2 < 0
      · refine pw_eqI (if_pos c20_) ?_
        have b21_ : (-2147483648) ≤ Int32.toInt n2 ∧ Int32.toInt n2 ≤ (-1) := zr_lt_l (-1) c20_ (zbnd n2) (show 0 ≤ Int32.toInt 0 ∧ Int32.toInt 0 ≤ 0 from (by decide)) (by decide)
        show PW 40 d (17, [some (pvR 124), some (pvI n1), some (pvI n2)], [pvI 0], M) _
        refine pw_if hT (c := 0 = 0) rfl rfl (fun c22_ => ?_) (fun c22_ => absurd (by decide) c22_)
        refine pw_blk hT 1 (S' := (25, [some (pvR 124), some (pvI n1), some (pvI n2)], [pvI 0], M)) rfl ⟨trivial, trivial⟩ ?_
        exact pw_ret hT rfl (r := some (pvI 0)) (M' := M) ⟨Or.inl rfl, rfl, rfl⟩ ⟨(by rw [if_neg c6_, if_neg c10_, if_pos c20_]), rfl⟩
      · refine pw_eqI (if_neg c20_) ?_
        have b23_ : 0 ≤ Int32.toInt n2 ∧ Int32.toInt n2 ≤ 2147483647 := zr_nlt_l 0 c20_ (zbnd n2) (show 0 ≤ Int32.toInt 0 ∧ Int32.toInt 0 ≤ 0 from (by decide)) (by decide)
        by_cases c24_ : 4 < n2
        · refine pw_eqI (if_pos c24_) ?_
          have b25_ : 5 ≤ Int32.toInt n2 ∧ Int32.toInt n2 ≤ 2147483647 := zr_lt_r 5 c24_ b23_ (show 4 ≤ Int32.toInt 4 ∧ Int32.toInt 4 ≤ 4 from (by decide)) (by decide)
          show PW 40 d (17, [some (pvR 124), some (pvI n1), some (pvI n2)], [pvI 0], M) _
          refine pw_if hT (c := 0 = 0) rfl rfl (fun c26_ => ?_) (fun c26_ => absurd (by decide) c26_)
          refine pw_blk hT 1 (S' := (25, [some (pvR 124), some (pvI n1), some (pvI n2)], [pvI 0], M)) rfl ⟨trivial, trivial⟩ ?_
          exact pw_ret hT rfl (r := some (pvI 0)) (M' := M) ⟨Or.inl rfl, rfl, rfl⟩ ⟨(by rw [if_neg c6_, if_neg c10_, if_neg c20_, if_pos c24_]), rfl⟩
        · refine pw_eqI (if_neg c24_) ?_
          have b27_ : 0 ≤ Int32.toInt n2 ∧ Int32.toInt n2 ≤ 4 := zr_nlt_r 4 c24_ b23_ (show 4 ≤ Int32.toInt 4 ∧ Int32.toInt 4 ≤ 4 from (by decide)) (by decide)
          show PW 40 d (17, [some (pvR 124), some (pvI n1), some (pvI n2)], [pvI 1], M) _
          refine pw_if hT (c := 1 = 0) rfl rfl (fun c28_ => absurd c28_ (by decide)) (fun c28_ => ?_)
          refine pw_blk hT 2 (S' := (25, [some (pvR 124), some (pvI n1), some (pvI n2)], [pvI 1], M)) rfl ⟨trivial, trivial, trivial⟩ ?_
          exact pw_ret hT rfl (r := some (pvI 1)) (M' := M) ⟨Or.inr rfl, rfl, rfl⟩ ⟨(by rw [if_neg c6_, if_neg c10_, if_neg c20_, if_neg c24_]), rfl⟩
set_option maxHeartbeats 4000000 in
set_option maxRecDepth 10000 in
theorem sf_X10_isTape_124_x (M : pvM) (hok : pvOk M) (n1 : Int32) (d : Nat) : PW 41 d (0, [some (pvR 124), some (pvI n1)], [], M) (fun r X => r = some (pvI ((if n1 < 0 then 0 else (if 5 < n1 then 0 else 1)))) ∧ X = M) := by
  have hT : pvdom 41 = pvD_41 := rfl
  refine pw_blk hT 4 (S' := (4, [some (pvR 124), some (pvI n1)], [pvI 5, pvI 0, pvI n1, pvR 124], M)) rfl ⟨trivial, trivial, trivial, trivial, trivial⟩ ?_
  refine pw_callT hT (as := [pvR 124, pvI n1, pvI 0, pvI 5]) (lo1 := [some (pvR 124), some (pvI n1), some (pvI 0), some (pvI 5)]) (d1 := d) (rest := []) rfl rfl rfl rfl rfl (fun _ => rfl) (Nat.zero_le _) rfl rfl rfl (sf_X10_in_124_x_x_x M hok n1 0 5 d) ?_
  by_cases c6_ : n1 < 0
  · refine pw_eqI (if_pos c6_) ?_
    have b7_ : (-2147483648) ≤ Int32.toInt n1 ∧ Int32.toInt n1 ≤ (-1) := zr_lt_l (-1) c6_ (zbnd n1) (show 0 ≤ Int32.toInt 0 ∧ Int32.toInt 0 ≤ 0 from (by decide)) (by decide)
    show PW 41 d (7, [some (pvR 124), some (pvI n1)], [pvI 0], M) _
    exact pw_ret hT rfl (r := some (pvI 0)) (M' := M) ⟨Or.inl rfl, rfl, rfl⟩ ⟨(by rw [if_pos c6_]), rfl⟩
  · refine pw_eqI (if_neg c6_) ?_
    have b8_ : 0 ≤ Int32.toInt n1 ∧ Int32.toInt n1 ≤ 2147483647 := zr_nlt_l 0 c6_ (zbnd n1) (show 0 ≤ Int32.toInt 0 ∧ Int32.toInt 0 ≤ 0 from (by decide)) (by decide)
    by_cases c9_ : 5 < n1
    · refine pw_eqI (if_pos c9_) ?_
      have b10_ : 6 ≤ Int32.toInt n1 ∧ Int32.toInt n1 ≤ 2147483647 := zr_lt_r 6 c9_ b8_ (show 5 ≤ Int32.toInt 5 ∧ Int32.toInt 5 ≤ 5 from (by decide)) (by decide)
      show PW 41 d (7, [some (pvR 124), some (pvI n1)], [pvI 0], M) _
      exact pw_ret hT rfl (r := some (pvI 0)) (M' := M) ⟨Or.inl rfl, rfl, rfl⟩ ⟨(by rw [if_neg c6_, if_pos c9_]), rfl⟩
    · refine pw_eqI (if_neg c9_) ?_
      have b11_ : 0 ≤ Int32.toInt n1 ∧ Int32.toInt n1 ≤ 5 := zr_nlt_r 5 c9_ b8_ (show 5 ≤ Int32.toInt 5 ∧ Int32.toInt 5 ≤ 5 from (by decide)) (by decide)
      show PW 41 d (7, [some (pvR 124), some (pvI n1)], [pvI 1], M) _
      exact pw_ret hT rfl (r := some (pvI 1)) (M' := M) ⟨Or.inr rfl, rfl, rfl⟩ ⟨(by rw [if_neg c6_, if_neg c9_]), rfl⟩
set_option maxHeartbeats 4000000 in
set_option maxRecDepth 10000 in
theorem sf_X10_narrow_124_x_x (M : pvM) (hok : pvOk M) (n1 : Int32) (n2 : Int64) (d : Nat) : PW 56 d (0, [some (pvR 124), some (pvI n1), some (pvJ n2), none], [], M) (fun r X => (∃ x : Int64, r = some (pvJ x)) ∧ X = M) := by
  have hT : pvdom 56 = pvD_56 := rfl
  refine pw_blk hT 1 (S' := (1, [some (pvR 124), some (pvI n1), some (pvJ n2), none], [pvI n1], M)) rfl ⟨trivial, trivial⟩ ?_
  refine pw_ifn hT (c := n1 = 0) rfl rfl (fun c1_ => ?_) (fun c1_ => ?_)
  · refine pw_blk hT 2 (S' := (13, [some (pvR 124), some (pvI n1), some (pvJ n2), none], [pvI 1, pvI n1], M)) rfl ⟨trivial, trivial, trivial⟩ ?_
    refine pw_icn hT (c := n1 = 1) rfl rfl (fun c2_ => ?_) (fun c2_ => ?_)
    · refine pw_blk hT 2 (S' := (25, [some (pvR 124), some (pvI n1), some (pvJ n2), none], [pvI 2, pvI n1], M)) rfl ⟨trivial, trivial, trivial⟩ ?_
      refine pw_icn hT (c := n1 = 2) rfl rfl (fun c3_ => ?_) (fun c3_ => ?_)
      · refine pw_blk hT 2 (S' := (36, [some (pvR 124), some (pvI n1), some (pvJ n2), none], [pvI 4, pvI n1], M)) rfl ⟨trivial, trivial, trivial⟩ ?_
        refine pw_icn hT (c := n1 = 4) rfl rfl (fun c4_ => ?_) (fun c4_ => ?_)
        · refine pw_blk hT 1 (S' := (54, [some (pvR 124), some (pvI n1), some (pvJ n2), none], [pvJ n2], M)) rfl ⟨trivial, trivial⟩ ?_
          exact pw_ret hT rfl (r := some (pvJ n2)) (M' := M) ⟨rfl, rfl⟩ ⟨⟨_, rfl⟩, rfl⟩
        · have b5_ : 4 ≤ Int32.toInt n1 ∧ Int32.toInt n1 ≤ 4 := (by have u0 := (zbnd n1); have u1 := (zi_eq _ _).mp c4_; have u2 := (show 4 ≤ Int32.toInt 4 ∧ Int32.toInt 4 ≤ 4 from (by decide)); omega)
          refine pw_blk hT 3 (S' := (42, [some (pvR 124), some (pvI n1), some (pvJ n2), none], [pvI (lg_cmp n2 0)], M)) rfl ⟨trivial, trivial, trivial, trivial⟩ ?_
          refine pw_if hT (c := (lg_cmp n2 0) = 0) rfl rfl (fun c6_ => ?_) (fun c6_ => ?_)
          · have b7_ : 0 ≤ Int32.toInt (lg_cmp n2 0) ∧ Int32.toInt (lg_cmp n2 0) ≤ 0 := (by have u0 := (zbnd (lg_cmp n2 0)); have u1 := (zi_eq _ _).mp c6_; have u2 := (show 0 ≤ Int32.toInt 0 ∧ Int32.toInt 0 ≤ 0 from (by decide)); omega)
            refine pw_blk hT 2 (S' := (54, [some (pvR 124), some (pvI n1), some (pvJ n2), none], [pvJ 0], M)) rfl ⟨trivial, trivial, trivial⟩ ?_
            exact pw_ret hT rfl (r := some (pvJ 0)) (M' := M) ⟨rfl, rfl⟩ ⟨⟨_, rfl⟩, rfl⟩
          · refine pw_blk hT 2 (S' := (54, [some (pvR 124), some (pvI n1), some (pvJ n2), none], [pvJ 1], M)) rfl ⟨trivial, trivial, trivial⟩ ?_
            exact pw_ret hT rfl (r := some (pvJ 1)) (M' := M) ⟨rfl, rfl⟩ ⟨⟨_, rfl⟩, rfl⟩
      · have b8_ : 2 ≤ Int32.toInt n1 ∧ Int32.toInt n1 ≤ 2 := (by have u0 := (zbnd n1); have u1 := (zi_eq _ _).mp c3_; have u2 := (show 2 ≤ Int32.toInt 2 ∧ Int32.toInt 2 ≤ 2 from (by decide)); omega)
        refine pw_blk hT 4 (S' := (54, [some (pvR 124), some (pvI n1), some (pvJ n2), none], [pvJ (Int32.toInt64 (Int64.toInt32 n2))], M)) rfl ⟨trivial, trivial, trivial, trivial, trivial⟩ ?_
        exact pw_ret hT rfl (r := some (pvJ (Int32.toInt64 (Int64.toInt32 n2)))) (M' := M) ⟨rfl, rfl⟩ ⟨⟨_, rfl⟩, rfl⟩
    · have b9_ : 1 ≤ Int32.toInt n1 ∧ Int32.toInt n1 ≤ 1 := (by have u0 := (zbnd n1); have u1 := (zi_eq _ _).mp c2_; have u2 := (show 1 ≤ Int32.toInt 1 ∧ Int32.toInt 1 ≤ 1 from (by decide)); omega)
      refine pw_blk hT 5 (S' := (54, [some (pvR 124), some (pvI n1), some (pvJ n2), none], [pvJ (Int32.toInt64 (Int16.toInt32 (Int32.toInt16 (Int64.toInt32 n2))))], M)) rfl ⟨trivial, trivial, trivial, trivial, trivial, trivial⟩ ?_
      exact pw_ret hT rfl (r := some (pvJ (Int32.toInt64 (Int16.toInt32 (Int32.toInt16 (Int64.toInt32 n2)))))) (M' := M) ⟨rfl, rfl⟩ ⟨⟨_, rfl⟩, rfl⟩
  · have b10_ : 0 ≤ Int32.toInt n1 ∧ Int32.toInt n1 ≤ 0 := (by have u0 := (zbnd n1); have u1 := (zi_eq _ _).mp c1_; have u2 := (show 0 ≤ Int32.toInt 0 ∧ Int32.toInt 0 ≤ 0 from (by decide)); omega)
    refine pw_blk hT 5 (S' := (54, [some (pvR 124), some (pvI n1), some (pvJ n2), none], [pvJ (Int32.toInt64 (Int8.toInt32 (Int32.toInt8 (Int64.toInt32 n2))))], M)) rfl ⟨trivial, trivial, trivial, trivial, trivial, trivial⟩ ?_
    exact pw_ret hT rfl (r := some (pvJ (Int32.toInt64 (Int8.toInt32 (Int32.toInt8 (Int64.toInt32 n2)))))) (M' := M) ⟨rfl, rfl⟩ ⟨⟨_, rfl⟩, rfl⟩
def fp_X10_item_124_x_x_x (q k : Nat) : Bool := false
set_option maxHeartbeats 4000000 in
set_option maxRecDepth 10000 in
theorem sf_X10_item_124_x_x_x (M : pvM) (hok : pvOk M) (n1 : Int32) (n2 : Int32) (n3 : Int64) (d : Nat) : PW 43 d (0, [some (pvR 124), some (pvI n1), some (pvI n2), some (pvJ n3), none], [], M) (fun r X => (∃ x : Int32, r = some (pvI x) ∧ (-13) ≤ Int32.toInt x ∧ Int32.toInt x ≤ 1) ∧ pvOk X ∧ pvFr fp_X10_item_124_x_x_x M X) := by
  have hT : pvdom 43 = pvD_43 := rfl
  refine pw_blk hT 2 (S' := (2, [some (pvR 124), some (pvI n1), some (pvI n2), some (pvJ n3), none], [pvI n1, pvR 124], M)) rfl ⟨trivial, trivial, trivial⟩ ?_
  refine pw_callT hT (as := [pvR 124, pvI n1]) (lo1 := [some (pvR 124), some (pvI n1)]) (d1 := d) (rest := []) rfl rfl rfl rfl rfl (fun _ => rfl) (Nat.zero_le _) rfl rfl rfl (sf_X10_isTape_124_x M hok n1 d) ?_
  by_cases c6_ : n1 < 0
  · refine pw_eqI (if_pos c6_) ?_
    have b7_ : (-2147483648) ≤ Int32.toInt n1 ∧ Int32.toInt n1 ≤ (-1) := zr_lt_l (-1) c6_ (zbnd n1) (show 0 ≤ Int32.toInt 0 ∧ Int32.toInt 0 ≤ 0 from (by decide)) (by decide)
    show PW 43 d (5, [some (pvR 124), some (pvI n1), some (pvI n2), some (pvJ n3), none], [pvI 0], M) _
    refine pw_ifn hT (c := 0 = 0) rfl rfl (fun c8_ => absurd (by decide) c8_) (fun c8_ => ?_)
    refine pw_blk hT 1 (S' := (9, [some (pvR 124), some (pvI n1), some (pvI n2), some (pvJ n3), none], [pvI (-1)], M)) rfl ⟨trivial, trivial⟩ ?_
    exact pw_ret hT rfl (r := some (pvI (-1))) (M' := M) ⟨rfl, rfl⟩ ⟨⟨_, rfl, (zr_wide (show (-1) ≤ Int32.toInt (-1) ∧ Int32.toInt (-1) ≤ (-1) from (by decide)) (by decide) (by decide))⟩, hok, pvfr_0⟩
  · refine pw_eqI (if_neg c6_) ?_
    have b9_ : 0 ≤ Int32.toInt n1 ∧ Int32.toInt n1 ≤ 2147483647 := zr_nlt_l 0 c6_ (zbnd n1) (show 0 ≤ Int32.toInt 0 ∧ Int32.toInt 0 ≤ 0 from (by decide)) (by decide)
    by_cases c10_ : 5 < n1
    · refine pw_eqI (if_pos c10_) ?_
      have b11_ : 6 ≤ Int32.toInt n1 ∧ Int32.toInt n1 ≤ 2147483647 := zr_lt_r 6 c10_ b9_ (show 5 ≤ Int32.toInt 5 ∧ Int32.toInt 5 ≤ 5 from (by decide)) (by decide)
      show PW 43 d (5, [some (pvR 124), some (pvI n1), some (pvI n2), some (pvJ n3), none], [pvI 0], M) _
      refine pw_ifn hT (c := 0 = 0) rfl rfl (fun c12_ => absurd (by decide) c12_) (fun c12_ => ?_)
      refine pw_blk hT 1 (S' := (9, [some (pvR 124), some (pvI n1), some (pvI n2), some (pvJ n3), none], [pvI (-1)], M)) rfl ⟨trivial, trivial⟩ ?_
      exact pw_ret hT rfl (r := some (pvI (-1))) (M' := M) ⟨rfl, rfl⟩ ⟨⟨_, rfl, (zr_wide (show (-1) ≤ Int32.toInt (-1) ∧ Int32.toInt (-1) ≤ (-1) from (by decide)) (by decide) (by decide))⟩, hok, pvfr_0⟩
    · refine pw_eqI (if_neg c10_) ?_
      have b13_ : 0 ≤ Int32.toInt n1 ∧ Int32.toInt n1 ≤ 5 := zr_nlt_r 5 c10_ b9_ (show 5 ≤ Int32.toInt 5 ∧ Int32.toInt 5 ≤ 5 from (by decide)) (by decide)
      show PW 43 d (5, [some (pvR 124), some (pvI n1), some (pvI n2), some (pvJ n3), none], [pvI 1], M) _
      refine pw_ifn hT (c := 1 = 0) rfl rfl (fun c14_ => ?_) (fun c14_ => absurd c14_ (by decide))
      have b15_ : (-1) ≤ Int32.toInt (M.1 164 (Int32.toNatClampNeg n1)) ∧ Int32.toInt (M.1 164 (Int32.toNatClampNeg n1)) ≤ 4 := pvok_r hok 164 (Int32.toNatClampNeg n1) rfl
      refine pw_blk hT 4 (S' := (16, [some (pvR 124), some (pvI n1), some (pvI n2), some (pvJ n3), none], [pvI (M.1 164 (Int32.toNatClampNeg n1))], M)) rfl ⟨trivial, rfl, trivial, ⟨rfl, (zr_in (n := 6) b13_ (by decide) (by decide))⟩, trivial⟩ ?_
      refine pw_if hT (c := 0 ≤ (M.1 164 (Int32.toNatClampNeg n1))) rfl rfl (fun c16_ => ?_) (fun c16_ => ?_)
      · have b17_ : 0 ≤ Int32.toInt (M.1 164 (Int32.toNatClampNeg n1)) ∧ Int32.toInt (M.1 164 (Int32.toNatClampNeg n1)) ≤ 4 := zr_le_r 0 c16_ b15_ (show 0 ≤ Int32.toInt 0 ∧ Int32.toInt 0 ≤ 0 from (by decide)) (by decide)
        have b18_ : 0 ≤ Int32.toInt (M.1 165 (Int32.toNatClampNeg n1)) ∧ Int32.toInt (M.1 165 (Int32.toNatClampNeg n1)) ≤ 60 := pvok_r hok 165 (Int32.toNatClampNeg n1) rfl
        obtain ⟨q20_, b19_⟩ : (Int32.toInt ((M.1 165 (Int32.toNatClampNeg n1)) - 1) = Int32.toInt (M.1 165 (Int32.toNatClampNeg n1)) - Int32.toInt 1) ∧ ((-1) ≤ Int32.toInt ((M.1 165 (Int32.toNatClampNeg n1)) - 1) ∧ Int32.toInt ((M.1 165 (Int32.toNatClampNeg n1)) - 1) ≤ 59) := zsub_r (M.1 165 (Int32.toNatClampNeg n1)) 1 (-1) 59 b18_ (show 1 ≤ Int32.toInt 1 ∧ Int32.toInt 1 ≤ 1 from (by decide)) (by decide) (by decide) (by decide) (by decide)
        have u21_ : Int32.toInt 1 = 1 := by decide
        refine pw_blk hT 9 (S' := (33, [some (pvR 124), some (pvI n1), some (pvI n2), some (pvJ n3), none], [pvI ((M.1 165 (Int32.toNatClampNeg n1)) - 1), pvI 0, pvI n2, pvR 124], M)) rfl ⟨trivial, trivial, trivial, trivial, rfl, trivial, ⟨rfl, (zr_in (n := 6) b13_ (by decide) (by decide))⟩, trivial, trivial, trivial⟩ ?_
        refine pw_callT hT (as := [pvR 124, pvI n2, pvI 0, pvI ((M.1 165 (Int32.toNatClampNeg n1)) - 1)]) (lo1 := [some (pvR 124), some (pvI n2), some (pvI 0), some (pvI ((M.1 165 (Int32.toNatClampNeg n1)) - 1))]) (d1 := d) (rest := []) rfl rfl rfl rfl rfl (fun _ => rfl) (Nat.zero_le _) rfl rfl rfl (sf_X10_in_124_x_x_x M hok n2 0 ((M.1 165 (Int32.toNatClampNeg n1)) - 1) d) ?_
        by_cases c27_ : n2 < 0
        · refine pw_eqI (if_pos c27_) ?_
          have b28_ : (-2147483648) ≤ Int32.toInt n2 ∧ Int32.toInt n2 ≤ (-1) := zr_lt_l (-1) c27_ (zbnd n2) (show 0 ≤ Int32.toInt 0 ∧ Int32.toInt 0 ≤ 0 from (by decide)) (by decide)
          show PW 43 d (36, [some (pvR 124), some (pvI n1), some (pvI n2), some (pvJ n3), none], [pvI 0], M) _
          refine pw_ifn hT (c := 0 = 0) rfl rfl (fun c29_ => absurd (by decide) c29_) (fun c29_ => ?_)
          refine pw_blk hT 1 (S' := (41, [some (pvR 124), some (pvI n1), some (pvI n2), some (pvJ n3), none], [pvI (-13)], M)) rfl ⟨trivial, trivial⟩ ?_
          exact pw_ret hT rfl (r := some (pvI (-13))) (M' := M) ⟨rfl, rfl⟩ ⟨⟨_, rfl, (zr_wide (show (-13) ≤ Int32.toInt (-13) ∧ Int32.toInt (-13) ≤ (-13) from (by decide)) (by decide) (by decide))⟩, hok, pvfr_0⟩
        · refine pw_eqI (if_neg c27_) ?_
          have b30_ : 0 ≤ Int32.toInt n2 ∧ Int32.toInt n2 ≤ 2147483647 := zr_nlt_l 0 c27_ (zbnd n2) (show 0 ≤ Int32.toInt 0 ∧ Int32.toInt 0 ≤ 0 from (by decide)) (by decide)
          by_cases c31_ : ((M.1 165 (Int32.toNatClampNeg n1)) - 1) < n2
          · refine pw_eqI (if_pos c31_) ?_
            have d32_ : Int32.toInt ((M.1 165 (Int32.toNatClampNeg n1)) - 1) < Int32.toInt n2 := (zi_lt _ _).mp c31_
            show PW 43 d (36, [some (pvR 124), some (pvI n1), some (pvI n2), some (pvJ n3), none], [pvI 0], M) _
            refine pw_ifn hT (c := 0 = 0) rfl rfl (fun c33_ => absurd (by decide) c33_) (fun c33_ => ?_)
            refine pw_blk hT 1 (S' := (41, [some (pvR 124), some (pvI n1), some (pvI n2), some (pvJ n3), none], [pvI (-13)], M)) rfl ⟨trivial, trivial⟩ ?_
            exact pw_ret hT rfl (r := some (pvI (-13))) (M' := M) ⟨rfl, rfl⟩ ⟨⟨_, rfl, (zr_wide (show (-13) ≤ Int32.toInt (-13) ∧ Int32.toInt (-13) ≤ (-13) from (by decide)) (by decide) (by decide))⟩, hok, pvfr_0⟩
          · refine pw_eqI (if_neg c31_) ?_
            have b34_ : 0 ≤ Int32.toInt ((M.1 165 (Int32.toNatClampNeg n1)) - 1) ∧ Int32.toInt ((M.1 165 (Int32.toNatClampNeg n1)) - 1) ≤ 59 := zr_nlt_l 0 c31_ b19_ b30_ (by decide)
            have b35_ : 0 ≤ Int32.toInt n2 ∧ Int32.toInt n2 ≤ 59 := zr_nlt_r 59 c31_ b30_ b34_ (by decide)
            have d36_ : Int32.toInt ((M.1 165 (Int32.toNatClampNeg n1)) - 1) ≥ Int32.toInt n2 := Int.not_lt.mp ((not_congr (zi_lt _ _)).mp c31_)
            show PW 43 d (36, [some (pvR 124), some (pvI n1), some (pvI n2), some (pvJ n3), none], [pvI 1], M) _
            refine pw_ifn hT (c := 1 = 0) rfl rfl (fun c37_ => ?_) (fun c37_ => absurd c37_ (by decide))
            have q38_ : Int32.toInt (60 * n1) = 60 * Int32.toInt n1 := by have u0 : Int32.toInt 60 = 60 := (by decide); have u1 := b13_; have u2 := zmul 60 n1 (by rw [u0]; omega) (by rw [u0]; omega); rw [u0] at u2; omega
            have b39_ : 0 ≤ Int32.toInt (60 * n1) ∧ Int32.toInt (60 * n1) ≤ 300 := (by have u1 := b13_; omega)
            obtain ⟨q41_, b40_⟩ : (Int32.toInt ((60 * n1) + n2) = Int32.toInt (60 * n1) + Int32.toInt n2) ∧ (0 ≤ Int32.toInt ((60 * n1) + n2) ∧ Int32.toInt ((60 * n1) + n2) ≤ 359) := zadd_r (60 * n1) n2 0 359 b39_ b35_ (by decide) (by decide) (by decide) (by decide)
            refine pw_blk hT 13 (S' := (60, [some (pvR 124), some (pvI n1), some (pvI n2), some (pvJ n3), none], [pvJ n3, pvI (M.1 164 (Int32.toNatClampNeg n1)), pvR 124, pvI ((60 * n1) + n2), pvR 166], M)) rfl ⟨trivial, rfl, trivial, trivial, trivial, trivial, trivial, trivial, trivial, rfl, trivial, ⟨rfl, (zr_in (n := 6) b13_ (by decide) (by decide))⟩, trivial, trivial⟩ ?_
            refine pw_callJp hT (as := [pvR 124, pvI (M.1 164 (Int32.toNatClampNeg n1)), pvJ n3]) (lo1 := [some (pvR 124), some (pvI (M.1 164 (Int32.toNatClampNeg n1))), some (pvJ n3), none]) (d1 := d) (rest := [pvI ((60 * n1) + n2), pvR 166]) rfl rfl rfl rfl rfl (fun _ => rfl) (Nat.zero_le _) rfl rfl rfl (sf_X10_narrow_124_x_x M hok (M.1 164 (Int32.toNatClampNeg n1)) n3 d) (fun x42_ b44_ => ?_)
            refine pw_blkw hT 1 (pc := 64) (lo := [some (pvR 124), some (pvI n1), some (pvI n2), some (pvJ n3), none]) (st := []) (M := pvw M 166 (Int32.toNatClampNeg ((60 * n1) + n2)) x42_) rfl ⟨⟨rfl, (zr_in (n := 360) b40_ (by decide) (by decide))⟩, trivial⟩ (fun M47_ e48_ => ?_)
            have o49_ : pvOk M47_ := pvok_w e48_ hok
            have f50_ : pvFr fp_X10_item_124_x_x_x M M47_ := pvfr_w e48_ pvfr_0
            refine pw_blk hT 1 (S' := (65, [some (pvR 124), some (pvI n1), some (pvI n2), some (pvJ n3), none], [pvI 1], M47_)) rfl ⟨trivial, trivial⟩ ?_
            exact pw_ret hT rfl (r := some (pvI 1)) (M' := M47_) ⟨rfl, rfl⟩ ⟨⟨_, rfl, (zr_wide (show 1 ≤ Int32.toInt 1 ∧ Int32.toInt 1 ≤ 1 from (by decide)) (by decide) (by decide))⟩, o49_, f50_⟩
      · have b51_ : (-1) ≤ Int32.toInt (M.1 164 (Int32.toNatClampNeg n1)) ∧ Int32.toInt (M.1 164 (Int32.toNatClampNeg n1)) ≤ (-1) := zr_nle_r (-1) c16_ b15_ (show 0 ≤ Int32.toInt 0 ∧ Int32.toInt 0 ≤ 0 from (by decide)) (by decide)
        refine pw_blk hT 1 (S' := (21, [some (pvR 124), some (pvI n1), some (pvI n2), some (pvJ n3), none], [pvI (-11)], M)) rfl ⟨trivial, trivial⟩ ?_
        exact pw_ret hT rfl (r := some (pvI (-11))) (M' := M) ⟨rfl, rfl⟩ ⟨⟨_, rfl, (zr_wide (show (-11) ≤ Int32.toInt (-11) ∧ Int32.toInt (-11) ≤ (-11) from (by decide)) (by decide) (by decide))⟩, hok, pvfr_0⟩
set_option maxHeartbeats 4000000 in
set_option maxRecDepth 10000 in
theorem sf_X10_judge_124_x_x (M : pvM) (hok : pvOk M) (n1 : Int32) (n2 : Int32) (d : Nat) : PW 44 d (0, [some (pvR 124), some (pvI n1), some (pvI n2), none], [], M) (fun r X => (∃ x : Int32, r = some (pvI x) ∧ (-12) ≤ Int32.toInt x ∧ Int32.toInt x ≤ 106) ∧ X = M) := by
  have hT : pvdom 44 = pvD_44 := rfl
  refine pw_blk hT 2 (S' := (2, [some (pvR 124), some (pvI n1), some (pvI n2), none], [pvI n1, pvR 124], M)) rfl ⟨trivial, trivial, trivial⟩ ?_
  refine pw_callT hT (as := [pvR 124, pvI n1]) (lo1 := [some (pvR 124), some (pvI n1)]) (d1 := d) (rest := []) rfl rfl rfl rfl rfl (fun _ => rfl) (Nat.zero_le _) rfl rfl rfl (sf_X10_isTape_124_x M hok n1 d) ?_
  by_cases c6_ : n1 < 0
  · refine pw_eqI (if_pos c6_) ?_
    have b7_ : (-2147483648) ≤ Int32.toInt n1 ∧ Int32.toInt n1 ≤ (-1) := zr_lt_l (-1) c6_ (zbnd n1) (show 0 ≤ Int32.toInt 0 ∧ Int32.toInt 0 ≤ 0 from (by decide)) (by decide)
    show PW 44 d (5, [some (pvR 124), some (pvI n1), some (pvI n2), none], [pvI 0], M) _
    refine pw_ifn hT (c := 0 = 0) rfl rfl (fun c8_ => absurd (by decide) c8_) (fun c8_ => ?_)
    refine pw_blk hT 1 (S' := (9, [some (pvR 124), some (pvI n1), some (pvI n2), none], [pvI (-1)], M)) rfl ⟨trivial, trivial⟩ ?_
    exact pw_ret hT rfl (r := some (pvI (-1))) (M' := M) ⟨rfl, rfl⟩ ⟨⟨_, rfl, (zr_wide (show (-1) ≤ Int32.toInt (-1) ∧ Int32.toInt (-1) ≤ (-1) from (by decide)) (by decide) (by decide))⟩, rfl⟩
  · refine pw_eqI (if_neg c6_) ?_
    have b9_ : 0 ≤ Int32.toInt n1 ∧ Int32.toInt n1 ≤ 2147483647 := zr_nlt_l 0 c6_ (zbnd n1) (show 0 ≤ Int32.toInt 0 ∧ Int32.toInt 0 ≤ 0 from (by decide)) (by decide)
    by_cases c10_ : 5 < n1
    · refine pw_eqI (if_pos c10_) ?_
      have b11_ : 6 ≤ Int32.toInt n1 ∧ Int32.toInt n1 ≤ 2147483647 := zr_lt_r 6 c10_ b9_ (show 5 ≤ Int32.toInt 5 ∧ Int32.toInt 5 ≤ 5 from (by decide)) (by decide)
      show PW 44 d (5, [some (pvR 124), some (pvI n1), some (pvI n2), none], [pvI 0], M) _
      refine pw_ifn hT (c := 0 = 0) rfl rfl (fun c12_ => absurd (by decide) c12_) (fun c12_ => ?_)
      refine pw_blk hT 1 (S' := (9, [some (pvR 124), some (pvI n1), some (pvI n2), none], [pvI (-1)], M)) rfl ⟨trivial, trivial⟩ ?_
      exact pw_ret hT rfl (r := some (pvI (-1))) (M' := M) ⟨rfl, rfl⟩ ⟨⟨_, rfl, (zr_wide (show (-1) ≤ Int32.toInt (-1) ∧ Int32.toInt (-1) ≤ (-1) from (by decide)) (by decide) (by decide))⟩, rfl⟩
    · refine pw_eqI (if_neg c10_) ?_
      have b13_ : 0 ≤ Int32.toInt n1 ∧ Int32.toInt n1 ≤ 5 := zr_nlt_r 5 c10_ b9_ (show 5 ≤ Int32.toInt 5 ∧ Int32.toInt 5 ≤ 5 from (by decide)) (by decide)
      show PW 44 d (5, [some (pvR 124), some (pvI n1), some (pvI n2), none], [pvI 1], M) _
      refine pw_ifn hT (c := 1 = 0) rfl rfl (fun c14_ => ?_) (fun c14_ => absurd c14_ (by decide))
      have b15_ : (-1) ≤ Int32.toInt (M.1 164 (Int32.toNatClampNeg n1)) ∧ Int32.toInt (M.1 164 (Int32.toNatClampNeg n1)) ≤ 4 := pvok_r hok 164 (Int32.toNatClampNeg n1) rfl
      refine pw_blk hT 4 (S' := (16, [some (pvR 124), some (pvI n1), some (pvI n2), none], [pvI (M.1 164 (Int32.toNatClampNeg n1))], M)) rfl ⟨trivial, rfl, trivial, ⟨rfl, (zr_in (n := 6) b13_ (by decide) (by decide))⟩, trivial⟩ ?_
      refine pw_if hT (c := (M.1 164 (Int32.toNatClampNeg n1)) < 0) rfl rfl (fun c16_ => ?_) (fun c16_ => ?_)
      · have b17_ : (-1) ≤ Int32.toInt (M.1 164 (Int32.toNatClampNeg n1)) ∧ Int32.toInt (M.1 164 (Int32.toNatClampNeg n1)) ≤ (-1) := zr_lt_l (-1) c16_ b15_ (show 0 ≤ Int32.toInt 0 ∧ Int32.toInt 0 ≤ 0 from (by decide)) (by decide)
        refine pw_blk hT 2 (S' := (34, [some (pvR 124), some (pvI n1), some (pvI n2), some (pvI 0)], [], M)) rfl ⟨trivial, trivial, trivial⟩ ?_
        have hlz29_ : ∀ (nz29_ : Nat) (i3z29_ : Int32), (0 ≤ Int32.toInt i3z29_ ∧ Int32.toInt i3z29_ ≤ 0) → (0 < nz29_) → PW 44 d (34, [some (pvR 124), some (pvI n1), some (pvI n2), some (pvI i3z29_)], [], M) (fun r X => (∃ x : Int32, r = some (pvI x) ∧ (-12) ≤ Int32.toInt x ∧ Int32.toInt x ≤ 106) ∧ X = M) := by
          intro nz29_
          induction nz29_ with
          | zero => intro i3z29_ h3z29_ hmz29_; exact absurd hmz29_ (Nat.not_lt_zero _)
          | succ nz29_ ihz29_ =>
            intro i3z29_ h3z29_ hmz29_
            have b30_ : 0 ≤ Int32.toInt (M.1 124 0) ∧ Int32.toInt (M.1 124 0) ≤ 7 := pvok_r hok 124 0 rfl
            refine pw_blk hT 3 (S' := (39, [some (pvR 124), some (pvI n1), some (pvI n2), some (pvI i3z29_)], [pvI (M.1 124 0), pvI i3z29_], M)) rfl ⟨trivial, trivial, rfl, trivial⟩ ?_
            refine pw_ic hT (c := (M.1 124 0) ≤ i3z29_) rfl rfl (fun c31_ => ?_) (fun c31_ => ?_)
            · have b32_ : 0 ≤ Int32.toInt (M.1 124 0) ∧ Int32.toInt (M.1 124 0) ≤ 0 := zr_le_l 0 c31_ b30_ h3z29_ (by decide)
              have d33_ : Int32.toInt (M.1 124 0) ≤ Int32.toInt i3z29_ := (zi_le _ _).mp c31_
              refine pw_blk hT 1 (S' := (115, [some (pvR 124), some (pvI n1), some (pvI n2), some (pvI i3z29_)], [pvI (-5)], M)) rfl ⟨trivial, trivial⟩ ?_
              exact pw_ret hT rfl (r := some (pvI (-5))) (M' := M) ⟨rfl, rfl⟩ ⟨⟨_, rfl, (zr_wide (show (-5) ≤ Int32.toInt (-5) ∧ Int32.toInt (-5) ≤ (-5) from (by decide)) (by decide) (by decide))⟩, rfl⟩
            · have b34_ : 1 ≤ Int32.toInt (M.1 124 0) ∧ Int32.toInt (M.1 124 0) ≤ 7 := zr_nle_l 1 c31_ b30_ h3z29_ (by decide)
              have d35_ : Int32.toInt (M.1 124 0) > Int32.toInt i3z29_ := Int.not_le.mp ((not_congr (zi_le _ _)).mp c31_)
              refine pw_blk hT 4 (S' := (48, [some (pvR 124), some (pvI n1), some (pvI n2), some (pvI i3z29_)], [pvI (M.1 164 (Int32.toNatClampNeg n1))], M)) rfl ⟨trivial, rfl, trivial, ⟨rfl, (zr_in (n := 6) b13_ (by decide) (by decide))⟩, trivial⟩ ?_
              refine pw_if hT (c := (M.1 164 (Int32.toNatClampNeg n1)) < 0) rfl rfl (fun c36_ => ?_) (fun c36_ => absurd c16_ c36_)
              obtain ⟨q38_, b37_⟩ : (Int32.toInt (100 + i3z29_) = Int32.toInt 100 + Int32.toInt i3z29_) ∧ (100 ≤ Int32.toInt (100 + i3z29_) ∧ Int32.toInt (100 + i3z29_) ≤ 100) := zadd_r 100 i3z29_ 100 100 (show 100 ≤ Int32.toInt 100 ∧ Int32.toInt 100 ≤ 100 from (by decide)) h3z29_ (by decide) (by decide) (by decide) (by decide)
              have u39_ : Int32.toInt 100 = 100 := by decide
              refine pw_blk hT 3 (S' := (73, [some (pvR 124), some (pvI n1), some (pvI n2), some (pvI i3z29_)], [pvI (100 + i3z29_)], M)) rfl ⟨trivial, trivial, trivial, trivial⟩ ?_
              exact pw_ret hT rfl (r := some (pvI (100 + i3z29_))) (M' := M) ⟨rfl, rfl⟩ ⟨⟨_, rfl, (zr_wide b37_ (by decide) (by decide))⟩, rfl⟩
        exact hlz29_ _ 0 (show 0 ≤ Int32.toInt 0 ∧ Int32.toInt 0 ≤ 0 from (by decide)) (Nat.lt_succ_self _)
      · have b40_ : 0 ≤ Int32.toInt (M.1 164 (Int32.toNatClampNeg n1)) ∧ Int32.toInt (M.1 164 (Int32.toNatClampNeg n1)) ≤ 4 := zr_nlt_l 0 c16_ b15_ (show 0 ≤ Int32.toInt 0 ∧ Int32.toInt 0 ≤ 0 from (by decide)) (by decide)
        refine pw_blk hT 5 (S' := (26, [some (pvR 124), some (pvI n1), some (pvI n2), none], [pvI 4, pvI (M.1 164 (Int32.toNatClampNeg n1))], M)) rfl ⟨trivial, rfl, trivial, ⟨rfl, (zr_in (n := 6) b13_ (by decide) (by decide))⟩, trivial, trivial⟩ ?_
        refine pw_ic hT (c := (M.1 164 (Int32.toNatClampNeg n1)) = 4) rfl rfl (fun c41_ => ?_) (fun c41_ => ?_)
        · have b42_ : 4 ≤ Int32.toInt (M.1 164 (Int32.toNatClampNeg n1)) ∧ Int32.toInt (M.1 164 (Int32.toNatClampNeg n1)) ≤ 4 := (by have u0 := b40_; have u1 := (zi_eq _ _).mp c41_; have u2 := (show 4 ≤ Int32.toInt 4 ∧ Int32.toInt 4 ≤ 4 from (by decide)); omega)
          refine pw_blk hT 2 (S' := (34, [some (pvR 124), some (pvI n1), some (pvI n2), some (pvI 0)], [], M)) rfl ⟨trivial, trivial, trivial⟩ ?_
          have hlz181_ : ∀ (nz181_ : Nat) (i3z181_ : Int32), (0 ≤ Int32.toInt i3z181_ ∧ Int32.toInt i3z181_ ≤ 7) → ((8 - Int32.toInt i3z181_).toNat < nz181_) → PW 44 d (34, [some (pvR 124), some (pvI n1), some (pvI n2), some (pvI i3z181_)], [], M) (fun r X => (∃ x : Int32, r = some (pvI x) ∧ (-12) ≤ Int32.toInt x ∧ Int32.toInt x ≤ 106) ∧ X = M) := by
            intro nz181_
            induction nz181_ with
            | zero => intro i3z181_ h3z181_ hmz181_; exact absurd hmz181_ (Nat.not_lt_zero _)
            | succ nz181_ ihz181_ =>
              intro i3z181_ h3z181_ hmz181_
              have b182_ : 0 ≤ Int32.toInt (M.1 124 0) ∧ Int32.toInt (M.1 124 0) ≤ 7 := pvok_r hok 124 0 rfl
              refine pw_blk hT 3 (S' := (39, [some (pvR 124), some (pvI n1), some (pvI n2), some (pvI i3z181_)], [pvI (M.1 124 0), pvI i3z181_], M)) rfl ⟨trivial, trivial, rfl, trivial⟩ ?_
              refine pw_ic hT (c := (M.1 124 0) ≤ i3z181_) rfl rfl (fun c183_ => ?_) (fun c183_ => ?_)
              · have d184_ : Int32.toInt (M.1 124 0) ≤ Int32.toInt i3z181_ := (zi_le _ _).mp c183_
                refine pw_blk hT 1 (S' := (115, [some (pvR 124), some (pvI n1), some (pvI n2), some (pvI i3z181_)], [pvI (-5)], M)) rfl ⟨trivial, trivial⟩ ?_
                exact pw_ret hT rfl (r := some (pvI (-5))) (M' := M) ⟨rfl, rfl⟩ ⟨⟨_, rfl, (zr_wide (show (-5) ≤ Int32.toInt (-5) ∧ Int32.toInt (-5) ≤ (-5) from (by decide)) (by decide) (by decide))⟩, rfl⟩
              · have b185_ : 1 ≤ Int32.toInt (M.1 124 0) ∧ Int32.toInt (M.1 124 0) ≤ 7 := zr_nle_l 1 c183_ b182_ h3z181_ (by decide)
                have b186_ : 0 ≤ Int32.toInt i3z181_ ∧ Int32.toInt i3z181_ ≤ 6 := zr_nle_r 6 c183_ h3z181_ b185_ (by decide)
                have d187_ : Int32.toInt (M.1 124 0) > Int32.toInt i3z181_ := Int.not_le.mp ((not_congr (zi_le _ _)).mp c183_)
                refine pw_blk hT 4 (S' := (48, [some (pvR 124), some (pvI n1), some (pvI n2), some (pvI i3z181_)], [pvI (M.1 164 (Int32.toNatClampNeg n1))], M)) rfl ⟨trivial, rfl, trivial, ⟨rfl, (zr_in (n := 6) b13_ (by decide) (by decide))⟩, trivial⟩ ?_
                refine pw_if hT (c := (M.1 164 (Int32.toNatClampNeg n1)) < 0) rfl rfl (fun c188_ => absurd c188_ c16_) (fun c188_ => ?_)
                refine pw_blk hT 1 (S' := (52, [some (pvR 124), some (pvI n1), some (pvI n2), some (pvI i3z181_)], [pvI n2], M)) rfl ⟨trivial, trivial⟩ ?_
                refine pw_if hT (c := n2 < 0) rfl rfl (fun c189_ => ?_) (fun c189_ => ?_)
                · have b190_ : (-2147483648) ≤ Int32.toInt n2 ∧ Int32.toInt n2 ≤ (-1) := zr_lt_l (-1) c189_ (zbnd n2) (show 0 ≤ Int32.toInt 0 ∧ Int32.toInt 0 ≤ 0 from (by decide)) (by decide)
                  obtain ⟨q192_, b191_⟩ : (Int32.toInt (100 + i3z181_) = Int32.toInt 100 + Int32.toInt i3z181_) ∧ (100 ≤ Int32.toInt (100 + i3z181_) ∧ Int32.toInt (100 + i3z181_) ≤ 106) := zadd_r 100 i3z181_ 100 106 (show 100 ≤ Int32.toInt 100 ∧ Int32.toInt 100 ≤ 100 from (by decide)) b186_ (by decide) (by decide) (by decide) (by decide)
                  have u193_ : Int32.toInt 100 = 100 := by decide
                  refine pw_blk hT 3 (S' := (73, [some (pvR 124), some (pvI n1), some (pvI n2), some (pvI i3z181_)], [pvI (100 + i3z181_)], M)) rfl ⟨trivial, trivial, trivial, trivial⟩ ?_
                  exact pw_ret hT rfl (r := some (pvI (100 + i3z181_))) (M' := M) ⟨rfl, rfl⟩ ⟨⟨_, rfl, (zr_wide b191_ (by decide) (by decide))⟩, rfl⟩
                · have b194_ : 0 ≤ Int32.toInt n2 ∧ Int32.toInt n2 ≤ 2147483647 := zr_nlt_l 0 c189_ (zbnd n2) (show 0 ≤ Int32.toInt 0 ∧ Int32.toInt 0 ≤ 0 from (by decide)) (by decide)
                  have b195_ : 0 ≤ Int32.toInt (M.1 165 (Int32.toNatClampNeg n1)) ∧ Int32.toInt (M.1 165 (Int32.toNatClampNeg n1)) ≤ 60 := pvok_r hok 165 (Int32.toNatClampNeg n1) rfl
                  obtain ⟨q197_, b196_⟩ : (Int32.toInt ((M.1 165 (Int32.toNatClampNeg n1)) - i3z181_) = Int32.toInt (M.1 165 (Int32.toNatClampNeg n1)) - Int32.toInt i3z181_) ∧ ((-6) ≤ Int32.toInt ((M.1 165 (Int32.toNatClampNeg n1)) - i3z181_) ∧ Int32.toInt ((M.1 165 (Int32.toNatClampNeg n1)) - i3z181_) ≤ 60) := zsub_r (M.1 165 (Int32.toNatClampNeg n1)) i3z181_ (-6) 60 b195_ b186_ (by decide) (by decide) (by decide) (by decide)
                  obtain ⟨q199_, b198_⟩ : (Int32.toInt (((M.1 165 (Int32.toNatClampNeg n1)) - i3z181_) - 1) = Int32.toInt ((M.1 165 (Int32.toNatClampNeg n1)) - i3z181_) - Int32.toInt 1) ∧ ((-7) ≤ Int32.toInt (((M.1 165 (Int32.toNatClampNeg n1)) - i3z181_) - 1) ∧ Int32.toInt (((M.1 165 (Int32.toNatClampNeg n1)) - i3z181_) - 1) ≤ 59) := zsub_r ((M.1 165 (Int32.toNatClampNeg n1)) - i3z181_) 1 (-7) 59 b196_ (show 1 ≤ Int32.toInt 1 ∧ Int32.toInt 1 ≤ 1 from (by decide)) (by decide) (by decide) (by decide) (by decide)
                  have u200_ : Int32.toInt 1 = 1 := by decide
                  refine pw_blk hT 9 (S' := (66, [some (pvR 124), some (pvI n1), some (pvI n2), some (pvI i3z181_)], [pvI (((M.1 165 (Int32.toNatClampNeg n1)) - i3z181_) - 1), pvI n2], M)) rfl ⟨trivial, trivial, rfl, trivial, ⟨rfl, (zr_in (n := 6) b13_ (by decide) (by decide))⟩, trivial, trivial, trivial, trivial, trivial⟩ ?_
                  refine pw_ic hT (c := n2 ≤ (((M.1 165 (Int32.toNatClampNeg n1)) - i3z181_) - 1)) rfl rfl (fun c201_ => ?_) (fun c201_ => ?_)
                  · have b202_ : 0 ≤ Int32.toInt n2 ∧ Int32.toInt n2 ≤ 59 := zr_le_l 59 c201_ b194_ b198_ (by decide)
                    have b203_ : 0 ≤ Int32.toInt (((M.1 165 (Int32.toNatClampNeg n1)) - i3z181_) - 1) ∧ Int32.toInt (((M.1 165 (Int32.toNatClampNeg n1)) - i3z181_) - 1) ≤ 59 := zr_le_r 0 c201_ b198_ b202_ (by decide)
                    have d204_ : Int32.toInt n2 ≤ Int32.toInt (((M.1 165 (Int32.toNatClampNeg n1)) - i3z181_) - 1) := (zi_le _ _).mp c201_
                    have q205_ : Int32.toInt (60 * n1) = 60 * Int32.toInt n1 := by have u0 : Int32.toInt 60 = 60 := (by decide); have u1 := b13_; have u2 := zmul 60 n1 (by rw [u0]; omega) (by rw [u0]; omega); rw [u0] at u2; omega
                    have b206_ : 0 ≤ Int32.toInt (60 * n1) ∧ Int32.toInt (60 * n1) ≤ 300 := (by have u1 := b13_; omega)
                    obtain ⟨q208_, b207_⟩ : (Int32.toInt ((60 * n1) + n2) = Int32.toInt (60 * n1) + Int32.toInt n2) ∧ (0 ≤ Int32.toInt ((60 * n1) + n2) ∧ Int32.toInt ((60 * n1) + n2) ≤ 359) := zadd_r (60 * n1) n2 0 359 b206_ b202_ (by decide) (by decide) (by decide) (by decide)
                    obtain ⟨q210_, b209_⟩ : (Int32.toInt (((60 * n1) + n2) + i3z181_) = Int32.toInt ((60 * n1) + n2) + Int32.toInt i3z181_) ∧ (0 ≤ Int32.toInt (((60 * n1) + n2) + i3z181_) ∧ Int32.toInt (((60 * n1) + n2) + i3z181_) ≤ 365) := zadd_r ((60 * n1) + n2) i3z181_ 0 365 b207_ b186_ (by decide) (by decide) (by decide) (by decide)
                    have b211_ : 0 ≤ Int32.toInt (M.1 131 (Int32.toNatClampNeg i3z181_)) ∧ Int32.toInt (M.1 131 (Int32.toNatClampNeg i3z181_)) ≤ 1 := pvok_r hok 131 (Int32.toNatClampNeg i3z181_) rfl
                    refine pw_blk hT 14 (S' := (93, [some (pvR 124), some (pvI n1), some (pvI n2), some (pvI i3z181_)], [pvI (M.1 131 (Int32.toNatClampNeg i3z181_)), pvJ (M.2 166 (Int32.toNatClampNeg (((60 * n1) + n2) + i3z181_)))], M)) rfl ⟨trivial, rfl, trivial, trivial, trivial, trivial, trivial, trivial, trivial, ⟨rfl, (vp_in_iff.mpr (show 0 ≤ Int32.toInt (((60 * n1) + n2) + i3z181_) ∧ Int32.toInt (((60 * n1) + n2) + i3z181_) < ((360 : Nat) : Int) from (by have u0 := b209_; omega)))⟩, trivial, rfl, trivial, ⟨rfl, (zr_in (n := 7) b186_ (by decide) (by decide))⟩, trivial⟩ ?_
                    refine pw_if hT (c := (M.1 131 (Int32.toNatClampNeg i3z181_)) = 0) rfl rfl (fun c212_ => ?_) (fun c212_ => ?_)
                    · have b213_ : 0 ≤ Int32.toInt (M.1 131 (Int32.toNatClampNeg i3z181_)) ∧ Int32.toInt (M.1 131 (Int32.toNatClampNeg i3z181_)) ≤ 0 := (by have u0 := b211_; have u1 := (zi_eq _ _).mp c212_; have u2 := (show 0 ≤ Int32.toInt 0 ∧ Int32.toInt 0 ≤ 0 from (by decide)); omega)
                      refine pw_blk hT 2 (S' := (102, [some (pvR 124), some (pvI n1), some (pvI n2), some (pvI i3z181_)], [pvI (lg_cmp (M.2 166 (Int32.toNatClampNeg (((60 * n1) + n2) + i3z181_))) 0)], M)) rfl ⟨trivial, trivial, trivial⟩ ?_
                      refine pw_if hT (c := (lg_cmp (M.2 166 (Int32.toNatClampNeg (((60 * n1) + n2) + i3z181_))) 0) = 0) rfl rfl (fun c214_ => ?_) (fun c214_ => ?_)
                      · have b215_ : 0 ≤ Int32.toInt (lg_cmp (M.2 166 (Int32.toNatClampNeg (((60 * n1) + n2) + i3z181_))) 0) ∧ Int32.toInt (lg_cmp (M.2 166 (Int32.toNatClampNeg (((60 * n1) + n2) + i3z181_))) 0) ≤ 0 := (by have u0 := (zbnd (lg_cmp (M.2 166 (Int32.toNatClampNeg (((60 * n1) + n2) + i3z181_))) 0)); have u1 := (zi_eq _ _).mp c214_; have u2 := (show 0 ≤ Int32.toInt 0 ∧ Int32.toInt 0 ≤ 0 from (by decide)); omega)
                        obtain ⟨q217_, b216_⟩ : (Int32.toInt (i3z181_ + 1) = Int32.toInt i3z181_ + Int32.toInt 1) ∧ (1 ≤ Int32.toInt (i3z181_ + 1) ∧ Int32.toInt (i3z181_ + 1) ≤ 7) := zadd_r i3z181_ 1 1 7 b186_ (show 1 ≤ Int32.toInt 1 ∧ Int32.toInt 1 ≤ 1 from (by decide)) (by decide) (by decide) (by decide) (by decide)
                        refine pw_blk hT 2 (S' := (34, [some (pvR 124), some (pvI n1), some (pvI n2), some (pvI (i3z181_ + 1))], [], M)) rfl ⟨trivial, trivial, trivial⟩ ?_
                        exact ihz181_ (i3z181_ + 1) (zr_wide b216_ (by decide) (by decide)) (by omega)
                      · refine pw_blk hT 1 (S' := (106, [some (pvR 124), some (pvI n1), some (pvI n2), some (pvI i3z181_)], [pvI i3z181_], M)) rfl ⟨trivial, trivial⟩ ?_
                        exact pw_ret hT rfl (r := some (pvI i3z181_)) (M' := M) ⟨rfl, rfl⟩ ⟨⟨_, rfl, (zr_wide b186_ (by decide) (by decide))⟩, rfl⟩
                    · have b218_ : 1 ≤ Int32.toInt (M.1 131 (Int32.toNatClampNeg i3z181_)) ∧ Int32.toInt (M.1 131 (Int32.toNatClampNeg i3z181_)) ≤ 1 := (by have u0 := b211_; have u1 := (not_congr (zi_eq _ _)).mp c212_; have u2 := (show 0 ≤ Int32.toInt 0 ∧ Int32.toInt 0 ≤ 0 from (by decide)); omega)
                      refine pw_blk hT 3 (S' := (102, [some (pvR 124), some (pvI n1), some (pvI n2), some (pvI i3z181_)], [pvI (lg_cmp (M.2 166 (Int32.toNatClampNeg (((60 * n1) + n2) + i3z181_))) 1)], M)) rfl ⟨trivial, trivial, trivial, trivial⟩ ?_
                      refine pw_if hT (c := (lg_cmp (M.2 166 (Int32.toNatClampNeg (((60 * n1) + n2) + i3z181_))) 1) = 0) rfl rfl (fun c219_ => ?_) (fun c219_ => ?_)
                      · have b220_ : 0 ≤ Int32.toInt (lg_cmp (M.2 166 (Int32.toNatClampNeg (((60 * n1) + n2) + i3z181_))) 1) ∧ Int32.toInt (lg_cmp (M.2 166 (Int32.toNatClampNeg (((60 * n1) + n2) + i3z181_))) 1) ≤ 0 := (by have u0 := (zbnd (lg_cmp (M.2 166 (Int32.toNatClampNeg (((60 * n1) + n2) + i3z181_))) 1)); have u1 := (zi_eq _ _).mp c219_; have u2 := (show 0 ≤ Int32.toInt 0 ∧ Int32.toInt 0 ≤ 0 from (by decide)); omega)
                        obtain ⟨q222_, b221_⟩ : (Int32.toInt (i3z181_ + 1) = Int32.toInt i3z181_ + Int32.toInt 1) ∧ (1 ≤ Int32.toInt (i3z181_ + 1) ∧ Int32.toInt (i3z181_ + 1) ≤ 7) := zadd_r i3z181_ 1 1 7 b186_ (show 1 ≤ Int32.toInt 1 ∧ Int32.toInt 1 ≤ 1 from (by decide)) (by decide) (by decide) (by decide) (by decide)
                        refine pw_blk hT 2 (S' := (34, [some (pvR 124), some (pvI n1), some (pvI n2), some (pvI (i3z181_ + 1))], [], M)) rfl ⟨trivial, trivial, trivial⟩ ?_
                        exact ihz181_ (i3z181_ + 1) (zr_wide b221_ (by decide) (by decide)) (by omega)
                      · refine pw_blk hT 1 (S' := (106, [some (pvR 124), some (pvI n1), some (pvI n2), some (pvI i3z181_)], [pvI i3z181_], M)) rfl ⟨trivial, trivial⟩ ?_
                        exact pw_ret hT rfl (r := some (pvI i3z181_)) (M' := M) ⟨rfl, rfl⟩ ⟨⟨_, rfl, (zr_wide b186_ (by decide) (by decide))⟩, rfl⟩
                  · have d223_ : Int32.toInt n2 > Int32.toInt (((M.1 165 (Int32.toNatClampNeg n1)) - i3z181_) - 1) := Int.not_le.mp ((not_congr (zi_le _ _)).mp c201_)
                    obtain ⟨q225_, b224_⟩ : (Int32.toInt (100 + i3z181_) = Int32.toInt 100 + Int32.toInt i3z181_) ∧ (100 ≤ Int32.toInt (100 + i3z181_) ∧ Int32.toInt (100 + i3z181_) ≤ 106) := zadd_r 100 i3z181_ 100 106 (show 100 ≤ Int32.toInt 100 ∧ Int32.toInt 100 ≤ 100 from (by decide)) b186_ (by decide) (by decide) (by decide) (by decide)
                    have u226_ : Int32.toInt 100 = 100 := by decide
                    refine pw_blk hT 3 (S' := (73, [some (pvR 124), some (pvI n1), some (pvI n2), some (pvI i3z181_)], [pvI (100 + i3z181_)], M)) rfl ⟨trivial, trivial, trivial, trivial⟩ ?_
                    exact pw_ret hT rfl (r := some (pvI (100 + i3z181_))) (M' := M) ⟨rfl, rfl⟩ ⟨⟨_, rfl, (zr_wide b224_ (by decide) (by decide))⟩, rfl⟩
          exact hlz181_ _ 0 (zr_wide (show 0 ≤ Int32.toInt 0 ∧ Int32.toInt 0 ≤ 0 from (by decide)) (by decide) (by decide)) (Nat.lt_succ_self _)
        · have b227_ : 0 ≤ Int32.toInt (M.1 164 (Int32.toNatClampNeg n1)) ∧ Int32.toInt (M.1 164 (Int32.toNatClampNeg n1)) ≤ 3 := (by have u0 := b40_; have u1 := (not_congr (zi_eq _ _)).mp c41_; have u2 := (show 4 ≤ Int32.toInt 4 ∧ Int32.toInt 4 ≤ 4 from (by decide)); omega)
          refine pw_blk hT 1 (S' := (31, [some (pvR 124), some (pvI n1), some (pvI n2), none], [pvI (-12)], M)) rfl ⟨trivial, trivial⟩ ?_
          exact pw_ret hT rfl (r := some (pvI (-12))) (M' := M) ⟨rfl, rfl⟩ ⟨⟨_, rfl, (zr_wide (show (-12) ≤ Int32.toInt (-12) ∧ Int32.toInt (-12) ≤ (-12) from (by decide)) (by decide) (by decide))⟩, rfl⟩
def fp_X10_late_124_x (q k : Nat) : Bool := (Nat.beq q 124 && Nat.beq k 32) || (Nat.beq q 124 && Nat.beq k 35) || Nat.beq q 141 || Nat.beq q 142 || Nat.beq q 143 || Nat.beq q 144
theorem fp_X10_late_124_x_fp_X10_costOfPath_124_x (a b : Nat) (h : fp_X10_costOfPath_124_x a b = true) : fp_X10_late_124_x a b = true := by unfold fp_X10_costOfPath_124_x at h; unfold fp_X10_late_124_x; revert h; simp <;> omega
theorem fp_X10_late_124_x_fp_X10_layRain_124 (a b : Nat) (h : fp_X10_layRain_124 a b = true) : fp_X10_late_124_x a b = true := by unfold fp_X10_layRain_124 at h; unfold fp_X10_late_124_x; revert h; simp <;> omega
theorem fp_X10_late_124_x_fp_X10_layRound_124 (a b : Nat) (h : fp_X10_layRound_124 a b = true) : fp_X10_late_124_x a b = true := by unfold fp_X10_layRound_124 at h; unfold fp_X10_late_124_x; revert h; simp <;> omega
set_option maxHeartbeats 4000000 in
set_option maxRecDepth 10000 in
theorem sf_X10_late_124_x (M : pvM) (hok : pvOk M) (n1 : Int32) (d : Nat) : PW 47 d (0, [some (pvR 124), some (pvI n1), none], [], M) (fun r X => (∃ x : Int32, r = some (pvI x) ∧ (-5) ≤ Int32.toInt x ∧ Int32.toInt x ≤ 60) ∧ pvOk X ∧ pvFr fp_X10_late_124_x M X) := by
  have hT : pvdom 47 = pvD_47 := rfl
  refine pw_blk hT 2 (S' := (2, [some (pvR 124), some (pvI n1), none], [pvI n1, pvR 124], M)) rfl ⟨trivial, trivial, trivial⟩ ?_
  refine pw_callT hT (as := [pvR 124, pvI n1]) (lo1 := [some (pvR 124), some (pvI n1)]) (d1 := d) (rest := []) rfl rfl rfl rfl rfl (fun _ => rfl) (Nat.zero_le _) rfl rfl rfl (sf_X10_isLimit_124_x M hok n1 d) ?_
  by_cases c6_ : n1 < 0
  · refine pw_eqI (if_pos c6_) ?_
    have b7_ : (-2147483648) ≤ Int32.toInt n1 ∧ Int32.toInt n1 ≤ (-1) := zr_lt_l (-1) c6_ (zbnd n1) (show 0 ≤ Int32.toInt 0 ∧ Int32.toInt 0 ≤ 0 from (by decide)) (by decide)
    show PW 47 d (5, [some (pvR 124), some (pvI n1), none], [pvI 0], M) _
    refine pw_ifn hT (c := 0 = 0) rfl rfl (fun c8_ => absurd (by decide) c8_) (fun c8_ => ?_)
    refine pw_blk hT 1 (S' := (10, [some (pvR 124), some (pvI n1), none], [pvI (-2)], M)) rfl ⟨trivial, trivial⟩ ?_
    exact pw_ret hT rfl (r := some (pvI (-2))) (M' := M) ⟨rfl, rfl⟩ ⟨⟨_, rfl, (zr_wide (show (-2) ≤ Int32.toInt (-2) ∧ Int32.toInt (-2) ≤ (-2) from (by decide)) (by decide) (by decide))⟩, hok, pvfr_0⟩
  · refine pw_eqI (if_neg c6_) ?_
    have b9_ : 0 ≤ Int32.toInt n1 ∧ Int32.toInt n1 ≤ 2147483647 := zr_nlt_l 0 c6_ (zbnd n1) (show 0 ≤ Int32.toInt 0 ∧ Int32.toInt 0 ≤ 0 from (by decide)) (by decide)
    by_cases c10_ : 99999 < n1
    · refine pw_eqI (if_pos c10_) ?_
      have b11_ : 100000 ≤ Int32.toInt n1 ∧ Int32.toInt n1 ≤ 2147483647 := zr_lt_r 100000 c10_ b9_ (show 99999 ≤ Int32.toInt 99999 ∧ Int32.toInt 99999 ≤ 99999 from (by decide)) (by decide)
      show PW 47 d (5, [some (pvR 124), some (pvI n1), none], [pvI 0], M) _
      refine pw_ifn hT (c := 0 = 0) rfl rfl (fun c12_ => absurd (by decide) c12_) (fun c12_ => ?_)
      refine pw_blk hT 1 (S' := (10, [some (pvR 124), some (pvI n1), none], [pvI (-2)], M)) rfl ⟨trivial, trivial⟩ ?_
      exact pw_ret hT rfl (r := some (pvI (-2))) (M' := M) ⟨rfl, rfl⟩ ⟨⟨_, rfl, (zr_wide (show (-2) ≤ Int32.toInt (-2) ∧ Int32.toInt (-2) ≤ (-2) from (by decide)) (by decide) (by decide))⟩, hok, pvfr_0⟩
    · refine pw_eqI (if_neg c10_) ?_
      have b13_ : 0 ≤ Int32.toInt n1 ∧ Int32.toInt n1 ≤ 99999 := zr_nlt_r 99999 c10_ b9_ (show 99999 ≤ Int32.toInt 99999 ∧ Int32.toInt 99999 ≤ 99999 from (by decide)) (by decide)
      show PW 47 d (5, [some (pvR 124), some (pvI n1), none], [pvI 1], M) _
      refine pw_ifn hT (c := 1 = 0) rfl rfl (fun c14_ => ?_) (fun c14_ => absurd c14_ (by decide))
      refine pw_blk hT 1 (S' := (12, [some (pvR 124), some (pvI n1), none], [pvR 124], M)) rfl ⟨trivial, trivial⟩ ?_
      refine pw_callV hT (as := [pvR 124]) (lo1 := [some (pvR 124), none, none]) (d1 := d) (rest := []) rfl rfl rfl rfl rfl (fun _ => rfl) (Nat.zero_le _) rfl rfl rfl (sf_X10_layRain_124 M hok d) (fun M16_ o18_ g19_ => ?_)
      have f20_ : pvFr fp_X10_late_124_x M M16_ := pvfr_t g19_ pvfr_0 fp_X10_late_124_x_fp_X10_layRain_124
      refine pw_blk hT 1 (S' := (16, [some (pvR 124), some (pvI n1), none], [pvR 124], M16_)) rfl ⟨trivial, trivial⟩ ?_
      refine pw_callV hT (as := [pvR 124]) (lo1 := [some (pvR 124), none]) (d1 := d) (rest := []) rfl rfl rfl rfl rfl (fun _ => rfl) (Nat.zero_le _) rfl rfl rfl (sf_X10_layRound_124 M16_ o18_ d) (fun M22_ o24_ g25_ => ?_)
      have f26_ : pvFr fp_X10_late_124_x M M22_ := pvfr_t g25_ f20_ fp_X10_late_124_x_fp_X10_layRound_124
      refine pw_blk hT 2 (S' := (22, [some (pvR 124), some (pvI n1), some (pvI 60)], [], M22_)) rfl ⟨trivial, trivial, trivial⟩ ?_
      have hlz97_ : ∀ (nz97_ : Nat) (i2z97_ : Int32) (Mz97_ : pvM), (pvOk Mz97_) → (pvFr fp_X10_late_124_x M Mz97_) → ((-1) ≤ Int32.toInt i2z97_ ∧ Int32.toInt i2z97_ ≤ 60) → ((Int32.toInt i2z97_ - (-2)).toNat < nz97_) → PW 47 d (22, [some (pvR 124), some (pvI n1), some (pvI i2z97_)], [], Mz97_) (fun r X => (∃ x : Int32, r = some (pvI x) ∧ (-5) ≤ Int32.toInt x ∧ Int32.toInt x ≤ 60) ∧ pvOk X ∧ pvFr fp_X10_late_124_x M X) := by
        intro nz97_
        induction nz97_ with
        | zero => intro i2z97_ Mz97_ oz97_ fz97_ h2z97_ hmz97_; exact absurd hmz97_ (Nat.not_lt_zero _)
        | succ nz97_ ihz97_ =>
          intro i2z97_ Mz97_ oz97_ fz97_ h2z97_ hmz97_
          refine pw_blk hT 1 (S' := (23, [some (pvR 124), some (pvI n1), some (pvI i2z97_)], [pvI i2z97_], Mz97_)) rfl ⟨trivial, trivial⟩ ?_
          refine pw_if hT (c := i2z97_ < 0) rfl rfl (fun c98_ => ?_) (fun c98_ => ?_)
          · have b99_ : (-1) ≤ Int32.toInt i2z97_ ∧ Int32.toInt i2z97_ ≤ (-1) := zr_lt_l (-1) c98_ h2z97_ (show 0 ≤ Int32.toInt 0 ∧ Int32.toInt 0 ≤ 0 from (by decide)) (by decide)
            refine pw_blk hT 1 (S' := (45, [some (pvR 124), some (pvI n1), some (pvI i2z97_)], [pvI (-5)], Mz97_)) rfl ⟨trivial, trivial⟩ ?_
            exact pw_ret hT rfl (r := some (pvI (-5))) (M' := Mz97_) ⟨rfl, rfl⟩ ⟨⟨_, rfl, (zr_wide (show (-5) ≤ Int32.toInt (-5) ∧ Int32.toInt (-5) ≤ (-5) from (by decide)) (by decide) (by decide))⟩, oz97_, fz97_⟩
          · have b100_ : 0 ≤ Int32.toInt i2z97_ ∧ Int32.toInt i2z97_ ≤ 60 := zr_nlt_l 0 c98_ h2z97_ (show 0 ≤ Int32.toInt 0 ∧ Int32.toInt 0 ≤ 0 from (by decide)) (by decide)
            refine pw_blk hT 2 (S' := (28, [some (pvR 124), some (pvI n1), some (pvI i2z97_)], [pvI i2z97_, pvR 124], Mz97_)) rfl ⟨trivial, trivial, trivial⟩ ?_
            refine pw_callG hT (as := [pvR 124, pvI i2z97_]) (lo1 := [some (pvR 124), some (pvI i2z97_), none]) (d1 := d) (rest := []) rfl rfl rfl rfl rfl (fun _ => rfl) (Nat.zero_le _) rfl rfl rfl (sf_X10_costOfPath_124_x Mz97_ oz97_ i2z97_ b100_ d) (fun x101_ M102_ b103_ o104_ g105_ => ?_)
            have f106_ : pvFr fp_X10_late_124_x M M102_ := pvfr_t g105_ fz97_ fp_X10_late_124_x_fp_X10_costOfPath_124_x
            refine pw_blk hT 1 (S' := (32, [some (pvR 124), some (pvI n1), some (pvI i2z97_)], [pvI n1, pvI x101_], M102_)) rfl ⟨trivial, trivial⟩ ?_
            refine pw_ic hT (c := n1 < x101_) rfl rfl (fun c107_ => ?_) (fun c107_ => ?_)
            · have b108_ : 1 ≤ Int32.toInt x101_ ∧ Int32.toInt x101_ ≤ 9000000 := zr_lt_r 1 c107_ b103_ b13_ (by decide)
              have d109_ : Int32.toInt n1 < Int32.toInt x101_ := (zi_lt _ _).mp c107_
              obtain ⟨q111_, b110_⟩ : (Int32.toInt (i2z97_ + (-1)) = Int32.toInt i2z97_ + Int32.toInt (-1)) ∧ ((-1) ≤ Int32.toInt (i2z97_ + (-1)) ∧ Int32.toInt (i2z97_ + (-1)) ≤ 59) := zadd_r i2z97_ (-1) (-1) 59 b100_ (show (-1) ≤ Int32.toInt (-1) ∧ Int32.toInt (-1) ≤ (-1) from (by decide)) (by decide) (by decide) (by decide) (by decide)
              have u112_ : Int32.toInt (-1) = (-1) := by decide
              refine pw_blk hT 2 (S' := (22, [some (pvR 124), some (pvI n1), some (pvI (i2z97_ + (-1)))], [], M102_)) rfl ⟨trivial, trivial, trivial⟩ ?_
              exact ihz97_ (i2z97_ + (-1)) M102_ o104_ f106_ (zr_wide b110_ (by decide) (by decide)) (by omega)
            · have b113_ : 0 ≤ Int32.toInt x101_ ∧ Int32.toInt x101_ ≤ 99999 := zr_nlt_r 99999 c107_ b103_ b13_ (by decide)
              have d114_ : Int32.toInt n1 ≥ Int32.toInt x101_ := Int.not_lt.mp ((not_congr (zi_lt _ _)).mp c107_)
              refine pw_blk hT 1 (S' := (36, [some (pvR 124), some (pvI n1), some (pvI i2z97_)], [pvI i2z97_], M102_)) rfl ⟨trivial, trivial⟩ ?_
              exact pw_ret hT rfl (r := some (pvI i2z97_)) (M' := M102_) ⟨rfl, rfl⟩ ⟨⟨_, rfl, (zr_wide b100_ (by decide) (by decide))⟩, o104_, f106_⟩
      exact hlz97_ _ 60 M22_ o24_ f26_ (zr_wide (show 60 ≤ Int32.toInt 60 ∧ Int32.toInt 60 ≤ 60 from (by decide)) (by decide) (by decide)) (Nat.lt_succ_self _)
