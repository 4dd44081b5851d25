set_option maxHeartbeats 4000000 in
set_option maxRecDepth 10000 in
theorem sf_X10_in_124_x_x_x (M : pvM) (hok : pvOk M) (n1 : Int32) (n2 : Int32) (n3 : Int32) (d : Nat) : PW 36 d (0, [some (pvR 124), some (pvI n1), some (pvI n2), some (pvI n3)], [], M) (fun r X => r = some (pvI ((if n1 < n2 then 0 else (if n3 < n1 then 0 else 1)))) ∧ X = M) := by
  have hT : pvdom 36 = pvD_36 := rfl
  refine pw_blk hT 2 (S' := (2, [some (pvR 124), some (pvI n1), some (pvI n2), some (pvI n3)], [pvI n2, pvI n1], M)) rfl ⟨trivial, trivial, trivial⟩ ?_
  refine pw_ic hT (c := n1 < n2) rfl rfl (fun c1_ => ?_) (fun c1_ => ?_)
  · have b2_ : (-2147483648) ≤ Int32.toInt n1 ∧ Int32.toInt n1 ≤ 2147483646 := zr_lt_l 2147483646 c1_ (zbnd n1) (zbnd n2) (by decide)
    have b3_ : (-2147483647) ≤ Int32.toInt n2 ∧ Int32.toInt n2 ≤ 2147483647 := zr_lt_r (-2147483647) c1_ (zbnd n2) b2_ (by decide)
    have d4_ : Int32.toInt n1 < Int32.toInt n2 := (zi_lt _ _).mp c1_
    refine pw_blk hT 1 (S' := (15, [some (pvR 124), some (pvI n1), some (pvI n2), some (pvI n3)], [pvI 0], M)) rfl ⟨trivial, trivial⟩ ?_
    exact pw_ret hT rfl (r := some (pvI 0)) (M' := M) ⟨Or.inl rfl, rfl, rfl⟩ ⟨(by rw [if_pos c1_]), rfl⟩
  · have d5_ : Int32.toInt n1 ≥ Int32.toInt n2 := Int.not_lt.mp ((not_congr (zi_lt _ _)).mp c1_)
    refine pw_blk hT 2 (S' := (7, [some (pvR 124), some (pvI n1), some (pvI n2), some (pvI n3)], [pvI n3, pvI n1], M)) rfl ⟨trivial, trivial, trivial⟩ ?_
    refine pw_ic hT (c := n3 < n1) rfl rfl (fun c6_ => ?_) (fun c6_ => ?_)
    · have b7_ : (-2147483648) ≤ Int32.toInt n3 ∧ Int32.toInt n3 ≤ 2147483646 := zr_lt_l 2147483646 c6_ (zbnd n3) (zbnd n1) (by decide)
      have b8_ : (-2147483647) ≤ Int32.toInt n1 ∧ Int32.toInt n1 ≤ 2147483647 := zr_lt_r (-2147483647) c6_ (zbnd n1) b7_ (by decide)
      have d9_ : Int32.toInt n3 < Int32.toInt n1 := (zi_lt _ _).mp c6_
      refine pw_blk hT 1 (S' := (15, [some (pvR 124), some (pvI n1), some (pvI n2), some (pvI n3)], [pvI 0], M)) rfl ⟨trivial, trivial⟩ ?_
      exact pw_ret hT rfl (r := some (pvI 0)) (M' := M) ⟨Or.inl rfl, rfl, rfl⟩ ⟨(by rw [if_neg c1_, if_pos c6_]), rfl⟩
    · have d10_ : Int32.toInt n3 ≥ Int32.toInt n1 := Int.not_lt.mp ((not_congr (zi_lt _ _)).mp c6_)
      refine pw_blk hT 2 (S' := (15, [some (pvR 124), some (pvI n1), some (pvI n2), some (pvI n3)], [pvI 1], M)) rfl ⟨trivial, trivial, trivial⟩ ?_
      exact pw_ret hT rfl (r := some (pvI 1)) (M' := M) ⟨Or.inr rfl, rfl, rfl⟩ ⟨(by rw [if_neg c1_, if_neg c6_]), rfl⟩
set_option maxHeartbeats 4000000 in
set_option maxRecDepth 10000 in
theorem sf_X10_isWindow_124_x (M : pvM) (hok : pvOk M) (n1 : Int32) (d : Nat) : PW 42 d (0, [some (pvR 124), some (pvI n1)], [], M) (fun r X => r = some (pvI ((if n1 < 0 then 0 else (if ((M.1 124 0) - 1) < n1 then 0 else 1)))) ∧ X = M) := by
  have hT : pvdom 42 = pvD_42 := rfl
  have b1_ : 0 ≤ Int32.toInt (M.1 124 0) ∧ Int32.toInt (M.1 124 0) ≤ 7 := pvok_r hok 124 0 rfl
  obtain ⟨q3_, b2_⟩ : (Int32.toInt ((M.1 124 0) - 1) = Int32.toInt (M.1 124 0) - 1) ∧ ((-1) ≤ Int32.toInt ((M.1 124 0) - 1) ∧ Int32.toInt ((M.1 124 0) - 1) ≤ 6) := zsub_k (M.1 124 0) 1 1 (-1) 6 b1_ (by decide) (by decide) (by decide) (by decide) (by decide)
  refine pw_blk hT 7 (S' := (9, [some (pvR 124), some (pvI n1)], [pvI ((M.1 124 0) - 1), pvI 0, pvI n1, pvR 124], M)) rfl ⟨trivial, trivial, trivial, trivial, rfl, trivial, trivial, trivial⟩ ?_
  refine pw_callT hT (as := [pvR 124, pvI n1, pvI 0, pvI ((M.1 124 0) - 1)]) (lo1 := [some (pvR 124), some (pvI n1), some (pvI 0), some (pvI ((M.1 124 0) - 1))]) (d1 := d) (rest := []) rfl rfl rfl rfl rfl (fun _ => rfl) (Nat.zero_le _) rfl rfl rfl (sf_X10_in_124_x_x_x M hok n1 0 ((M.1 124 0) - 1) d) ?_
  by_cases c9_ : n1 < 0
  · refine pw_eqI (if_pos c9_) ?_
    have b10_ : (-2147483648) ≤ Int32.toInt n1 ∧ Int32.toInt n1 ≤ (-1) := zr_lt_l (-1) c9_ (zbnd n1) (show 0 ≤ Int32.toInt 0 ∧ Int32.toInt 0 ≤ 0 from (by decide)) (by decide)
    show PW 42 d (12, [some (pvR 124), some (pvI n1)], [pvI 0], M) _
    exact pw_ret hT rfl (r := some (pvI 0)) (M' := M) ⟨Or.inl rfl, rfl, rfl⟩ ⟨(by rw [if_pos c9_]), rfl⟩
  · refine pw_eqI (if_neg c9_) ?_
    have b11_ : 0 ≤ Int32.toInt n1 ∧ Int32.toInt n1 ≤ 2147483647 := zr_nlt_l 0 c9_ (zbnd n1) (show 0 ≤ Int32.toInt 0 ∧ Int32.toInt 0 ≤ 0 from (by decide)) (by decide)
    by_cases c12_ : ((M.1 124 0) - 1) < n1
    · refine pw_eqI (if_pos c12_) ?_
      have d13_ : Int32.toInt ((M.1 124 0) - 1) < Int32.toInt n1 := (zi_lt _ _).mp c12_
      show PW 42 d (12, [some (pvR 124), some (pvI n1)], [pvI 0], M) _
      exact pw_ret hT rfl (r := some (pvI 0)) (M' := M) ⟨Or.inl rfl, rfl, rfl⟩ ⟨(by rw [if_neg c9_, if_pos c12_]), rfl⟩
    · refine pw_eqI (if_neg c12_) ?_
      have b14_ : 0 ≤ Int32.toInt ((M.1 124 0) - 1) ∧ Int32.toInt ((M.1 124 0) - 1) ≤ 6 := zr_nlt_l 0 c12_ b2_ b11_ (by decide)
      have b15_ : 0 ≤ Int32.toInt n1 ∧ Int32.toInt n1 ≤ 6 := zr_nlt_r 6 c12_ b11_ b14_ (by decide)
      have d16_ : Int32.toInt ((M.1 124 0) - 1) ≥ Int32.toInt n1 := Int.not_lt.mp ((not_congr (zi_lt _ _)).mp c12_)
      show PW 42 d (12, [some (pvR 124), some (pvI n1)], [pvI 1], M) _
      exact pw_ret hT rfl (r := some (pvI 1)) (M' := M) ⟨Or.inr rfl, rfl, rfl⟩ ⟨(by rw [if_neg c9_, if_neg c12_]), rfl⟩
set_option maxHeartbeats 4000000 in
set_option maxRecDepth 10000 in
theorem sf_X10_apart_124_x_x (M : pvM) (hok : pvOk M) (n1 : Int32) (n2 : Int32) (hn1 : 0 ≤ Int32.toInt n1 ∧ Int32.toInt n1 ≤ 4) (hn2 : 0 ≤ Int32.toInt n2 ∧ Int32.toInt n2 ≤ 4) (d : Nat) : PW 7 d (0, [some (pvR 124), some (pvI n1), some (pvI n2)], [], M) (fun r X => r = some (pvI ((if n2 ≤ n1 then (n1 - n2) else (n2 - n1)))) ∧ X = M) := by
  have hT : pvdom 7 = pvD_7 := rfl
  refine pw_blk hT 2 (S' := (2, [some (pvR 124), some (pvI n1), some (pvI n2)], [pvI n2, pvI n1], M)) rfl ⟨trivial, trivial, trivial⟩ ?_
  refine pw_ic hT (c := n2 ≤ n1) rfl rfl (fun c1_ => ?_) (fun c1_ => ?_)
  · have d2_ : Int32.toInt n2 ≤ Int32.toInt n1 := (zi_le _ _).mp c1_
    obtain ⟨q4_, b3_⟩ : (Int32.toInt (n1 - n2) = Int32.toInt n1 - Int32.toInt n2) ∧ ((-4) ≤ Int32.toInt (n1 - n2) ∧ Int32.toInt (n1 - n2) ≤ 4) := zsub_r n1 n2 (-4) 4 hn1 hn2 (by decide) (by decide) (by decide) (by decide)
    have b5_ : 0 ≤ Int32.toInt (n1 - n2) ∧ Int32.toInt (n1 - n2) ≤ 4 := (by have u0 := b3_; omega)
    refine pw_blk hT 3 (S' := (14, [some (pvR 124), some (pvI n1), some (pvI n2)], [pvI (n1 - n2)], M)) rfl ⟨trivial, trivial, trivial, trivial⟩ ?_
    exact pw_ret hT rfl (r := some (pvI (n1 - n2))) (M' := M) ⟨rfl, rfl⟩ ⟨(by rw [if_pos c1_]), rfl⟩
  · have b6_ : 1 ≤ Int32.toInt n2 ∧ Int32.toInt n2 ≤ 4 := zr_nle_l 1 c1_ hn2 hn1 (by decide)
    have b7_ : 0 ≤ Int32.toInt n1 ∧ Int32.toInt n1 ≤ 3 := zr_nle_r 3 c1_ hn1 b6_ (by decide)
    have d8_ : Int32.toInt n2 > Int32.toInt n1 := Int.not_le.mp ((not_congr (zi_le _ _)).mp c1_)
    obtain ⟨q10_, b9_⟩ : (Int32.toInt (n2 - n1) = Int32.toInt n2 - Int32.toInt n1) ∧ ((-2) ≤ Int32.toInt (n2 - n1) ∧ Int32.toInt (n2 - n1) ≤ 4) := zsub_r n2 n1 (-2) 4 b6_ b7_ (by decide) (by decide) (by decide) (by decide)
    have b11_ : 1 ≤ Int32.toInt (n2 - n1) ∧ Int32.toInt (n2 - n1) ≤ 4 := (by have u0 := b9_; omega)
    refine pw_blk hT 4 (S' := (14, [some (pvR 124), some (pvI n1), some (pvI n2)], [pvI (n2 - n1)], M)) rfl ⟨trivial, trivial, trivial, trivial, trivial⟩ ?_
    exact pw_ret hT rfl (r := some (pvI (n2 - n1))) (M' := M) ⟨rfl, rfl⟩ ⟨(by rw [if_neg c1_]), rfl⟩
set_option maxHeartbeats 4000000 in
set_option maxRecDepth 10000 in
theorem sf_X10_firstClause_124 (M : pvM) (hok : pvOk M) (d : Nat) : PW 21 d (0, [some (pvR 124)], [], M) (fun r X => r = some (pvI ((if 0 ≤ (M.1 124 15) then (10 * (M.1 124 15)) else 0))) ∧ X = M) := by
  have hT : pvdom 21 = pvD_21 := rfl
  have b1_ : (-1) ≤ Int32.toInt (M.1 124 15) ∧ Int32.toInt (M.1 124 15) ≤ 5 := pvok_r hok 124 15 rfl
  refine pw_blk hT 2 (S' := (4, [some (pvR 124)], [pvI (M.1 124 15)], M)) rfl ⟨trivial, rfl, trivial⟩ ?_
  refine pw_if hT (c := 0 ≤ (M.1 124 15)) rfl rfl (fun c2_ => ?_) (fun c2_ => ?_)
  · have b3_ : 0 ≤ Int32.toInt (M.1 124 15) ∧ Int32.toInt (M.1 124 15) ≤ 5 := zr_le_r 0 c2_ b1_ (show 0 ≤ Int32.toInt 0 ∧ Int32.toInt 0 ≤ 0 from (by decide)) (by decide)
    have q4_ : Int32.toInt (10 * (M.1 124 15)) = 10 * Int32.toInt (M.1 124 15) := by have u0 : Int32.toInt 10 = 10 := (by decide); have u1 := b3_; have u2 := zmul 10 (M.1 124 15) (by rw [u0]; omega) (by rw [u0]; omega); rw [u0] at u2; omega
    have b5_ : 0 ≤ Int32.toInt (10 * (M.1 124 15)) ∧ Int32.toInt (10 * (M.1 124 15)) ≤ 50 := (by have u1 := b3_; omega)
    refine pw_blk hT 4 (S' := (18, [some (pvR 124)], [pvI (10 * (M.1 124 15))], M)) rfl ⟨trivial, trivial, rfl, trivial, trivial⟩ ?_
    exact pw_ret hT rfl (r := some (pvI (10 * (M.1 124 15)))) (M' := M) ⟨rfl, rfl⟩ ⟨(by rw [if_pos c2_]), rfl⟩
  · have b6_ : (-1) ≤ Int32.toInt (M.1 124 15) ∧ Int32.toInt (M.1 124 15) ≤ (-1) := zr_nle_r (-1) c2_ b1_ (show 0 ≤ Int32.toInt 0 ∧ Int32.toInt 0 ≤ 0 from (by decide)) (by decide)
    refine pw_blk hT 2 (S' := (18, [some (pvR 124)], [pvI 0], M)) rfl ⟨trivial, trivial, trivial⟩ ?_
    exact pw_ret hT rfl (r := some (pvI 0)) (M' := M) ⟨rfl, rfl⟩ ⟨(by rw [if_neg c2_]), rfl⟩
set_option maxHeartbeats 4000000 in
set_option maxRecDepth 10000 in
theorem sf_X10_behindClauses_124 (M : pvM) (hok : pvOk M) (d : Nat) : PW 9 d (0, [some (pvR 124)], [], M) (fun r X => r = some (pvI ((if 0 ≤ (M.1 124 15) then ((10 * (M.1 124 15)) + (M.1 133 (Int32.toNatClampNeg (M.1 124 15)))) else 0))) ∧ X = M) := by
  have hT : pvdom 9 = pvD_9 := rfl
  have b1_ : (-1) ≤ Int32.toInt (M.1 124 15) ∧ Int32.toInt (M.1 124 15) ≤ 5 := pvok_r hok 124 15 rfl
  refine pw_blk hT 2 (S' := (4, [some (pvR 124)], [pvI (M.1 124 15)], M)) rfl ⟨trivial, rfl, trivial⟩ ?_
  refine pw_if hT (c := 0 ≤ (M.1 124 15)) rfl rfl (fun c2_ => ?_) (fun c2_ => ?_)
  · have b3_ : 0 ≤ Int32.toInt (M.1 124 15) ∧ Int32.toInt (M.1 124 15) ≤ 5 := zr_le_r 0 c2_ b1_ (show 0 ≤ Int32.toInt 0 ∧ Int32.toInt 0 ≤ 0 from (by decide)) (by decide)
    have q4_ : Int32.toInt (10 * (M.1 124 15)) = 10 * Int32.toInt (M.1 124 15) := by have u0 : Int32.toInt 10 = 10 := (by decide); have u1 := b3_; have u2 := zmul 10 (M.1 124 15) (by rw [u0]; omega) (by rw [u0]; omega); rw [u0] at u2; omega
    have b5_ : 0 ≤ Int32.toInt (10 * (M.1 124 15)) ∧ Int32.toInt (10 * (M.1 124 15)) ≤ 50 := (by have u1 := b3_; omega)
    have b6_ : 0 ≤ Int32.toInt (M.1 133 (Int32.toNatClampNeg (M.1 124 15))) ∧ Int32.toInt (M.1 133 (Int32.toNatClampNeg (M.1 124 15))) ≤ 10 := pvok_r hok 133 (Int32.toNatClampNeg (M.1 124 15)) rfl
    obtain ⟨q8_, b7_⟩ : (Int32.toInt ((10 * (M.1 124 15)) + (M.1 133 (Int32.toNatClampNeg (M.1 124 15)))) = Int32.toInt (10 * (M.1 124 15)) + Int32.toInt (M.1 133 (Int32.toNatClampNeg (M.1 124 15)))) ∧ (0 ≤ Int32.toInt ((10 * (M.1 124 15)) + (M.1 133 (Int32.toNatClampNeg (M.1 124 15)))) ∧ Int32.toInt ((10 * (M.1 124 15)) + (M.1 133 (Int32.toNatClampNeg (M.1 124 15)))) ≤ 60) := zadd_r (10 * (M.1 124 15)) (M.1 133 (Int32.toNatClampNeg (M.1 124 15))) 0 60 b5_ b6_ (by decide) (by decide) (by decide) (by decide)
    refine pw_blk hT 10 (S' := (28, [some (pvR 124)], [pvI ((10 * (M.1 124 15)) + (M.1 133 (Int32.toNatClampNeg (M.1 124 15))))], M)) rfl ⟨trivial, trivial, rfl, trivial, trivial, rfl, trivial, rfl, ⟨rfl, (zr_in (n := 6) b3_ (by decide) (by decide))⟩, trivial, trivial⟩ ?_
    exact pw_ret hT rfl (r := some (pvI ((10 * (M.1 124 15)) + (M.1 133 (Int32.toNatClampNeg (M.1 124 15)))))) (M' := M) ⟨rfl, rfl⟩ ⟨(by rw [if_pos c2_]), rfl⟩
  · have b9_ : (-1) ≤ Int32.toInt (M.1 124 15) ∧ Int32.toInt (M.1 124 15) ≤ (-1) := zr_nle_r (-1) c2_ b1_ (show 0 ≤ Int32.toInt 0 ∧ Int32.toInt 0 ≤ 0 from (by decide)) (by decide)
    refine pw_blk hT 2 (S' := (28, [some (pvR 124)], [pvI 0], M)) rfl ⟨trivial, trivial, trivial⟩ ?_
    exact pw_ret hT rfl (r := some (pvI 0)) (M' := M) ⟨rfl, rfl⟩ ⟨(by rw [if_neg c2_]), rfl⟩
set_option maxHeartbeats 4000000 in
set_option maxRecDepth 10000 in
theorem sf_X10_lastOf_124_x_x (M : pvM) (hok : pvOk M) (n1 : Int32) (n2 : Int32) (hn1 : 0 ≤ Int32.toInt n1 ∧ Int32.toInt n1 ≤ 3) (hn2 : 0 ≤ Int32.toInt n2 ∧ Int32.toInt n2 ≤ 99) (d : Nat) : PW 46 d (0, [some (pvR 124), some (pvI n1), some (pvI n2), none, none], [], M) (fun r X => (∃ x : Int32, r = some (pvI x) ∧ 0 ≤ Int32.toInt x ∧ Int32.toInt x ≤ 99) ∧ X = M) := by
  have hT : pvdom 46 = pvD_46 := rfl
  refine pw_blk hT 3 (S' := (3, [some (pvR 124), some (pvI n1), some (pvI n2), some (pvI n2), none], [pvR 124], M)) rfl ⟨trivial, trivial, trivial, trivial⟩ ?_
  refine pw_callT hT (as := [pvR 124]) (lo1 := [some (pvR 124)]) (d1 := d) (rest := []) rfl rfl rfl rfl rfl (fun _ => rfl) (Nat.zero_le _) rfl rfl rfl (sf_X10_firstClause_124 M hok d) ?_
  have b6_ : (-1) ≤ Int32.toInt (M.1 124 15) ∧ Int32.toInt (M.1 124 15) ≤ 5 := pvok_r hok 124 15 rfl
  by_cases c7_ : 0 ≤ (M.1 124 15)
  · refine pw_eqI (if_pos c7_) ?_
    have b8_ : 0 ≤ Int32.toInt (M.1 124 15) ∧ Int32.toInt (M.1 124 15) ≤ 5 := zr_le_r 0 c7_ b6_ (show 0 ≤ Int32.toInt 0 ∧ Int32.toInt 0 ≤ 0 from (by decide)) (by decide)
    have q9_ : Int32.toInt (10 * (M.1 124 15)) = 10 * Int32.toInt (M.1 124 15) := by have u0 : Int32.toInt 10 = 10 := (by decide); have u1 := b8_; have u2 := zmul 10 (M.1 124 15) (by rw [u0]; omega) (by rw [u0]; omega); rw [u0] at u2; omega
    have b10_ : 0 ≤ Int32.toInt (10 * (M.1 124 15)) ∧ Int32.toInt (10 * (M.1 124 15)) ≤ 50 := (by have u1 := b8_; omega)
    show PW 46 d (6, [some (pvR 124), some (pvI n1), some (pvI n2), some (pvI n2), none], [pvI (10 * (M.1 124 15))], M) _
    refine pw_blk hT 1 (S' := (8, [some (pvR 124), some (pvI n1), some (pvI n2), some (pvI n2), some (pvI (10 * (M.1 124 15)))], [], M)) rfl ⟨trivial, trivial⟩ ?_
    have hlz77_ : ∀ (nz77_ : Nat) (i3z77_ : Int32) (i4z77_ : Int32), (0 ≤ Int32.toInt i3z77_ ∧ Int32.toInt i3z77_ ≤ 99) → (0 ≤ Int32.toInt i4z77_ ∧ Int32.toInt i4z77_ ≤ 60) → (zhide ((61 - Int32.toInt i4z77_).toNat < nz77_)) → PW 46 d (8, [some (pvR 124), some (pvI n1), some (pvI n2), some (pvI i3z77_), some (pvI i4z77_)], [], M) (fun r X => (∃ x : Int32, r = some (pvI x) ∧ 0 ≤ Int32.toInt x ∧ Int32.toInt x ≤ 99) ∧ X = M) := by
      intro nz77_
      induction nz77_ with
      | zero => intro i3z77_ i4z77_ h3z77_ h4z77_ hmz77_; exact absurd (zshow hmz77_) (Nat.not_lt_zero _)
      | succ nz77_ ihz77_ =>
        intro i3z77_ i4z77_ h3z77_ h4z77_ hmz77_
        refine pw_blk hT 2 (S' := (11, [some (pvR 124), some (pvI n1), some (pvI n2), some (pvI i3z77_), some (pvI i4z77_)], [pvR 124, pvI i4z77_], M)) rfl ⟨trivial, trivial, trivial⟩ ?_
        refine pw_callT hT (as := [pvR 124]) (lo1 := [some (pvR 124)]) (d1 := d) (rest := [pvI i4z77_]) rfl rfl rfl rfl rfl (fun _ => rfl) (Nat.zero_le _) rfl rfl rfl (sf_X10_behindClauses_124 M hok d) ?_
        refine pw_eqI (if_pos c7_) ?_
        have b83_ : 0 ≤ Int32.toInt (M.1 133 (Int32.toNatClampNeg (M.1 124 15))) ∧ Int32.toInt (M.1 133 (Int32.toNatClampNeg (M.1 124 15))) ≤ 10 := pvok_r hok 133 (Int32.toNatClampNeg (M.1 124 15)) rfl
        obtain ⟨q85_, b84_⟩ : (Int32.toInt ((10 * (M.1 124 15)) + (M.1 133 (Int32.toNatClampNeg (M.1 124 15)))) = Int32.toInt (10 * (M.1 124 15)) + Int32.toInt (M.1 133 (Int32.toNatClampNeg (M.1 124 15)))) ∧ (0 ≤ Int32.toInt ((10 * (M.1 124 15)) + (M.1 133 (Int32.toNatClampNeg (M.1 124 15)))) ∧ Int32.toInt ((10 * (M.1 124 15)) + (M.1 133 (Int32.toNatClampNeg (M.1 124 15)))) ≤ 60) := zadd_r (10 * (M.1 124 15)) (M.1 133 (Int32.toNatClampNeg (M.1 124 15))) 0 60 b10_ b83_ (by decide) (by decide) (by decide) (by decide)
        show PW 46 d (14, [some (pvR 124), some (pvI n1), some (pvI n2), some (pvI i3z77_), some (pvI i4z77_)], [pvI ((10 * (M.1 124 15)) + (M.1 133 (Int32.toNatClampNeg (M.1 124 15)))), pvI i4z77_], M) _
        refine pw_ic hT (c := ((10 * (M.1 124 15)) + (M.1 133 (Int32.toNatClampNeg (M.1 124 15)))) ≤ i4z77_) rfl rfl (fun c86_ => ?_) (fun c86_ => ?_)
        · have d87_ : Int32.toInt ((10 * (M.1 124 15)) + (M.1 133 (Int32.toNatClampNeg (M.1 124 15)))) ≤ Int32.toInt i4z77_ := (zi_le _ _).mp c86_
          refine pw_blk hT 1 (S' := (47, [some (pvR 124), some (pvI n1), some (pvI n2), some (pvI i3z77_), some (pvI i4z77_)], [pvI i3z77_], M)) rfl ⟨trivial, trivial⟩ ?_
          exact pw_ret hT rfl (r := some (pvI i3z77_)) (M' := M) ⟨rfl, rfl⟩ ⟨⟨_, rfl, h3z77_⟩, rfl⟩
        · have b88_ : 1 ≤ Int32.toInt ((10 * (M.1 124 15)) + (M.1 133 (Int32.toNatClampNeg (M.1 124 15)))) ∧ Int32.toInt ((10 * (M.1 124 15)) + (M.1 133 (Int32.toNatClampNeg (M.1 124 15)))) ≤ 60 := zr_nle_l 1 c86_ b84_ h4z77_ (by decide)
          have b89_ : 0 ≤ Int32.toInt i4z77_ ∧ Int32.toInt i4z77_ ≤ 59 := zr_nle_r 59 c86_ h4z77_ b88_ (by decide)
          have d90_ : Int32.toInt ((10 * (M.1 124 15)) + (M.1 133 (Int32.toNatClampNeg (M.1 124 15)))) > Int32.toInt i4z77_ := Int.not_le.mp ((not_congr (zi_le _ _)).mp c86_)
          have b91_ : 0 ≤ Int32.toInt (M.1 134 (Int32.toNatClampNeg i4z77_)) ∧ Int32.toInt (M.1 134 (Int32.toNatClampNeg i4z77_)) ≤ 3 := pvok_r hok 134 (Int32.toNatClampNeg i4z77_) rfl
          refine pw_blk hT 5 (S' := (25, [some (pvR 124), some (pvI n1), some (pvI n2), some (pvI i3z77_), some (pvI i4z77_)], [pvI n1, pvI (M.1 134 (Int32.toNatClampNeg i4z77_))], M)) rfl ⟨trivial, rfl, trivial, ⟨rfl, (zr_in (n := 60) b89_ (by decide) (by decide))⟩, trivial, trivial⟩ ?_
          refine pw_icn hT (c := (M.1 134 (Int32.toNatClampNeg i4z77_)) = n1) rfl rfl (fun c92_ => ?_) (fun c92_ => ?_)
          · obtain ⟨q94_, b93_⟩ : (Int32.toInt (i4z77_ + 1) = Int32.toInt i4z77_ + 1) ∧ (1 ≤ Int32.toInt (i4z77_ + 1) ∧ Int32.toInt (i4z77_ + 1) ≤ 60) := zadd_k i4z77_ 1 1 1 60 b89_ (by decide) (by decide) (by decide) (by decide) (by decide)
            refine pw_blk hT 4 (S' := (8, [some (pvR 124), some (pvI n1), some (pvI n2), some (pvI i3z77_), some (pvI (i4z77_ + 1))], [], M)) rfl ⟨trivial, trivial, trivial, trivial, trivial⟩ ?_
            exact ihz77_ i3z77_ (i4z77_ + 1) h3z77_ (zr_wide b93_ (by decide) (by decide)) (zhid (pvms_up (zshow hmz77_) h4z77_ q94_ (by decide) (by decide)))
          · have d95_ : Int32.toInt (M.1 134 (Int32.toNatClampNeg i4z77_)) = Int32.toInt n1 := (zi_eq _ _).mp c92_
            have b96_ : 0 ≤ Int32.toInt (M.1 135 (Int32.toNatClampNeg i4z77_)) ∧ Int32.toInt (M.1 135 (Int32.toNatClampNeg i4z77_)) ≤ 99 := pvok_r hok 135 (Int32.toNatClampNeg i4z77_) rfl
            obtain ⟨q98_, b97_⟩ : (Int32.toInt (i4z77_ + 1) = Int32.toInt i4z77_ + 1) ∧ (1 ≤ Int32.toInt (i4z77_ + 1) ∧ Int32.toInt (i4z77_ + 1) ≤ 60) := zadd_k i4z77_ 1 1 1 60 b89_ (by decide) (by decide) (by decide) (by decide) (by decide)
            refine pw_blk hT 8 (S' := (8, [some (pvR 124), some (pvI n1), some (pvI n2), some (pvI (M.1 135 (Int32.toNatClampNeg i4z77_))), some (pvI (i4z77_ + 1))], [], M)) rfl ⟨trivial, rfl, trivial, ⟨rfl, (zr_in (n := 60) b89_ (by decide) (by decide))⟩, trivial, trivial, trivial, trivial, trivial⟩ ?_
            exact ihz77_ (M.1 135 (Int32.toNatClampNeg i4z77_)) (i4z77_ + 1) b96_ (zr_wide b97_ (by decide) (by decide)) (zhid (pvms_up (zshow hmz77_) h4z77_ q98_ (by decide) (by decide)))
    exact hlz77_ _ n2 (10 * (M.1 124 15)) hn2 (zr_wide b10_ (by decide) (by decide)) (zhid (Nat.lt_succ_self _))
  · refine pw_eqI (if_neg c7_) ?_
    have b99_ : (-1) ≤ Int32.toInt (M.1 124 15) ∧ Int32.toInt (M.1 124 15) ≤ (-1) := zr_nle_r (-1) c7_ b6_ (show 0 ≤ Int32.toInt 0 ∧ Int32.toInt 0 ≤ 0 from (by decide)) (by decide)
    show PW 46 d (6, [some (pvR 124), some (pvI n1), some (pvI n2), some (pvI n2), none], [pvI 0], M) _
    refine pw_blk hT 1 (S' := (8, [some (pvR 124), some (pvI n1), some (pvI n2), some (pvI n2), some (pvI 0)], [], M)) rfl ⟨trivial, trivial⟩ ?_
    have hlz107_ : ∀ (nz107_ : Nat) (i3z107_ : Int32) (i4z107_ : Int32), (0 ≤ Int32.toInt i3z107_ ∧ Int32.toInt i3z107_ ≤ 99) → (0 ≤ Int32.toInt i4z107_ ∧ Int32.toInt i4z107_ ≤ 0) → (zhide (0 < nz107_)) → PW 46 d (8, [some (pvR 124), some (pvI n1), some (pvI n2), some (pvI i3z107_), some (pvI i4z107_)], [], M) (fun r X => (∃ x : Int32, r = some (pvI x) ∧ 0 ≤ Int32.toInt x ∧ Int32.toInt x ≤ 99) ∧ X = M) := by
      intro nz107_
      induction nz107_ with
      | zero => intro i3z107_ i4z107_ h3z107_ h4z107_ hmz107_; exact absurd (zshow hmz107_) (Nat.not_lt_zero _)
      | succ nz107_ ihz107_ =>
        intro i3z107_ i4z107_ h3z107_ h4z107_ hmz107_
        refine pw_blk hT 2 (S' := (11, [some (pvR 124), some (pvI n1), some (pvI n2), some (pvI i3z107_), some (pvI i4z107_)], [pvR 124, pvI i4z107_], M)) rfl ⟨trivial, trivial, trivial⟩ ?_
        refine pw_callT hT (as := [pvR 124]) (lo1 := [some (pvR 124)]) (d1 := d) (rest := [pvI i4z107_]) rfl rfl rfl rfl rfl (fun _ => rfl) (Nat.zero_le _) rfl rfl rfl (sf_X10_behindClauses_124 M hok d) ?_
        refine pw_eqI (if_neg c7_) ?_
        show PW 46 d (14, [some (pvR 124), some (pvI n1), some (pvI n2), some (pvI i3z107_), some (pvI i4z107_)], [pvI 0, pvI i4z107_], M) _
        refine pw_ic hT (c := 0 ≤ i4z107_) rfl rfl (fun c113_ => ?_) (fun c113_ => absurd (by have z0 := (show 0 ≤ Int32.toInt 0 ∧ Int32.toInt 0 ≤ 0 from (by decide)); have z1 := h4z107_; rw [zi_le]; omega) c113_)
        refine pw_blk hT 1 (S' := (47, [some (pvR 124), some (pvI n1), some (pvI n2), some (pvI i3z107_), some (pvI i4z107_)], [pvI i3z107_], M)) rfl ⟨trivial, trivial⟩ ?_
        exact pw_ret hT rfl (r := some (pvI i3z107_)) (M' := M) ⟨rfl, rfl⟩ ⟨⟨_, rfl, h3z107_⟩, rfl⟩
    exact hlz107_ _ n2 0 hn2 (show 0 ≤ Int32.toInt 0 ∧ Int32.toInt 0 ≤ 0 from (by decide)) (zhid (Nat.lt_succ_self _))
set_option maxHeartbeats 4000000 in
set_option maxRecDepth 10000 in
theorem sf_X10_lastNow_124 (M : pvM) (hok : pvOk M) (d : Nat) : PW 45 d (0, [some (pvR 124)], [], M) (fun r X => (∃ x : Int32, r = some (pvI x) ∧ 0 ≤ Int32.toInt x ∧ Int32.toInt x ≤ 99) ∧ X = M) := by
  have hT : pvdom 45 = pvD_45 := rfl
  refine pw_blk hT 3 (S' := (4, [some (pvR 124)], [pvI 15, pvI 3, pvR 124], M)) rfl ⟨trivial, trivial, trivial, trivial⟩ ?_
  refine pw_callGp hT (as := [pvR 124, pvI 3, pvI 15]) (lo1 := [some (pvR 124), some (pvI 3), some (pvI 15), none, none]) (d1 := d) (rest := []) rfl rfl rfl rfl rfl (fun _ => rfl) (Nat.zero_le _) rfl rfl rfl (sf_X10_lastOf_124_x_x M hok 3 15 (zr_wide (show 3 ≤ Int32.toInt 3 ∧ Int32.toInt 3 ≤ 3 from (by decide)) (by decide) (by decide)) (zr_wide (show 15 ≤ Int32.toInt 15 ∧ Int32.toInt 15 ≤ 15 from (by decide)) (by decide) (by decide)) d) (fun x1_ b3_ => ?_)
  exact pw_ret hT rfl (r := some (pvI x1_)) (M' := M) ⟨rfl, rfl⟩ ⟨⟨_, rfl, b3_⟩, rfl⟩
set_option maxHeartbeats 4000000 in
set_option maxRecDepth 10000 in
theorem sf_X10_factOf_124_x_x (M : pvM) (hok : pvOk M) (n1 : Int32) (n2 : Int32) (hn2 : 0 ≤ Int32.toInt n2 ∧ Int32.toInt n2 ≤ 6) (d : Nat) : PW 19 d (0, [some (pvR 124), some (pvI n1), some (pvI n2)], [], M) (fun r X => (∃ x : Int32, r = some (pvI x) ∧ 0 ≤ Int32.toInt x ∧ Int32.toInt x ≤ 99) ∧ X = M) := by
  have hT : pvdom 19 = pvD_19 := rfl
  refine pw_blk hT 1 (S' := (1, [some (pvR 124), some (pvI n1), some (pvI n2)], [pvI n1], M)) rfl ⟨trivial, trivial⟩ ?_
  refine pw_sw hT rfl rfl ?_
  refine And.intro (fun c1_ => ?_) (fun c1_ => ?_)
  · show PW 19 d (36, [some (pvR 124), some (pvI n1), some (pvI n2)], [], M) _
    have b2_ : 0 ≤ Int32.toInt n1 ∧ Int32.toInt n1 ≤ 0 := (by have u0 := (zbnd n1); have u1 := (zi_eq _ _).mp c1_; have u2 := (show 0 ≤ Int32.toInt 0 ∧ Int32.toInt 0 ≤ 0 from (by decide)); omega)
    refine pw_blk hT 1 (S' := (37, [some (pvR 124), some (pvI n1), some (pvI n2)], [pvI n2], M)) rfl ⟨trivial, trivial⟩ ?_
    exact pw_ret hT rfl (r := some (pvI n2)) (M' := M) ⟨rfl, rfl⟩ ⟨⟨_, rfl, (zr_wide hn2 (by decide) (by decide))⟩, rfl⟩
  · refine And.intro (fun c3_ => ?_) (fun c3_ => ?_)
    · show PW 19 d (38, [some (pvR 124), some (pvI n1), some (pvI n2)], [], M) _
      have b4_ : 1 ≤ Int32.toInt n1 ∧ Int32.toInt n1 ≤ 1 := (by have u0 := (zbnd n1); have u1 := (zi_eq _ _).mp c3_; have u2 := (show 1 ≤ Int32.toInt 1 ∧ Int32.toInt 1 ≤ 1 from (by decide)); omega)
      have b5_ : 0 ≤ Int32.toInt (M.1 125 (Int32.toNatClampNeg n2)) ∧ Int32.toInt (M.1 125 (Int32.toNatClampNeg n2)) ≤ 6 := pvok_r hok 125 (Int32.toNatClampNeg n2) rfl
      refine pw_blk hT 4 (S' := (44, [some (pvR 124), some (pvI n1), some (pvI n2)], [pvI (M.1 125 (Int32.toNatClampNeg n2))], M)) rfl ⟨trivial, rfl, trivial, ⟨rfl, (zr_in (n := 7) hn2 (by decide) (by decide))⟩, trivial⟩ ?_
      exact pw_ret hT rfl (r := some (pvI (M.1 125 (Int32.toNatClampNeg n2)))) (M' := M) ⟨rfl, rfl⟩ ⟨⟨_, rfl, (zr_wide b5_ (by decide) (by decide))⟩, rfl⟩
    · refine And.intro (fun c6_ => ?_) (fun c6_ => ?_)
      · show PW 19 d (45, [some (pvR 124), some (pvI n1), some (pvI n2)], [], M) _
        have b7_ : 2 ≤ Int32.toInt n1 ∧ Int32.toInt n1 ≤ 2 := (by have u0 := (zbnd n1); have u1 := (zi_eq _ _).mp c6_; have u2 := (show 2 ≤ Int32.toInt 2 ∧ Int32.toInt 2 ≤ 2 from (by decide)); omega)
        have b8_ : 0 ≤ Int32.toInt (M.1 127 (Int32.toNatClampNeg n2)) ∧ Int32.toInt (M.1 127 (Int32.toNatClampNeg n2)) ≤ 3 := pvok_r hok 127 (Int32.toNatClampNeg n2) rfl
        refine pw_blk hT 4 (S' := (51, [some (pvR 124), some (pvI n1), some (pvI n2)], [pvI (M.1 127 (Int32.toNatClampNeg n2))], M)) rfl ⟨trivial, rfl, trivial, ⟨rfl, (zr_in (n := 7) hn2 (by decide) (by decide))⟩, trivial⟩ ?_
        exact pw_ret hT rfl (r := some (pvI (M.1 127 (Int32.toNatClampNeg n2)))) (M' := M) ⟨rfl, rfl⟩ ⟨⟨_, rfl, (zr_wide b8_ (by decide) (by decide))⟩, rfl⟩
      · refine And.intro (fun c9_ => ?_) (fun c9_ => ?_)
        · show PW 19 d (52, [some (pvR 124), some (pvI n1), some (pvI n2)], [], M) _
          have b10_ : 3 ≤ Int32.toInt n1 ∧ Int32.toInt n1 ≤ 3 := (by have u0 := (zbnd n1); have u1 := (zi_eq _ _).mp c9_; have u2 := (show 3 ≤ Int32.toInt 3 ∧ Int32.toInt 3 ≤ 3 from (by decide)); omega)
          have b11_ : 0 ≤ Int32.toInt (M.1 128 (Int32.toNatClampNeg n2)) ∧ Int32.toInt (M.1 128 (Int32.toNatClampNeg n2)) ≤ 4 := pvok_r hok 128 (Int32.toNatClampNeg n2) rfl
          refine pw_blk hT 4 (S' := (58, [some (pvR 124), some (pvI n1), some (pvI n2)], [pvI (M.1 128 (Int32.toNatClampNeg n2))], M)) rfl ⟨trivial, rfl, trivial, ⟨rfl, (zr_in (n := 7) hn2 (by decide) (by decide))⟩, trivial⟩ ?_
          exact pw_ret hT rfl (r := some (pvI (M.1 128 (Int32.toNatClampNeg n2)))) (M' := M) ⟨rfl, rfl⟩ ⟨⟨_, rfl, (zr_wide b11_ (by decide) (by decide))⟩, rfl⟩
        · refine And.intro (fun c12_ => ?_) (fun c12_ => ?_)
          · show PW 19 d (59, [some (pvR 124), some (pvI n1), some (pvI n2)], [], M) _
            have b13_ : 4 ≤ Int32.toInt n1 ∧ Int32.toInt n1 ≤ 4 := (by have u0 := (zbnd n1); have u1 := (zi_eq _ _).mp c12_; have u2 := (show 4 ≤ Int32.toInt 4 ∧ Int32.toInt 4 ≤ 4 from (by decide)); omega)
            have b14_ : 0 ≤ Int32.toInt (M.1 124 4) ∧ Int32.toInt (M.1 124 4) ≤ 4 := pvok_r hok 124 4 rfl
            refine pw_blk hT 2 (S' := (63, [some (pvR 124), some (pvI n1), some (pvI n2)], [pvI (M.1 124 4)], M)) rfl ⟨trivial, rfl, trivial⟩ ?_
            exact pw_ret hT rfl (r := some (pvI (M.1 124 4))) (M' := M) ⟨rfl, rfl⟩ ⟨⟨_, rfl, (zr_wide b14_ (by decide) (by decide))⟩, rfl⟩
          · show PW 19 d (64, [some (pvR 124), some (pvI n1), some (pvI n2)], [], M) _
            have b15_ : 0 ≤ Int32.toInt (M.1 124 32) ∧ Int32.toInt (M.1 124 32) ≤ 99 := pvok_r hok 124 32 rfl
            refine pw_blk hT 2 (S' := (68, [some (pvR 124), some (pvI n1), some (pvI n2)], [pvI (M.1 124 32)], M)) rfl ⟨trivial, rfl, trivial⟩ ?_
            exact pw_ret hT rfl (r := some (pvI (M.1 124 32))) (M' := M) ⟨rfl, rfl⟩ ⟨⟨_, rfl, b15_⟩, rfl⟩
def fpL_X10_holds_124_x_x : List (Nat × Nat × Nat) := [(0, 141, 0)]
def fp_X10_holds_124_x_x (q k : Nat) : Bool := pvfp fpL_X10_holds_124_x_x q k
set_option maxHeartbeats 4000000 in
set_option maxRecDepth 10000 in
theorem sf_X10_holds_124_x_x (M : pvM) (hok : pvOk M) (n1 : Int32) (n2 : Int32) (hn1 : 0 ≤ Int32.toInt n1 ∧ Int32.toInt n1 ≤ 59) (hn2 : 0 ≤ Int32.toInt n2 ∧ Int32.toInt n2 ≤ 6) (hw : pvWc M (Int32.toNatClampNeg n1)) (d : Nat) : PW 33 d (0, [some (pvR 124), some (pvI n1), some (pvI n2), none, none, none, none, none], [], M) (fun r X => (∃ x : Int32, r = some (pvI x) ∧ 0 ≤ Int32.toInt x ∧ Int32.toInt x ≤ 1) ∧ pvOk X ∧ pvFr fp_X10_holds_124_x_x M X) := by
  have hT : pvdom 33 = pvD_33 := rfl
  have b1_ : 0 ≤ Int32.toInt (M.1 136 (Int32.toNatClampNeg n1)) ∧ Int32.toInt (M.1 136 (Int32.toNatClampNeg n1)) ≤ 600 := pvok_r hok 136 (Int32.toNatClampNeg n1) rfl
  refine pw_blk hT 7 (S' := (10, [some (pvR 124), some (pvI n1), some (pvI n2), some (pvI 0), some (pvI (M.1 136 (Int32.toNatClampNeg n1))), none, none, none], [], M)) rfl ⟨trivial, trivial, trivial, rfl, trivial, ⟨rfl, (zr_in (n := 60) hn1 (by decide) (by decide))⟩, trivial, trivial⟩ ?_
  have hlz702_ : ∀ (nz702_ : Nat) (i3z702_ : Int32) (i4z702_ : Int32) (v5z702_ : Option pvV) (v6z702_ : Option pvV) (v7z702_ : Option pvV) (Mz702_ : pvM), (pvOk Mz702_) → (pvFr fp_X10_holds_124_x_x M Mz702_) → (0 ≤ Int32.toInt i3z702_ ∧ Int32.toInt i3z702_ ≤ 100) → (0 ≤ Int32.toInt i4z702_ ∧ Int32.toInt i4z702_ ≤ 600) → (zhI Mz702_ (Int32.toNatClampNeg n1) i3z702_ i4z702_) → (zhide ((601 - Int32.toInt i4z702_).toNat < nz702_)) → PW 33 d (10, [some (pvR 124), some (pvI n1), some (pvI n2), some (pvI i3z702_), some (pvI i4z702_), v5z702_, v6z702_, v7z702_], [], Mz702_) (fun r X => (∃ x : Int32, r = some (pvI x) ∧ 0 ≤ Int32.toInt x ∧ Int32.toInt x ≤ 1) ∧ pvOk X ∧ pvFr fp_X10_holds_124_x_x M X) := by
    intro nz702_
    induction nz702_ with
    | zero => intro i3z702_ i4z702_ v5z702_ v6z702_ v7z702_ Mz702_ oz702_ fz702_ h3z702_ h4z702_ j0z702_ hmz702_; exact absurd (zshow hmz702_) (Nat.not_lt_zero _)
    | succ nz702_ ihz702_ =>
      intro i3z702_ i4z702_ v5z702_ v6z702_ v7z702_ Mz702_ oz702_ fz702_ h3z702_ h4z702_ j0z702_ hmz702_
      have b703_ : 0 ≤ Int32.toInt (Mz702_.1 137 (Int32.toNatClampNeg n1)) ∧ Int32.toInt (Mz702_.1 137 (Int32.toNatClampNeg n1)) ≤ 600 := pvok_r oz702_ 137 (Int32.toNatClampNeg n1) rfl
      refine pw_blk hT 5 (S' := (18, [some (pvR 124), some (pvI n1), some (pvI n2), some (pvI i3z702_), some (pvI i4z702_), v5z702_, v6z702_, v7z702_], [pvI (Mz702_.1 137 (Int32.toNatClampNeg n1)), pvI i4z702_], Mz702_)) rfl ⟨trivial, trivial, rfl, trivial, ⟨rfl, (zr_in (n := 60) hn1 (by decide) (by decide))⟩, trivial⟩ ?_
      refine pw_ic hT (c := (Mz702_.1 137 (Int32.toNatClampNeg n1)) ≤ i4z702_) rfl rfl (fun c704_ => ?_) (fun c704_ => ?_)
      · have d705_ : Int32.toInt (Mz702_.1 137 (Int32.toNatClampNeg n1)) ≤ Int32.toInt i4z702_ := (zi_le _ _).mp c704_
        have b706_ : 0 ≤ Int32.toInt (Mz702_.1 141 (Int32.toNatClampNeg 0)) ∧ Int32.toInt (Mz702_.1 141 (Int32.toNatClampNeg 0)) ≤ 1 := pvok_r oz702_ 141 (Int32.toNatClampNeg 0) rfl
        refine pw_blk hT 4 (S' := (249, [some (pvR 124), some (pvI n1), some (pvI n2), some (pvI i3z702_), some (pvI i4z702_), v5z702_, v6z702_, v7z702_], [pvI (Mz702_.1 141 (Int32.toNatClampNeg 0))], Mz702_)) rfl ⟨trivial, rfl, trivial, ⟨rfl, (zr_in (n := 100) (show 0 ≤ Int32.toInt 0 ∧ Int32.toInt 0 ≤ 0 from (by decide)) (by decide) (by decide))⟩, trivial⟩ ?_
        exact pw_ret hT rfl (r := some (pvI (Mz702_.1 141 (Int32.toNatClampNeg 0)))) (M' := Mz702_) ⟨pv01 b706_, rfl, rfl⟩ ⟨⟨_, rfl, b706_⟩, oz702_, fz702_⟩
      · have b707_ : 1 ≤ Int32.toInt (Mz702_.1 137 (Int32.toNatClampNeg n1)) ∧ Int32.toInt (Mz702_.1 137 (Int32.toNatClampNeg n1)) ≤ 600 := zr_nle_l 1 c704_ b703_ h4z702_ (by decide)
        have b708_ : 0 ≤ Int32.toInt i4z702_ ∧ Int32.toInt i4z702_ ≤ 599 := zr_nle_r 599 c704_ h4z702_ b707_ (by decide)
        have d709_ : Int32.toInt (Mz702_.1 137 (Int32.toNatClampNeg n1)) > Int32.toInt i4z702_ := Int.not_le.mp ((not_congr (zi_le _ _)).mp c704_)
        have q710_ := zhI_in j0z702_ (by omega)
        have b711_ : 0 ≤ Int32.toInt i4z702_ ∧ Int32.toInt i4z702_ ≤ 599 := q710_.1
        have b712_ : 0 ≤ Int32.toInt i3z702_ ∧ Int32.toInt i3z702_ ≤ 99 := q710_.2.1
        have b713_ : (-128) ≤ Int32.toInt (Mz702_.1 138 (Int32.toNatClampNeg i4z702_)) ∧ Int32.toInt (Mz702_.1 138 (Int32.toNatClampNeg i4z702_)) ≤ 5999 := pvok_r oz702_ 138 (Int32.toNatClampNeg i4z702_) rfl
        refine pw_blk hT 7 (S' := (34, [some (pvR 124), some (pvI n1), some (pvI n2), some (pvI i3z702_), some (pvI i4z702_), some (pvI (Mz702_.1 138 (Int32.toNatClampNeg i4z702_))), v6z702_, v7z702_], [pvI (-33), pvI (Mz702_.1 138 (Int32.toNatClampNeg i4z702_))], Mz702_)) rfl ⟨trivial, rfl, trivial, ⟨rfl, (zr_in (n := 600) b711_ (by decide) (by decide))⟩, trivial, trivial, trivial, trivial⟩ ?_
        refine pw_icn hT (c := (Mz702_.1 138 (Int32.toNatClampNeg i4z702_)) = (-33)) rfl rfl (fun c714_ => ?_) (fun c714_ => ?_)
        · have d715_ : ¬ Int32.toInt (Mz702_.1 138 (Int32.toNatClampNeg i4z702_)) = -33 := fun z => (not_congr (zi_eq _ _)).mp c714_ (z.trans (by decide))
          refine pw_blk hT 1 (S' := (66, [some (pvR 124), some (pvI n1), some (pvI n2), some (pvI i3z702_), some (pvI i4z702_), some (pvI (Mz702_.1 138 (Int32.toNatClampNeg i4z702_))), v6z702_, v7z702_], [pvI (Mz702_.1 138 (Int32.toNatClampNeg i4z702_))], Mz702_)) rfl ⟨trivial, trivial⟩ ?_
          refine pw_if hT (c := 0 ≤ (Mz702_.1 138 (Int32.toNatClampNeg i4z702_))) rfl rfl (fun c716_ => ?_) (fun c716_ => ?_)
          · have b717_ : 0 ≤ Int32.toInt (Mz702_.1 138 (Int32.toNatClampNeg i4z702_)) ∧ Int32.toInt (Mz702_.1 138 (Int32.toNatClampNeg i4z702_)) ≤ 5999 := zr_le_r 0 c716_ b713_ (show 0 ≤ Int32.toInt 0 ∧ Int32.toInt 0 ≤ 0 from (by decide)) (by decide)
            have q718_ : Int32.toInt ((Mz702_.1 138 (Int32.toNatClampNeg i4z702_)) / 1000) = Int32.toInt (Mz702_.1 138 (Int32.toNatClampNeg i4z702_)) / 1000 := by have u0 := b717_; have u := zdiv_p (Mz702_.1 138 (Int32.toNatClampNeg i4z702_)) 1000 (by omega) (by decide) (by decide); have e0 : nI 1000 = (1000 : Int32) := rfl; rw [e0] at u; omega
            have b719_ : 0 ≤ Int32.toInt ((Mz702_.1 138 (Int32.toNatClampNeg i4z702_)) / 1000) ∧ Int32.toInt ((Mz702_.1 138 (Int32.toNatClampNeg i4z702_)) / 1000) ≤ 5 := (by have u0 := b717_; omega)
            refine pw_blk hT 5 (S' := (151, [some (pvR 124), some (pvI n1), some (pvI n2), some (pvI i3z702_), some (pvI i4z702_), some (pvI (Mz702_.1 138 (Int32.toNatClampNeg i4z702_))), v6z702_, v7z702_], [pvI n2, pvI ((Mz702_.1 138 (Int32.toNatClampNeg i4z702_)) / 1000), pvR 124], Mz702_)) rfl ⟨trivial, trivial, trivial, (by decide), trivial, trivial⟩ ?_
            refine pw_callGp hT (as := [pvR 124, pvI ((Mz702_.1 138 (Int32.toNatClampNeg i4z702_)) / 1000), pvI n2]) (lo1 := [some (pvR 124), some (pvI ((Mz702_.1 138 (Int32.toNatClampNeg i4z702_)) / 1000)), some (pvI n2)]) (d1 := d) (rest := []) rfl rfl rfl rfl rfl (fun _ => rfl) (Nat.zero_le _) rfl rfl rfl (sf_X10_factOf_124_x_x Mz702_ oz702_ ((Mz702_.1 138 (Int32.toNatClampNeg i4z702_)) / 1000) n2 hn2 d) (fun x720_ b722_ => ?_)
            have q725_ : Int32.toInt ((Mz702_.1 138 (Int32.toNatClampNeg i4z702_)) / 100) = Int32.toInt (Mz702_.1 138 (Int32.toNatClampNeg i4z702_)) / 100 := by have u0 := b717_; have u := zdiv_p (Mz702_.1 138 (Int32.toNatClampNeg i4z702_)) 100 (by omega) (by decide) (by decide); have e0 : nI 100 = (100 : Int32) := rfl; rw [e0] at u; omega
            have b726_ : 0 ≤ Int32.toInt ((Mz702_.1 138 (Int32.toNatClampNeg i4z702_)) / 100) ∧ Int32.toInt ((Mz702_.1 138 (Int32.toNatClampNeg i4z702_)) / 100) ≤ 59 := (by have u0 := b717_; omega)
            have b727_ : 0 ≤ Int32.toInt (((Mz702_.1 138 (Int32.toNatClampNeg i4z702_)) / 100) - ((Mz702_.1 138 (Int32.toNatClampNeg i4z702_)) / 100) / 10 * 10) ∧ Int32.toInt (((Mz702_.1 138 (Int32.toNatClampNeg i4z702_)) / 100) - ((Mz702_.1 138 (Int32.toNatClampNeg i4z702_)) / 100) / 10 * 10) ≤ 9 := (by have u0 := b726_; have u := zrem_p ((Mz702_.1 138 (Int32.toNatClampNeg i4z702_)) / 100) 10 (by omega) (by decide) (by decide); have e0 : nI 10 = (10 : Int32) := rfl; rw [e0] at u; omega)
            refine pw_blk hT 11 (S' := (173, [some (pvR 124), some (pvI n1), some (pvI n2), some (pvI i3z702_), some (pvI i4z702_), some (pvI (Mz702_.1 138 (Int32.toNatClampNeg i4z702_))), some (pvI x720_), some (pvI (((Mz702_.1 138 (Int32.toNatClampNeg i4z702_)) / 100) - ((Mz702_.1 138 (Int32.toNatClampNeg i4z702_)) / 100) / 10 * 10))], [pvI (((Mz702_.1 138 (Int32.toNatClampNeg i4z702_)) / 100) - ((Mz702_.1 138 (Int32.toNatClampNeg i4z702_)) / 100) / 10 * 10), pvI i3z702_, pvR 141], Mz702_)) rfl ⟨trivial, trivial, trivial, (by decide), trivial, (by decide), trivial, trivial, rfl, trivial, trivial, trivial⟩ ?_
            refine pw_ifn hT (c := (((Mz702_.1 138 (Int32.toNatClampNeg i4z702_)) / 100) - ((Mz702_.1 138 (Int32.toNatClampNeg i4z702_)) / 100) / 10 * 10) = 0) rfl rfl (fun c728_ => ?_) (fun c728_ => ?_)
            · have b729_ : 1 ≤ Int32.toInt (((Mz702_.1 138 (Int32.toNatClampNeg i4z702_)) / 100) - ((Mz702_.1 138 (Int32.toNatClampNeg i4z702_)) / 100) / 10 * 10) ∧ Int32.toInt (((Mz702_.1 138 (Int32.toNatClampNeg i4z702_)) / 100) - ((Mz702_.1 138 (Int32.toNatClampNeg i4z702_)) / 100) / 10 * 10) ≤ 9 := (by have u0 := b727_; have u1 := (not_congr (zi_eq _ _)).mp c728_; have u2 := (show 0 ≤ Int32.toInt 0 ∧ Int32.toInt 0 ≤ 0 from (by decide)); omega)
              refine pw_blk hT 2 (S' := (197, [some (pvR 124), some (pvI n1), some (pvI n2), some (pvI i3z702_), some (pvI i4z702_), some (pvI (Mz702_.1 138 (Int32.toNatClampNeg i4z702_))), some (pvI x720_), some (pvI (((Mz702_.1 138 (Int32.toNatClampNeg i4z702_)) / 100) - ((Mz702_.1 138 (Int32.toNatClampNeg i4z702_)) / 100) / 10 * 10))], [pvI 1, pvI (((Mz702_.1 138 (Int32.toNatClampNeg i4z702_)) / 100) - ((Mz702_.1 138 (Int32.toNatClampNeg i4z702_)) / 100) / 10 * 10), pvI i3z702_, pvR 141], Mz702_)) rfl ⟨trivial, trivial, trivial⟩ ?_
              refine pw_icn hT (c := (((Mz702_.1 138 (Int32.toNatClampNeg i4z702_)) / 100) - ((Mz702_.1 138 (Int32.toNatClampNeg i4z702_)) / 100) / 10 * 10) = 1) rfl rfl (fun c730_ => ?_) (fun c730_ => ?_)
              · have b731_ : 2 ≤ Int32.toInt (((Mz702_.1 138 (Int32.toNatClampNeg i4z702_)) / 100) - ((Mz702_.1 138 (Int32.toNatClampNeg i4z702_)) / 100) / 10 * 10) ∧ Int32.toInt (((Mz702_.1 138 (Int32.toNatClampNeg i4z702_)) / 100) - ((Mz702_.1 138 (Int32.toNatClampNeg i4z702_)) / 100) / 10 * 10) ≤ 9 := (by have u0 := b729_; have u1 := (not_congr (zi_eq _ _)).mp c730_; have u2 := (show 1 ≤ Int32.toInt 1 ∧ Int32.toInt 1 ≤ 1 from (by decide)); omega)
                have b732_ : 0 ≤ Int32.toInt ((Mz702_.1 138 (Int32.toNatClampNeg i4z702_)) - (Mz702_.1 138 (Int32.toNatClampNeg i4z702_)) / 100 * 100) ∧ Int32.toInt ((Mz702_.1 138 (Int32.toNatClampNeg i4z702_)) - (Mz702_.1 138 (Int32.toNatClampNeg i4z702_)) / 100 * 100) ≤ 99 := (by have u0 := b717_; have u := zrem_p (Mz702_.1 138 (Int32.toNatClampNeg i4z702_)) 100 (by omega) (by decide) (by decide); have e0 : nI 100 = (100 : Int32) := rfl; rw [e0] at u; omega)
                refine pw_blk hT 4 (S' := (225, [some (pvR 124), some (pvI n1), some (pvI n2), some (pvI i3z702_), some (pvI i4z702_), some (pvI (Mz702_.1 138 (Int32.toNatClampNeg i4z702_))), some (pvI x720_), some (pvI (((Mz702_.1 138 (Int32.toNatClampNeg i4z702_)) / 100) - ((Mz702_.1 138 (Int32.toNatClampNeg i4z702_)) / 100) / 10 * 10))], [pvI ((Mz702_.1 138 (Int32.toNatClampNeg i4z702_)) - (Mz702_.1 138 (Int32.toNatClampNeg i4z702_)) / 100 * 100), pvI x720_, pvI i3z702_, pvR 141], Mz702_)) rfl ⟨trivial, trivial, trivial, (by decide), trivial⟩ ?_
                refine pw_ic hT (c := x720_ ≤ ((Mz702_.1 138 (Int32.toNatClampNeg i4z702_)) - (Mz702_.1 138 (Int32.toNatClampNeg i4z702_)) / 100 * 100)) rfl rfl (fun c733_ => ?_) (fun c733_ => ?_)
                · have d734_ : Int32.toInt x720_ ≤ Int32.toInt ((Mz702_.1 138 (Int32.toNatClampNeg i4z702_)) - (Mz702_.1 138 (Int32.toNatClampNeg i4z702_)) / 100 * 100) := (zi_le _ _).mp c733_
                  refine pw_blkw hT 2 (pc := 234) (lo := [some (pvR 124), some (pvI n1), some (pvI n2), some (pvI i3z702_), some (pvI i4z702_), some (pvI (Mz702_.1 138 (Int32.toNatClampNeg i4z702_))), some (pvI x720_), some (pvI (((Mz702_.1 138 (Int32.toNatClampNeg i4z702_)) / 100) - ((Mz702_.1 138 (Int32.toNatClampNeg i4z702_)) / 100) / 10 * 10))]) (st := []) (M := pvu Mz702_ 141 (Int32.toNatClampNeg i3z702_) (vp_nar .boolean 0)) rfl ⟨trivial, ⟨rfl, (zr_in (n := 100) b712_ (by decide) (by decide))⟩, trivial⟩ (fun M735_ e736_ => ?_)
                  have o737_ : pvOk M735_ := pvok_u2 e736_ oz702_ rfl (zboolr 0)
                  have f738_ : pvFr fp_X10_holds_124_x_x M M735_ := pvfr_u e736_ fz702_ rfl
                  obtain ⟨q740_, b739_⟩ : (Int32.toInt (i3z702_ + 1) = Int32.toInt i3z702_ + 1) ∧ (1 ≤ Int32.toInt (i3z702_ + 1) ∧ Int32.toInt (i3z702_ + 1) ≤ 100) := zadd_k i3z702_ 1 1 1 100 b712_ (by decide) (by decide) (by decide) (by decide) (by decide)
                  obtain ⟨q742_, b741_⟩ : (Int32.toInt (i4z702_ + 1) = Int32.toInt i4z702_ + 1) ∧ (1 ≤ Int32.toInt (i4z702_ + 1) ∧ Int32.toInt (i4z702_ + 1) ≤ 600) := zadd_k i4z702_ 1 1 1 600 b711_ (by decide) (by decide) (by decide) (by decide) (by decide)
                  refine pw_blk hT 3 (S' := (10, [some (pvR 124), some (pvI n1), some (pvI n2), some (pvI (i3z702_ + 1)), some (pvI (i4z702_ + 1)), some (pvI (Mz702_.1 138 (Int32.toNatClampNeg i4z702_))), some (pvI x720_), some (pvI (((Mz702_.1 138 (Int32.toNatClampNeg i4z702_)) / 100) - ((Mz702_.1 138 (Int32.toNatClampNeg i4z702_)) / 100) / 10 * 10))], [], M735_)) rfl ⟨trivial, trivial, trivial, trivial⟩ ?_
                  have j743_ : zhI M735_ (Int32.toNatClampNeg n1) (i3z702_ + 1) (i4z702_ + 1) := zhI_u e736_ (zhI_s j0z702_ (by omega) (by omega) (fun _ => by omega) (fun _ _ => by omega) (fun _ _ => by omega))
                  exact ihz702_ (i3z702_ + 1) (i4z702_ + 1) (some (pvI (Mz702_.1 138 (Int32.toNatClampNeg i4z702_)))) (some (pvI x720_)) (some (pvI (((Mz702_.1 138 (Int32.toNatClampNeg i4z702_)) / 100) - ((Mz702_.1 138 (Int32.toNatClampNeg i4z702_)) / 100) / 10 * 10))) M735_ o737_ f738_ (zr_wide b739_ (by decide) (by decide)) (zr_wide b741_ (by decide) (by decide)) j743_ (zhid (pvms_up (zshow hmz702_) h4z702_ q742_ (by decide) (by decide)))
                · have b744_ : 1 ≤ Int32.toInt x720_ ∧ Int32.toInt x720_ ≤ 99 := zr_nle_l 1 c733_ b722_ b732_ (by decide)
                  have b745_ : 0 ≤ Int32.toInt ((Mz702_.1 138 (Int32.toNatClampNeg i4z702_)) - (Mz702_.1 138 (Int32.toNatClampNeg i4z702_)) / 100 * 100) ∧ Int32.toInt ((Mz702_.1 138 (Int32.toNatClampNeg i4z702_)) - (Mz702_.1 138 (Int32.toNatClampNeg i4z702_)) / 100 * 100) ≤ 98 := zr_nle_r 98 c733_ b732_ b744_ (by decide)
                  have d746_ : Int32.toInt x720_ > Int32.toInt ((Mz702_.1 138 (Int32.toNatClampNeg i4z702_)) - (Mz702_.1 138 (Int32.toNatClampNeg i4z702_)) / 100 * 100) := Int.not_le.mp ((not_congr (zi_le _ _)).mp c733_)
                  refine pw_blkw hT 3 (pc := 234) (lo := [some (pvR 124), some (pvI n1), some (pvI n2), some (pvI i3z702_), some (pvI i4z702_), some (pvI (Mz702_.1 138 (Int32.toNatClampNeg i4z702_))), some (pvI x720_), some (pvI (((Mz702_.1 138 (Int32.toNatClampNeg i4z702_)) / 100) - ((Mz702_.1 138 (Int32.toNatClampNeg i4z702_)) / 100) / 10 * 10))]) (st := []) (M := pvu Mz702_ 141 (Int32.toNatClampNeg i3z702_) (vp_nar .boolean 1)) rfl ⟨trivial, trivial, ⟨rfl, (zr_in (n := 100) b712_ (by decide) (by decide))⟩, trivial⟩ (fun M747_ e748_ => ?_)
                  have o749_ : pvOk M747_ := pvok_u2 e748_ oz702_ rfl (zboolr 1)
                  have f750_ : pvFr fp_X10_holds_124_x_x M M747_ := pvfr_u e748_ fz702_ rfl
                  obtain ⟨q752_, b751_⟩ : (Int32.toInt (i3z702_ + 1) = Int32.toInt i3z702_ + 1) ∧ (1 ≤ Int32.toInt (i3z702_ + 1) ∧ Int32.toInt (i3z702_ + 1) ≤ 100) := zadd_k i3z702_ 1 1 1 100 b712_ (by decide) (by decide) (by decide) (by decide) (by decide)
                  obtain ⟨q754_, b753_⟩ : (Int32.toInt (i4z702_ + 1) = Int32.toInt i4z702_ + 1) ∧ (1 ≤ Int32.toInt (i4z702_ + 1) ∧ Int32.toInt (i4z702_ + 1) ≤ 600) := zadd_k i4z702_ 1 1 1 600 b711_ (by decide) (by decide) (by decide) (by decide) (by decide)
                  refine pw_blk hT 3 (S' := (10, [some (pvR 124), some (pvI n1), some (pvI n2), some (pvI (i3z702_ + 1)), some (pvI (i4z702_ + 1)), some (pvI (Mz702_.1 138 (Int32.toNatClampNeg i4z702_))), some (pvI x720_), some (pvI (((Mz702_.1 138 (Int32.toNatClampNeg i4z702_)) / 100) - ((Mz702_.1 138 (Int32.toNatClampNeg i4z702_)) / 100) / 10 * 10))], [], M747_)) rfl ⟨trivial, trivial, trivial, trivial⟩ ?_
                  have j755_ : zhI M747_ (Int32.toNatClampNeg n1) (i3z702_ + 1) (i4z702_ + 1) := zhI_u e748_ (zhI_s j0z702_ (by omega) (by omega) (fun _ => by omega) (fun _ _ => by omega) (fun _ _ => by omega))
                  exact ihz702_ (i3z702_ + 1) (i4z702_ + 1) (some (pvI (Mz702_.1 138 (Int32.toNatClampNeg i4z702_)))) (some (pvI x720_)) (some (pvI (((Mz702_.1 138 (Int32.toNatClampNeg i4z702_)) / 100) - ((Mz702_.1 138 (Int32.toNatClampNeg i4z702_)) / 100) / 10 * 10))) M747_ o749_ f750_ (zr_wide b751_ (by decide) (by decide)) (zr_wide b753_ (by decide) (by decide)) j755_ (zhid (pvms_up (zshow hmz702_) h4z702_ q754_ (by decide) (by decide)))
              · have b756_ : 1 ≤ Int32.toInt (((Mz702_.1 138 (Int32.toNatClampNeg i4z702_)) / 100) - ((Mz702_.1 138 (Int32.toNatClampNeg i4z702_)) / 100) / 10 * 10) ∧ Int32.toInt (((Mz702_.1 138 (Int32.toNatClampNeg i4z702_)) / 100) - ((Mz702_.1 138 (Int32.toNatClampNeg i4z702_)) / 100) / 10 * 10) ≤ 1 := (by have u0 := b729_; have u1 := (zi_eq _ _).mp c730_; have u2 := (show 1 ≤ Int32.toInt 1 ∧ Int32.toInt 1 ≤ 1 from (by decide)); omega)
                have b757_ : 0 ≤ Int32.toInt ((Mz702_.1 138 (Int32.toNatClampNeg i4z702_)) - (Mz702_.1 138 (Int32.toNatClampNeg i4z702_)) / 100 * 100) ∧ Int32.toInt ((Mz702_.1 138 (Int32.toNatClampNeg i4z702_)) - (Mz702_.1 138 (Int32.toNatClampNeg i4z702_)) / 100 * 100) ≤ 99 := (by have u0 := b717_; have u := zrem_p (Mz702_.1 138 (Int32.toNatClampNeg i4z702_)) 100 (by omega) (by decide) (by decide); have e0 : nI 100 = (100 : Int32) := rfl; rw [e0] at u; omega)
                refine pw_blk hT 4 (S' := (207, [some (pvR 124), some (pvI n1), some (pvI n2), some (pvI i3z702_), some (pvI i4z702_), some (pvI (Mz702_.1 138 (Int32.toNatClampNeg i4z702_))), some (pvI x720_), some (pvI (((Mz702_.1 138 (Int32.toNatClampNeg i4z702_)) / 100) - ((Mz702_.1 138 (Int32.toNatClampNeg i4z702_)) / 100) / 10 * 10))], [pvI ((Mz702_.1 138 (Int32.toNatClampNeg i4z702_)) - (Mz702_.1 138 (Int32.toNatClampNeg i4z702_)) / 100 * 100), pvI x720_, pvI i3z702_, pvR 141], Mz702_)) rfl ⟨trivial, trivial, trivial, (by decide), trivial⟩ ?_
                refine pw_icn hT (c := x720_ = ((Mz702_.1 138 (Int32.toNatClampNeg i4z702_)) - (Mz702_.1 138 (Int32.toNatClampNeg i4z702_)) / 100 * 100)) rfl rfl (fun c758_ => ?_) (fun c758_ => ?_)
                · refine pw_blkw hT 3 (pc := 234) (lo := [some (pvR 124), some (pvI n1), some (pvI n2), some (pvI i3z702_), some (pvI i4z702_), some (pvI (Mz702_.1 138 (Int32.toNatClampNeg i4z702_))), some (pvI x720_), some (pvI (((Mz702_.1 138 (Int32.toNatClampNeg i4z702_)) / 100) - ((Mz702_.1 138 (Int32.toNatClampNeg i4z702_)) / 100) / 10 * 10))]) (st := []) (M := pvu Mz702_ 141 (Int32.toNatClampNeg i3z702_) (vp_nar .boolean 0)) rfl ⟨trivial, trivial, ⟨rfl, (zr_in (n := 100) b712_ (by decide) (by decide))⟩, trivial⟩ (fun M759_ e760_ => ?_)
                  have o761_ : pvOk M759_ := pvok_u2 e760_ oz702_ rfl (zboolr 0)
                  have f762_ : pvFr fp_X10_holds_124_x_x M M759_ := pvfr_u e760_ fz702_ rfl
                  obtain ⟨q764_, b763_⟩ : (Int32.toInt (i3z702_ + 1) = Int32.toInt i3z702_ + 1) ∧ (1 ≤ Int32.toInt (i3z702_ + 1) ∧ Int32.toInt (i3z702_ + 1) ≤ 100) := zadd_k i3z702_ 1 1 1 100 b712_ (by decide) (by decide) (by decide) (by decide) (by decide)
                  obtain ⟨q766_, b765_⟩ : (Int32.toInt (i4z702_ + 1) = Int32.toInt i4z702_ + 1) ∧ (1 ≤ Int32.toInt (i4z702_ + 1) ∧ Int32.toInt (i4z702_ + 1) ≤ 600) := zadd_k i4z702_ 1 1 1 600 b711_ (by decide) (by decide) (by decide) (by decide) (by decide)
                  refine pw_blk hT 3 (S' := (10, [some (pvR 124), some (pvI n1), some (pvI n2), some (pvI (i3z702_ + 1)), some (pvI (i4z702_ + 1)), some (pvI (Mz702_.1 138 (Int32.toNatClampNeg i4z702_))), some (pvI x720_), some (pvI (((Mz702_.1 138 (Int32.toNatClampNeg i4z702_)) / 100) - ((Mz702_.1 138 (Int32.toNatClampNeg i4z702_)) / 100) / 10 * 10))], [], M759_)) rfl ⟨trivial, trivial, trivial, trivial⟩ ?_
                  have j767_ : zhI M759_ (Int32.toNatClampNeg n1) (i3z702_ + 1) (i4z702_ + 1) := zhI_u e760_ (zhI_s j0z702_ (by omega) (by omega) (fun _ => by omega) (fun _ _ => by omega) (fun _ _ => by omega))
                  exact ihz702_ (i3z702_ + 1) (i4z702_ + 1) (some (pvI (Mz702_.1 138 (Int32.toNatClampNeg i4z702_)))) (some (pvI x720_)) (some (pvI (((Mz702_.1 138 (Int32.toNatClampNeg i4z702_)) / 100) - ((Mz702_.1 138 (Int32.toNatClampNeg i4z702_)) / 100) / 10 * 10))) M759_ o761_ f762_ (zr_wide b763_ (by decide) (by decide)) (zr_wide b765_ (by decide) (by decide)) j767_ (zhid (pvms_up (zshow hmz702_) h4z702_ q766_ (by decide) (by decide)))
                · have d768_ : Int32.toInt x720_ = Int32.toInt ((Mz702_.1 138 (Int32.toNatClampNeg i4z702_)) - (Mz702_.1 138 (Int32.toNatClampNeg i4z702_)) / 100 * 100) := (zi_eq _ _).mp c758_
                  refine pw_blkw hT 3 (pc := 234) (lo := [some (pvR 124), some (pvI n1), some (pvI n2), some (pvI i3z702_), some (pvI i4z702_), some (pvI (Mz702_.1 138 (Int32.toNatClampNeg i4z702_))), some (pvI x720_), some (pvI (((Mz702_.1 138 (Int32.toNatClampNeg i4z702_)) / 100) - ((Mz702_.1 138 (Int32.toNatClampNeg i4z702_)) / 100) / 10 * 10))]) (st := []) (M := pvu Mz702_ 141 (Int32.toNatClampNeg i3z702_) (vp_nar .boolean 1)) rfl ⟨trivial, trivial, ⟨rfl, (zr_in (n := 100) b712_ (by decide) (by decide))⟩, trivial⟩ (fun M769_ e770_ => ?_)
                  have o771_ : pvOk M769_ := pvok_u2 e770_ oz702_ rfl (zboolr 1)
                  have f772_ : pvFr fp_X10_holds_124_x_x M M769_ := pvfr_u e770_ fz702_ rfl
                  obtain ⟨q774_, b773_⟩ : (Int32.toInt (i3z702_ + 1) = Int32.toInt i3z702_ + 1) ∧ (1 ≤ Int32.toInt (i3z702_ + 1) ∧ Int32.toInt (i3z702_ + 1) ≤ 100) := zadd_k i3z702_ 1 1 1 100 b712_ (by decide) (by decide) (by decide) (by decide) (by decide)
                  obtain ⟨q776_, b775_⟩ : (Int32.toInt (i4z702_ + 1) = Int32.toInt i4z702_ + 1) ∧ (1 ≤ Int32.toInt (i4z702_ + 1) ∧ Int32.toInt (i4z702_ + 1) ≤ 600) := zadd_k i4z702_ 1 1 1 600 b711_ (by decide) (by decide) (by decide) (by decide) (by decide)
                  refine pw_blk hT 3 (S' := (10, [some (pvR 124), some (pvI n1), some (pvI n2), some (pvI (i3z702_ + 1)), some (pvI (i4z702_ + 1)), some (pvI (Mz702_.1 138 (Int32.toNatClampNeg i4z702_))), some (pvI x720_), some (pvI (((Mz702_.1 138 (Int32.toNatClampNeg i4z702_)) / 100) - ((Mz702_.1 138 (Int32.toNatClampNeg i4z702_)) / 100) / 10 * 10))], [], M769_)) rfl ⟨trivial, trivial, trivial, trivial⟩ ?_
                  have j777_ : zhI M769_ (Int32.toNatClampNeg n1) (i3z702_ + 1) (i4z702_ + 1) := zhI_u e770_ (zhI_s j0z702_ (by omega) (by omega) (fun _ => by omega) (fun _ _ => by omega) (fun _ _ => by omega))
                  exact ihz702_ (i3z702_ + 1) (i4z702_ + 1) (some (pvI (Mz702_.1 138 (Int32.toNatClampNeg i4z702_)))) (some (pvI x720_)) (some (pvI (((Mz702_.1 138 (Int32.toNatClampNeg i4z702_)) / 100) - ((Mz702_.1 138 (Int32.toNatClampNeg i4z702_)) / 100) / 10 * 10))) M769_ o771_ f772_ (zr_wide b773_ (by decide) (by decide)) (zr_wide b775_ (by decide) (by decide)) j777_ (zhid (pvms_up (zshow hmz702_) h4z702_ q776_ (by decide) (by decide)))
            · have b778_ : 0 ≤ Int32.toInt (((Mz702_.1 138 (Int32.toNatClampNeg i4z702_)) / 100) - ((Mz702_.1 138 (Int32.toNatClampNeg i4z702_)) / 100) / 10 * 10) ∧ Int32.toInt (((Mz702_.1 138 (Int32.toNatClampNeg i4z702_)) / 100) - ((Mz702_.1 138 (Int32.toNatClampNeg i4z702_)) / 100) / 10 * 10) ≤ 0 := (by have u0 := b727_; have u1 := (zi_eq _ _).mp c728_; have u2 := (show 0 ≤ Int32.toInt 0 ∧ Int32.toInt 0 ≤ 0 from (by decide)); omega)
              have b779_ : 0 ≤ Int32.toInt ((Mz702_.1 138 (Int32.toNatClampNeg i4z702_)) - (Mz702_.1 138 (Int32.toNatClampNeg i4z702_)) / 100 * 100) ∧ Int32.toInt ((Mz702_.1 138 (Int32.toNatClampNeg i4z702_)) - (Mz702_.1 138 (Int32.toNatClampNeg i4z702_)) / 100 * 100) ≤ 99 := (by have u0 := b717_; have u := zrem_p (Mz702_.1 138 (Int32.toNatClampNeg i4z702_)) 100 (by omega) (by decide) (by decide); have e0 : nI 100 = (100 : Int32) := rfl; rw [e0] at u; omega)
              refine pw_blk hT 4 (S' := (183, [some (pvR 124), some (pvI n1), some (pvI n2), some (pvI i3z702_), some (pvI i4z702_), some (pvI (Mz702_.1 138 (Int32.toNatClampNeg i4z702_))), some (pvI x720_), some (pvI (((Mz702_.1 138 (Int32.toNatClampNeg i4z702_)) / 100) - ((Mz702_.1 138 (Int32.toNatClampNeg i4z702_)) / 100) / 10 * 10))], [pvI ((Mz702_.1 138 (Int32.toNatClampNeg i4z702_)) - (Mz702_.1 138 (Int32.toNatClampNeg i4z702_)) / 100 * 100), pvI x720_, pvI i3z702_, pvR 141], Mz702_)) rfl ⟨trivial, trivial, trivial, (by decide), trivial⟩ ?_
              refine pw_ic hT (c := ((Mz702_.1 138 (Int32.toNatClampNeg i4z702_)) - (Mz702_.1 138 (Int32.toNatClampNeg i4z702_)) / 100 * 100) ≤ x720_) rfl rfl (fun c780_ => ?_) (fun c780_ => ?_)
              · have d781_ : Int32.toInt ((Mz702_.1 138 (Int32.toNatClampNeg i4z702_)) - (Mz702_.1 138 (Int32.toNatClampNeg i4z702_)) / 100 * 100) ≤ Int32.toInt x720_ := (zi_le _ _).mp c780_
                refine pw_blkw hT 3 (pc := 234) (lo := [some (pvR 124), some (pvI n1), some (pvI n2), some (pvI i3z702_), some (pvI i4z702_), some (pvI (Mz702_.1 138 (Int32.toNatClampNeg i4z702_))), some (pvI x720_), some (pvI (((Mz702_.1 138 (Int32.toNatClampNeg i4z702_)) / 100) - ((Mz702_.1 138 (Int32.toNatClampNeg i4z702_)) / 100) / 10 * 10))]) (st := []) (M := pvu Mz702_ 141 (Int32.toNatClampNeg i3z702_) (vp_nar .boolean 0)) rfl ⟨trivial, trivial, ⟨rfl, (zr_in (n := 100) b712_ (by decide) (by decide))⟩, trivial⟩ (fun M782_ e783_ => ?_)
                have o784_ : pvOk M782_ := pvok_u2 e783_ oz702_ rfl (zboolr 0)
                have f785_ : pvFr fp_X10_holds_124_x_x M M782_ := pvfr_u e783_ fz702_ rfl
                obtain ⟨q787_, b786_⟩ : (Int32.toInt (i3z702_ + 1) = Int32.toInt i3z702_ + 1) ∧ (1 ≤ Int32.toInt (i3z702_ + 1) ∧ Int32.toInt (i3z702_ + 1) ≤ 100) := zadd_k i3z702_ 1 1 1 100 b712_ (by decide) (by decide) (by decide) (by decide) (by decide)
                obtain ⟨q789_, b788_⟩ : (Int32.toInt (i4z702_ + 1) = Int32.toInt i4z702_ + 1) ∧ (1 ≤ Int32.toInt (i4z702_ + 1) ∧ Int32.toInt (i4z702_ + 1) ≤ 600) := zadd_k i4z702_ 1 1 1 600 b711_ (by decide) (by decide) (by decide) (by decide) (by decide)
                refine pw_blk hT 3 (S' := (10, [some (pvR 124), some (pvI n1), some (pvI n2), some (pvI (i3z702_ + 1)), some (pvI (i4z702_ + 1)), some (pvI (Mz702_.1 138 (Int32.toNatClampNeg i4z702_))), some (pvI x720_), some (pvI (((Mz702_.1 138 (Int32.toNatClampNeg i4z702_)) / 100) - ((Mz702_.1 138 (Int32.toNatClampNeg i4z702_)) / 100) / 10 * 10))], [], M782_)) rfl ⟨trivial, trivial, trivial, trivial⟩ ?_
                have j790_ : zhI M782_ (Int32.toNatClampNeg n1) (i3z702_ + 1) (i4z702_ + 1) := zhI_u e783_ (zhI_s j0z702_ (by omega) (by omega) (fun _ => by omega) (fun _ _ => by omega) (fun _ _ => by omega))
                exact ihz702_ (i3z702_ + 1) (i4z702_ + 1) (some (pvI (Mz702_.1 138 (Int32.toNatClampNeg i4z702_)))) (some (pvI x720_)) (some (pvI (((Mz702_.1 138 (Int32.toNatClampNeg i4z702_)) / 100) - ((Mz702_.1 138 (Int32.toNatClampNeg i4z702_)) / 100) / 10 * 10))) M782_ o784_ f785_ (zr_wide b786_ (by decide) (by decide)) (zr_wide b788_ (by decide) (by decide)) j790_ (zhid (pvms_up (zshow hmz702_) h4z702_ q789_ (by decide) (by decide)))
              · have b791_ : 1 ≤ Int32.toInt ((Mz702_.1 138 (Int32.toNatClampNeg i4z702_)) - (Mz702_.1 138 (Int32.toNatClampNeg i4z702_)) / 100 * 100) ∧ Int32.toInt ((Mz702_.1 138 (Int32.toNatClampNeg i4z702_)) - (Mz702_.1 138 (Int32.toNatClampNeg i4z702_)) / 100 * 100) ≤ 99 := zr_nle_l 1 c780_ b779_ b722_ (by decide)
                have b792_ : 0 ≤ Int32.toInt x720_ ∧ Int32.toInt x720_ ≤ 98 := zr_nle_r 98 c780_ b722_ b791_ (by decide)
                have d793_ : Int32.toInt ((Mz702_.1 138 (Int32.toNatClampNeg i4z702_)) - (Mz702_.1 138 (Int32.toNatClampNeg i4z702_)) / 100 * 100) > Int32.toInt x720_ := Int.not_le.mp ((not_congr (zi_le _ _)).mp c780_)
                refine pw_blkw hT 3 (pc := 234) (lo := [some (pvR 124), some (pvI n1), some (pvI n2), some (pvI i3z702_), some (pvI i4z702_), some (pvI (Mz702_.1 138 (Int32.toNatClampNeg i4z702_))), some (pvI x720_), some (pvI (((Mz702_.1 138 (Int32.toNatClampNeg i4z702_)) / 100) - ((Mz702_.1 138 (Int32.toNatClampNeg i4z702_)) / 100) / 10 * 10))]) (st := []) (M := pvu Mz702_ 141 (Int32.toNatClampNeg i3z702_) (vp_nar .boolean 1)) rfl ⟨trivial, trivial, ⟨rfl, (zr_in (n := 100) b712_ (by decide) (by decide))⟩, trivial⟩ (fun M794_ e795_ => ?_)
                have o796_ : pvOk M794_ := pvok_u2 e795_ oz702_ rfl (zboolr 1)
                have f797_ : pvFr fp_X10_holds_124_x_x M M794_ := pvfr_u e795_ fz702_ rfl
                obtain ⟨q799_, b798_⟩ : (Int32.toInt (i3z702_ + 1) = Int32.toInt i3z702_ + 1) ∧ (1 ≤ Int32.toInt (i3z702_ + 1) ∧ Int32.toInt (i3z702_ + 1) ≤ 100) := zadd_k i3z702_ 1 1 1 100 b712_ (by decide) (by decide) (by decide) (by decide) (by decide)
                obtain ⟨q801_, b800_⟩ : (Int32.toInt (i4z702_ + 1) = Int32.toInt i4z702_ + 1) ∧ (1 ≤ Int32.toInt (i4z702_ + 1) ∧ Int32.toInt (i4z702_ + 1) ≤ 600) := zadd_k i4z702_ 1 1 1 600 b711_ (by decide) (by decide) (by decide) (by decide) (by decide)
                refine pw_blk hT 3 (S' := (10, [some (pvR 124), some (pvI n1), some (pvI n2), some (pvI (i3z702_ + 1)), some (pvI (i4z702_ + 1)), some (pvI (Mz702_.1 138 (Int32.toNatClampNeg i4z702_))), some (pvI x720_), some (pvI (((Mz702_.1 138 (Int32.toNatClampNeg i4z702_)) / 100) - ((Mz702_.1 138 (Int32.toNatClampNeg i4z702_)) / 100) / 10 * 10))], [], M794_)) rfl ⟨trivial, trivial, trivial, trivial⟩ ?_
                have j802_ : zhI M794_ (Int32.toNatClampNeg n1) (i3z702_ + 1) (i4z702_ + 1) := zhI_u e795_ (zhI_s j0z702_ (by omega) (by omega) (fun _ => by omega) (fun _ _ => by omega) (fun _ _ => by omega))
                exact ihz702_ (i3z702_ + 1) (i4z702_ + 1) (some (pvI (Mz702_.1 138 (Int32.toNatClampNeg i4z702_)))) (some (pvI x720_)) (some (pvI (((Mz702_.1 138 (Int32.toNatClampNeg i4z702_)) / 100) - ((Mz702_.1 138 (Int32.toNatClampNeg i4z702_)) / 100) / 10 * 10))) M794_ o796_ f797_ (zr_wide b798_ (by decide) (by decide)) (zr_wide b800_ (by decide) (by decide)) j802_ (zhid (pvms_up (zshow hmz702_) h4z702_ q801_ (by decide) (by decide)))
          · have b803_ : (-128) ≤ Int32.toInt (Mz702_.1 138 (Int32.toNatClampNeg i4z702_)) ∧ Int32.toInt (Mz702_.1 138 (Int32.toNatClampNeg i4z702_)) ≤ (-1) := zr_nle_r (-1) c716_ b713_ (show 0 ≤ Int32.toInt 0 ∧ Int32.toInt 0 ≤ 0 from (by decide)) (by decide)
            have b804_ : 2 ≤ Int32.toInt i3z702_ ∧ Int32.toInt i3z702_ ≤ 99 := (by have u0 := q710_.2.1; have u1 := q710_.2.2.2 d715_ (by omega); omega)
            obtain ⟨q806_, b805_⟩ : (Int32.toInt (i3z702_ + (-1)) = Int32.toInt i3z702_ + (-1)) ∧ (1 ≤ Int32.toInt (i3z702_ + (-1)) ∧ Int32.toInt (i3z702_ + (-1)) ≤ 98) := zadd_k i3z702_ (-1) (-1) 1 98 b804_ (by decide) (by decide) (by decide) (by decide) (by decide)
            obtain ⟨q808_, b807_⟩ : (Int32.toInt ((i3z702_ + (-1)) - 1) = Int32.toInt (i3z702_ + (-1)) - 1) ∧ (0 ≤ Int32.toInt ((i3z702_ + (-1)) - 1) ∧ Int32.toInt ((i3z702_ + (-1)) - 1) ≤ 97) := zsub_k (i3z702_ + (-1)) 1 1 0 97 b805_ (by decide) (by decide) (by decide) (by decide) (by decide)
            refine pw_blk hT 8 (S' := (83, [some (pvR 124), some (pvI n1), some (pvI n2), some (pvI (i3z702_ + (-1))), some (pvI i4z702_), some (pvI (Mz702_.1 138 (Int32.toNatClampNeg i4z702_))), v6z702_, v7z702_], [pvI (-38), pvI (Mz702_.1 138 (Int32.toNatClampNeg i4z702_)), pvI ((i3z702_ + (-1)) - 1), pvR 141], Mz702_)) rfl ⟨trivial, trivial, rfl, trivial, trivial, trivial, trivial, trivial, trivial⟩ ?_
            refine pw_icn hT (c := (Mz702_.1 138 (Int32.toNatClampNeg i4z702_)) = (-38)) rfl rfl (fun c809_ => ?_) (fun c809_ => ?_)
            · have b810_ : 0 ≤ Int32.toInt (Mz702_.1 141 (Int32.toNatClampNeg ((i3z702_ + (-1)) - 1))) ∧ Int32.toInt (Mz702_.1 141 (Int32.toNatClampNeg ((i3z702_ + (-1)) - 1))) ≤ 1 := pvok_r oz702_ 141 (Int32.toNatClampNeg ((i3z702_ + (-1)) - 1)) rfl
              refine pw_blk hT 6 (S' := (122, [some (pvR 124), some (pvI n1), some (pvI n2), some (pvI (i3z702_ + (-1))), some (pvI i4z702_), some (pvI (Mz702_.1 138 (Int32.toNatClampNeg i4z702_))), v6z702_, v7z702_], [pvI (Mz702_.1 141 (Int32.toNatClampNeg ((i3z702_ + (-1)) - 1))), pvI ((i3z702_ + (-1)) - 1), pvR 141], Mz702_)) rfl ⟨trivial, rfl, trivial, trivial, trivial, ⟨rfl, (zr_in (n := 100) b807_ (by decide) (by decide))⟩, trivial⟩ ?_
              refine pw_ifn hT (c := (Mz702_.1 141 (Int32.toNatClampNeg ((i3z702_ + (-1)) - 1))) = 0) rfl rfl (fun c811_ => ?_) (fun c811_ => ?_)
              · have b812_ : 1 ≤ Int32.toInt (Mz702_.1 141 (Int32.toNatClampNeg ((i3z702_ + (-1)) - 1))) ∧ Int32.toInt (Mz702_.1 141 (Int32.toNatClampNeg ((i3z702_ + (-1)) - 1))) ≤ 1 := (by have u0 := b810_; have u1 := (not_congr (zi_eq _ _)).mp c811_; have u2 := (show 0 ≤ Int32.toInt 0 ∧ Int32.toInt 0 ≤ 0 from (by decide)); omega)
                refine pw_blkw hT 3 (pc := 140) (lo := [some (pvR 124), some (pvI n1), some (pvI n2), some (pvI (i3z702_ + (-1))), some (pvI i4z702_), some (pvI (Mz702_.1 138 (Int32.toNatClampNeg i4z702_))), v6z702_, v7z702_]) (st := []) (M := pvu Mz702_ 141 (Int32.toNatClampNeg ((i3z702_ + (-1)) - 1)) (vp_nar .boolean 1)) rfl ⟨trivial, trivial, ⟨rfl, (zr_in (n := 100) b807_ (by decide) (by decide))⟩, trivial⟩ (fun M813_ e814_ => ?_)
                have o815_ : pvOk M813_ := pvok_u2 e814_ oz702_ rfl (zboolr 1)
                have f816_ : pvFr fp_X10_holds_124_x_x M M813_ := pvfr_u e814_ fz702_ rfl
                obtain ⟨q818_, b817_⟩ : (Int32.toInt (i4z702_ + 1) = Int32.toInt i4z702_ + 1) ∧ (1 ≤ Int32.toInt (i4z702_ + 1) ∧ Int32.toInt (i4z702_ + 1) ≤ 600) := zadd_k i4z702_ 1 1 1 600 b711_ (by decide) (by decide) (by decide) (by decide) (by decide)
                refine pw_blk hT 3 (S' := (10, [some (pvR 124), some (pvI n1), some (pvI n2), some (pvI (i3z702_ + (-1))), some (pvI (i4z702_ + 1)), some (pvI (Mz702_.1 138 (Int32.toNatClampNeg i4z702_))), v6z702_, v7z702_], [], M813_)) rfl ⟨trivial, trivial, trivial, trivial⟩ ?_
                have j819_ : zhI M813_ (Int32.toNatClampNeg n1) (i3z702_ + (-1)) (i4z702_ + 1) := zhI_u e814_ (zhI_s j0z702_ (by omega) (by omega) (fun _ => by omega) (fun _ _ => by omega) (fun _ _ => by omega))
                exact ihz702_ (i3z702_ + (-1)) (i4z702_ + 1) (some (pvI (Mz702_.1 138 (Int32.toNatClampNeg i4z702_)))) v6z702_ v7z702_ M813_ o815_ f816_ (zr_wide b805_ (by decide) (by decide)) (zr_wide b817_ (by decide) (by decide)) j819_ (zhid (pvms_up (zshow hmz702_) h4z702_ q818_ (by decide) (by decide)))
              · have b820_ : 0 ≤ Int32.toInt (Mz702_.1 141 (Int32.toNatClampNeg ((i3z702_ + (-1)) - 1))) ∧ Int32.toInt (Mz702_.1 141 (Int32.toNatClampNeg ((i3z702_ + (-1)) - 1))) ≤ 0 := (by have u0 := b810_; have u1 := (zi_eq _ _).mp c811_; have u2 := (show 0 ≤ Int32.toInt 0 ∧ Int32.toInt 0 ≤ 0 from (by decide)); omega)
                have b821_ : 0 ≤ Int32.toInt (Mz702_.1 141 (Int32.toNatClampNeg (i3z702_ + (-1)))) ∧ Int32.toInt (Mz702_.1 141 (Int32.toNatClampNeg (i3z702_ + (-1)))) ≤ 1 := pvok_r oz702_ 141 (Int32.toNatClampNeg (i3z702_ + (-1))) rfl
                refine pw_blk hT 4 (S' := (131, [some (pvR 124), some (pvI n1), some (pvI n2), some (pvI (i3z702_ + (-1))), some (pvI i4z702_), some (pvI (Mz702_.1 138 (Int32.toNatClampNeg i4z702_))), v6z702_, v7z702_], [pvI (Mz702_.1 141 (Int32.toNatClampNeg (i3z702_ + (-1)))), pvI ((i3z702_ + (-1)) - 1), pvR 141], Mz702_)) rfl ⟨trivial, rfl, trivial, ⟨rfl, (zr_in (n := 100) b805_ (by decide) (by decide))⟩, trivial⟩ ?_
                refine pw_if hT (c := (Mz702_.1 141 (Int32.toNatClampNeg (i3z702_ + (-1)))) = 0) rfl rfl (fun c822_ => ?_) (fun c822_ => ?_)
                · have b823_ : 0 ≤ Int32.toInt (Mz702_.1 141 (Int32.toNatClampNeg (i3z702_ + (-1)))) ∧ Int32.toInt (Mz702_.1 141 (Int32.toNatClampNeg (i3z702_ + (-1)))) ≤ 0 := (by have u0 := b821_; have u1 := (zi_eq _ _).mp c822_; have u2 := (show 0 ≤ Int32.toInt 0 ∧ Int32.toInt 0 ≤ 0 from (by decide)); omega)
                  refine pw_blkw hT 2 (pc := 140) (lo := [some (pvR 124), some (pvI n1), some (pvI n2), some (pvI (i3z702_ + (-1))), some (pvI i4z702_), some (pvI (Mz702_.1 138 (Int32.toNatClampNeg i4z702_))), v6z702_, v7z702_]) (st := []) (M := pvu Mz702_ 141 (Int32.toNatClampNeg ((i3z702_ + (-1)) - 1)) (vp_nar .boolean 0)) rfl ⟨trivial, ⟨rfl, (zr_in (n := 100) b807_ (by decide) (by decide))⟩, trivial⟩ (fun M824_ e825_ => ?_)
                  have o826_ : pvOk M824_ := pvok_u2 e825_ oz702_ rfl (zboolr 0)
                  have f827_ : pvFr fp_X10_holds_124_x_x M M824_ := pvfr_u e825_ fz702_ rfl
                  obtain ⟨q829_, b828_⟩ : (Int32.toInt (i4z702_ + 1) = Int32.toInt i4z702_ + 1) ∧ (1 ≤ Int32.toInt (i4z702_ + 1) ∧ Int32.toInt (i4z702_ + 1) ≤ 600) := zadd_k i4z702_ 1 1 1 600 b711_ (by decide) (by decide) (by decide) (by decide) (by decide)
                  refine pw_blk hT 3 (S' := (10, [some (pvR 124), some (pvI n1), some (pvI n2), some (pvI (i3z702_ + (-1))), some (pvI (i4z702_ + 1)), some (pvI (Mz702_.1 138 (Int32.toNatClampNeg i4z702_))), v6z702_, v7z702_], [], M824_)) rfl ⟨trivial, trivial, trivial, trivial⟩ ?_
                  have j830_ : zhI M824_ (Int32.toNatClampNeg n1) (i3z702_ + (-1)) (i4z702_ + 1) := zhI_u e825_ (zhI_s j0z702_ (by omega) (by omega) (fun _ => by omega) (fun _ _ => by omega) (fun _ _ => by omega))
                  exact ihz702_ (i3z702_ + (-1)) (i4z702_ + 1) (some (pvI (Mz702_.1 138 (Int32.toNatClampNeg i4z702_)))) v6z702_ v7z702_ M824_ o826_ f827_ (zr_wide b805_ (by decide) (by decide)) (zr_wide b828_ (by decide) (by decide)) j830_ (zhid (pvms_up (zshow hmz702_) h4z702_ q829_ (by decide) (by decide)))
                · have b831_ : 1 ≤ Int32.toInt (Mz702_.1 141 (Int32.toNatClampNeg (i3z702_ + (-1)))) ∧ Int32.toInt (Mz702_.1 141 (Int32.toNatClampNeg (i3z702_ + (-1)))) ≤ 1 := (by have u0 := b821_; have u1 := (not_congr (zi_eq _ _)).mp c822_; have u2 := (show 0 ≤ Int32.toInt 0 ∧ Int32.toInt 0 ≤ 0 from (by decide)); omega)
                  refine pw_blkw hT 3 (pc := 140) (lo := [some (pvR 124), some (pvI n1), some (pvI n2), some (pvI (i3z702_ + (-1))), some (pvI i4z702_), some (pvI (Mz702_.1 138 (Int32.toNatClampNeg i4z702_))), v6z702_, v7z702_]) (st := []) (M := pvu Mz702_ 141 (Int32.toNatClampNeg ((i3z702_ + (-1)) - 1)) (vp_nar .boolean 1)) rfl ⟨trivial, trivial, ⟨rfl, (zr_in (n := 100) b807_ (by decide) (by decide))⟩, trivial⟩ (fun M832_ e833_ => ?_)
                  have o834_ : pvOk M832_ := pvok_u2 e833_ oz702_ rfl (zboolr 1)
                  have f835_ : pvFr fp_X10_holds_124_x_x M M832_ := pvfr_u e833_ fz702_ rfl
                  obtain ⟨q837_, b836_⟩ : (Int32.toInt (i4z702_ + 1) = Int32.toInt i4z702_ + 1) ∧ (1 ≤ Int32.toInt (i4z702_ + 1) ∧ Int32.toInt (i4z702_ + 1) ≤ 600) := zadd_k i4z702_ 1 1 1 600 b711_ (by decide) (by decide) (by decide) (by decide) (by decide)
                  refine pw_blk hT 3 (S' := (10, [some (pvR 124), some (pvI n1), some (pvI n2), some (pvI (i3z702_ + (-1))), some (pvI (i4z702_ + 1)), some (pvI (Mz702_.1 138 (Int32.toNatClampNeg i4z702_))), v6z702_, v7z702_], [], M832_)) rfl ⟨trivial, trivial, trivial, trivial⟩ ?_
                  have j838_ : zhI M832_ (Int32.toNatClampNeg n1) (i3z702_ + (-1)) (i4z702_ + 1) := zhI_u e833_ (zhI_s j0z702_ (by omega) (by omega) (fun _ => by omega) (fun _ _ => by omega) (fun _ _ => by omega))
                  exact ihz702_ (i3z702_ + (-1)) (i4z702_ + 1) (some (pvI (Mz702_.1 138 (Int32.toNatClampNeg i4z702_)))) v6z702_ v7z702_ M832_ o834_ f835_ (zr_wide b805_ (by decide) (by decide)) (zr_wide b836_ (by decide) (by decide)) j838_ (zhid (pvms_up (zshow hmz702_) h4z702_ q837_ (by decide) (by decide)))
            · have b839_ : (-38) ≤ Int32.toInt (Mz702_.1 138 (Int32.toNatClampNeg i4z702_)) ∧ Int32.toInt (Mz702_.1 138 (Int32.toNatClampNeg i4z702_)) ≤ (-38) := (by have u0 := b803_; have u1 := (zi_eq _ _).mp c809_; have u2 := (show (-38) ≤ Int32.toInt (-38) ∧ Int32.toInt (-38) ≤ (-38) from (by decide)); omega)
              have b840_ : 0 ≤ Int32.toInt (Mz702_.1 141 (Int32.toNatClampNeg ((i3z702_ + (-1)) - 1))) ∧ Int32.toInt (Mz702_.1 141 (Int32.toNatClampNeg ((i3z702_ + (-1)) - 1))) ≤ 1 := pvok_r oz702_ 141 (Int32.toNatClampNeg ((i3z702_ + (-1)) - 1)) rfl
              refine pw_blk hT 6 (S' := (94, [some (pvR 124), some (pvI n1), some (pvI n2), some (pvI (i3z702_ + (-1))), some (pvI i4z702_), some (pvI (Mz702_.1 138 (Int32.toNatClampNeg i4z702_))), v6z702_, v7z702_], [pvI (Mz702_.1 141 (Int32.toNatClampNeg ((i3z702_ + (-1)) - 1))), pvI ((i3z702_ + (-1)) - 1), pvR 141], Mz702_)) rfl ⟨trivial, rfl, trivial, trivial, trivial, ⟨rfl, (zr_in (n := 100) b807_ (by decide) (by decide))⟩, trivial⟩ ?_
              refine pw_if hT (c := (Mz702_.1 141 (Int32.toNatClampNeg ((i3z702_ + (-1)) - 1))) = 0) rfl rfl (fun c841_ => ?_) (fun c841_ => ?_)
              · have b842_ : 0 ≤ Int32.toInt (Mz702_.1 141 (Int32.toNatClampNeg ((i3z702_ + (-1)) - 1))) ∧ Int32.toInt (Mz702_.1 141 (Int32.toNatClampNeg ((i3z702_ + (-1)) - 1))) ≤ 0 := (by have u0 := b840_; have u1 := (zi_eq _ _).mp c841_; have u2 := (show 0 ≤ Int32.toInt 0 ∧ Int32.toInt 0 ≤ 0 from (by decide)); omega)
                refine pw_blkw hT 3 (pc := 140) (lo := [some (pvR 124), some (pvI n1), some (pvI n2), some (pvI (i3z702_ + (-1))), some (pvI i4z702_), some (pvI (Mz702_.1 138 (Int32.toNatClampNeg i4z702_))), v6z702_, v7z702_]) (st := []) (M := pvu Mz702_ 141 (Int32.toNatClampNeg ((i3z702_ + (-1)) - 1)) (vp_nar .boolean 0)) rfl ⟨trivial, trivial, ⟨rfl, (zr_in (n := 100) b807_ (by decide) (by decide))⟩, trivial⟩ (fun M843_ e844_ => ?_)
                have o845_ : pvOk M843_ := pvok_u2 e844_ oz702_ rfl (zboolr 0)
                have f846_ : pvFr fp_X10_holds_124_x_x M M843_ := pvfr_u e844_ fz702_ rfl
                obtain ⟨q848_, b847_⟩ : (Int32.toInt (i4z702_ + 1) = Int32.toInt i4z702_ + 1) ∧ (1 ≤ Int32.toInt (i4z702_ + 1) ∧ Int32.toInt (i4z702_ + 1) ≤ 600) := zadd_k i4z702_ 1 1 1 600 b711_ (by decide) (by decide) (by decide) (by decide) (by decide)
                refine pw_blk hT 3 (S' := (10, [some (pvR 124), some (pvI n1), some (pvI n2), some (pvI (i3z702_ + (-1))), some (pvI (i4z702_ + 1)), some (pvI (Mz702_.1 138 (Int32.toNatClampNeg i4z702_))), v6z702_, v7z702_], [], M843_)) rfl ⟨trivial, trivial, trivial, trivial⟩ ?_
                have j849_ : zhI M843_ (Int32.toNatClampNeg n1) (i3z702_ + (-1)) (i4z702_ + 1) := zhI_u e844_ (zhI_s j0z702_ (by omega) (by omega) (fun _ => by omega) (fun _ _ => by omega) (fun _ _ => by omega))
                exact ihz702_ (i3z702_ + (-1)) (i4z702_ + 1) (some (pvI (Mz702_.1 138 (Int32.toNatClampNeg i4z702_)))) v6z702_ v7z702_ M843_ o845_ f846_ (zr_wide b805_ (by decide) (by decide)) (zr_wide b847_ (by decide) (by decide)) j849_ (zhid (pvms_up (zshow hmz702_) h4z702_ q848_ (by decide) (by decide)))
              · have b850_ : 1 ≤ Int32.toInt (Mz702_.1 141 (Int32.toNatClampNeg ((i3z702_ + (-1)) - 1))) ∧ Int32.toInt (Mz702_.1 141 (Int32.toNatClampNeg ((i3z702_ + (-1)) - 1))) ≤ 1 := (by have u0 := b840_; have u1 := (not_congr (zi_eq _ _)).mp c841_; have u2 := (show 0 ≤ Int32.toInt 0 ∧ Int32.toInt 0 ≤ 0 from (by decide)); omega)
                have b851_ : 0 ≤ Int32.toInt (Mz702_.1 141 (Int32.toNatClampNeg (i3z702_ + (-1)))) ∧ Int32.toInt (Mz702_.1 141 (Int32.toNatClampNeg (i3z702_ + (-1)))) ≤ 1 := pvok_r oz702_ 141 (Int32.toNatClampNeg (i3z702_ + (-1))) rfl
                refine pw_blk hT 4 (S' := (103, [some (pvR 124), some (pvI n1), some (pvI n2), some (pvI (i3z702_ + (-1))), some (pvI i4z702_), some (pvI (Mz702_.1 138 (Int32.toNatClampNeg i4z702_))), v6z702_, v7z702_], [pvI (Mz702_.1 141 (Int32.toNatClampNeg (i3z702_ + (-1)))), pvI ((i3z702_ + (-1)) - 1), pvR 141], Mz702_)) rfl ⟨trivial, rfl, trivial, ⟨rfl, (zr_in (n := 100) b805_ (by decide) (by decide))⟩, trivial⟩ ?_
                refine pw_if hT (c := (Mz702_.1 141 (Int32.toNatClampNeg (i3z702_ + (-1)))) = 0) rfl rfl (fun c852_ => ?_) (fun c852_ => ?_)
                · have b853_ : 0 ≤ Int32.toInt (Mz702_.1 141 (Int32.toNatClampNeg (i3z702_ + (-1)))) ∧ Int32.toInt (Mz702_.1 141 (Int32.toNatClampNeg (i3z702_ + (-1)))) ≤ 0 := (by have u0 := b851_; have u1 := (zi_eq _ _).mp c852_; have u2 := (show 0 ≤ Int32.toInt 0 ∧ Int32.toInt 0 ≤ 0 from (by decide)); omega)
                  refine pw_blkw hT 3 (pc := 140) (lo := [some (pvR 124), some (pvI n1), some (pvI n2), some (pvI (i3z702_ + (-1))), some (pvI i4z702_), some (pvI (Mz702_.1 138 (Int32.toNatClampNeg i4z702_))), v6z702_, v7z702_]) (st := []) (M := pvu Mz702_ 141 (Int32.toNatClampNeg ((i3z702_ + (-1)) - 1)) (vp_nar .boolean 0)) rfl ⟨trivial, trivial, ⟨rfl, (zr_in (n := 100) b807_ (by decide) (by decide))⟩, trivial⟩ (fun M854_ e855_ => ?_)
                  have o856_ : pvOk M854_ := pvok_u2 e855_ oz702_ rfl (zboolr 0)
                  have f857_ : pvFr fp_X10_holds_124_x_x M M854_ := pvfr_u e855_ fz702_ rfl
                  obtain ⟨q859_, b858_⟩ : (Int32.toInt (i4z702_ + 1) = Int32.toInt i4z702_ + 1) ∧ (1 ≤ Int32.toInt (i4z702_ + 1) ∧ Int32.toInt (i4z702_ + 1) ≤ 600) := zadd_k i4z702_ 1 1 1 600 b711_ (by decide) (by decide) (by decide) (by decide) (by decide)
                  refine pw_blk hT 3 (S' := (10, [some (pvR 124), some (pvI n1), some (pvI n2), some (pvI (i3z702_ + (-1))), some (pvI (i4z702_ + 1)), some (pvI (Mz702_.1 138 (Int32.toNatClampNeg i4z702_))), v6z702_, v7z702_], [], M854_)) rfl ⟨trivial, trivial, trivial, trivial⟩ ?_
                  have j860_ : zhI M854_ (Int32.toNatClampNeg n1) (i3z702_ + (-1)) (i4z702_ + 1) := zhI_u e855_ (zhI_s j0z702_ (by omega) (by omega) (fun _ => by omega) (fun _ _ => by omega) (fun _ _ => by omega))
                  exact ihz702_ (i3z702_ + (-1)) (i4z702_ + 1) (some (pvI (Mz702_.1 138 (Int32.toNatClampNeg i4z702_)))) v6z702_ v7z702_ M854_ o856_ f857_ (zr_wide b805_ (by decide) (by decide)) (zr_wide b858_ (by decide) (by decide)) j860_ (zhid (pvms_up (zshow hmz702_) h4z702_ q859_ (by decide) (by decide)))
                · have b861_ : 1 ≤ Int32.toInt (Mz702_.1 141 (Int32.toNatClampNeg (i3z702_ + (-1)))) ∧ Int32.toInt (Mz702_.1 141 (Int32.toNatClampNeg (i3z702_ + (-1)))) ≤ 1 := (by have u0 := b851_; have u1 := (not_congr (zi_eq _ _)).mp c852_; have u2 := (show 0 ≤ Int32.toInt 0 ∧ Int32.toInt 0 ≤ 0 from (by decide)); omega)
                  refine pw_blkw hT 3 (pc := 140) (lo := [some (pvR 124), some (pvI n1), some (pvI n2), some (pvI (i3z702_ + (-1))), some (pvI i4z702_), some (pvI (Mz702_.1 138 (Int32.toNatClampNeg i4z702_))), v6z702_, v7z702_]) (st := []) (M := pvu Mz702_ 141 (Int32.toNatClampNeg ((i3z702_ + (-1)) - 1)) (vp_nar .boolean 1)) rfl ⟨trivial, trivial, ⟨rfl, (zr_in (n := 100) b807_ (by decide) (by decide))⟩, trivial⟩ (fun M862_ e863_ => ?_)
                  have o864_ : pvOk M862_ := pvok_u2 e863_ oz702_ rfl (zboolr 1)
                  have f865_ : pvFr fp_X10_holds_124_x_x M M862_ := pvfr_u e863_ fz702_ rfl
                  obtain ⟨q867_, b866_⟩ : (Int32.toInt (i4z702_ + 1) = Int32.toInt i4z702_ + 1) ∧ (1 ≤ Int32.toInt (i4z702_ + 1) ∧ Int32.toInt (i4z702_ + 1) ≤ 600) := zadd_k i4z702_ 1 1 1 600 b711_ (by decide) (by decide) (by decide) (by decide) (by decide)
                  refine pw_blk hT 3 (S' := (10, [some (pvR 124), some (pvI n1), some (pvI n2), some (pvI (i3z702_ + (-1))), some (pvI (i4z702_ + 1)), some (pvI (Mz702_.1 138 (Int32.toNatClampNeg i4z702_))), v6z702_, v7z702_], [], M862_)) rfl ⟨trivial, trivial, trivial, trivial⟩ ?_
                  have j868_ : zhI M862_ (Int32.toNatClampNeg n1) (i3z702_ + (-1)) (i4z702_ + 1) := zhI_u e863_ (zhI_s j0z702_ (by omega) (by omega) (fun _ => by omega) (fun _ _ => by omega) (fun _ _ => by omega))
                  exact ihz702_ (i3z702_ + (-1)) (i4z702_ + 1) (some (pvI (Mz702_.1 138 (Int32.toNatClampNeg i4z702_)))) v6z702_ v7z702_ M862_ o864_ f865_ (zr_wide b805_ (by decide) (by decide)) (zr_wide b866_ (by decide) (by decide)) j868_ (zhid (pvms_up (zshow hmz702_) h4z702_ q867_ (by decide) (by decide)))
        · have b869_ : (-33) ≤ Int32.toInt (Mz702_.1 138 (Int32.toNatClampNeg i4z702_)) ∧ Int32.toInt (Mz702_.1 138 (Int32.toNatClampNeg i4z702_)) ≤ (-33) := (by have u0 := b713_; have u1 := (zi_eq _ _).mp c714_; have u2 := (show (-33) ≤ Int32.toInt (-33) ∧ Int32.toInt (-33) ≤ (-33) from (by decide)); omega)
          have b870_ : 1 ≤ Int32.toInt i3z702_ ∧ Int32.toInt i3z702_ ≤ 99 := (by have u0 := q710_.2.1; have u1 := q710_.2.2.1 (by omega); omega)
          obtain ⟨q872_, b871_⟩ : (Int32.toInt (i3z702_ - 1) = Int32.toInt i3z702_ - 1) ∧ (0 ≤ Int32.toInt (i3z702_ - 1) ∧ Int32.toInt (i3z702_ - 1) ≤ 98) := zsub_k i3z702_ 1 1 0 98 b870_ (by decide) (by decide) (by decide) (by decide) (by decide)
          have b873_ : 0 ≤ Int32.toInt (Mz702_.1 141 (Int32.toNatClampNeg (i3z702_ - 1))) ∧ Int32.toInt (Mz702_.1 141 (Int32.toNatClampNeg (i3z702_ - 1))) ≤ 1 := pvok_r oz702_ 141 (Int32.toNatClampNeg (i3z702_ - 1)) rfl
          refine pw_blk hT 11 (S' := (52, [some (pvR 124), some (pvI n1), some (pvI n2), some (pvI i3z702_), some (pvI i4z702_), some (pvI (Mz702_.1 138 (Int32.toNatClampNeg i4z702_))), v6z702_, v7z702_], [pvI (Mz702_.1 141 (Int32.toNatClampNeg (i3z702_ - 1))), pvI (i3z702_ - 1), pvR 141], Mz702_)) rfl ⟨trivial, rfl, trivial, trivial, trivial, trivial, rfl, trivial, trivial, trivial, ⟨rfl, (zr_in (n := 100) b871_ (by decide) (by decide))⟩, trivial⟩ ?_
          refine pw_ifn hT (c := (Mz702_.1 141 (Int32.toNatClampNeg (i3z702_ - 1))) = 0) rfl rfl (fun c874_ => ?_) (fun c874_ => ?_)
          · have b875_ : 1 ≤ Int32.toInt (Mz702_.1 141 (Int32.toNatClampNeg (i3z702_ - 1))) ∧ Int32.toInt (Mz702_.1 141 (Int32.toNatClampNeg (i3z702_ - 1))) ≤ 1 := (by have u0 := b873_; have u1 := (not_congr (zi_eq _ _)).mp c874_; have u2 := (show 0 ≤ Int32.toInt 0 ∧ Int32.toInt 0 ≤ 0 from (by decide)); omega)
            refine pw_blkw hT 2 (pc := 61) (lo := [some (pvR 124), some (pvI n1), some (pvI n2), some (pvI i3z702_), some (pvI i4z702_), some (pvI (Mz702_.1 138 (Int32.toNatClampNeg i4z702_))), v6z702_, v7z702_]) (st := []) (M := pvu Mz702_ 141 (Int32.toNatClampNeg (i3z702_ - 1)) (vp_nar .boolean 0)) rfl ⟨trivial, ⟨rfl, (zr_in (n := 100) b871_ (by decide) (by decide))⟩, trivial⟩ (fun M876_ e877_ => ?_)
            have o878_ : pvOk M876_ := pvok_u2 e877_ oz702_ rfl (zboolr 0)
            have f879_ : pvFr fp_X10_holds_124_x_x M M876_ := pvfr_u e877_ fz702_ rfl
            obtain ⟨q881_, b880_⟩ : (Int32.toInt (i4z702_ + 1) = Int32.toInt i4z702_ + 1) ∧ (1 ≤ Int32.toInt (i4z702_ + 1) ∧ Int32.toInt (i4z702_ + 1) ≤ 600) := zadd_k i4z702_ 1 1 1 600 b711_ (by decide) (by decide) (by decide) (by decide) (by decide)
            refine pw_blk hT 3 (S' := (10, [some (pvR 124), some (pvI n1), some (pvI n2), some (pvI i3z702_), some (pvI (i4z702_ + 1)), some (pvI (Mz702_.1 138 (Int32.toNatClampNeg i4z702_))), v6z702_, v7z702_], [], M876_)) rfl ⟨trivial, trivial, trivial, trivial⟩ ?_
            have j882_ : zhI M876_ (Int32.toNatClampNeg n1) i3z702_ (i4z702_ + 1) := zhI_u e877_ (zhI_s j0z702_ (by omega) (by omega) (fun _ => by omega) (fun _ _ => by omega) (fun _ _ => by omega))
            exact ihz702_ i3z702_ (i4z702_ + 1) (some (pvI (Mz702_.1 138 (Int32.toNatClampNeg i4z702_)))) v6z702_ v7z702_ M876_ o878_ f879_ (zr_wide b870_ (by decide) (by decide)) (zr_wide b880_ (by decide) (by decide)) j882_ (zhid (pvms_up (zshow hmz702_) h4z702_ q881_ (by decide) (by decide)))
          · have b883_ : 0 ≤ Int32.toInt (Mz702_.1 141 (Int32.toNatClampNeg (i3z702_ - 1))) ∧ Int32.toInt (Mz702_.1 141 (Int32.toNatClampNeg (i3z702_ - 1))) ≤ 0 := (by have u0 := b873_; have u1 := (zi_eq _ _).mp c874_; have u2 := (show 0 ≤ Int32.toInt 0 ∧ Int32.toInt 0 ≤ 0 from (by decide)); omega)
            refine pw_blkw hT 3 (pc := 61) (lo := [some (pvR 124), some (pvI n1), some (pvI n2), some (pvI i3z702_), some (pvI i4z702_), some (pvI (Mz702_.1 138 (Int32.toNatClampNeg i4z702_))), v6z702_, v7z702_]) (st := []) (M := pvu Mz702_ 141 (Int32.toNatClampNeg (i3z702_ - 1)) (vp_nar .boolean 1)) rfl ⟨trivial, trivial, ⟨rfl, (zr_in (n := 100) b871_ (by decide) (by decide))⟩, trivial⟩ (fun M884_ e885_ => ?_)
            have o886_ : pvOk M884_ := pvok_u2 e885_ oz702_ rfl (zboolr 1)
            have f887_ : pvFr fp_X10_holds_124_x_x M M884_ := pvfr_u e885_ fz702_ rfl
            obtain ⟨q889_, b888_⟩ : (Int32.toInt (i4z702_ + 1) = Int32.toInt i4z702_ + 1) ∧ (1 ≤ Int32.toInt (i4z702_ + 1) ∧ Int32.toInt (i4z702_ + 1) ≤ 600) := zadd_k i4z702_ 1 1 1 600 b711_ (by decide) (by decide) (by decide) (by decide) (by decide)
            refine pw_blk hT 3 (S' := (10, [some (pvR 124), some (pvI n1), some (pvI n2), some (pvI i3z702_), some (pvI (i4z702_ + 1)), some (pvI (Mz702_.1 138 (Int32.toNatClampNeg i4z702_))), v6z702_, v7z702_], [], M884_)) rfl ⟨trivial, trivial, trivial, trivial⟩ ?_
            have j890_ : zhI M884_ (Int32.toNatClampNeg n1) i3z702_ (i4z702_ + 1) := zhI_u e885_ (zhI_s j0z702_ (by omega) (by omega) (fun _ => by omega) (fun _ _ => by omega) (fun _ _ => by omega))
            exact ihz702_ i3z702_ (i4z702_ + 1) (some (pvI (Mz702_.1 138 (Int32.toNatClampNeg i4z702_)))) v6z702_ v7z702_ M884_ o886_ f887_ (zr_wide b870_ (by decide) (by decide)) (zr_wide b888_ (by decide) (by decide)) j890_ (zhid (pvms_up (zshow hmz702_) h4z702_ q889_ (by decide) (by decide)))
  have u891_ : Int32.toInt 0 = 0 := by decide
  have j892_ : zhI M (Int32.toNatClampNeg n1) 0 (M.1 136 (Int32.toNatClampNeg n1)) := zhI_0 hw
  exact hlz702_ _ 0 (M.1 136 (Int32.toNatClampNeg n1)) none none none M hok pvfr_0 (zr_wide (show 0 ≤ Int32.toInt 0 ∧ Int32.toInt 0 ≤ 0 from (by decide)) (by decide) (by decide)) b1_ j892_ (zhid (Nat.lt_succ_self _))
def fpL_X10_rainOf_124_x : List (Nat × Nat × Nat) := [(0, 141, 0)]
def fp_X10_rainOf_124_x (q k : Nat) : Bool := pvfp fpL_X10_rainOf_124_x q k
theorem fp_X10_rainOf_124_x_fp_X10_holds_124_x_x (a b : Nat) (h : fp_X10_holds_124_x_x a b = true) : fp_X10_rainOf_124_x a b = true := pvfp_sub (l1 := fpL_X10_holds_124_x_x) (l2 := fpL_X10_rainOf_124_x) (by decide) a b h
set_option maxHeartbeats 4000000 in
set_option maxRecDepth 10000 in
theorem sf_X10_rainOf_124_x (M : pvM) (hok : pvOk M) (n1 : Int32) (hn1 : 0 ≤ Int32.toInt n1 ∧ Int32.toInt n1 ≤ 6) (hz : pvWF M) (d : Nat) : PW 67 d (0, [some (pvR 124), some (pvI n1), none, none], [], M) (fun r X => (∃ x : Int32, r = some (pvI x) ∧ 0 ≤ Int32.toInt x ∧ Int32.toInt x ≤ 6000) ∧ pvOk X ∧ pvFr fp_X10_rainOf_124_x M X) := by
  have hT : pvdom 67 = pvD_67 := rfl
  refine pw_blk hT 3 (S' := (3, [some (pvR 124), some (pvI n1), some (pvI 3), none], [pvR 124], M)) rfl ⟨trivial, trivial, trivial, trivial⟩ ?_
  refine pw_callT hT (as := [pvR 124]) (lo1 := [some (pvR 124)]) (d1 := d) (rest := []) rfl rfl rfl rfl rfl (fun _ => rfl) (Nat.zero_le _) rfl rfl rfl (sf_X10_firstClause_124 M hok d) ?_
  have b6_ : (-1) ≤ Int32.toInt (M.1 124 15) ∧ Int32.toInt (M.1 124 15) ≤ 5 := pvok_r hok 124 15 rfl
  by_cases c7_ : 0 ≤ (M.1 124 15)
  · refine pw_eqI (if_pos c7_) ?_
    have b8_ : 0 ≤ Int32.toInt (M.1 124 15) ∧ Int32.toInt (M.1 124 15) ≤ 5 := zr_le_r 0 c7_ b6_ (show 0 ≤ Int32.toInt 0 ∧ Int32.toInt 0 ≤ 0 from (by decide)) (by decide)
    have q9_ : Int32.toInt (10 * (M.1 124 15)) = 10 * Int32.toInt (M.1 124 15) := by have u0 : Int32.toInt 10 = 10 := (by decide); have u1 := b8_; have u2 := zmul 10 (M.1 124 15) (by rw [u0]; omega) (by rw [u0]; omega); rw [u0] at u2; omega
    have b10_ : 0 ≤ Int32.toInt (10 * (M.1 124 15)) ∧ Int32.toInt (10 * (M.1 124 15)) ≤ 50 := (by have u1 := b8_; omega)
    show PW 67 d (6, [some (pvR 124), some (pvI n1), some (pvI 3), none], [pvI (10 * (M.1 124 15))], M) _
    refine pw_blk hT 1 (S' := (7, [some (pvR 124), some (pvI n1), some (pvI 3), some (pvI (10 * (M.1 124 15)))], [], M)) rfl ⟨trivial, trivial⟩ ?_
    have hlz211_ : ∀ (nz211_ : Nat) (i2z211_ : Int32) (i3z211_ : Int32) (Mz211_ : pvM), (pvOk Mz211_) → (pvFr fp_X10_rainOf_124_x M Mz211_) → (Mz211_.1 124 15 = M.1 124 15) → ((-6000) ≤ Int32.toInt i2z211_ ∧ Int32.toInt i2z211_ ≤ 6000) → (0 ≤ Int32.toInt i3z211_ ∧ Int32.toInt i3z211_ ≤ 60) → (Int32.toInt i2z211_ ≤ 3 + 99 * Int32.toInt i3z211_) → (-(99 * Int32.toInt i3z211_) ≤ Int32.toInt i2z211_) → (10 * Int32.toInt (Mz211_.1 124 15) ≤ Int32.toInt i3z211_) → (zhide ((61 - Int32.toInt i3z211_).toNat < nz211_)) → PW 67 d (7, [some (pvR 124), some (pvI n1), some (pvI i2z211_), some (pvI i3z211_)], [], Mz211_) (fun r X => (∃ x : Int32, r = some (pvI x) ∧ 0 ≤ Int32.toInt x ∧ Int32.toInt x ≤ 6000) ∧ pvOk X ∧ pvFr fp_X10_rainOf_124_x M X) := by
      intro nz211_
      induction nz211_ with
      | zero => intro i2z211_ i3z211_ Mz211_ oz211_ fz211_ k124_15z211_ h2z211_ h3z211_ j0z211_ j1z211_ j2z211_ hmz211_; exact absurd (zshow hmz211_) (Nat.not_lt_zero _)
      | succ nz211_ ihz211_ =>
        intro i2z211_ i3z211_ Mz211_ oz211_ fz211_ k124_15z211_ h2z211_ h3z211_ j0z211_ j1z211_ j2z211_ hmz211_
        have e212_ : (Mz211_.1 124 15) = (M.1 124 15) := (k124_15z211_)
        have b213_ : 0 ≤ Int32.toInt (Mz211_.1 124 15) ∧ Int32.toInt (Mz211_.1 124 15) ≤ 5 := (by rw [e212_]; exact b8_)
        refine pw_blk hT 2 (S' := (9, [some (pvR 124), some (pvI n1), some (pvI i2z211_), some (pvI i3z211_)], [pvR 124, pvI i3z211_], Mz211_)) rfl ⟨trivial, trivial, trivial⟩ ?_
        refine pw_callT hT (as := [pvR 124]) (lo1 := [some (pvR 124)]) (d1 := d) (rest := [pvI i3z211_]) rfl rfl rfl rfl rfl (fun _ => rfl) (Nat.zero_le _) rfl rfl rfl (sf_X10_behindClauses_124 Mz211_ oz211_ d) ?_
        refine pw_eqI (if_pos (by have z0 := (show 0 ≤ Int32.toInt 0 ∧ Int32.toInt 0 ≤ 0 from (by decide)); have z1 := b213_; rw [zi_le]; omega)) ?_
        have q219_ : Int32.toInt (10 * (Mz211_.1 124 15)) = 10 * Int32.toInt (Mz211_.1 124 15) := by have u0 : Int32.toInt 10 = 10 := (by decide); have u1 := b213_; have u2 := zmul 10 (Mz211_.1 124 15) (by rw [u0]; omega) (by rw [u0]; omega); rw [u0] at u2; omega
        have b220_ : 0 ≤ Int32.toInt (10 * (Mz211_.1 124 15)) ∧ Int32.toInt (10 * (Mz211_.1 124 15)) ≤ 50 := (by have u1 := b213_; omega)
        have b221_ : 0 ≤ Int32.toInt (Mz211_.1 133 (Int32.toNatClampNeg (Mz211_.1 124 15))) ∧ Int32.toInt (Mz211_.1 133 (Int32.toNatClampNeg (Mz211_.1 124 15))) ≤ 10 := pvok_r oz211_ 133 (Int32.toNatClampNeg (Mz211_.1 124 15)) rfl
        obtain ⟨q223_, b222_⟩ : (Int32.toInt ((10 * (Mz211_.1 124 15)) + (Mz211_.1 133 (Int32.toNatClampNeg (Mz211_.1 124 15)))) = Int32.toInt (10 * (Mz211_.1 124 15)) + Int32.toInt (Mz211_.1 133 (Int32.toNatClampNeg (Mz211_.1 124 15)))) ∧ (0 ≤ Int32.toInt ((10 * (Mz211_.1 124 15)) + (Mz211_.1 133 (Int32.toNatClampNeg (Mz211_.1 124 15)))) ∧ Int32.toInt ((10 * (Mz211_.1 124 15)) + (Mz211_.1 133 (Int32.toNatClampNeg (Mz211_.1 124 15)))) ≤ 60) := zadd_r (10 * (Mz211_.1 124 15)) (Mz211_.1 133 (Int32.toNatClampNeg (Mz211_.1 124 15))) 0 60 b220_ b221_ (by decide) (by decide) (by decide) (by decide)
        show PW 67 d (12, [some (pvR 124), some (pvI n1), some (pvI i2z211_), some (pvI i3z211_)], [pvI ((10 * (Mz211_.1 124 15)) + (Mz211_.1 133 (Int32.toNatClampNeg (Mz211_.1 124 15)))), pvI i3z211_], Mz211_) _
        refine pw_ic hT (c := ((10 * (Mz211_.1 124 15)) + (Mz211_.1 133 (Int32.toNatClampNeg (Mz211_.1 124 15)))) ≤ i3z211_) rfl rfl (fun c224_ => ?_) (fun c224_ => ?_)
        · have d225_ : Int32.toInt ((10 * (Mz211_.1 124 15)) + (Mz211_.1 133 (Int32.toNatClampNeg (Mz211_.1 124 15)))) ≤ Int32.toInt i3z211_ := (zi_le _ _).mp c224_
          refine pw_blk hT 1 (S' := (72, [some (pvR 124), some (pvI n1), some (pvI i2z211_), some (pvI i3z211_)], [pvI i2z211_], Mz211_)) rfl ⟨trivial, trivial⟩ ?_
          refine pw_if hT (c := 0 ≤ i2z211_) rfl rfl (fun c226_ => ?_) (fun c226_ => ?_)
          · have b227_ : 0 ≤ Int32.toInt i2z211_ ∧ Int32.toInt i2z211_ ≤ 6000 := zr_le_r 0 c226_ h2z211_ (show 0 ≤ Int32.toInt 0 ∧ Int32.toInt 0 ≤ 0 from (by decide)) (by decide)
            refine pw_blk hT 1 (S' := (80, [some (pvR 124), some (pvI n1), some (pvI i2z211_), some (pvI i3z211_)], [pvI i2z211_], Mz211_)) rfl ⟨trivial, trivial⟩ ?_
            exact pw_ret hT rfl (r := some (pvI i2z211_)) (M' := Mz211_) ⟨rfl, rfl⟩ ⟨⟨_, rfl, b227_⟩, oz211_, fz211_⟩
          · have b228_ : (-6000) ≤ Int32.toInt i2z211_ ∧ Int32.toInt i2z211_ ≤ (-1) := zr_nle_r (-1) c226_ h2z211_ (show 0 ≤ Int32.toInt 0 ∧ Int32.toInt 0 ≤ 0 from (by decide)) (by decide)
            refine pw_blk hT 2 (S' := (80, [some (pvR 124), some (pvI n1), some (pvI i2z211_), some (pvI i3z211_)], [pvI 0], Mz211_)) rfl ⟨trivial, trivial, trivial⟩ ?_
            exact pw_ret hT rfl (r := some (pvI 0)) (M' := Mz211_) ⟨rfl, rfl⟩ ⟨⟨_, rfl, (zr_wide (show 0 ≤ Int32.toInt 0 ∧ Int32.toInt 0 ≤ 0 from (by decide)) (by decide) (by decide))⟩, oz211_, fz211_⟩
        · have b229_ : 1 ≤ Int32.toInt ((10 * (Mz211_.1 124 15)) + (Mz211_.1 133 (Int32.toNatClampNeg (Mz211_.1 124 15)))) ∧ Int32.toInt ((10 * (Mz211_.1 124 15)) + (Mz211_.1 133 (Int32.toNatClampNeg (Mz211_.1 124 15)))) ≤ 60 := zr_nle_l 1 c224_ b222_ h3z211_ (by decide)
          have b230_ : 0 ≤ Int32.toInt i3z211_ ∧ Int32.toInt i3z211_ ≤ 59 := zr_nle_r 59 c224_ h3z211_ b229_ (by decide)
          have d231_ : Int32.toInt ((10 * (Mz211_.1 124 15)) + (Mz211_.1 133 (Int32.toNatClampNeg (Mz211_.1 124 15)))) > Int32.toInt i3z211_ := Int.not_le.mp ((not_congr (zi_le _ _)).mp c224_)
          have b232_ : 0 ≤ Int32.toInt (Mz211_.1 134 (Int32.toNatClampNeg i3z211_)) ∧ Int32.toInt (Mz211_.1 134 (Int32.toNatClampNeg i3z211_)) ≤ 3 := pvok_r oz211_ 134 (Int32.toNatClampNeg i3z211_) rfl
          refine pw_blk hT 5 (S' := (22, [some (pvR 124), some (pvI n1), some (pvI i2z211_), some (pvI i3z211_)], [pvI 2, pvI (Mz211_.1 134 (Int32.toNatClampNeg i3z211_))], Mz211_)) rfl ⟨trivial, rfl, trivial, ⟨rfl, (zr_in (n := 60) b230_ (by decide) (by decide))⟩, trivial, trivial⟩ ?_
          refine pw_ic hT (c := 2 ≤ (Mz211_.1 134 (Int32.toNatClampNeg i3z211_))) rfl rfl (fun c233_ => ?_) (fun c233_ => ?_)
          · have b234_ : 2 ≤ Int32.toInt (Mz211_.1 134 (Int32.toNatClampNeg i3z211_)) ∧ Int32.toInt (Mz211_.1 134 (Int32.toNatClampNeg i3z211_)) ≤ 3 := zr_le_r 2 c233_ b232_ (show 2 ≤ Int32.toInt 2 ∧ Int32.toInt 2 ≤ 2 from (by decide)) (by decide)
            obtain ⟨q236_, b235_⟩ : (Int32.toInt (i3z211_ + 1) = Int32.toInt i3z211_ + 1) ∧ (1 ≤ Int32.toInt (i3z211_ + 1) ∧ Int32.toInt (i3z211_ + 1) ≤ 60) := zadd_k i3z211_ 1 1 1 60 b230_ (by decide) (by decide) (by decide) (by decide) (by decide)
            refine pw_blk hT 2 (S' := (7, [some (pvR 124), some (pvI n1), some (pvI i2z211_), some (pvI (i3z211_ + 1))], [], Mz211_)) rfl ⟨trivial, trivial, trivial⟩ ?_
            have j237_ : Int32.toInt i2z211_ ≤ 3 + 99 * Int32.toInt (i3z211_ + 1) := by have y01 : Int32.toInt (Mz211_.1 124 15) = Int32.toInt (M.1 124 15) := congrArg Int32.toInt (k124_15z211_); omega
            have j238_ : -(99 * Int32.toInt (i3z211_ + 1)) ≤ Int32.toInt i2z211_ := by have y01 : Int32.toInt (Mz211_.1 124 15) = Int32.toInt (M.1 124 15) := congrArg Int32.toInt (k124_15z211_); omega
            have j239_ : 10 * Int32.toInt (Mz211_.1 124 15) ≤ Int32.toInt (i3z211_ + 1) := by have y01 : Int32.toInt (Mz211_.1 124 15) = Int32.toInt (M.1 124 15) := congrArg Int32.toInt (k124_15z211_); omega
            exact ihz211_ i2z211_ (i3z211_ + 1) Mz211_ oz211_ fz211_ (k124_15z211_) h2z211_ (zr_wide b235_ (by decide) (by decide)) j237_ j238_ j239_ (zhid (by have hm0 := zshow hmz211_; have y01 : Int32.toInt (Mz211_.1 124 15) = Int32.toInt (M.1 124 15) := congrArg Int32.toInt (k124_15z211_); omega))
          · have b240_ : 0 ≤ Int32.toInt (Mz211_.1 134 (Int32.toNatClampNeg i3z211_)) ∧ Int32.toInt (Mz211_.1 134 (Int32.toNatClampNeg i3z211_)) ≤ 1 := zr_nle_r 1 c233_ b232_ (show 2 ≤ Int32.toInt 2 ∧ Int32.toInt 2 ≤ 2 from (by decide)) (by decide)
            refine pw_blk hT 3 (S' := (28, [some (pvR 124), some (pvI n1), some (pvI i2z211_), some (pvI i3z211_)], [pvI n1, pvI i3z211_, pvR 124], Mz211_)) rfl ⟨trivial, trivial, trivial, trivial⟩ ?_
            refine pw_callG hT (as := [pvR 124, pvI i3z211_, pvI n1]) (lo1 := [some (pvR 124), some (pvI i3z211_), some (pvI n1), none, none, none, none, none]) (d1 := d) (rest := []) rfl rfl rfl rfl rfl (fun _ => rfl) (Nat.zero_le _) rfl rfl rfl (sf_X10_holds_124_x_x Mz211_ oz211_ i3z211_ n1 b230_ hn1 (pvWc_of (pvWF_fr (L := fpL_X10_rainOf_124_x) rfl fz211_ hz) (by omega) (by omega) (by omega) (by omega)) d) (fun x241_ M242_ b243_ o244_ g245_ => ?_)
            have f246_ : pvFr fp_X10_rainOf_124_x M M242_ := pvfr_t g245_ fz211_ fp_X10_rainOf_124_x_fp_X10_holds_124_x_x
            refine pw_ifn hT (c := x241_ = 0) rfl rfl (fun c247_ => ?_) (fun c247_ => ?_)
            · have b248_ : 1 ≤ Int32.toInt x241_ ∧ Int32.toInt x241_ ≤ 1 := (by have u0 := b243_; have u1 := (not_congr (zi_eq _ _)).mp c247_; have u2 := (show 0 ≤ Int32.toInt 0 ∧ Int32.toInt 0 ≤ 0 from (by decide)); omega)
              have b249_ : 0 ≤ Int32.toInt (M242_.1 134 (Int32.toNatClampNeg i3z211_)) ∧ Int32.toInt (M242_.1 134 (Int32.toNatClampNeg i3z211_)) ≤ 3 := pvok_r o244_ 134 (Int32.toNatClampNeg i3z211_) rfl
              refine pw_blk hT 5 (S' := (44, [some (pvR 124), some (pvI n1), some (pvI i2z211_), some (pvI i3z211_)], [pvI (M242_.1 134 (Int32.toNatClampNeg i3z211_)), pvI i2z211_], M242_)) rfl ⟨trivial, trivial, rfl, trivial, ⟨rfl, (zr_in (n := 60) b230_ (by decide) (by decide))⟩, trivial⟩ ?_
              refine pw_ifn hT (c := (M242_.1 134 (Int32.toNatClampNeg i3z211_)) = 0) rfl rfl (fun c250_ => ?_) (fun c250_ => ?_)
              · have b251_ : 1 ≤ Int32.toInt (M242_.1 134 (Int32.toNatClampNeg i3z211_)) ∧ Int32.toInt (M242_.1 134 (Int32.toNatClampNeg i3z211_)) ≤ 3 := (by have u0 := b249_; have u1 := (not_congr (zi_eq _ _)).mp c250_; have u2 := (show 0 ≤ Int32.toInt 0 ∧ Int32.toInt 0 ≤ 0 from (by decide)); omega)
                have b252_ : 0 ≤ Int32.toInt (M242_.1 135 (Int32.toNatClampNeg i3z211_)) ∧ Int32.toInt (M242_.1 135 (Int32.toNatClampNeg i3z211_)) ≤ 99 := pvok_r o244_ 135 (Int32.toNatClampNeg i3z211_) rfl
                have b253_ : (-99) ≤ Int32.toInt (-(M242_.1 135 (Int32.toNatClampNeg i3z211_))) ∧ Int32.toInt (-(M242_.1 135 (Int32.toNatClampNeg i3z211_))) ≤ 0 := (by have u0 := b252_; have u := pvneg (M242_.1 135 (Int32.toNatClampNeg i3z211_)) (by omega); omega)
                obtain ⟨q255_, b254_⟩ : (Int32.toInt (i2z211_ + (-(M242_.1 135 (Int32.toNatClampNeg i3z211_)))) = Int32.toInt i2z211_ + Int32.toInt (-(M242_.1 135 (Int32.toNatClampNeg i3z211_)))) ∧ ((-6099) ≤ Int32.toInt (i2z211_ + (-(M242_.1 135 (Int32.toNatClampNeg i3z211_)))) ∧ Int32.toInt (i2z211_ + (-(M242_.1 135 (Int32.toNatClampNeg i3z211_)))) ≤ 6000) := zadd_r i2z211_ (-(M242_.1 135 (Int32.toNatClampNeg i3z211_))) (-6099) 6000 h2z211_ b253_ (by decide) (by decide) (by decide) (by decide)
                obtain ⟨q257_, b256_⟩ : (Int32.toInt (i3z211_ + 1) = Int32.toInt i3z211_ + 1) ∧ (1 ≤ Int32.toInt (i3z211_ + 1) ∧ Int32.toInt (i3z211_ + 1) ≤ 60) := zadd_k i3z211_ 1 1 1 60 b230_ (by decide) (by decide) (by decide) (by decide) (by decide)
                refine pw_blk hT 9 (S' := (7, [some (pvR 124), some (pvI n1), some (pvI (i2z211_ + (-(M242_.1 135 (Int32.toNatClampNeg i3z211_))))), some (pvI (i3z211_ + 1))], [], M242_)) rfl ⟨trivial, rfl, trivial, ⟨rfl, (zr_in (n := 60) b230_ (by decide) (by decide))⟩, trivial, trivial, trivial, trivial, trivial, trivial⟩ ?_
                have j258_ : Int32.toInt (i2z211_ + (-(M242_.1 135 (Int32.toNatClampNeg i3z211_)))) ≤ 3 + 99 * Int32.toInt (i3z211_ + 1) := by have y01 : Int32.toInt (M242_.1 124 15) = Int32.toInt (Mz211_.1 124 15) := congrArg Int32.toInt (g245_ 124 15 rfl); omega
                have j259_ : -(99 * Int32.toInt (i3z211_ + 1)) ≤ Int32.toInt (i2z211_ + (-(M242_.1 135 (Int32.toNatClampNeg i3z211_)))) := by have y01 : Int32.toInt (M242_.1 124 15) = Int32.toInt (Mz211_.1 124 15) := congrArg Int32.toInt (g245_ 124 15 rfl); omega
                have j260_ : 10 * Int32.toInt (M242_.1 124 15) ≤ Int32.toInt (i3z211_ + 1) := by have y01 : Int32.toInt (M242_.1 124 15) = Int32.toInt (Mz211_.1 124 15) := congrArg Int32.toInt (g245_ 124 15 rfl); omega
                exact ihz211_ (i2z211_ + (-(M242_.1 135 (Int32.toNatClampNeg i3z211_)))) (i3z211_ + 1) M242_ o244_ f246_ ((g245_ 124 15 rfl).trans (k124_15z211_)) (by have u0 := b254_; omega) (zr_wide b256_ (by decide) (by decide)) j258_ j259_ j260_ (zhid (by have hm0 := zshow hmz211_; have y01 : Int32.toInt (M242_.1 124 15) = Int32.toInt (Mz211_.1 124 15) := congrArg Int32.toInt (g245_ 124 15 rfl); omega))
              · have b261_ : 0 ≤ Int32.toInt (M242_.1 134 (Int32.toNatClampNeg i3z211_)) ∧ Int32.toInt (M242_.1 134 (Int32.toNatClampNeg i3z211_)) ≤ 0 := (by have u0 := b249_; have u1 := (zi_eq _ _).mp c250_; have u2 := (show 0 ≤ Int32.toInt 0 ∧ Int32.toInt 0 ≤ 0 from (by decide)); omega)
                have b262_ : 0 ≤ Int32.toInt (M242_.1 135 (Int32.toNatClampNeg i3z211_)) ∧ Int32.toInt (M242_.1 135 (Int32.toNatClampNeg i3z211_)) ≤ 99 := pvok_r o244_ 135 (Int32.toNatClampNeg i3z211_) rfl
                obtain ⟨q264_, b263_⟩ : (Int32.toInt (i2z211_ + (M242_.1 135 (Int32.toNatClampNeg i3z211_))) = Int32.toInt i2z211_ + Int32.toInt (M242_.1 135 (Int32.toNatClampNeg i3z211_))) ∧ ((-6000) ≤ Int32.toInt (i2z211_ + (M242_.1 135 (Int32.toNatClampNeg i3z211_))) ∧ Int32.toInt (i2z211_ + (M242_.1 135 (Int32.toNatClampNeg i3z211_))) ≤ 6099) := zadd_r i2z211_ (M242_.1 135 (Int32.toNatClampNeg i3z211_)) (-6000) 6099 h2z211_ b262_ (by decide) (by decide) (by decide) (by decide)
                obtain ⟨q266_, b265_⟩ : (Int32.toInt (i3z211_ + 1) = Int32.toInt i3z211_ + 1) ∧ (1 ≤ Int32.toInt (i3z211_ + 1) ∧ Int32.toInt (i3z211_ + 1) ≤ 60) := zadd_k i3z211_ 1 1 1 60 b230_ (by decide) (by decide) (by decide) (by decide) (by decide)
                refine pw_blk hT 9 (S' := (7, [some (pvR 124), some (pvI n1), some (pvI (i2z211_ + (M242_.1 135 (Int32.toNatClampNeg i3z211_)))), some (pvI (i3z211_ + 1))], [], M242_)) rfl ⟨trivial, rfl, trivial, ⟨rfl, (zr_in (n := 60) b230_ (by decide) (by decide))⟩, trivial, trivial, trivial, trivial, trivial, trivial⟩ ?_
                have j267_ : Int32.toInt (i2z211_ + (M242_.1 135 (Int32.toNatClampNeg i3z211_))) ≤ 3 + 99 * Int32.toInt (i3z211_ + 1) := by have y01 : Int32.toInt (M242_.1 124 15) = Int32.toInt (Mz211_.1 124 15) := congrArg Int32.toInt (g245_ 124 15 rfl); omega
                have j268_ : -(99 * Int32.toInt (i3z211_ + 1)) ≤ Int32.toInt (i2z211_ + (M242_.1 135 (Int32.toNatClampNeg i3z211_))) := by have y01 : Int32.toInt (M242_.1 124 15) = Int32.toInt (Mz211_.1 124 15) := congrArg Int32.toInt (g245_ 124 15 rfl); omega
                have j269_ : 10 * Int32.toInt (M242_.1 124 15) ≤ Int32.toInt (i3z211_ + 1) := by have y01 : Int32.toInt (M242_.1 124 15) = Int32.toInt (Mz211_.1 124 15) := congrArg Int32.toInt (g245_ 124 15 rfl); omega
                exact ihz211_ (i2z211_ + (M242_.1 135 (Int32.toNatClampNeg i3z211_))) (i3z211_ + 1) M242_ o244_ f246_ ((g245_ 124 15 rfl).trans (k124_15z211_)) (by have u0 := b263_; omega) (zr_wide b265_ (by decide) (by decide)) j267_ j268_ j269_ (zhid (by have hm0 := zshow hmz211_; have y01 : Int32.toInt (M242_.1 124 15) = Int32.toInt (Mz211_.1 124 15) := congrArg Int32.toInt (g245_ 124 15 rfl); omega))
            · have b270_ : 0 ≤ Int32.toInt x241_ ∧ Int32.toInt x241_ ≤ 0 := (by have u0 := b243_; have u1 := (zi_eq _ _).mp c247_; have u2 := (show 0 ≤ Int32.toInt 0 ∧ Int32.toInt 0 ≤ 0 from (by decide)); omega)
              obtain ⟨q272_, b271_⟩ : (Int32.toInt (i3z211_ + 1) = Int32.toInt i3z211_ + 1) ∧ (1 ≤ Int32.toInt (i3z211_ + 1) ∧ Int32.toInt (i3z211_ + 1) ≤ 60) := zadd_k i3z211_ 1 1 1 60 b230_ (by decide) (by decide) (by decide) (by decide) (by decide)
              refine pw_blk hT 3 (S' := (7, [some (pvR 124), some (pvI n1), some (pvI i2z211_), some (pvI (i3z211_ + 1))], [], M242_)) rfl ⟨trivial, trivial, trivial, trivial⟩ ?_
              have j273_ : Int32.toInt i2z211_ ≤ 3 + 99 * Int32.toInt (i3z211_ + 1) := by have y01 : Int32.toInt (M242_.1 124 15) = Int32.toInt (Mz211_.1 124 15) := congrArg Int32.toInt (g245_ 124 15 rfl); omega
              have j274_ : -(99 * Int32.toInt (i3z211_ + 1)) ≤ Int32.toInt i2z211_ := by have y01 : Int32.toInt (M242_.1 124 15) = Int32.toInt (Mz211_.1 124 15) := congrArg Int32.toInt (g245_ 124 15 rfl); omega
              have j275_ : 10 * Int32.toInt (M242_.1 124 15) ≤ Int32.toInt (i3z211_ + 1) := by have y01 : Int32.toInt (M242_.1 124 15) = Int32.toInt (Mz211_.1 124 15) := congrArg Int32.toInt (g245_ 124 15 rfl); omega
              exact ihz211_ i2z211_ (i3z211_ + 1) M242_ o244_ f246_ ((g245_ 124 15 rfl).trans (k124_15z211_)) h2z211_ (zr_wide b271_ (by decide) (by decide)) j273_ j274_ j275_ (zhid (by have hm0 := zshow hmz211_; have y01 : Int32.toInt (M242_.1 124 15) = Int32.toInt (Mz211_.1 124 15) := congrArg Int32.toInt (g245_ 124 15 rfl); omega))
    have u276_ : Int32.toInt 3 = 3 := by decide
    have j277_ : Int32.toInt 3 ≤ 3 + 99 * Int32.toInt (10 * (M.1 124 15)) := by omega
    have j278_ : -(99 * Int32.toInt (10 * (M.1 124 15))) ≤ Int32.toInt 3 := by omega
    have j279_ : 10 * Int32.toInt (M.1 124 15) ≤ Int32.toInt (10 * (M.1 124 15)) := by omega
    exact hlz211_ _ 3 (10 * (M.1 124 15)) M hok pvfr_0 rfl (zr_wide (show 3 ≤ Int32.toInt 3 ∧ Int32.toInt 3 ≤ 3 from (by decide)) (by decide) (by decide)) (zr_wide b10_ (by decide) (by decide)) j277_ j278_ j279_ (zhid (Nat.lt_succ_self _))
  · refine pw_eqI (if_neg c7_) ?_
    have b280_ : (-1) ≤ Int32.toInt (M.1 124 15) ∧ Int32.toInt (M.1 124 15) ≤ (-1) := zr_nle_r (-1) c7_ b6_ (show 0 ≤ Int32.toInt 0 ∧ Int32.toInt 0 ≤ 0 from (by decide)) (by decide)
    show PW 67 d (6, [some (pvR 124), some (pvI n1), some (pvI 3), none], [pvI 0], M) _
    refine pw_blk hT 1 (S' := (7, [some (pvR 124), some (pvI n1), some (pvI 3), some (pvI 0)], [], M)) rfl ⟨trivial, trivial⟩ ?_
    have hlz309_ : ∀ (nz309_ : Nat) (i2z309_ : Int32) (i3z309_ : Int32), ((-6000) ≤ Int32.toInt i2z309_ ∧ Int32.toInt i2z309_ ≤ 6000) → (0 ≤ Int32.toInt i3z309_ ∧ Int32.toInt i3z309_ ≤ 0) → (Int32.toInt i2z309_ ≤ 3 + 99 * Int32.toInt i3z309_) → (-(99 * Int32.toInt i3z309_) ≤ Int32.toInt i2z309_) → (10 * Int32.toInt (M.1 124 15) ≤ Int32.toInt i3z309_) → (zhide (0 < nz309_)) → PW 67 d (7, [some (pvR 124), some (pvI n1), some (pvI i2z309_), some (pvI i3z309_)], [], M) (fun r X => (∃ x : Int32, r = some (pvI x) ∧ 0 ≤ Int32.toInt x ∧ Int32.toInt x ≤ 6000) ∧ pvOk X ∧ pvFr fp_X10_rainOf_124_x M X) := by
      intro nz309_
      induction nz309_ with
      | zero => intro i2z309_ i3z309_ h2z309_ h3z309_ j0z309_ j1z309_ j2z309_ hmz309_; exact absurd (zshow hmz309_) (Nat.not_lt_zero _)
      | succ nz309_ ihz309_ =>
        intro i2z309_ i3z309_ h2z309_ h3z309_ j0z309_ j1z309_ j2z309_ hmz309_
        refine pw_blk hT 2 (S' := (9, [some (pvR 124), some (pvI n1), some (pvI i2z309_), some (pvI i3z309_)], [pvR 124, pvI i3z309_], M)) rfl ⟨trivial, trivial, trivial⟩ ?_
        refine pw_callT hT (as := [pvR 124]) (lo1 := [some (pvR 124)]) (d1 := d) (rest := [pvI i3z309_]) rfl rfl rfl rfl rfl (fun _ => rfl) (Nat.zero_le _) rfl rfl rfl (sf_X10_behindClauses_124 M hok d) ?_
        refine pw_eqI (if_neg c7_) ?_
        show PW 67 d (12, [some (pvR 124), some (pvI n1), some (pvI i2z309_), some (pvI i3z309_)], [pvI 0, pvI i3z309_], M) _
        refine pw_ic hT (c := 0 ≤ i3z309_) rfl rfl (fun c315_ => ?_) (fun c315_ => absurd (by have z0 := (show 0 ≤ Int32.toInt 0 ∧ Int32.toInt 0 ≤ 0 from (by decide)); have z1 := h3z309_; rw [zi_le]; omega) c315_)
        refine pw_blk hT 1 (S' := (72, [some (pvR 124), some (pvI n1), some (pvI i2z309_), some (pvI i3z309_)], [pvI i2z309_], M)) rfl ⟨trivial, trivial⟩ ?_
        refine pw_if hT (c := 0 ≤ i2z309_) rfl rfl (fun c316_ => ?_) (fun c316_ => ?_)
        · have b317_ : 0 ≤ Int32.toInt i2z309_ ∧ Int32.toInt i2z309_ ≤ 6000 := zr_le_r 0 c316_ h2z309_ (show 0 ≤ Int32.toInt 0 ∧ Int32.toInt 0 ≤ 0 from (by decide)) (by decide)
          refine pw_blk hT 1 (S' := (80, [some (pvR 124), some (pvI n1), some (pvI i2z309_), some (pvI i3z309_)], [pvI i2z309_], M)) rfl ⟨trivial, trivial⟩ ?_
          exact pw_ret hT rfl (r := some (pvI i2z309_)) (M' := M) ⟨rfl, rfl⟩ ⟨⟨_, rfl, b317_⟩, hok, pvfr_0⟩
        · have b318_ : (-6000) ≤ Int32.toInt i2z309_ ∧ Int32.toInt i2z309_ ≤ (-1) := zr_nle_r (-1) c316_ h2z309_ (show 0 ≤ Int32.toInt 0 ∧ Int32.toInt 0 ≤ 0 from (by decide)) (by decide)
          refine pw_blk hT 2 (S' := (80, [some (pvR 124), some (pvI n1), some (pvI i2z309_), some (pvI i3z309_)], [pvI 0], M)) rfl ⟨trivial, trivial, trivial⟩ ?_
          exact pw_ret hT rfl (r := some (pvI 0)) (M' := M) ⟨rfl, rfl⟩ ⟨⟨_, rfl, (zr_wide (show 0 ≤ Int32.toInt 0 ∧ Int32.toInt 0 ≤ 0 from (by decide)) (by decide) (by decide))⟩, hok, pvfr_0⟩
    have u319_ : Int32.toInt 3 = 3 := by decide
    have u320_ : Int32.toInt 0 = 0 := by decide
    have j321_ : Int32.toInt 3 ≤ 3 + 99 * Int32.toInt 0 := by omega
    have j322_ : -(99 * Int32.toInt 0) ≤ Int32.toInt 3 := by omega
    have j323_ : 10 * Int32.toInt (M.1 124 15) ≤ Int32.toInt 0 := by omega
    exact hlz309_ _ 3 0 (zr_wide (show 3 ≤ Int32.toInt 3 ∧ Int32.toInt 3 ≤ 3 from (by decide)) (by decide) (by decide)) (show 0 ≤ Int32.toInt 0 ∧ Int32.toInt 0 ≤ 0 from (by decide)) j321_ j322_ j323_ (zhid (Nat.lt_succ_self _))
def fpL_X10_layRain_124 : List (Nat × Nat × Nat) := [(0, 124, 33), (0, 141, 0), (0, 142, 0)]
def fp_X10_layRain_124 (q k : Nat) : Bool := pvfp fpL_X10_layRain_124 q k
theorem fp_X10_layRain_124_fp_X10_rainOf_124_x (a b : Nat) (h : fp_X10_rainOf_124_x a b = true) : fp_X10_layRain_124 a b = true := pvfp_sub (l1 := fpL_X10_rainOf_124_x) (l2 := fpL_X10_layRain_124) (by decide) a b h
set_option maxHeartbeats 4000000 in
set_option maxRecDepth 10000 in
theorem sf_X10_layRain_124 (M : pvM) (hok : pvOk M) (hz : pvWF M) (d : Nat) : PW 50 d (0, [some (pvR 124), none, none], [], M) (fun r X => r = none ∧ pvOk X ∧ pvFr fp_X10_layRain_124 M X) := by
  have hT : pvdom 50 = pvD_50 := rfl
  refine pw_blk hT 1 (S' := (1, [some (pvR 124), none, none], [pvR 124], M)) rfl ⟨trivial, trivial⟩ ?_
  refine pw_callGp hT (as := [pvR 124]) (lo1 := [some (pvR 124)]) (d1 := d) (rest := []) rfl rfl rfl rfl rfl (fun _ => rfl) (Nat.zero_le _) rfl rfl rfl (sf_X10_lastNow_124 M hok d) (fun x1_ b3_ => ?_)
  refine pw_blk hT 3 (S' := (7, [some (pvR 124), some (pvI x1_), some (pvI 0)], [], M)) rfl ⟨trivial, trivial, trivial, trivial⟩ ?_
  have hlz450_ : ∀ (nz450_ : Nat) (i2z450_ : Int32) (Mz450_ : pvM), (pvOk Mz450_) → (pvFr fp_X10_layRain_124 M Mz450_) → (0 ≤ Int32.toInt i2z450_ ∧ Int32.toInt i2z450_ ≤ 7) → (zhide ((8 - Int32.toInt i2z450_).toNat < nz450_)) → PW 50 d (7, [some (pvR 124), some (pvI x1_), some (pvI i2z450_)], [], Mz450_) (fun r X => r = none ∧ pvOk X ∧ pvFr fp_X10_layRain_124 M X) := by
    intro nz450_
    induction nz450_ with
    | zero => intro i2z450_ Mz450_ oz450_ fz450_ h2z450_ hmz450_; exact absurd (zshow hmz450_) (Nat.not_lt_zero _)
    | succ nz450_ ihz450_ =>
      intro i2z450_ Mz450_ oz450_ fz450_ h2z450_ hmz450_
      have b451_ : 0 ≤ Int32.toInt (Mz450_.1 124 0) ∧ Int32.toInt (Mz450_.1 124 0) ≤ 7 := pvok_r oz450_ 124 0 rfl
      refine pw_blk hT 3 (S' := (12, [some (pvR 124), some (pvI x1_), some (pvI i2z450_)], [pvI (Mz450_.1 124 0), pvI i2z450_], Mz450_)) rfl ⟨trivial, trivial, rfl, trivial⟩ ?_
      refine pw_ic hT (c := (Mz450_.1 124 0) ≤ i2z450_) rfl rfl (fun c452_ => ?_) (fun c452_ => ?_)
      · have d453_ : Int32.toInt (Mz450_.1 124 0) ≤ Int32.toInt i2z450_ := (zi_le _ _).mp c452_
        refine pw_blkw hT 3 (pc := 71) (lo := [some (pvR 124), some (pvI x1_), some (pvI i2z450_)]) (st := []) (M := pvu Mz450_ 124 32 0) rfl ⟨trivial, trivial, rfl, trivial⟩ (fun M454_ e455_ => ?_)
        have o456_ : pvOk M454_ := pvok_u2 e455_ oz450_ rfl (zr_wide (show 0 ≤ Int32.toInt 0 ∧ Int32.toInt 0 ≤ 0 from (by decide)) (by decide) (by decide))
        have f457_ : pvFr fp_X10_layRain_124 M M454_ := pvfr_u e455_ fz450_ rfl
        exact pw_ret hT rfl (r := none) (M' := M454_) ⟨rfl, rfl⟩ ⟨rfl, o456_, f457_⟩
      · have b458_ : 1 ≤ Int32.toInt (Mz450_.1 124 0) ∧ Int32.toInt (Mz450_.1 124 0) ≤ 7 := zr_nle_l 1 c452_ b451_ h2z450_ (by decide)
        have b459_ : 0 ≤ Int32.toInt i2z450_ ∧ Int32.toInt i2z450_ ≤ 6 := zr_nle_r 6 c452_ h2z450_ b458_ (by decide)
        have d460_ : Int32.toInt (Mz450_.1 124 0) > Int32.toInt i2z450_ := Int.not_le.mp ((not_congr (zi_le _ _)).mp c452_)
        refine pw_blkw hT 3 (pc := 20) (lo := [some (pvR 124), some (pvI x1_), some (pvI i2z450_)]) (st := []) (M := pvu Mz450_ 124 32 0) rfl ⟨trivial, trivial, rfl, trivial⟩ (fun M461_ e462_ => ?_)
        have o463_ : pvOk M461_ := pvok_u2 e462_ oz450_ rfl (zr_wide (show 0 ≤ Int32.toInt 0 ∧ Int32.toInt 0 ≤ 0 from (by decide)) (by decide) (by decide))
        have f464_ : pvFr fp_X10_layRain_124 M M461_ := pvfr_u e462_ fz450_ rfl
        have e465_ : (M461_.1 124 0) = (Mz450_.1 124 0) := (pvu_n e462_ 124 0 (Or.inr (by decide)))
        have b466_ : 1 ≤ Int32.toInt (M461_.1 124 0) ∧ Int32.toInt (M461_.1 124 0) ≤ 7 := (by rw [e465_]; exact b458_)
        have hlz530_ : ∀ (nz530_ : Nat) (Mz530_ : pvM), (pvOk Mz530_) → (pvFr fp_X10_layRain_124 M Mz530_) → (Mz530_.1 124 0 = M461_.1 124 0) → (zhide ((100 - Int32.toInt (Mz530_.1 124 32)).toNat < nz530_)) → PW 50 d (20, [some (pvR 124), some (pvI x1_), some (pvI i2z450_)], [], Mz530_) (fun r X => r = none ∧ pvOk X ∧ pvFr fp_X10_layRain_124 M X) := by
          intro nz530_
          induction nz530_ with
          | zero => intro Mz530_ oz530_ fz530_ k124_0z530_ hmz530_; exact absurd (zshow hmz530_) (Nat.not_lt_zero _)
          | succ nz530_ ihz530_ =>
            intro Mz530_ oz530_ fz530_ k124_0z530_ hmz530_
            have b531_ : 0 ≤ Int32.toInt (Mz530_.1 124 32) ∧ Int32.toInt (Mz530_.1 124 32) ≤ 99 := pvok_r oz530_ 124 32 rfl
            refine pw_blk hT 3 (S' := (25, [some (pvR 124), some (pvI x1_), some (pvI i2z450_)], [pvI x1_, pvI (Mz530_.1 124 32)], Mz530_)) rfl ⟨trivial, rfl, trivial, trivial⟩ ?_
            refine pw_ic hT (c := x1_ ≤ (Mz530_.1 124 32)) rfl rfl (fun c532_ => ?_) (fun c532_ => ?_)
            · have d533_ : Int32.toInt x1_ ≤ Int32.toInt (Mz530_.1 124 32) := (zi_le _ _).mp c532_
              obtain ⟨q535_, b534_⟩ : (Int32.toInt (i2z450_ + 1) = Int32.toInt i2z450_ + 1) ∧ (1 ≤ Int32.toInt (i2z450_ + 1) ∧ Int32.toInt (i2z450_ + 1) ≤ 7) := zadd_k i2z450_ 1 1 1 7 b459_ (by decide) (by decide) (by decide) (by decide) (by decide)
              refine pw_blk hT 2 (S' := (7, [some (pvR 124), some (pvI x1_), some (pvI (i2z450_ + 1))], [], Mz530_)) rfl ⟨trivial, trivial, trivial⟩ ?_
              exact ihz450_ (i2z450_ + 1) Mz530_ oz530_ fz530_ (zr_wide b534_ (by decide) (by decide)) (zhid (pvms_up (zshow hmz450_) h2z450_ q535_ (by decide) (by decide)))
            · have b536_ : 1 ≤ Int32.toInt x1_ ∧ Int32.toInt x1_ ≤ 99 := zr_nle_l 1 c532_ b3_ b531_ (by decide)
              have b537_ : 0 ≤ Int32.toInt (Mz530_.1 124 32) ∧ Int32.toInt (Mz530_.1 124 32) ≤ 98 := zr_nle_r 98 c532_ b531_ b536_ (by decide)
              have d538_ : Int32.toInt x1_ > Int32.toInt (Mz530_.1 124 32) := Int.not_le.mp ((not_congr (zi_le _ _)).mp c532_)
              have q539_ : Int32.toInt (99 * i2z450_) = 99 * Int32.toInt i2z450_ := by have u0 : Int32.toInt 99 = 99 := (by decide); have u1 := b459_; have u2 := zmul 99 i2z450_ (by rw [u0]; omega) (by rw [u0]; omega); rw [u0] at u2; omega
              have b540_ : 0 ≤ Int32.toInt (99 * i2z450_) ∧ Int32.toInt (99 * i2z450_) ≤ 594 := (by have u1 := b459_; omega)
              obtain ⟨q542_, b541_⟩ : (Int32.toInt ((99 * i2z450_) + (Mz530_.1 124 32)) = Int32.toInt (99 * i2z450_) + Int32.toInt (Mz530_.1 124 32)) ∧ (0 ≤ Int32.toInt ((99 * i2z450_) + (Mz530_.1 124 32)) ∧ Int32.toInt ((99 * i2z450_) + (Mz530_.1 124 32)) ≤ 692) := zadd_r (99 * i2z450_) (Mz530_.1 124 32) 0 692 b540_ b537_ (by decide) (by decide) (by decide) (by decide)
              refine pw_blk hT 10 (S' := (43, [some (pvR 124), some (pvI x1_), some (pvI i2z450_)], [pvI i2z450_, pvR 124, pvI ((99 * i2z450_) + (Mz530_.1 124 32)), pvR 142], Mz530_)) rfl ⟨trivial, rfl, trivial, trivial, trivial, trivial, rfl, trivial, trivial, trivial, trivial⟩ ?_
              refine pw_callG hT (as := [pvR 124, pvI i2z450_]) (lo1 := [some (pvR 124), some (pvI i2z450_), none, none]) (d1 := d) (rest := [pvI ((99 * i2z450_) + (Mz530_.1 124 32)), pvR 142]) rfl rfl rfl rfl rfl (fun _ => rfl) (Nat.zero_le _) rfl rfl rfl (sf_X10_rainOf_124_x Mz530_ oz530_ i2z450_ b459_ (pvWF_fr (L := fpL_X10_layRain_124) rfl fz530_ hz) d) (fun x543_ M544_ b545_ o546_ g547_ => ?_)
              have f548_ : pvFr fp_X10_layRain_124 M M544_ := pvfr_t g547_ fz530_ fp_X10_layRain_124_fp_X10_rainOf_124_x
              refine pw_blkw hT 1 (pc := 47) (lo := [some (pvR 124), some (pvI x1_), some (pvI i2z450_)]) (st := []) (M := pvu M544_ 142 (Int32.toNatClampNeg ((99 * i2z450_) + (Mz530_.1 124 32))) x543_) rfl ⟨⟨rfl, (zr_in (n := 693) b541_ (by decide) (by decide))⟩, trivial⟩ (fun M549_ e550_ => ?_)
              have o551_ : pvOk M549_ := pvok_u2 e550_ o546_ rfl b545_
              have f552_ : pvFr fp_X10_layRain_124 M M549_ := pvfr_u e550_ f548_ rfl
              have e553_ : (M549_.1 124 32) = (Mz530_.1 124 32) := ((pvu_n e550_ 124 32 (Or.inl (by decide))).trans (g547_ 124 32 rfl))
              have b554_ : 0 ≤ Int32.toInt (M549_.1 124 32) ∧ Int32.toInt (M549_.1 124 32) ≤ 98 := (by rw [e553_]; exact b537_)
              obtain ⟨q556_, b555_⟩ : (Int32.toInt ((M549_.1 124 32) + 1) = Int32.toInt (M549_.1 124 32) + 1) ∧ (1 ≤ Int32.toInt ((M549_.1 124 32) + 1) ∧ Int32.toInt ((M549_.1 124 32) + 1) ≤ 99) := zadd_k (M549_.1 124 32) 1 1 1 99 b554_ (by decide) (by decide) (by decide) (by decide) (by decide)
              refine pw_blkw hT 6 (pc := 57) (lo := [some (pvR 124), some (pvI x1_), some (pvI i2z450_)]) (st := []) (M := pvu M549_ 124 32 ((M549_.1 124 32) + 1)) rfl ⟨trivial, trivial, rfl, trivial, trivial, rfl, trivial⟩ (fun M557_ e558_ => ?_)
              have o559_ : pvOk M557_ := pvok_u2 e558_ o551_ rfl (zr_wide b555_ (by decide) (by decide))
              have f560_ : pvFr fp_X10_layRain_124 M M557_ := pvfr_u e558_ f552_ rfl
              refine pw_blk hT 1 (S' := (20, [some (pvR 124), some (pvI x1_), some (pvI i2z450_)], [], M557_)) rfl ⟨trivial, trivial⟩ ?_
              exact ihz530_ M557_ o559_ f560_ ((((pvu_n e558_ 124 0 (Or.inr (by decide))).trans (pvu_n e550_ 124 0 (Or.inl (by decide)))).trans (g547_ 124 0 rfl)).trans (k124_0z530_)) (zhid (by have hm0 := zshow hmz530_; have z1 : Int32.toInt (M557_.1 124 32) = Int32.toInt ((M549_.1 124 32) + 1) := congrArg Int32.toInt (pvu_s e558_); have z2 : Int32.toInt (M549_.1 124 32) = Int32.toInt (Mz530_.1 124 32) := congrArg Int32.toInt ((pvu_n e550_ 124 32 (Or.inl (by decide))).trans (g547_ 124 32 rfl)); omega))
        exact hlz530_ _ M461_ o463_ f464_ rfl (zhid (Nat.lt_succ_self _))
  exact hlz450_ _ 0 M hok pvfr_0 (zr_wide (show 0 ≤ Int32.toInt 0 ∧ Int32.toInt 0 ≤ 0 from (by decide)) (by decide) (by decide)) (zhid (Nat.lt_succ_self _))
def fpL_X10_layOpen_124 : List (Nat × Nat × Nat) := [(0, 143, 0)]
def fp_X10_layOpen_124 (q k : Nat) : Bool := pvfp fpL_X10_layOpen_124 q k
set_option maxHeartbeats 4000000 in
set_option maxRecDepth 10000 in
theorem sf_X10_layOpen_124 (M : pvM) (hok : pvOk M) (d : Nat) : PW 48 d (0, [some (pvR 124), none], [], M) (fun r X => r = none ∧ pvOk X ∧ pvFr fp_X10_layOpen_124 M X) := by
  have hT : pvdom 48 = pvD_48 := rfl
  refine pw_blk hT 2 (S' := (2, [some (pvR 124), some (pvI 0)], [], M)) rfl ⟨trivial, trivial, trivial⟩ ?_
  have hlz77_ : ∀ (nz77_ : Nat) (i1z77_ : Int32) (Mz77_ : pvM), (pvOk Mz77_) → (pvFr fp_X10_layOpen_124 M Mz77_) → (0 ≤ Int32.toInt i1z77_ ∧ Int32.toInt i1z77_ ≤ 7) → (zhide ((8 - Int32.toInt i1z77_).toNat < nz77_)) → PW 48 d (2, [some (pvR 124), some (pvI i1z77_)], [], Mz77_) (fun r X => r = none ∧ pvOk X ∧ pvFr fp_X10_layOpen_124 M X) := by
    intro nz77_
    induction nz77_ with
    | zero => intro i1z77_ Mz77_ oz77_ fz77_ h1z77_ hmz77_; exact absurd (zshow hmz77_) (Nat.not_lt_zero _)
    | succ nz77_ ihz77_ =>
      intro i1z77_ Mz77_ oz77_ fz77_ h1z77_ hmz77_
      refine pw_blk hT 2 (S' := (5, [some (pvR 124), some (pvI i1z77_)], [pvI 7, pvI i1z77_], Mz77_)) rfl ⟨trivial, trivial, trivial⟩ ?_
      refine pw_ic hT (c := 7 ≤ i1z77_) rfl rfl (fun c78_ => ?_) (fun c78_ => ?_)
      · have b79_ : 7 ≤ Int32.toInt i1z77_ ∧ Int32.toInt i1z77_ ≤ 7 := zr_le_r 7 c78_ h1z77_ (show 7 ≤ Int32.toInt 7 ∧ Int32.toInt 7 ≤ 7 from (by decide)) (by decide)
        exact pw_ret hT rfl (r := none) (M' := Mz77_) ⟨rfl, rfl⟩ ⟨rfl, oz77_, fz77_⟩
      · have b80_ : 0 ≤ Int32.toInt i1z77_ ∧ Int32.toInt i1z77_ ≤ 6 := zr_nle_r 6 c78_ h1z77_ (show 7 ≤ Int32.toInt 7 ∧ Int32.toInt 7 ≤ 7 from (by decide)) (by decide)
        have b81_ : 0 ≤ Int32.toInt (Mz77_.1 131 (Int32.toNatClampNeg i1z77_)) ∧ Int32.toInt (Mz77_.1 131 (Int32.toNatClampNeg i1z77_)) ≤ 1 := pvok_r oz77_ 131 (Int32.toNatClampNeg i1z77_) rfl
        refine pw_blk hT 7 (S' := (19, [some (pvR 124), some (pvI i1z77_)], [pvI (Mz77_.1 131 (Int32.toNatClampNeg i1z77_)), pvI i1z77_, pvR 143], Mz77_)) rfl ⟨trivial, rfl, trivial, trivial, rfl, trivial, ⟨rfl, (zr_in (n := 7) b80_ (by decide) (by decide))⟩, trivial⟩ ?_
        refine pw_if hT (c := (Mz77_.1 131 (Int32.toNatClampNeg i1z77_)) = 0) rfl rfl (fun c82_ => ?_) (fun c82_ => ?_)
        · have b83_ : 0 ≤ Int32.toInt (Mz77_.1 131 (Int32.toNatClampNeg i1z77_)) ∧ Int32.toInt (Mz77_.1 131 (Int32.toNatClampNeg i1z77_)) ≤ 0 := (by have u0 := b81_; have u1 := (zi_eq _ _).mp c82_; have u2 := (show 0 ≤ Int32.toInt 0 ∧ Int32.toInt 0 ≤ 0 from (by decide)); omega)
          refine pw_blkw hT 2 (pc := 30) (lo := [some (pvR 124), some (pvI i1z77_)]) (st := []) (M := pvu Mz77_ 143 (Int32.toNatClampNeg i1z77_) 99999) rfl ⟨trivial, ⟨rfl, (zr_in (n := 7) b80_ (by decide) (by decide))⟩, trivial⟩ (fun M84_ e85_ => ?_)
          have o86_ : pvOk M84_ := pvok_u2 e85_ oz77_ rfl (zr_wide (show 99999 ≤ Int32.toInt 99999 ∧ Int32.toInt 99999 ≤ 99999 from (by decide)) (by decide) (by decide))
          have f87_ : pvFr fp_X10_layOpen_124 M M84_ := pvfr_u e85_ fz77_ rfl
          obtain ⟨q89_, b88_⟩ : (Int32.toInt (i1z77_ + 1) = Int32.toInt i1z77_ + 1) ∧ (1 ≤ Int32.toInt (i1z77_ + 1) ∧ Int32.toInt (i1z77_ + 1) ≤ 7) := zadd_k i1z77_ 1 1 1 7 b80_ (by decide) (by decide) (by decide) (by decide) (by decide)
          refine pw_blk hT 2 (S' := (2, [some (pvR 124), some (pvI (i1z77_ + 1))], [], M84_)) rfl ⟨trivial, trivial, trivial⟩ ?_
          exact ihz77_ (i1z77_ + 1) M84_ o86_ f87_ (zr_wide b88_ (by decide) (by decide)) (zhid (pvms_up (zshow hmz77_) h1z77_ q89_ (by decide) (by decide)))
        · have b90_ : 1 ≤ Int32.toInt (Mz77_.1 131 (Int32.toNatClampNeg i1z77_)) ∧ Int32.toInt (Mz77_.1 131 (Int32.toNatClampNeg i1z77_)) ≤ 1 := (by have u0 := b81_; have u1 := (not_congr (zi_eq _ _)).mp c82_; have u2 := (show 0 ≤ Int32.toInt 0 ∧ Int32.toInt 0 ≤ 0 from (by decide)); omega)
          refine pw_blkw hT 3 (pc := 30) (lo := [some (pvR 124), some (pvI i1z77_)]) (st := []) (M := pvu Mz77_ 143 (Int32.toNatClampNeg i1z77_) (-1)) rfl ⟨trivial, trivial, ⟨rfl, (zr_in (n := 7) b80_ (by decide) (by decide))⟩, trivial⟩ (fun M91_ e92_ => ?_)
          have o93_ : pvOk M91_ := pvok_u2 e92_ oz77_ rfl (zr_wide (show (-1) ≤ Int32.toInt (-1) ∧ Int32.toInt (-1) ≤ (-1) from (by decide)) (by decide) (by decide))
          have f94_ : pvFr fp_X10_layOpen_124 M M91_ := pvfr_u e92_ fz77_ rfl
          obtain ⟨q96_, b95_⟩ : (Int32.toInt (i1z77_ + 1) = Int32.toInt i1z77_ + 1) ∧ (1 ≤ Int32.toInt (i1z77_ + 1) ∧ Int32.toInt (i1z77_ + 1) ≤ 7) := zadd_k i1z77_ 1 1 1 7 b80_ (by decide) (by decide) (by decide) (by decide) (by decide)
          refine pw_blk hT 2 (S' := (2, [some (pvR 124), some (pvI (i1z77_ + 1))], [], M91_)) rfl ⟨trivial, trivial, trivial⟩ ?_
          exact ihz77_ (i1z77_ + 1) M91_ o93_ f94_ (zr_wide b95_ (by decide) (by decide)) (zhid (pvms_up (zshow hmz77_) h1z77_ q96_ (by decide) (by decide)))
  exact hlz77_ _ 0 M hok pvfr_0 (zr_wide (show 0 ≤ Int32.toInt 0 ∧ Int32.toInt 0 ≤ 0 from (by decide)) (by decide) (by decide)) (zhid (Nat.lt_succ_self _))
set_option maxHeartbeats 4000000 in
set_option maxRecDepth 10000 in
theorem sf_X10_shutting_124_x (M : pvM) (hok : pvOk M) (n1 : Int32) (hn1 : 0 ≤ Int32.toInt n1 ∧ Int32.toInt n1 ≤ 6) (d : Nat) : PW 76 d (0, [some (pvR 124), some (pvI n1)], [], M) (fun r X => r = some (pvI ((if (M.1 125 (Int32.toNatClampNeg n1)) = 1 then (2 * (M.1 129 (Int32.toNatClampNeg n1))) else (if (M.1 125 (Int32.toNatClampNeg n1)) = 4 then (2 * (M.1 129 (Int32.toNatClampNeg n1))) else (M.1 129 (Int32.toNatClampNeg n1)))))) ∧ X = M) := by
  have hT : pvdom 76 = pvD_76 := rfl
  have b1_ : 0 ≤ Int32.toInt (M.1 125 (Int32.toNatClampNeg n1)) ∧ Int32.toInt (M.1 125 (Int32.toNatClampNeg n1)) ≤ 6 := pvok_r hok 125 (Int32.toNatClampNeg n1) rfl
  refine pw_blk hT 5 (S' := (7, [some (pvR 124), some (pvI n1)], [pvI 1, pvI (M.1 125 (Int32.toNatClampNeg n1))], M)) rfl ⟨trivial, rfl, trivial, ⟨rfl, (zr_in (n := 7) hn1 (by decide) (by decide))⟩, trivial, trivial⟩ ?_
  refine pw_ic hT (c := (M.1 125 (Int32.toNatClampNeg n1)) = 1) rfl rfl (fun c2_ => ?_) (fun c2_ => ?_)
  · have b3_ : 1 ≤ Int32.toInt (M.1 125 (Int32.toNatClampNeg n1)) ∧ Int32.toInt (M.1 125 (Int32.toNatClampNeg n1)) ≤ 1 := (by have u0 := b1_; have u1 := (zi_eq _ _).mp c2_; have u2 := (show 1 ≤ Int32.toInt 1 ∧ Int32.toInt 1 ≤ 1 from (by decide)); omega)
    have b4_ : 0 ≤ Int32.toInt (M.1 129 (Int32.toNatClampNeg n1)) ∧ Int32.toInt (M.1 129 (Int32.toNatClampNeg n1)) ≤ 9 := pvok_r hok 129 (Int32.toNatClampNeg n1) rfl
    have q5_ : Int32.toInt (2 * (M.1 129 (Int32.toNatClampNeg n1))) = 2 * Int32.toInt (M.1 129 (Int32.toNatClampNeg n1)) := by have u0 : Int32.toInt 2 = 2 := (by decide); have u1 := b4_; have u2 := zmul 2 (M.1 129 (Int32.toNatClampNeg n1)) (by rw [u0]; omega) (by rw [u0]; omega); rw [u0] at u2; omega
    have b6_ : 0 ≤ Int32.toInt (2 * (M.1 129 (Int32.toNatClampNeg n1))) ∧ Int32.toInt (2 * (M.1 129 (Int32.toNatClampNeg n1))) ≤ 18 := (by have u1 := b4_; omega)
    refine pw_blk hT 7 (S' := (37, [some (pvR 124), some (pvI n1)], [pvI (2 * (M.1 129 (Int32.toNatClampNeg n1)))], M)) rfl ⟨trivial, trivial, rfl, trivial, ⟨rfl, (zr_in (n := 7) hn1 (by decide) (by decide))⟩, trivial, trivial, trivial⟩ ?_
    exact pw_ret hT rfl (r := some (pvI (2 * (M.1 129 (Int32.toNatClampNeg n1))))) (M' := M) ⟨rfl, rfl⟩ ⟨(by rw [if_pos c2_]), rfl⟩
  · refine pw_blk hT 5 (S' := (17, [some (pvR 124), some (pvI n1)], [pvI 4, pvI (M.1 125 (Int32.toNatClampNeg n1))], M)) rfl ⟨trivial, rfl, trivial, ⟨rfl, (zr_in (n := 7) hn1 (by decide) (by decide))⟩, trivial, trivial⟩ ?_
    refine pw_icn hT (c := (M.1 125 (Int32.toNatClampNeg n1)) = 4) rfl rfl (fun c7_ => ?_) (fun c7_ => ?_)
    · have b8_ : 0 ≤ Int32.toInt (M.1 129 (Int32.toNatClampNeg n1)) ∧ Int32.toInt (M.1 129 (Int32.toNatClampNeg n1)) ≤ 9 := pvok_r hok 129 (Int32.toNatClampNeg n1) rfl
      refine pw_blk hT 4 (S' := (37, [some (pvR 124), some (pvI n1)], [pvI (M.1 129 (Int32.toNatClampNeg n1))], M)) rfl ⟨trivial, rfl, trivial, ⟨rfl, (zr_in (n := 7) hn1 (by decide) (by decide))⟩, trivial⟩ ?_
      exact pw_ret hT rfl (r := some (pvI (M.1 129 (Int32.toNatClampNeg n1)))) (M' := M) ⟨rfl, rfl⟩ ⟨(by rw [if_neg c2_, if_neg c7_]), rfl⟩
    · have b9_ : 4 ≤ Int32.toInt (M.1 125 (Int32.toNatClampNeg n1)) ∧ Int32.toInt (M.1 125 (Int32.toNatClampNeg n1)) ≤ 4 := (by have u0 := b1_; have u1 := (zi_eq _ _).mp c7_; have u2 := (show 4 ≤ Int32.toInt 4 ∧ Int32.toInt 4 ≤ 4 from (by decide)); omega)
      have b10_ : 0 ≤ Int32.toInt (M.1 129 (Int32.toNatClampNeg n1)) ∧ Int32.toInt (M.1 129 (Int32.toNatClampNeg n1)) ≤ 9 := pvok_r hok 129 (Int32.toNatClampNeg n1) rfl
      have q11_ : Int32.toInt (2 * (M.1 129 (Int32.toNatClampNeg n1))) = 2 * Int32.toInt (M.1 129 (Int32.toNatClampNeg n1)) := by have u0 : Int32.toInt 2 = 2 := (by decide); have u1 := b10_; have u2 := zmul 2 (M.1 129 (Int32.toNatClampNeg n1)) (by rw [u0]; omega) (by rw [u0]; omega); rw [u0] at u2; omega
      have b12_ : 0 ≤ Int32.toInt (2 * (M.1 129 (Int32.toNatClampNeg n1))) ∧ Int32.toInt (2 * (M.1 129 (Int32.toNatClampNeg n1))) ≤ 18 := (by have u1 := b10_; omega)
      refine pw_blk hT 7 (S' := (37, [some (pvR 124), some (pvI n1)], [pvI (2 * (M.1 129 (Int32.toNatClampNeg n1)))], M)) rfl ⟨trivial, trivial, rfl, trivial, ⟨rfl, (zr_in (n := 7) hn1 (by decide) (by decide))⟩, trivial, trivial, trivial⟩ ?_
      exact pw_ret hT rfl (r := some (pvI (2 * (M.1 129 (Int32.toNatClampNeg n1))))) (M' := M) ⟨rfl, rfl⟩ ⟨(by rw [if_neg c2_, if_pos c7_]), rfl⟩
set_option maxHeartbeats 4000000 in
set_option maxRecDepth 10000 in
theorem sf_X10_isOpenAt_124_x_x (M : pvM) (hok : pvOk M) (n1 : Int32) (n2 : Int32) (hn1 : 0 ≤ Int32.toInt n1 ∧ Int32.toInt n1 ≤ 6) (d : Nat) : PW 39 d (0, [some (pvR 124), some (pvI n1), some (pvI n2)], [], M) (fun r X => r = some (pvI ((if (M.1 143 (Int32.toNatClampNeg n1)) ≤ n2 then 0 else 1))) ∧ X = M) := by
  have hT : pvdom 39 = pvD_39 := rfl
  have b1_ : (-1) ≤ Int32.toInt (M.1 143 (Int32.toNatClampNeg n1)) ∧ Int32.toInt (M.1 143 (Int32.toNatClampNeg n1)) ≤ 99999 := pvok_r hok 143 (Int32.toNatClampNeg n1) rfl
  refine pw_blk hT 5 (S' := (7, [some (pvR 124), some (pvI n1), some (pvI n2)], [pvI (M.1 143 (Int32.toNatClampNeg n1)), pvI n2], M)) rfl ⟨trivial, trivial, rfl, trivial, ⟨rfl, (zr_in (n := 7) hn1 (by decide) (by decide))⟩, trivial⟩ ?_
  refine pw_ic hT (c := (M.1 143 (Int32.toNatClampNeg n1)) ≤ n2) rfl rfl (fun c2_ => ?_) (fun c2_ => ?_)
  · have b3_ : (-1) ≤ Int32.toInt n2 ∧ Int32.toInt n2 ≤ 2147483647 := zr_le_r (-1) c2_ (zbnd n2) b1_ (by decide)
    have d4_ : Int32.toInt (M.1 143 (Int32.toNatClampNeg n1)) ≤ Int32.toInt n2 := (zi_le _ _).mp c2_
    refine pw_blk hT 1 (S' := (15, [some (pvR 124), some (pvI n1), some (pvI n2)], [pvI 0], M)) rfl ⟨trivial, trivial⟩ ?_
    exact pw_ret hT rfl (r := some (pvI 0)) (M' := M) ⟨Or.inl rfl, rfl, rfl⟩ ⟨(by rw [if_pos c2_]), rfl⟩
  · have b5_ : (-2147483648) ≤ Int32.toInt n2 ∧ Int32.toInt n2 ≤ 99998 := zr_nle_r 99998 c2_ (zbnd n2) b1_ (by decide)
    have d6_ : Int32.toInt (M.1 143 (Int32.toNatClampNeg n1)) > Int32.toInt n2 := Int.not_le.mp ((not_congr (zi_le _ _)).mp c2_)
    refine pw_blk hT 2 (S' := (15, [some (pvR 124), some (pvI n1), some (pvI n2)], [pvI 1], M)) rfl ⟨trivial, trivial, trivial⟩ ?_
    exact pw_ret hT rfl (r := some (pvI 1)) (M' := M) ⟨Or.inr rfl, rfl, rfl⟩ ⟨(by rw [if_neg c2_]), rfl⟩
set_option maxHeartbeats 4000000 in
set_option maxRecDepth 10000 in
theorem sf_X10_hasOther_124_x_x (M : pvM) (hok : pvOk M) (n1 : Int32) (n2 : Int32) (hn1 : 0 ≤ Int32.toInt n1 ∧ Int32.toInt n1 ≤ 6) (d : Nat) : PW 32 d (0, [some (pvR 124), some (pvI n1), some (pvI n2), none], [], M) (fun r X => (∃ x : Int32, r = some (pvI x) ∧ 0 ≤ Int32.toInt x ∧ Int32.toInt x ≤ 1) ∧ X = M) := by
  have hT : pvdom 32 = pvD_32 := rfl
  refine pw_blk hT 2 (S' := (2, [some (pvR 124), some (pvI n1), some (pvI n2), some (pvI 0)], [], M)) rfl ⟨trivial, trivial, trivial⟩ ?_
  have hlz96_ : ∀ (nz96_ : Nat) (i3z96_ : Int32), (0 ≤ Int32.toInt i3z96_ ∧ Int32.toInt i3z96_ ≤ 7) → (zhide ((8 - Int32.toInt i3z96_).toNat < nz96_)) → PW 32 d (2, [some (pvR 124), some (pvI n1), some (pvI n2), some (pvI i3z96_)], [], M) (fun r X => (∃ x : Int32, r = some (pvI x) ∧ 0 ≤ Int32.toInt x ∧ Int32.toInt x ≤ 1) ∧ X = M) := by
    intro nz96_
    induction nz96_ with
    | zero => intro i3z96_ h3z96_ hmz96_; exact absurd (zshow hmz96_) (Nat.not_lt_zero _)
    | succ nz96_ ihz96_ =>
      intro i3z96_ h3z96_ hmz96_
      have b97_ : 0 ≤ Int32.toInt (M.1 124 0) ∧ Int32.toInt (M.1 124 0) ≤ 7 := pvok_r hok 124 0 rfl
      refine pw_blk hT 3 (S' := (7, [some (pvR 124), some (pvI n1), some (pvI n2), some (pvI i3z96_)], [pvI (M.1 124 0), pvI i3z96_], M)) rfl ⟨trivial, trivial, rfl, trivial⟩ ?_
      refine pw_ic hT (c := (M.1 124 0) ≤ i3z96_) rfl rfl (fun c98_ => ?_) (fun c98_ => ?_)
      · have d99_ : Int32.toInt (M.1 124 0) ≤ Int32.toInt i3z96_ := (zi_le _ _).mp c98_
        refine pw_blk hT 1 (S' := (43, [some (pvR 124), some (pvI n1), some (pvI n2), some (pvI i3z96_)], [pvI 0], M)) rfl ⟨trivial, trivial⟩ ?_
        exact pw_ret hT rfl (r := some (pvI 0)) (M' := M) ⟨Or.inl rfl, rfl, rfl⟩ ⟨⟨_, rfl, (zr_wide (show 0 ≤ Int32.toInt 0 ∧ Int32.toInt 0 ≤ 0 from (by decide)) (by decide) (by decide))⟩, rfl⟩
      · have b100_ : 1 ≤ Int32.toInt (M.1 124 0) ∧ Int32.toInt (M.1 124 0) ≤ 7 := zr_nle_l 1 c98_ b97_ h3z96_ (by decide)
        have b101_ : 0 ≤ Int32.toInt i3z96_ ∧ Int32.toInt i3z96_ ≤ 6 := zr_nle_r 6 c98_ h3z96_ b100_ (by decide)
        have d102_ : Int32.toInt (M.1 124 0) > Int32.toInt i3z96_ := Int.not_le.mp ((not_congr (zi_le _ _)).mp c98_)
        refine pw_blk hT 2 (S' := (12, [some (pvR 124), some (pvI n1), some (pvI n2), some (pvI i3z96_)], [pvI n1, pvI i3z96_], M)) rfl ⟨trivial, trivial, trivial⟩ ?_
        refine pw_ic hT (c := i3z96_ = n1) rfl rfl (fun c103_ => ?_) (fun c103_ => ?_)
        · have d104_ : Int32.toInt i3z96_ = Int32.toInt n1 := (zi_eq _ _).mp c103_
          obtain ⟨q106_, b105_⟩ : (Int32.toInt (i3z96_ + 1) = Int32.toInt i3z96_ + 1) ∧ (1 ≤ Int32.toInt (i3z96_ + 1) ∧ Int32.toInt (i3z96_ + 1) ≤ 7) := zadd_k i3z96_ 1 1 1 7 b101_ (by decide) (by decide) (by decide) (by decide) (by decide)
          refine pw_blk hT 2 (S' := (2, [some (pvR 124), some (pvI n1), some (pvI n2), some (pvI (i3z96_ + 1))], [], M)) rfl ⟨trivial, trivial, trivial⟩ ?_
          exact ihz96_ (i3z96_ + 1) (zr_wide b105_ (by decide) (by decide)) (zhid (pvms_up (zshow hmz96_) h3z96_ q106_ (by decide) (by decide)))
        · have b107_ : 0 ≤ Int32.toInt (M.1 125 (Int32.toNatClampNeg i3z96_)) ∧ Int32.toInt (M.1 125 (Int32.toNatClampNeg i3z96_)) ≤ 6 := pvok_r hok 125 (Int32.toNatClampNeg i3z96_) rfl
          refine pw_blk hT 5 (S' := (22, [some (pvR 124), some (pvI n1), some (pvI n2), some (pvI i3z96_)], [pvI 4, pvI (M.1 125 (Int32.toNatClampNeg i3z96_))], M)) rfl ⟨trivial, rfl, trivial, ⟨rfl, (zr_in (n := 7) b101_ (by decide) (by decide))⟩, trivial, trivial⟩ ?_
          refine pw_icn hT (c := (M.1 125 (Int32.toNatClampNeg i3z96_)) = 4) rfl rfl (fun c108_ => ?_) (fun c108_ => ?_)
          · obtain ⟨q110_, b109_⟩ : (Int32.toInt (i3z96_ + 1) = Int32.toInt i3z96_ + 1) ∧ (1 ≤ Int32.toInt (i3z96_ + 1) ∧ Int32.toInt (i3z96_ + 1) ≤ 7) := zadd_k i3z96_ 1 1 1 7 b101_ (by decide) (by decide) (by decide) (by decide) (by decide)
            refine pw_blk hT 2 (S' := (2, [some (pvR 124), some (pvI n1), some (pvI n2), some (pvI (i3z96_ + 1))], [], M)) rfl ⟨trivial, trivial, trivial⟩ ?_
            exact ihz96_ (i3z96_ + 1) (zr_wide b109_ (by decide) (by decide)) (zhid (pvms_up (zshow hmz96_) h3z96_ q110_ (by decide) (by decide)))
          · have b111_ : 4 ≤ Int32.toInt (M.1 125 (Int32.toNatClampNeg i3z96_)) ∧ Int32.toInt (M.1 125 (Int32.toNatClampNeg i3z96_)) ≤ 4 := (by have u0 := b107_; have u1 := (zi_eq _ _).mp c108_; have u2 := (show 4 ≤ Int32.toInt 4 ∧ Int32.toInt 4 ≤ 4 from (by decide)); omega)
            refine pw_blk hT 3 (S' := (28, [some (pvR 124), some (pvI n1), some (pvI n2), some (pvI i3z96_)], [pvI n2, pvI i3z96_, pvR 124], M)) rfl ⟨trivial, trivial, trivial, trivial⟩ ?_
            refine pw_callT hT (as := [pvR 124, pvI i3z96_, pvI n2]) (lo1 := [some (pvR 124), some (pvI i3z96_), some (pvI n2)]) (d1 := d) (rest := []) rfl rfl rfl rfl rfl (fun _ => rfl) (Nat.zero_le _) rfl rfl rfl (sf_X10_isOpenAt_124_x_x M hok i3z96_ n2 b101_ d) ?_
            have b117_ : (-1) ≤ Int32.toInt (M.1 143 (Int32.toNatClampNeg i3z96_)) ∧ Int32.toInt (M.1 143 (Int32.toNatClampNeg i3z96_)) ≤ 99999 := pvok_r hok 143 (Int32.toNatClampNeg i3z96_) rfl
            by_cases c118_ : (M.1 143 (Int32.toNatClampNeg i3z96_)) ≤ n2
            · refine pw_eqI (if_pos c118_) ?_
              have b119_ : (-1) ≤ Int32.toInt n2 ∧ Int32.toInt n2 ≤ 2147483647 := zr_le_r (-1) c118_ (zbnd n2) b117_ (by decide)
              have d120_ : Int32.toInt (M.1 143 (Int32.toNatClampNeg i3z96_)) ≤ Int32.toInt n2 := (zi_le _ _).mp c118_
              show PW 32 d (31, [some (pvR 124), some (pvI n1), some (pvI n2), some (pvI i3z96_)], [pvI 0], M) _
              refine pw_if hT (c := 0 = 0) rfl rfl (fun c121_ => ?_) (fun c121_ => absurd (by decide) c121_)
              obtain ⟨q123_, b122_⟩ : (Int32.toInt (i3z96_ + 1) = Int32.toInt i3z96_ + 1) ∧ (1 ≤ Int32.toInt (i3z96_ + 1) ∧ Int32.toInt (i3z96_ + 1) ≤ 7) := zadd_k i3z96_ 1 1 1 7 b101_ (by decide) (by decide) (by decide) (by decide) (by decide)
              refine pw_blk hT 2 (S' := (2, [some (pvR 124), some (pvI n1), some (pvI n2), some (pvI (i3z96_ + 1))], [], M)) rfl ⟨trivial, trivial, trivial⟩ ?_
              exact ihz96_ (i3z96_ + 1) (zr_wide b122_ (by decide) (by decide)) (zhid (pvms_up (zshow hmz96_) h3z96_ q123_ (by decide) (by decide)))
            · refine pw_eqI (if_neg c118_) ?_
              have b124_ : (-2147483648) ≤ Int32.toInt n2 ∧ Int32.toInt n2 ≤ 99998 := zr_nle_r 99998 c118_ (zbnd n2) b117_ (by decide)
              have d125_ : Int32.toInt (M.1 143 (Int32.toNatClampNeg i3z96_)) > Int32.toInt n2 := Int.not_le.mp ((not_congr (zi_le _ _)).mp c118_)
              show PW 32 d (31, [some (pvR 124), some (pvI n1), some (pvI n2), some (pvI i3z96_)], [pvI 1], M) _
              refine pw_if hT (c := 1 = 0) rfl rfl (fun c126_ => absurd c126_ (by decide)) (fun c126_ => ?_)
              refine pw_blk hT 1 (S' := (35, [some (pvR 124), some (pvI n1), some (pvI n2), some (pvI i3z96_)], [pvI 1], M)) rfl ⟨trivial, trivial⟩ ?_
              exact pw_ret hT rfl (r := some (pvI 1)) (M' := M) ⟨Or.inr rfl, rfl, rfl⟩ ⟨⟨_, rfl, (zr_wide (show 1 ≤ Int32.toInt 1 ∧ Int32.toInt 1 ≤ 1 from (by decide)) (by decide) (by decide))⟩, rfl⟩
  exact hlz96_ _ 0 (zr_wide (show 0 ≤ Int32.toInt 0 ∧ Int32.toInt 0 ≤ 0 from (by decide)) (by decide) (by decide)) (zhid (Nat.lt_succ_self _))
set_option maxHeartbeats 4000000 in
set_option maxRecDepth 10000 in
theorem sf_X10_harm_124_x_x (M : pvM) (hok : pvOk M) (n1 : Int32) (n2 : Int32) (hn1 : 0 ≤ Int32.toInt n1 ∧ Int32.toInt n1 ≤ 6) (hn2 : 0 ≤ Int32.toInt n2 ∧ Int32.toInt n2 ≤ 200000) (d : Nat) : PW 26 d (0, [some (pvR 124), some (pvI n1), some (pvI n2), none, none], [], M) (fun r X => (∃ x : Int32, r = some (pvI x) ∧ 0 ≤ Int32.toInt x ∧ Int32.toInt x ≤ 12009) ∧ X = M) := by
  have hT : pvdom 26 = pvD_26 := rfl
  have b1_ : 0 ≤ Int32.toInt (M.1 124 3) ∧ Int32.toInt (M.1 124 3) ≤ 108 := pvok_r hok 124 3 rfl
  obtain ⟨q3_, b2_⟩ : (Int32.toInt (n2 - (M.1 124 3)) = Int32.toInt n2 - Int32.toInt (M.1 124 3)) ∧ ((-108) ≤ Int32.toInt (n2 - (M.1 124 3)) ∧ Int32.toInt (n2 - (M.1 124 3)) ≤ 200000) := zsub_r n2 (M.1 124 3) (-108) 200000 hn2 b1_ (by decide) (by decide) (by decide) (by decide)
  refine pw_blk hT 6 (S' := (8, [some (pvR 124), some (pvI n1), some (pvI n2), some (pvI (n2 - (M.1 124 3))), none], [pvI (n2 - (M.1 124 3))], M)) rfl ⟨trivial, trivial, rfl, trivial, trivial, trivial, trivial⟩ ?_
  refine pw_if hT (c := (n2 - (M.1 124 3)) < 0) rfl rfl (fun c4_ => ?_) (fun c4_ => ?_)
  · have b5_ : (-108) ≤ Int32.toInt (n2 - (M.1 124 3)) ∧ Int32.toInt (n2 - (M.1 124 3)) ≤ (-1) := zr_lt_l (-1) c4_ b2_ (show 0 ≤ Int32.toInt 0 ∧ Int32.toInt 0 ≤ 0 from (by decide)) (by decide)
    refine pw_blk hT 1 (S' := (29, [some (pvR 124), some (pvI n1), some (pvI n2), some (pvI (n2 - (M.1 124 3))), none], [pvI 0], M)) rfl ⟨trivial, trivial⟩ ?_
    exact pw_ret hT rfl (r := some (pvI 0)) (M' := M) ⟨rfl, rfl⟩ ⟨⟨_, rfl, (zr_wide (show 0 ≤ Int32.toInt 0 ∧ Int32.toInt 0 ≤ 0 from (by decide)) (by decide) (by decide))⟩, rfl⟩
  · have b6_ : 0 ≤ Int32.toInt (n2 - (M.1 124 3)) ∧ Int32.toInt (n2 - (M.1 124 3)) ≤ 200000 := zr_nlt_l 0 c4_ b2_ (show 0 ≤ Int32.toInt 0 ∧ Int32.toInt 0 ≤ 0 from (by decide)) (by decide)
    refine pw_blk hT 2 (S' := (13, [some (pvR 124), some (pvI n1), some (pvI n2), some (pvI (n2 - (M.1 124 3))), none], [pvR 124, pvI (n2 - (M.1 124 3))], M)) rfl ⟨trivial, trivial, trivial⟩ ?_
    refine pw_callGp hT (as := [pvR 124]) (lo1 := [some (pvR 124)]) (d1 := d) (rest := [pvI (n2 - (M.1 124 3))]) rfl rfl rfl rfl rfl (fun _ => rfl) (Nat.zero_le _) rfl rfl rfl (sf_X10_lastNow_124 M hok d) (fun x7_ b9_ => ?_)
    refine pw_ic hT (c := x7_ ≤ (n2 - (M.1 124 3))) rfl rfl (fun c12_ => ?_) (fun c12_ => ?_)
    · have d13_ : Int32.toInt x7_ ≤ Int32.toInt (n2 - (M.1 124 3)) := (zi_le _ _).mp c12_
      refine pw_blk hT 1 (S' := (29, [some (pvR 124), some (pvI n1), some (pvI n2), some (pvI (n2 - (M.1 124 3))), none], [pvI 0], M)) rfl ⟨trivial, trivial⟩ ?_
      exact pw_ret hT rfl (r := some (pvI 0)) (M' := M) ⟨rfl, rfl⟩ ⟨⟨_, rfl, (zr_wide (show 0 ≤ Int32.toInt 0 ∧ Int32.toInt 0 ≤ 0 from (by decide)) (by decide) (by decide))⟩, rfl⟩
    · have b14_ : 1 ≤ Int32.toInt x7_ ∧ Int32.toInt x7_ ≤ 99 := zr_nle_l 1 c12_ b9_ b6_ (by decide)
      have b15_ : 0 ≤ Int32.toInt (n2 - (M.1 124 3)) ∧ Int32.toInt (n2 - (M.1 124 3)) ≤ 98 := zr_nle_r 98 c12_ b6_ b14_ (by decide)
      have d16_ : Int32.toInt x7_ > Int32.toInt (n2 - (M.1 124 3)) := Int.not_le.mp ((not_congr (zi_le _ _)).mp c12_)
      refine pw_blk hT 3 (S' := (22, [some (pvR 124), some (pvI n1), some (pvI n2), some (pvI (n2 - (M.1 124 3))), none], [pvI n2, pvI n1, pvR 124], M)) rfl ⟨trivial, trivial, trivial, trivial⟩ ?_
      refine pw_callT hT (as := [pvR 124, pvI n1, pvI n2]) (lo1 := [some (pvR 124), some (pvI n1), some (pvI n2)]) (d1 := d) (rest := []) rfl rfl rfl rfl rfl (fun _ => rfl) (Nat.zero_le _) rfl rfl rfl (sf_X10_isOpenAt_124_x_x M hok n1 n2 hn1 d) ?_
      have b22_ : (-1) ≤ Int32.toInt (M.1 143 (Int32.toNatClampNeg n1)) ∧ Int32.toInt (M.1 143 (Int32.toNatClampNeg n1)) ≤ 99999 := pvok_r hok 143 (Int32.toNatClampNeg n1) rfl
      by_cases c23_ : (M.1 143 (Int32.toNatClampNeg n1)) ≤ n2
      · refine pw_eqI (if_pos c23_) ?_
        have d24_ : Int32.toInt (M.1 143 (Int32.toNatClampNeg n1)) ≤ Int32.toInt n2 := (zi_le _ _).mp c23_
        show PW 26 d (25, [some (pvR 124), some (pvI n1), some (pvI n2), some (pvI (n2 - (M.1 124 3))), none], [pvI 0], M) _
        refine pw_ifn hT (c := 0 = 0) rfl rfl (fun c25_ => absurd (by decide) c25_) (fun c25_ => ?_)
        refine pw_blk hT 1 (S' := (29, [some (pvR 124), some (pvI n1), some (pvI n2), some (pvI (n2 - (M.1 124 3))), none], [pvI 0], M)) rfl ⟨trivial, trivial⟩ ?_
        exact pw_ret hT rfl (r := some (pvI 0)) (M' := M) ⟨rfl, rfl⟩ ⟨⟨_, rfl, (zr_wide (show 0 ≤ Int32.toInt 0 ∧ Int32.toInt 0 ≤ 0 from (by decide)) (by decide) (by decide))⟩, rfl⟩
      · refine pw_eqI (if_neg c23_) ?_
        have b26_ : 1 ≤ Int32.toInt (M.1 143 (Int32.toNatClampNeg n1)) ∧ Int32.toInt (M.1 143 (Int32.toNatClampNeg n1)) ≤ 99999 := zr_nle_l 1 c23_ b22_ hn2 (by decide)
        have b27_ : 0 ≤ Int32.toInt n2 ∧ Int32.toInt n2 ≤ 99998 := zr_nle_r 99998 c23_ hn2 b26_ (by decide)
        have d28_ : Int32.toInt (M.1 143 (Int32.toNatClampNeg n1)) > Int32.toInt n2 := Int.not_le.mp ((not_congr (zi_le _ _)).mp c23_)
        show PW 26 d (25, [some (pvR 124), some (pvI n1), some (pvI n2), some (pvI (n2 - (M.1 124 3))), none], [pvI 1], M) _
        refine pw_ifn hT (c := 1 = 0) rfl rfl (fun c29_ => ?_) (fun c29_ => absurd c29_ (by decide))
        have q30_ : Int32.toInt (99 * n1) = 99 * Int32.toInt n1 := by have u0 : Int32.toInt 99 = 99 := (by decide); have u1 := hn1; have u2 := zmul 99 n1 (by rw [u0]; omega) (by rw [u0]; omega); rw [u0] at u2; omega
        have b31_ : 0 ≤ Int32.toInt (99 * n1) ∧ Int32.toInt (99 * n1) ≤ 594 := (by have u1 := hn1; omega)
        obtain ⟨q33_, b32_⟩ : (Int32.toInt ((99 * n1) + (n2 - (M.1 124 3))) = Int32.toInt (99 * n1) + Int32.toInt (n2 - (M.1 124 3))) ∧ (0 ≤ Int32.toInt ((99 * n1) + (n2 - (M.1 124 3))) ∧ Int32.toInt ((99 * n1) + (n2 - (M.1 124 3))) ≤ 692) := zadd_r (99 * n1) (n2 - (M.1 124 3)) 0 692 b31_ b15_ (by decide) (by decide) (by decide) (by decide)
        have b34_ : 0 ≤ Int32.toInt (M.1 142 (Int32.toNatClampNeg ((99 * n1) + (n2 - (M.1 124 3))))) ∧ Int32.toInt (M.1 142 (Int32.toNatClampNeg ((99 * n1) + (n2 - (M.1 124 3))))) ≤ 6000 := pvok_r hok 142 (Int32.toNatClampNeg ((99 * n1) + (n2 - (M.1 124 3)))) rfl
        have b35_ : 0 ≤ Int32.toInt (M.1 125 (Int32.toNatClampNeg n1)) ∧ Int32.toInt (M.1 125 (Int32.toNatClampNeg n1)) ≤ 6 := pvok_r hok 125 (Int32.toNatClampNeg n1) rfl
        refine pw_blk hT 13 (S' := (49, [some (pvR 124), some (pvI n1), some (pvI n2), some (pvI (n2 - (M.1 124 3))), some (pvI (M.1 142 (Int32.toNatClampNeg ((99 * n1) + (n2 - (M.1 124 3))))))], [pvI (M.1 125 (Int32.toNatClampNeg n1))], M)) rfl ⟨trivial, rfl, trivial, trivial, trivial, trivial, trivial, ⟨rfl, (zr_in (n := 693) b32_ (by decide) (by decide))⟩, trivial, trivial, rfl, trivial, ⟨rfl, (zr_in (n := 7) hn1 (by decide) (by decide))⟩, trivial⟩ ?_
        refine pw_sw hT rfl rfl ?_
        refine And.intro (fun c36_ => ?_) (fun c36_ => ?_)
        · show PW 26 d (84, [some (pvR 124), some (pvI n1), some (pvI n2), some (pvI (n2 - (M.1 124 3))), some (pvI (M.1 142 (Int32.toNatClampNeg ((99 * n1) + (n2 - (M.1 124 3))))))], [], M) _
          have b37_ : 2 ≤ Int32.toInt (M.1 125 (Int32.toNatClampNeg n1)) ∧ Int32.toInt (M.1 125 (Int32.toNatClampNeg n1)) ≤ 2 := (by have u0 := b35_; have u1 := (zi_eq _ _).mp c36_; have u2 := (show 2 ≤ Int32.toInt 2 ∧ Int32.toInt 2 ≤ 2 from (by decide)); omega)
          have q38_ : Int32.toInt ((M.1 142 (Int32.toNatClampNeg ((99 * n1) + (n2 - (M.1 124 3))))) / 2) = Int32.toInt (M.1 142 (Int32.toNatClampNeg ((99 * n1) + (n2 - (M.1 124 3))))) / 2 := by have u0 := b34_; have u := zdiv_p (M.1 142 (Int32.toNatClampNeg ((99 * n1) + (n2 - (M.1 124 3))))) 2 (by omega) (by decide) (by decide); have e0 : nI 2 = (2 : Int32) := rfl; rw [e0] at u; omega
          have b39_ : 0 ≤ Int32.toInt ((M.1 142 (Int32.toNatClampNeg ((99 * n1) + (n2 - (M.1 124 3))))) / 2) ∧ Int32.toInt ((M.1 142 (Int32.toNatClampNeg ((99 * n1) + (n2 - (M.1 124 3))))) / 2) ≤ 3000 := (by have u0 := b34_; omega)
          refine pw_blk hT 3 (S' := (88, [some (pvR 124), some (pvI n1), some (pvI n2), some (pvI (n2 - (M.1 124 3))), some (pvI (M.1 142 (Int32.toNatClampNeg ((99 * n1) + (n2 - (M.1 124 3))))))], [pvI ((M.1 142 (Int32.toNatClampNeg ((99 * n1) + (n2 - (M.1 124 3))))) / 2)], M)) rfl ⟨trivial, trivial, (by decide), trivial⟩ ?_
          exact pw_ret hT rfl (r := some (pvI ((M.1 142 (Int32.toNatClampNeg ((99 * n1) + (n2 - (M.1 124 3))))) / 2))) (M' := M) ⟨rfl, rfl⟩ ⟨⟨_, rfl, (zr_wide b39_ (by decide) (by decide))⟩, rfl⟩
        · refine And.intro (fun c40_ => ?_) (fun c40_ => ?_)
          · show PW 26 d (89, [some (pvR 124), some (pvI n1), some (pvI n2), some (pvI (n2 - (M.1 124 3))), some (pvI (M.1 142 (Int32.toNatClampNeg ((99 * n1) + (n2 - (M.1 124 3))))))], [], M) _
            have b41_ : 3 ≤ Int32.toInt (M.1 125 (Int32.toNatClampNeg n1)) ∧ Int32.toInt (M.1 125 (Int32.toNatClampNeg n1)) ≤ 3 := (by have u0 := b35_; have u1 := (zi_eq _ _).mp c40_; have u2 := (show 3 ≤ Int32.toInt 3 ∧ Int32.toInt 3 ≤ 3 from (by decide)); omega)
            have q42_ : Int32.toInt (2 * (M.1 142 (Int32.toNatClampNeg ((99 * n1) + (n2 - (M.1 124 3)))))) = 2 * Int32.toInt (M.1 142 (Int32.toNatClampNeg ((99 * n1) + (n2 - (M.1 124 3))))) := by have u0 : Int32.toInt 2 = 2 := (by decide); have u1 := b34_; have u2 := zmul 2 (M.1 142 (Int32.toNatClampNeg ((99 * n1) + (n2 - (M.1 124 3))))) (by rw [u0]; omega) (by rw [u0]; omega); rw [u0] at u2; omega
            have b43_ : 0 ≤ Int32.toInt (2 * (M.1 142 (Int32.toNatClampNeg ((99 * n1) + (n2 - (M.1 124 3)))))) ∧ Int32.toInt (2 * (M.1 142 (Int32.toNatClampNeg ((99 * n1) + (n2 - (M.1 124 3)))))) ≤ 12000 := (by have u1 := b34_; omega)
            refine pw_blk hT 3 (S' := (93, [some (pvR 124), some (pvI n1), some (pvI n2), some (pvI (n2 - (M.1 124 3))), some (pvI (M.1 142 (Int32.toNatClampNeg ((99 * n1) + (n2 - (M.1 124 3))))))], [pvI (2 * (M.1 142 (Int32.toNatClampNeg ((99 * n1) + (n2 - (M.1 124 3))))))], M)) rfl ⟨trivial, trivial, trivial, trivial⟩ ?_
            exact pw_ret hT rfl (r := some (pvI (2 * (M.1 142 (Int32.toNatClampNeg ((99 * n1) + (n2 - (M.1 124 3)))))))) (M' := M) ⟨rfl, rfl⟩ ⟨⟨_, rfl, (zr_wide b43_ (by decide) (by decide))⟩, rfl⟩
          · refine And.intro (fun c44_ => ?_) (fun c44_ => ?_)
            · show PW 26 d (94, [some (pvR 124), some (pvI n1), some (pvI n2), some (pvI (n2 - (M.1 124 3))), some (pvI (M.1 142 (Int32.toNatClampNeg ((99 * n1) + (n2 - (M.1 124 3))))))], [], M) _
              have b45_ : 4 ≤ Int32.toInt (M.1 125 (Int32.toNatClampNeg n1)) ∧ Int32.toInt (M.1 125 (Int32.toNatClampNeg n1)) ≤ 4 := (by have u0 := b35_; have u1 := (zi_eq _ _).mp c44_; have u2 := (show 4 ≤ Int32.toInt 4 ∧ Int32.toInt 4 ≤ 4 from (by decide)); omega)
              refine pw_blk hT 3 (S' := (97, [some (pvR 124), some (pvI n1), some (pvI n2), some (pvI (n2 - (M.1 124 3))), some (pvI (M.1 142 (Int32.toNatClampNeg ((99 * n1) + (n2 - (M.1 124 3))))))], [pvI n2, pvI n1, pvR 124], M)) rfl ⟨trivial, trivial, trivial, trivial⟩ ?_
              refine pw_callGp hT (as := [pvR 124, pvI n1, pvI n2]) (lo1 := [some (pvR 124), some (pvI n1), some (pvI n2), none]) (d1 := d) (rest := []) rfl rfl rfl rfl rfl (fun _ => rfl) (Nat.zero_le _) rfl rfl rfl (sf_X10_hasOther_124_x_x M hok n1 n2 hn1 d) (fun x46_ b48_ => ?_)
              refine pw_if hT (c := x46_ = 0) rfl rfl (fun c51_ => ?_) (fun c51_ => ?_)
              · have b52_ : 0 ≤ Int32.toInt x46_ ∧ Int32.toInt x46_ ≤ 0 := (by have u0 := b48_; have u1 := (zi_eq _ _).mp c51_; have u2 := (show 0 ≤ Int32.toInt 0 ∧ Int32.toInt 0 ≤ 0 from (by decide)); omega)
                refine pw_blk hT 1 (S' := (117, [some (pvR 124), some (pvI n1), some (pvI n2), some (pvI (n2 - (M.1 124 3))), some (pvI (M.1 142 (Int32.toNatClampNeg ((99 * n1) + (n2 - (M.1 124 3))))))], [pvI (M.1 142 (Int32.toNatClampNeg ((99 * n1) + (n2 - (M.1 124 3)))))], M)) rfl ⟨trivial, trivial⟩ ?_
                exact pw_ret hT rfl (r := some (pvI (M.1 142 (Int32.toNatClampNeg ((99 * n1) + (n2 - (M.1 124 3))))))) (M' := M) ⟨rfl, rfl⟩ ⟨⟨_, rfl, (zr_wide b34_ (by decide) (by decide))⟩, rfl⟩
              · have b53_ : 1 ≤ Int32.toInt x46_ ∧ Int32.toInt x46_ ≤ 1 := (by have u0 := b48_; have u1 := (not_congr (zi_eq _ _)).mp c51_; have u2 := (show 0 ≤ Int32.toInt 0 ∧ Int32.toInt 0 ≤ 0 from (by decide)); omega)
                have b54_ : 0 ≤ Int32.toInt (M.1 126 (Int32.toNatClampNeg n1)) ∧ Int32.toInt (M.1 126 (Int32.toNatClampNeg n1)) ≤ 9 := pvok_r hok 126 (Int32.toNatClampNeg n1) rfl
                obtain ⟨q56_, b55_⟩ : (Int32.toInt ((M.1 142 (Int32.toNatClampNeg ((99 * n1) + (n2 - (M.1 124 3))))) + (M.1 126 (Int32.toNatClampNeg n1))) = Int32.toInt (M.1 142 (Int32.toNatClampNeg ((99 * n1) + (n2 - (M.1 124 3))))) + Int32.toInt (M.1 126 (Int32.toNatClampNeg n1))) ∧ (0 ≤ Int32.toInt ((M.1 142 (Int32.toNatClampNeg ((99 * n1) + (n2 - (M.1 124 3))))) + (M.1 126 (Int32.toNatClampNeg n1))) ∧ Int32.toInt ((M.1 142 (Int32.toNatClampNeg ((99 * n1) + (n2 - (M.1 124 3))))) + (M.1 126 (Int32.toNatClampNeg n1))) ≤ 6009) := zadd_r (M.1 142 (Int32.toNatClampNeg ((99 * n1) + (n2 - (M.1 124 3))))) (M.1 126 (Int32.toNatClampNeg n1)) 0 6009 b34_ b54_ (by decide) (by decide) (by decide) (by decide)
                refine pw_blk hT 7 (S' := (117, [some (pvR 124), some (pvI n1), some (pvI n2), some (pvI (n2 - (M.1 124 3))), some (pvI (M.1 142 (Int32.toNatClampNeg ((99 * n1) + (n2 - (M.1 124 3))))))], [pvI ((M.1 142 (Int32.toNatClampNeg ((99 * n1) + (n2 - (M.1 124 3))))) + (M.1 126 (Int32.toNatClampNeg n1)))], M)) rfl ⟨trivial, trivial, rfl, trivial, ⟨rfl, (zr_in (n := 7) hn1 (by decide) (by decide))⟩, trivial, trivial, trivial⟩ ?_
                exact pw_ret hT rfl (r := some (pvI ((M.1 142 (Int32.toNatClampNeg ((99 * n1) + (n2 - (M.1 124 3))))) + (M.1 126 (Int32.toNatClampNeg n1))))) (M' := M) ⟨rfl, rfl⟩ ⟨⟨_, rfl, (zr_wide b55_ (by decide) (by decide))⟩, rfl⟩
            · refine And.intro (fun c57_ => ?_) (fun c57_ => ?_)
              · show PW 26 d (118, [some (pvR 124), some (pvI n1), some (pvI n2), some (pvI (n2 - (M.1 124 3))), some (pvI (M.1 142 (Int32.toNatClampNeg ((99 * n1) + (n2 - (M.1 124 3))))))], [], M) _
                have b58_ : 5 ≤ Int32.toInt (M.1 125 (Int32.toNatClampNeg n1)) ∧ Int32.toInt (M.1 125 (Int32.toNatClampNeg n1)) ≤ 5 := (by have u0 := b35_; have u1 := (zi_eq _ _).mp c57_; have u2 := (show 5 ≤ Int32.toInt 5 ∧ Int32.toInt 5 ≤ 5 from (by decide)); omega)
                have b59_ : 0 ≤ Int32.toInt (M.1 124 4) ∧ Int32.toInt (M.1 124 4) ≤ 4 := pvok_r hok 124 4 rfl
                have b60_ : 0 ≤ Int32.toInt (M.1 126 (Int32.toNatClampNeg n1)) ∧ Int32.toInt (M.1 126 (Int32.toNatClampNeg n1)) ≤ 9 := pvok_r hok 126 (Int32.toNatClampNeg n1) rfl
                have b61_ : 0 ≤ Int32.toInt ((M.1 126 (Int32.toNatClampNeg n1)) - (M.1 126 (Int32.toNatClampNeg n1)) / 4 * 4) ∧ Int32.toInt ((M.1 126 (Int32.toNatClampNeg n1)) - (M.1 126 (Int32.toNatClampNeg n1)) / 4 * 4) ≤ 3 := (by have u0 := b60_; have u := zrem_p (M.1 126 (Int32.toNatClampNeg n1)) 4 (by omega) (by decide) (by decide); have e0 : nI 4 = (4 : Int32) := rfl; rw [e0] at u; omega)
                refine pw_blk hT 8 (S' := (130, [some (pvR 124), some (pvI n1), some (pvI n2), some (pvI (n2 - (M.1 124 3))), some (pvI (M.1 142 (Int32.toNatClampNeg ((99 * n1) + (n2 - (M.1 124 3))))))], [pvI ((M.1 126 (Int32.toNatClampNeg n1)) - (M.1 126 (Int32.toNatClampNeg n1)) / 4 * 4), pvI (M.1 124 4)], M)) rfl ⟨trivial, rfl, trivial, rfl, trivial, ⟨rfl, (zr_in (n := 7) hn1 (by decide) (by decide))⟩, trivial, (by decide), trivial⟩ ?_
                refine pw_icn hT (c := (M.1 124 4) = ((M.1 126 (Int32.toNatClampNeg n1)) - (M.1 126 (Int32.toNatClampNeg n1)) / 4 * 4)) rfl rfl (fun c62_ => ?_) (fun c62_ => ?_)
                · refine pw_blk hT 1 (S' := (141, [some (pvR 124), some (pvI n1), some (pvI n2), some (pvI (n2 - (M.1 124 3))), some (pvI (M.1 142 (Int32.toNatClampNeg ((99 * n1) + (n2 - (M.1 124 3))))))], [pvI 0], M)) rfl ⟨trivial, trivial⟩ ?_
                  exact pw_ret hT rfl (r := some (pvI 0)) (M' := M) ⟨rfl, rfl⟩ ⟨⟨_, rfl, (zr_wide (show 0 ≤ Int32.toInt 0 ∧ Int32.toInt 0 ≤ 0 from (by decide)) (by decide) (by decide))⟩, rfl⟩
                · have b63_ : 0 ≤ Int32.toInt (M.1 124 4) ∧ Int32.toInt (M.1 124 4) ≤ 3 := (by have u0 := b59_; have u1 := (zi_eq _ _).mp c62_; have u2 := b61_; omega)
                  have d64_ : Int32.toInt (M.1 124 4) = Int32.toInt ((M.1 126 (Int32.toNatClampNeg n1)) - (M.1 126 (Int32.toNatClampNeg n1)) / 4 * 4) := (zi_eq _ _).mp c62_
                  have q65_ : Int32.toInt ((M.1 142 (Int32.toNatClampNeg ((99 * n1) + (n2 - (M.1 124 3))))) / 2) = Int32.toInt (M.1 142 (Int32.toNatClampNeg ((99 * n1) + (n2 - (M.1 124 3))))) / 2 := by have u0 := b34_; have u := zdiv_p (M.1 142 (Int32.toNatClampNeg ((99 * n1) + (n2 - (M.1 124 3))))) 2 (by omega) (by decide) (by decide); have e0 : nI 2 = (2 : Int32) := rfl; rw [e0] at u; omega
                  have b66_ : 0 ≤ Int32.toInt ((M.1 142 (Int32.toNatClampNeg ((99 * n1) + (n2 - (M.1 124 3))))) / 2) ∧ Int32.toInt ((M.1 142 (Int32.toNatClampNeg ((99 * n1) + (n2 - (M.1 124 3))))) / 2) ≤ 3000 := (by have u0 := b34_; omega)
                  refine pw_blk hT 4 (S' := (141, [some (pvR 124), some (pvI n1), some (pvI n2), some (pvI (n2 - (M.1 124 3))), some (pvI (M.1 142 (Int32.toNatClampNeg ((99 * n1) + (n2 - (M.1 124 3))))))], [pvI ((M.1 142 (Int32.toNatClampNeg ((99 * n1) + (n2 - (M.1 124 3))))) / 2)], M)) rfl ⟨trivial, trivial, (by decide), trivial, trivial⟩ ?_
                  exact pw_ret hT rfl (r := some (pvI ((M.1 142 (Int32.toNatClampNeg ((99 * n1) + (n2 - (M.1 124 3))))) / 2))) (M' := M) ⟨rfl, rfl⟩ ⟨⟨_, rfl, (zr_wide b66_ (by decide) (by decide))⟩, rfl⟩
              · refine And.intro (fun c67_ => ?_) (fun c67_ => ?_)
                · show PW 26 d (142, [some (pvR 124), some (pvI n1), some (pvI n2), some (pvI (n2 - (M.1 124 3))), some (pvI (M.1 142 (Int32.toNatClampNeg ((99 * n1) + (n2 - (M.1 124 3))))))], [], M) _
                  have b68_ : 6 ≤ Int32.toInt (M.1 125 (Int32.toNatClampNeg n1)) ∧ Int32.toInt (M.1 125 (Int32.toNatClampNeg n1)) ≤ 6 := (by have u0 := b35_; have u1 := (zi_eq _ _).mp c67_; have u2 := (show 6 ≤ Int32.toInt 6 ∧ Int32.toInt 6 ≤ 6 from (by decide)); omega)
                  have q69_ : Int32.toInt (2 * (M.1 142 (Int32.toNatClampNeg ((99 * n1) + (n2 - (M.1 124 3)))))) = 2 * Int32.toInt (M.1 142 (Int32.toNatClampNeg ((99 * n1) + (n2 - (M.1 124 3))))) := by have u0 : Int32.toInt 2 = 2 := (by decide); have u1 := b34_; have u2 := zmul 2 (M.1 142 (Int32.toNatClampNeg ((99 * n1) + (n2 - (M.1 124 3))))) (by rw [u0]; omega) (by rw [u0]; omega); rw [u0] at u2; omega
                  have b70_ : 0 ≤ Int32.toInt (2 * (M.1 142 (Int32.toNatClampNeg ((99 * n1) + (n2 - (M.1 124 3)))))) ∧ Int32.toInt (2 * (M.1 142 (Int32.toNatClampNeg ((99 * n1) + (n2 - (M.1 124 3)))))) ≤ 12000 := (by have u1 := b34_; omega)
                  have q71_ : Int32.toInt (4 * n1) = 4 * Int32.toInt n1 := by have u0 : Int32.toInt 4 = 4 := (by decide); have u1 := hn1; have u2 := zmul 4 n1 (by rw [u0]; omega) (by rw [u0]; omega); rw [u0] at u2; omega
                  have b72_ : 0 ≤ Int32.toInt (4 * n1) ∧ Int32.toInt (4 * n1) ≤ 24 := (by have u1 := hn1; omega)
                  have b73_ : 0 ≤ Int32.toInt (n2 - n2 / 4 * 4) ∧ Int32.toInt (n2 - n2 / 4 * 4) ≤ 3 := (by have u0 := b27_; have u := zrem_p n2 4 (by omega) (by decide) (by decide); have e0 : nI 4 = (4 : Int32) := rfl; rw [e0] at u; omega)
                  obtain ⟨q75_, b74_⟩ : (Int32.toInt ((4 * n1) + (n2 - n2 / 4 * 4)) = Int32.toInt (4 * n1) + Int32.toInt (n2 - n2 / 4 * 4)) ∧ (0 ≤ Int32.toInt ((4 * n1) + (n2 - n2 / 4 * 4)) ∧ Int32.toInt ((4 * n1) + (n2 - n2 / 4 * 4)) ≤ 27) := zadd_r (4 * n1) (n2 - n2 / 4 * 4) 0 27 b72_ b73_ (by decide) (by decide) (by decide) (by decide)
                  have b76_ : 0 ≤ Int32.toInt (M.1 130 (Int32.toNatClampNeg ((4 * n1) + (n2 - n2 / 4 * 4)))) ∧ Int32.toInt (M.1 130 (Int32.toNatClampNeg ((4 * n1) + (n2 - n2 / 4 * 4)))) ≤ 9 := pvok_r hok 130 (Int32.toNatClampNeg ((4 * n1) + (n2 - n2 / 4 * 4))) rfl
                  obtain ⟨q78_, b77_⟩ : (Int32.toInt ((2 * (M.1 142 (Int32.toNatClampNeg ((99 * n1) + (n2 - (M.1 124 3)))))) + (M.1 130 (Int32.toNatClampNeg ((4 * n1) + (n2 - n2 / 4 * 4))))) = Int32.toInt (2 * (M.1 142 (Int32.toNatClampNeg ((99 * n1) + (n2 - (M.1 124 3)))))) + Int32.toInt (M.1 130 (Int32.toNatClampNeg ((4 * n1) + (n2 - n2 / 4 * 4))))) ∧ (0 ≤ Int32.toInt ((2 * (M.1 142 (Int32.toNatClampNeg ((99 * n1) + (n2 - (M.1 124 3)))))) + (M.1 130 (Int32.toNatClampNeg ((4 * n1) + (n2 - n2 / 4 * 4))))) ∧ Int32.toInt ((2 * (M.1 142 (Int32.toNatClampNeg ((99 * n1) + (n2 - (M.1 124 3)))))) + (M.1 130 (Int32.toNatClampNeg ((4 * n1) + (n2 - n2 / 4 * 4))))) ≤ 12009) := zadd_r (2 * (M.1 142 (Int32.toNatClampNeg ((99 * n1) + (n2 - (M.1 124 3)))))) (M.1 130 (Int32.toNatClampNeg ((4 * n1) + (n2 - n2 / 4 * 4)))) 0 12009 b70_ b76_ (by decide) (by decide) (by decide) (by decide)
                  refine pw_blk hT 14 (S' := (159, [some (pvR 124), some (pvI n1), some (pvI n2), some (pvI (n2 - (M.1 124 3))), some (pvI (M.1 142 (Int32.toNatClampNeg ((99 * n1) + (n2 - (M.1 124 3))))))], [pvI ((2 * (M.1 142 (Int32.toNatClampNeg ((99 * n1) + (n2 - (M.1 124 3)))))) + (M.1 130 (Int32.toNatClampNeg ((4 * n1) + (n2 - n2 / 4 * 4)))))], M)) rfl ⟨trivial, trivial, trivial, trivial, rfl, trivial, trivial, trivial, trivial, trivial, (by decide), trivial, ⟨rfl, (zr_in (n := 28) b74_ (by decide) (by decide))⟩, trivial, trivial⟩ ?_
                  exact pw_ret hT rfl (r := some (pvI ((2 * (M.1 142 (Int32.toNatClampNeg ((99 * n1) + (n2 - (M.1 124 3)))))) + (M.1 130 (Int32.toNatClampNeg ((4 * n1) + (n2 - n2 / 4 * 4))))))) (M' := M) ⟨rfl, rfl⟩ ⟨⟨_, rfl, b77_⟩, rfl⟩
                · have b79_ : 0 ≤ Int32.toInt (M.1 125 (Int32.toNatClampNeg n1)) ∧ Int32.toInt (M.1 125 (Int32.toNatClampNeg n1)) ≤ 1 := (by have u0 := b35_; have u9 := (show _ ∧ _ from ⟨(not_congr (zi_eq _ _)).mp c67_, (show 6 ≤ Int32.toInt 6 ∧ Int32.toInt 6 ≤ 6 from (by decide))⟩); have v1 := (not_congr (zi_eq _ _)).mp c57_; have w1 : (5 : Int32).toInt = 5 := (by decide); have v2 := (not_congr (zi_eq _ _)).mp c44_; have w2 : (4 : Int32).toInt = 4 := (by decide); have v3 := (not_congr (zi_eq _ _)).mp c40_; have w3 : (3 : Int32).toInt = 3 := (by decide); have v4 := (not_congr (zi_eq _ _)).mp c36_; have w4 : (2 : Int32).toInt = 2 := (by decide); omega)
                  show PW 26 d (160, [some (pvR 124), some (pvI n1), some (pvI n2), some (pvI (n2 - (M.1 124 3))), some (pvI (M.1 142 (Int32.toNatClampNeg ((99 * n1) + (n2 - (M.1 124 3))))))], [], M) _
                  refine pw_blk hT 1 (S' := (162, [some (pvR 124), some (pvI n1), some (pvI n2), some (pvI (n2 - (M.1 124 3))), some (pvI (M.1 142 (Int32.toNatClampNeg ((99 * n1) + (n2 - (M.1 124 3))))))], [pvI (M.1 142 (Int32.toNatClampNeg ((99 * n1) + (n2 - (M.1 124 3)))))], M)) rfl ⟨trivial, trivial⟩ ?_
                  exact pw_ret hT rfl (r := some (pvI (M.1 142 (Int32.toNatClampNeg ((99 * n1) + (n2 - (M.1 124 3))))))) (M' := M) ⟨rfl, rfl⟩ ⟨⟨_, rfl, (zr_wide b34_ (by decide) (by decide))⟩, rfl⟩
