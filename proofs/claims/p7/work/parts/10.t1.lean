set_option maxHeartbeats 4000000 in
set_option maxRecDepth 10000 in
theorem sf_X10_in_124_x_x_x (M : pvM) (hok : pvOk M) (n1 : Int32) (n2 : Int32) (n3 : Int32) (d : Nat) : PW 36 d (0, [some (pvR 124), some (pvI n1), some (pvI n2), some (pvI n3)], [], M) (fun r X => r = some (pvI ((if n1 < n2 then 0 else (if n3 < n1 then 0 else 1)))) ∧ X = M) := by
  have hT : pvdom 36 = pvD_36 := rfl
  refine pw_blk hT 2 (S' := (2, [some (pvR 124), some (pvI n1), some (pvI n2), some (pvI n3)], [pvI n2, pvI n1], M)) rfl ⟨trivial, trivial, trivial⟩ ?_
  refine pw_ic hT (c := n1 < n2) rfl rfl (fun c1_ => ?_) (fun c1_ => ?_)
  · have b2_ : (-2147483648) ≤ Int32.toInt n1 ∧ Int32.toInt n1 ≤ 2147483646 := zr_lt_l 2147483646 c1_ (zbnd n1) (zbnd n2) (by decide)
    have b3_ : (-2147483647) ≤ Int32.toInt n2 ∧ Int32.toInt n2 ≤ 2147483647 := zr_lt_r (-2147483647) c1_ (zbnd n2) b2_ (by decide)
    have d4_ : Int32.toInt n1 < Int32.toInt n2 := (zi_lt _ _).mp c1_
    refine pw_blk hT 1 (S' := (15, [some (pvR 124), some (pvI n1), some (pvI n2), some (pvI n3)], [pvI 0], M)) rfl ⟨trivial, trivial⟩ ?_
    exact pw_ret hT rfl (r := some (pvI 0)) (M' := M) ⟨Or.inl rfl, rfl, rfl⟩ ⟨(by rw [if_pos c1_]), rfl⟩
  · have d5_ : Int32.toInt n1 ≥ Int32.toInt n2 := Int.not_lt.mp ((not_congr (zi_lt _ _)).mp c1_)
    refine pw_blk hT 2 (S' := (7, [some (pvR 124), some (pvI n1), some (pvI n2), some (pvI n3)], [pvI n3, pvI n1], M)) rfl ⟨trivial, trivial, trivial⟩ ?_
    refine pw_ic hT (c := n3 < n1) rfl rfl (fun c6_ => ?_) (fun c6_ => ?_)
    · have b7_ : (-2147483648) ≤ Int32.toInt n3 ∧ Int32.toInt n3 ≤ 2147483646 := zr_lt_l 2147483646 c6_ (zbnd n3) (zbnd n1) (by decide)
      have b8_ : (-2147483647) ≤ Int32.toInt n1 ∧ Int32.toInt n1 ≤ 2147483647 := zr_lt_r (-2147483647) c6_ (zbnd n1) b7_ (by decide)
      have d9_ : Int32.toInt n3 < Int32.toInt n1 := (zi_lt _ _).mp c6_
      refine pw_blk hT 1 (S' := (15, [some (pvR 124), some (pvI n1), some (pvI n2), some (pvI n3)], [pvI 0], M)) rfl ⟨trivial, trivial⟩ ?_
      exact pw_ret hT rfl (r := some (pvI 0)) (M' := M) ⟨Or.inl rfl, rfl, rfl⟩ ⟨(by rw [if_neg c1_, if_pos c6_]), rfl⟩
    · have d10_ : Int32.toInt n3 ≥ Int32.toInt n1 := Int.not_lt.mp ((not_congr (zi_lt _ _)).mp c6_)
      refine pw_blk hT 2 (S' := (15, [some (pvR 124), some (pvI n1), some (pvI n2), some (pvI n3)], [pvI 1], M)) rfl ⟨trivial, trivial, trivial⟩ ?_
      exact pw_ret hT rfl (r := some (pvI 1)) (M' := M) ⟨Or.inr rfl, rfl, rfl⟩ ⟨(by rw [if_neg c1_, if_neg c6_]), rfl⟩
set_option maxHeartbeats 4000000 in
set_option maxRecDepth 10000 in
theorem sf_X10_has_124_x_x (M : pvM) (hok : pvOk M) (n1 : Int32) (n2 : Int32) (d : Nat) : PW 31 d (0, [some (pvR 124), some (pvI n1), some (pvI n2)], [], M) (fun r X => r = some (pvI ((if ((n1 >>> (n2 &&& 31)) &&& 1) = 1 then 1 else 0))) ∧ X = M) := by
  have hT : pvdom 31 = pvD_31 := rfl
  have b1_ : 0 ≤ Int32.toInt ((n1 >>> (n2 &&& 31)) &&& 1) ∧ Int32.toInt ((n1 >>> (n2 &&& 31)) &&& 1) ≤ 1 := (pvand1 (n1 >>> (n2 &&& 31)))
  refine pw_blk hT 6 (S' := (6, [some (pvR 124), some (pvI n1), some (pvI n2)], [pvI 1, pvI ((n1 >>> (n2 &&& 31)) &&& 1)], M)) rfl ⟨trivial, trivial, trivial, trivial, trivial, trivial, trivial⟩ ?_
  refine pw_icn hT (c := ((n1 >>> (n2 &&& 31)) &&& 1) = 1) rfl rfl (fun c2_ => ?_) (fun c2_ => ?_)
  · have b3_ : 0 ≤ Int32.toInt ((n1 >>> (n2 &&& 31)) &&& 1) ∧ Int32.toInt ((n1 >>> (n2 &&& 31)) &&& 1) ≤ 0 := (by have u0 := b1_; have u1 := (not_congr (zi_eq _ _)).mp c2_; have u2 := (show 1 ≤ Int32.toInt 1 ∧ Int32.toInt 1 ≤ 1 from (by decide)); omega)
    refine pw_blk hT 1 (S' := (14, [some (pvR 124), some (pvI n1), some (pvI n2)], [pvI 0], M)) rfl ⟨trivial, trivial⟩ ?_
    exact pw_ret hT rfl (r := some (pvI 0)) (M' := M) ⟨Or.inl rfl, rfl, rfl⟩ ⟨(by rw [if_neg c2_]), rfl⟩
  · have b4_ : 1 ≤ Int32.toInt ((n1 >>> (n2 &&& 31)) &&& 1) ∧ Int32.toInt ((n1 >>> (n2 &&& 31)) &&& 1) ≤ 1 := (by have u0 := b1_; have u1 := (zi_eq _ _).mp c2_; have u2 := (show 1 ≤ Int32.toInt 1 ∧ Int32.toInt 1 ≤ 1 from (by decide)); omega)
    refine pw_blk hT 2 (S' := (14, [some (pvR 124), some (pvI n1), some (pvI n2)], [pvI 1], M)) rfl ⟨trivial, trivial, trivial⟩ ?_
    exact pw_ret hT rfl (r := some (pvI 1)) (M' := M) ⟨Or.inr rfl, rfl, rfl⟩ ⟨(by rw [if_pos c2_]), rfl⟩
set_option maxHeartbeats 4000000 in
set_option maxRecDepth 10000 in
theorem sf_X10_isWindow_124_x (M : pvM) (hok : pvOk M) (n1 : Int32) (d : Nat) : PW 42 d (0, [some (pvR 124), some (pvI n1)], [], M) (fun r X => r = some (pvI ((if n1 < 0 then 0 else (if ((M.1 124 0) - 1) < n1 then 0 else 1)))) ∧ X = M) := by
  have hT : pvdom 42 = pvD_42 := rfl
  have b1_ : 0 ≤ Int32.toInt (M.1 124 0) ∧ Int32.toInt (M.1 124 0) ≤ 7 := pvok_r hok 124 0 rfl
  obtain ⟨q3_, b2_⟩ : (Int32.toInt ((M.1 124 0) - 1) = Int32.toInt (M.1 124 0) - Int32.toInt 1) ∧ ((-1) ≤ Int32.toInt ((M.1 124 0) - 1) ∧ Int32.toInt ((M.1 124 0) - 1) ≤ 6) := zsub_r (M.1 124 0) 1 (-1) 6 b1_ (show 1 ≤ Int32.toInt 1 ∧ Int32.toInt 1 ≤ 1 from (by decide)) (by decide) (by decide) (by decide) (by decide)
  have u4_ : Int32.toInt 1 = 1 := by decide
  refine pw_blk hT 7 (S' := (9, [some (pvR 124), some (pvI n1)], [pvI ((M.1 124 0) - 1), pvI 0, pvI n1, pvR 124], M)) rfl ⟨trivial, trivial, trivial, trivial, rfl, trivial, trivial, trivial⟩ ?_
  refine pw_callT hT (as := [pvR 124, pvI n1, pvI 0, pvI ((M.1 124 0) - 1)]) (lo1 := [some (pvR 124), some (pvI n1), some (pvI 0), some (pvI ((M.1 124 0) - 1))]) (d1 := d) (rest := []) rfl rfl rfl rfl rfl (fun _ => rfl) (Nat.zero_le _) rfl rfl rfl (sf_X10_in_124_x_x_x M hok n1 0 ((M.1 124 0) - 1) d) ?_
  by_cases c10_ : n1 < 0
  · rw [if_pos c10_]
    have b11_ : (-2147483648) ≤ Int32.toInt n1 ∧ Int32.toInt n1 ≤ (-1) := zr_lt_l (-1) c10_ (zbnd n1) (show 0 ≤ Int32.toInt 0 ∧ Int32.toInt 0 ≤ 0 from (by decide)) (by decide)
    show PW 42 d (12, [some (pvR 124), some (pvI n1)], [pvI 0], M) _
    exact pw_ret hT rfl (r := some (pvI 0)) (M' := M) ⟨Or.inl rfl, rfl, rfl⟩ ⟨(by rw [if_pos c10_]), rfl⟩
  · rw [if_neg c10_]
    have b12_ : 0 ≤ Int32.toInt n1 ∧ Int32.toInt n1 ≤ 2147483647 := zr_nlt_l 0 c10_ (zbnd n1) (show 0 ≤ Int32.toInt 0 ∧ Int32.toInt 0 ≤ 0 from (by decide)) (by decide)
    by_cases c13_ : ((M.1 124 0) - 1) < n1
    · rw [if_pos c13_]
      have d14_ : Int32.toInt ((M.1 124 0) - 1) < Int32.toInt n1 := (zi_lt _ _).mp c13_
      show PW 42 d (12, [some (pvR 124), some (pvI n1)], [pvI 0], M) _
      exact pw_ret hT rfl (r := some (pvI 0)) (M' := M) ⟨Or.inl rfl, rfl, rfl⟩ ⟨(by rw [if_neg c10_, if_pos c13_]), rfl⟩
    · rw [if_neg c13_]
      have b15_ : 0 ≤ Int32.toInt ((M.1 124 0) - 1) ∧ Int32.toInt ((M.1 124 0) - 1) ≤ 6 := zr_nlt_l 0 c13_ b2_ b12_ (by decide)
      have b16_ : 0 ≤ Int32.toInt n1 ∧ Int32.toInt n1 ≤ 6 := zr_nlt_r 6 c13_ b12_ b15_ (by decide)
      have d17_ : Int32.toInt ((M.1 124 0) - 1) ≥ Int32.toInt n1 := Int.not_lt.mp ((not_congr (zi_lt _ _)).mp c13_)
      show PW 42 d (12, [some (pvR 124), some (pvI n1)], [pvI 1], M) _
      exact pw_ret hT rfl (r := some (pvI 1)) (M' := M) ⟨Or.inr rfl, rfl, rfl⟩ ⟨(by rw [if_neg c10_, if_neg c13_]), rfl⟩
def fp_X10_feed_124_x (q k : Nat) : Bool := (Nat.beq q 124 && Nat.beq k 16) || Nat.beq q 132
set_option maxHeartbeats 4000000 in
set_option maxRecDepth 10000 in
theorem sf_X10_feed_124_x (M : pvM) (hok : pvOk M) (n1 : Int32) (d : Nat) : PW 20 d (0, [some (pvR 124), some (pvI n1)], [], M) (fun r X => (∃ x : Int32, r = some (pvI x) ∧ (-4) ≤ Int32.toInt x ∧ Int32.toInt x ≤ 100) ∧ pvOk X ∧ pvFr fp_X10_feed_124_x M X) := by
  have hT : pvdom 20 = pvD_20 := rfl
  refine pw_blk hT 4 (S' := (5, [some (pvR 124), some (pvI n1)], [pvI 127, pvI 0, pvI n1, pvR 124], M)) rfl ⟨trivial, trivial, trivial, trivial, trivial⟩ ?_
  refine pw_callT hT (as := [pvR 124, pvI n1, pvI 0, pvI 127]) (lo1 := [some (pvR 124), some (pvI n1), some (pvI 0), some (pvI 127)]) (d1 := d) (rest := []) rfl rfl rfl rfl rfl (fun _ => rfl) (Nat.zero_le _) rfl rfl rfl (sf_X10_in_124_x_x_x M hok n1 0 127 d) ?_
  by_cases c6_ : n1 < 0
  · rw [if_pos c6_]
    have b7_ : (-2147483648) ≤ Int32.toInt n1 ∧ Int32.toInt n1 ≤ (-1) := zr_lt_l (-1) c6_ (zbnd n1) (show 0 ≤ Int32.toInt 0 ∧ Int32.toInt 0 ≤ 0 from (by decide)) (by decide)
    show PW 20 d (8, [some (pvR 124), some (pvI n1)], [pvI 0], M) _
    refine pw_ifn hT (c := 0 = 0) rfl rfl (fun c8_ => absurd (by decide) c8_) (fun c8_ => ?_)
    refine pw_blk hT 1 (S' := (13, [some (pvR 124), some (pvI n1)], [pvI (-2)], M)) rfl ⟨trivial, trivial⟩ ?_
    exact pw_ret hT rfl (r := some (pvI (-2))) (M' := M) ⟨rfl, rfl⟩ ⟨⟨_, rfl, (zr_wide (show (-2) ≤ Int32.toInt (-2) ∧ Int32.toInt (-2) ≤ (-2) from (by decide)) (by decide) (by decide))⟩, hok, pvfr_0⟩
  · rw [if_neg c6_]
    have b9_ : 0 ≤ Int32.toInt n1 ∧ Int32.toInt n1 ≤ 2147483647 := zr_nlt_l 0 c6_ (zbnd n1) (show 0 ≤ Int32.toInt 0 ∧ Int32.toInt 0 ≤ 0 from (by decide)) (by decide)
    by_cases c10_ : 127 < n1
    · rw [if_pos c10_]
      have b11_ : 128 ≤ Int32.toInt n1 ∧ Int32.toInt n1 ≤ 2147483647 := zr_lt_r 128 c10_ b9_ (show 127 ≤ Int32.toInt 127 ∧ Int32.toInt 127 ≤ 127 from (by decide)) (by decide)
      show PW 20 d (8, [some (pvR 124), some (pvI n1)], [pvI 0], M) _
      refine pw_ifn hT (c := 0 = 0) rfl rfl (fun c12_ => absurd (by decide) c12_) (fun c12_ => ?_)
      refine pw_blk hT 1 (S' := (13, [some (pvR 124), some (pvI n1)], [pvI (-2)], M)) rfl ⟨trivial, trivial⟩ ?_
      exact pw_ret hT rfl (r := some (pvI (-2))) (M' := M) ⟨rfl, rfl⟩ ⟨⟨_, rfl, (zr_wide (show (-2) ≤ Int32.toInt (-2) ∧ Int32.toInt (-2) ≤ (-2) from (by decide)) (by decide) (by decide))⟩, hok, pvfr_0⟩
    · rw [if_neg c10_]
      have b13_ : 0 ≤ Int32.toInt n1 ∧ Int32.toInt n1 ≤ 127 := zr_nlt_r 127 c10_ b9_ (show 127 ≤ Int32.toInt 127 ∧ Int32.toInt 127 ≤ 127 from (by decide)) (by decide)
      show PW 20 d (8, [some (pvR 124), some (pvI n1)], [pvI 1], M) _
      refine pw_ifn hT (c := 1 = 0) rfl rfl (fun c14_ => ?_) (fun c14_ => absurd c14_ (by decide))
      have b15_ : 0 ≤ Int32.toInt (M.1 124 16) ∧ Int32.toInt (M.1 124 16) ≤ 100 := pvok_r hok 124 16 rfl
      refine pw_blk hT 3 (S' := (20, [some (pvR 124), some (pvI n1)], [pvI 100, pvI (M.1 124 16)], M)) rfl ⟨trivial, rfl, trivial, trivial⟩ ?_
      refine pw_icn hT (c := (M.1 124 16) = 100) rfl rfl (fun c16_ => ?_) (fun c16_ => ?_)
      · have b17_ : 0 ≤ Int32.toInt (M.1 124 16) ∧ Int32.toInt (M.1 124 16) ≤ 99 := (by have u0 := b15_; have u1 := (not_congr (zi_eq _ _)).mp c16_; have u2 := (show 100 ≤ Int32.toInt 100 ∧ Int32.toInt 100 ≤ 100 from (by decide)); omega)
        refine pw_blkw hT 6 (pc := 36) (lo := [some (pvR 124), some (pvI n1)]) (st := []) (M := pvu M 132 (Int32.toNatClampNeg (M.1 124 16)) n1) rfl ⟨trivial, rfl, trivial, rfl, trivial, ⟨rfl, (zr_in (n := 100) b17_ (by decide) (by decide))⟩, trivial⟩ (fun M18_ e19_ => ?_)
        have o20_ : pvOk M18_ := pvok_u2 e19_ hok rfl b13_
        have f21_ : pvFr fp_X10_feed_124_x M M18_ := pvfr_u e19_ pvfr_0 rfl
        have e22_ : (M18_.1 124 16) = (M.1 124 16) := (pvu_n e19_ 124 16 (Or.inl (by decide)))
        have b23_ : 0 ≤ Int32.toInt (M18_.1 124 16) ∧ Int32.toInt (M18_.1 124 16) ≤ 99 := (by rw [e22_]; exact b17_)
        obtain ⟨q25_, b24_⟩ : (Int32.toInt ((M18_.1 124 16) + 1) = Int32.toInt (M18_.1 124 16) + Int32.toInt 1) ∧ (1 ≤ Int32.toInt ((M18_.1 124 16) + 1) ∧ Int32.toInt ((M18_.1 124 16) + 1) ≤ 100) := zadd_r (M18_.1 124 16) 1 1 100 b23_ (show 1 ≤ Int32.toInt 1 ∧ Int32.toInt 1 ≤ 1 from (by decide)) (by decide) (by decide) (by decide) (by decide)
        have u26_ : Int32.toInt 1 = 1 := by decide
        refine pw_blkw hT 6 (pc := 46) (lo := [some (pvR 124), some (pvI n1)]) (st := []) (M := pvu M18_ 124 16 ((M18_.1 124 16) + 1)) rfl ⟨trivial, trivial, rfl, trivial, trivial, rfl, trivial⟩ (fun M27_ e28_ => ?_)
        have o29_ : pvOk M27_ := pvok_u2 e28_ o20_ rfl (zr_wide b24_ (by decide) (by decide))
        have f30_ : pvFr fp_X10_feed_124_x M M27_ := pvfr_u e28_ f21_ rfl
        have e31_ : (M27_.1 124 16) = ((M18_.1 124 16) + 1) := (pvu_s e28_)
        have b32_ : 1 ≤ Int32.toInt (M27_.1 124 16) ∧ Int32.toInt (M27_.1 124 16) ≤ 100 := (by rw [e31_]; exact b24_)
        refine pw_blk hT 2 (S' := (50, [some (pvR 124), some (pvI n1)], [pvI (M27_.1 124 16)], M27_)) rfl ⟨trivial, rfl, trivial⟩ ?_
        exact pw_ret hT rfl (r := some (pvI (M27_.1 124 16))) (M' := M27_) ⟨rfl, rfl⟩ ⟨⟨_, rfl, (zr_wide b32_ (by decide) (by decide))⟩, o29_, f30_⟩
      · have b33_ : 100 ≤ Int32.toInt (M.1 124 16) ∧ Int32.toInt (M.1 124 16) ≤ 100 := (by have u0 := b15_; have u1 := (zi_eq _ _).mp c16_; have u2 := (show 100 ≤ Int32.toInt 100 ∧ Int32.toInt 100 ≤ 100 from (by decide)); omega)
        refine pw_blk hT 1 (S' := (25, [some (pvR 124), some (pvI n1)], [pvI (-4)], M)) rfl ⟨trivial, trivial⟩ ?_
        exact pw_ret hT rfl (r := some (pvI (-4))) (M' := M) ⟨rfl, rfl⟩ ⟨⟨_, rfl, (zr_wide (show (-4) ≤ Int32.toInt (-4) ∧ Int32.toInt (-4) ≤ (-4) from (by decide)) (by decide) (by decide))⟩, hok, pvfr_0⟩
def fp_X10_storm_124_x_x (q k : Nat) : Bool := (Nat.beq q 124 && Nat.beq k 3) || (Nat.beq q 124 && Nat.beq k 4)
set_option maxHeartbeats 4000000 in
set_option maxRecDepth 10000 in
theorem sf_X10_storm_124_x_x (M : pvM) (hok : pvOk M) (n1 : Int32) (n2 : Int32) (d : Nat) : PW 80 d (0, [some (pvR 124), some (pvI n1), some (pvI n2), none], [], M) (fun r X => (∃ x : Int32, r = some (pvI x) ∧ (-2) ≤ Int32.toInt x ∧ Int32.toInt x ≤ 108) ∧ pvOk X ∧ pvFr fp_X10_storm_124_x_x M X) := by
  have hT : pvdom 80 = pvD_80 := rfl
  refine pw_blk hT 4 (S' := (4, [some (pvR 124), some (pvI n1), some (pvI n2), none], [pvI 3, pvI 0, pvI n2, pvR 124], M)) rfl ⟨trivial, trivial, trivial, trivial, trivial⟩ ?_
  refine pw_callT hT (as := [pvR 124, pvI n2, pvI 0, pvI 3]) (lo1 := [some (pvR 124), some (pvI n2), some (pvI 0), some (pvI 3)]) (d1 := d) (rest := []) rfl rfl rfl rfl rfl (fun _ => rfl) (Nat.zero_le _) rfl rfl rfl (sf_X10_in_124_x_x_x M hok n2 0 3 d) ?_
  by_cases c6_ : n2 < 0
  · rw [if_pos c6_]
    have b7_ : (-2147483648) ≤ Int32.toInt n2 ∧ Int32.toInt n2 ≤ (-1) := zr_lt_l (-1) c6_ (zbnd n2) (show 0 ≤ Int32.toInt 0 ∧ Int32.toInt 0 ≤ 0 from (by decide)) (by decide)
    show PW 80 d (7, [some (pvR 124), some (pvI n1), some (pvI n2), none], [pvI 0], M) _
    refine pw_ifn hT (c := 0 = 0) rfl rfl (fun c8_ => absurd (by decide) c8_) (fun c8_ => ?_)
    refine pw_blk hT 1 (S' := (11, [some (pvR 124), some (pvI n1), some (pvI n2), none], [pvI (-1)], M)) rfl ⟨trivial, trivial⟩ ?_
    exact pw_ret hT rfl (r := some (pvI (-1))) (M' := M) ⟨rfl, rfl⟩ ⟨⟨_, rfl, (zr_wide (show (-1) ≤ Int32.toInt (-1) ∧ Int32.toInt (-1) ≤ (-1) from (by decide)) (by decide) (by decide))⟩, hok, pvfr_0⟩
  · rw [if_neg c6_]
    have b9_ : 0 ≤ Int32.toInt n2 ∧ Int32.toInt n2 ≤ 2147483647 := zr_nlt_l 0 c6_ (zbnd n2) (show 0 ≤ Int32.toInt 0 ∧ Int32.toInt 0 ≤ 0 from (by decide)) (by decide)
    by_cases c10_ : 3 < n2
    · rw [if_pos c10_]
      have b11_ : 4 ≤ Int32.toInt n2 ∧ Int32.toInt n2 ≤ 2147483647 := zr_lt_r 4 c10_ b9_ (show 3 ≤ Int32.toInt 3 ∧ Int32.toInt 3 ≤ 3 from (by decide)) (by decide)
      show PW 80 d (7, [some (pvR 124), some (pvI n1), some (pvI n2), none], [pvI 0], M) _
      refine pw_ifn hT (c := 0 = 0) rfl rfl (fun c12_ => absurd (by decide) c12_) (fun c12_ => ?_)
      refine pw_blk hT 1 (S' := (11, [some (pvR 124), some (pvI n1), some (pvI n2), none], [pvI (-1)], M)) rfl ⟨trivial, trivial⟩ ?_
      exact pw_ret hT rfl (r := some (pvI (-1))) (M' := M) ⟨rfl, rfl⟩ ⟨⟨_, rfl, (zr_wide (show (-1) ≤ Int32.toInt (-1) ∧ Int32.toInt (-1) ≤ (-1) from (by decide)) (by decide) (by decide))⟩, hok, pvfr_0⟩
    · rw [if_neg c10_]
      have b13_ : 0 ≤ Int32.toInt n2 ∧ Int32.toInt n2 ≤ 3 := zr_nlt_r 3 c10_ b9_ (show 3 ≤ Int32.toInt 3 ∧ Int32.toInt 3 ≤ 3 from (by decide)) (by decide)
      show PW 80 d (7, [some (pvR 124), some (pvI n1), some (pvI n2), none], [pvI 1], M) _
      refine pw_ifn hT (c := 1 = 0) rfl rfl (fun c14_ => ?_) (fun c14_ => absurd c14_ (by decide))
      refine pw_blk hT 4 (S' := (17, [some (pvR 124), some (pvI n1), some (pvI n2), none], [pvI 99, pvI 0, pvI n1, pvR 124], M)) rfl ⟨trivial, trivial, trivial, trivial, trivial⟩ ?_
      refine pw_callT hT (as := [pvR 124, pvI n1, pvI 0, pvI 99]) (lo1 := [some (pvR 124), some (pvI n1), some (pvI 0), some (pvI 99)]) (d1 := d) (rest := []) rfl rfl rfl rfl rfl (fun _ => rfl) (Nat.zero_le _) rfl rfl rfl (sf_X10_in_124_x_x_x M hok n1 0 99 d) ?_
      by_cases c20_ : n1 < 0
      · rw [if_pos c20_]
        have b21_ : (-2147483648) ≤ Int32.toInt n1 ∧ Int32.toInt n1 ≤ (-1) := zr_lt_l (-1) c20_ (zbnd n1) (show 0 ≤ Int32.toInt 0 ∧ Int32.toInt 0 ≤ 0 from (by decide)) (by decide)
        show PW 80 d (20, [some (pvR 124), some (pvI n1), some (pvI n2), none], [pvI 0], M) _
        refine pw_ifn hT (c := 0 = 0) rfl rfl (fun c22_ => absurd (by decide) c22_) (fun c22_ => ?_)
        refine pw_blk hT 1 (S' := (25, [some (pvR 124), some (pvI n1), some (pvI n2), none], [pvI (-2)], M)) rfl ⟨trivial, trivial⟩ ?_
        exact pw_ret hT rfl (r := some (pvI (-2))) (M' := M) ⟨rfl, rfl⟩ ⟨⟨_, rfl, (zr_wide (show (-2) ≤ Int32.toInt (-2) ∧ Int32.toInt (-2) ≤ (-2) from (by decide)) (by decide) (by decide))⟩, hok, pvfr_0⟩
      · rw [if_neg c20_]
        have b23_ : 0 ≤ Int32.toInt n1 ∧ Int32.toInt n1 ≤ 2147483647 := zr_nlt_l 0 c20_ (zbnd n1) (show 0 ≤ Int32.toInt 0 ∧ Int32.toInt 0 ≤ 0 from (by decide)) (by decide)
        by_cases c24_ : 99 < n1
        · rw [if_pos c24_]
          have b25_ : 100 ≤ Int32.toInt n1 ∧ Int32.toInt n1 ≤ 2147483647 := zr_lt_r 100 c24_ b23_ (show 99 ≤ Int32.toInt 99 ∧ Int32.toInt 99 ≤ 99 from (by decide)) (by decide)
          show PW 80 d (20, [some (pvR 124), some (pvI n1), some (pvI n2), none], [pvI 0], M) _
          refine pw_ifn hT (c := 0 = 0) rfl rfl (fun c26_ => absurd (by decide) c26_) (fun c26_ => ?_)
          refine pw_blk hT 1 (S' := (25, [some (pvR 124), some (pvI n1), some (pvI n2), none], [pvI (-2)], M)) rfl ⟨trivial, trivial⟩ ?_
          exact pw_ret hT rfl (r := some (pvI (-2))) (M' := M) ⟨rfl, rfl⟩ ⟨⟨_, rfl, (zr_wide (show (-2) ≤ Int32.toInt (-2) ∧ Int32.toInt (-2) ≤ (-2) from (by decide)) (by decide) (by decide))⟩, hok, pvfr_0⟩
        · rw [if_neg c24_]
          have b27_ : 0 ≤ Int32.toInt n1 ∧ Int32.toInt n1 ≤ 99 := zr_nlt_r 99 c24_ b23_ (show 99 ≤ Int32.toInt 99 ∧ Int32.toInt 99 ≤ 99 from (by decide)) (by decide)
          show PW 80 d (20, [some (pvR 124), some (pvI n1), some (pvI n2), none], [pvI 1], M) _
          refine pw_ifn hT (c := 1 = 0) rfl rfl (fun c28_ => ?_) (fun c28_ => absurd c28_ (by decide))
          have b29_ : 0 ≤ Int32.toInt (M.1 124 3) ∧ Int32.toInt (M.1 124 3) ≤ 108 := pvok_r hok 124 3 rfl
          refine pw_blkw hT 6 (pc := 36) (lo := [some (pvR 124), some (pvI n1), some (pvI n2), some (pvI (M.1 124 3))]) (st := []) (M := pvu M 124 3 n1) rfl ⟨trivial, rfl, trivial, trivial, trivial, rfl, trivial⟩ (fun M30_ e31_ => ?_)
          have o32_ : pvOk M30_ := pvok_u2 e31_ hok rfl (zr_wide b27_ (by decide) (by decide))
          have f33_ : pvFr fp_X10_storm_124_x_x M M30_ := pvfr_u e31_ pvfr_0 rfl
          refine pw_blkw hT 3 (pc := 41) (lo := [some (pvR 124), some (pvI n1), some (pvI n2), some (pvI (M.1 124 3))]) (st := []) (M := pvu M30_ 124 4 n2) rfl ⟨trivial, trivial, rfl, trivial⟩ (fun M34_ e35_ => ?_)
          have o36_ : pvOk M34_ := pvok_u2 e35_ o32_ rfl b13_
          have f37_ : pvFr fp_X10_storm_124_x_x M M34_ := pvfr_u e35_ f33_ rfl
          refine pw_blk hT 1 (S' := (42, [some (pvR 124), some (pvI n1), some (pvI n2), some (pvI (M.1 124 3))], [pvI (M.1 124 3)], M34_)) rfl ⟨trivial, trivial⟩ ?_
          exact pw_ret hT rfl (r := some (pvI (M.1 124 3))) (M' := M34_) ⟨rfl, rfl⟩ ⟨⟨_, rfl, (zr_wide b29_ (by decide) (by decide))⟩, o36_, f37_⟩
def fp_X10_put_124_x_x (q k : Nat) : Bool := Nat.beq q 131
set_option maxHeartbeats 4000000 in
set_option maxRecDepth 10000 in
theorem sf_X10_put_124_x_x (M : pvM) (hok : pvOk M) (n1 : Int32) (n2 : Int32) (hn2 : 0 ≤ Int32.toInt n2 ∧ Int32.toInt n2 ≤ 1) (d : Nat) : PW 66 d (0, [some (pvR 124), some (pvI n1), some (pvI n2), none], [], M) (fun r X => (∃ x : Int32, r = some (pvI x) ∧ (-1) ≤ Int32.toInt x ∧ Int32.toInt x ≤ 1) ∧ pvOk X ∧ pvFr fp_X10_put_124_x_x M X) := by
  have hT : pvdom 66 = pvD_66 := rfl
  refine pw_blk hT 2 (S' := (2, [some (pvR 124), some (pvI n1), some (pvI n2), none], [pvI n1, pvR 124], M)) rfl ⟨trivial, trivial, trivial⟩ ?_
  refine pw_callT hT (as := [pvR 124, pvI n1]) (lo1 := [some (pvR 124), some (pvI n1)]) (d1 := d) (rest := []) rfl rfl rfl rfl rfl (fun _ => rfl) (Nat.zero_le _) rfl rfl rfl (sf_X10_isWindow_124_x M hok n1 d) ?_
  by_cases c6_ : n1 < 0
  · rw [if_pos c6_]
    have b7_ : (-2147483648) ≤ Int32.toInt n1 ∧ Int32.toInt n1 ≤ (-1) := zr_lt_l (-1) c6_ (zbnd n1) (show 0 ≤ Int32.toInt 0 ∧ Int32.toInt 0 ≤ 0 from (by decide)) (by decide)
    show PW 66 d (5, [some (pvR 124), some (pvI n1), some (pvI n2), none], [pvI 0], M) _
    refine pw_ifn hT (c := 0 = 0) rfl rfl (fun c8_ => absurd (by decide) c8_) (fun c8_ => ?_)
    refine pw_blk hT 1 (S' := (9, [some (pvR 124), some (pvI n1), some (pvI n2), none], [pvI (-1)], M)) rfl ⟨trivial, trivial⟩ ?_
    exact pw_ret hT rfl (r := some (pvI (-1))) (M' := M) ⟨rfl, rfl⟩ ⟨⟨_, rfl, (zr_wide (show (-1) ≤ Int32.toInt (-1) ∧ Int32.toInt (-1) ≤ (-1) from (by decide)) (by decide) (by decide))⟩, hok, pvfr_0⟩
  · rw [if_neg c6_]
    have b9_ : 0 ≤ Int32.toInt n1 ∧ Int32.toInt n1 ≤ 2147483647 := zr_nlt_l 0 c6_ (zbnd n1) (show 0 ≤ Int32.toInt 0 ∧ Int32.toInt 0 ≤ 0 from (by decide)) (by decide)
    have b10_ : 0 ≤ Int32.toInt (M.1 124 0) ∧ Int32.toInt (M.1 124 0) ≤ 7 := pvok_r hok 124 0 rfl
    obtain ⟨q12_, b11_⟩ : (Int32.toInt ((M.1 124 0) - 1) = Int32.toInt (M.1 124 0) - Int32.toInt 1) ∧ ((-1) ≤ Int32.toInt ((M.1 124 0) - 1) ∧ Int32.toInt ((M.1 124 0) - 1) ≤ 6) := zsub_r (M.1 124 0) 1 (-1) 6 b10_ (show 1 ≤ Int32.toInt 1 ∧ Int32.toInt 1 ≤ 1 from (by decide)) (by decide) (by decide) (by decide) (by decide)
    have u13_ : Int32.toInt 1 = 1 := by decide
    by_cases c14_ : ((M.1 124 0) - 1) < n1
    · rw [if_pos c14_]
      have d15_ : Int32.toInt ((M.1 124 0) - 1) < Int32.toInt n1 := (zi_lt _ _).mp c14_
      show PW 66 d (5, [some (pvR 124), some (pvI n1), some (pvI n2), none], [pvI 0], M) _
      refine pw_ifn hT (c := 0 = 0) rfl rfl (fun c16_ => absurd (by decide) c16_) (fun c16_ => ?_)
      refine pw_blk hT 1 (S' := (9, [some (pvR 124), some (pvI n1), some (pvI n2), none], [pvI (-1)], M)) rfl ⟨trivial, trivial⟩ ?_
      exact pw_ret hT rfl (r := some (pvI (-1))) (M' := M) ⟨rfl, rfl⟩ ⟨⟨_, rfl, (zr_wide (show (-1) ≤ Int32.toInt (-1) ∧ Int32.toInt (-1) ≤ (-1) from (by decide)) (by decide) (by decide))⟩, hok, pvfr_0⟩
    · rw [if_neg c14_]
      have b17_ : 0 ≤ Int32.toInt ((M.1 124 0) - 1) ∧ Int32.toInt ((M.1 124 0) - 1) ≤ 6 := zr_nlt_l 0 c14_ b11_ b9_ (by decide)
      have b18_ : 0 ≤ Int32.toInt n1 ∧ Int32.toInt n1 ≤ 6 := zr_nlt_r 6 c14_ b9_ b17_ (by decide)
      have d19_ : Int32.toInt ((M.1 124 0) - 1) ≥ Int32.toInt n1 := Int.not_lt.mp ((not_congr (zi_lt _ _)).mp c14_)
      show PW 66 d (5, [some (pvR 124), some (pvI n1), some (pvI n2), none], [pvI 1], M) _
      refine pw_ifn hT (c := 1 = 0) rfl rfl (fun c20_ => ?_) (fun c20_ => absurd c20_ (by decide))
      have b21_ : 0 ≤ Int32.toInt (M.1 131 (Int32.toNatClampNeg n1)) ∧ Int32.toInt (M.1 131 (Int32.toNatClampNeg n1)) ≤ 1 := pvok_r hok 131 (Int32.toNatClampNeg n1) rfl
      refine pw_blk hT 4 (S' := (16, [some (pvR 124), some (pvI n1), some (pvI n2), none], [pvI (M.1 131 (Int32.toNatClampNeg n1))], M)) rfl ⟨trivial, rfl, trivial, ⟨rfl, (zr_in (n := 7) b18_ (by decide) (by decide))⟩, trivial⟩ ?_
      refine pw_if hT (c := (M.1 131 (Int32.toNatClampNeg n1)) = 0) rfl rfl (fun c22_ => ?_) (fun c22_ => ?_)
      · have b23_ : 0 ≤ Int32.toInt (M.1 131 (Int32.toNatClampNeg n1)) ∧ Int32.toInt (M.1 131 (Int32.toNatClampNeg n1)) ≤ 0 := (by have u0 := b21_; have u1 := (zi_eq _ _).mp c22_; have u2 := (show 0 ≤ Int32.toInt 0 ∧ Int32.toInt 0 ≤ 0 from (by decide)); omega)
        refine pw_blkw hT 7 (pc := 32) (lo := [some (pvR 124), some (pvI n1), some (pvI n2), some (pvI 0)]) (st := []) (M := pvu M 131 (Int32.toNatClampNeg n1) (vp_nar .boolean n2)) rfl ⟨trivial, trivial, trivial, rfl, trivial, trivial, ⟨rfl, (zr_in (n := 7) b18_ (by decide) (by decide))⟩, trivial⟩ (fun M24_ e25_ => ?_)
        have o26_ : pvOk M24_ := pvok_u2 e25_ hok rfl (zboolr n2)
        have f27_ : pvFr fp_X10_put_124_x_x M M24_ := pvfr_u e25_ pvfr_0 rfl
        refine pw_blk hT 1 (S' := (33, [some (pvR 124), some (pvI n1), some (pvI n2), some (pvI 0)], [pvI 0], M24_)) rfl ⟨trivial, trivial⟩ ?_
        exact pw_ret hT rfl (r := some (pvI 0)) (M' := M24_) ⟨rfl, rfl⟩ ⟨⟨_, rfl, (zr_wide (show 0 ≤ Int32.toInt 0 ∧ Int32.toInt 0 ≤ 0 from (by decide)) (by decide) (by decide))⟩, o26_, f27_⟩
      · have b28_ : 1 ≤ Int32.toInt (M.1 131 (Int32.toNatClampNeg n1)) ∧ Int32.toInt (M.1 131 (Int32.toNatClampNeg n1)) ≤ 1 := (by have u0 := b21_; have u1 := (not_congr (zi_eq _ _)).mp c22_; have u2 := (show 0 ≤ Int32.toInt 0 ∧ Int32.toInt 0 ≤ 0 from (by decide)); omega)
        refine pw_blkw hT 8 (pc := 32) (lo := [some (pvR 124), some (pvI n1), some (pvI n2), some (pvI 1)]) (st := []) (M := pvu M 131 (Int32.toNatClampNeg n1) (vp_nar .boolean n2)) rfl ⟨trivial, trivial, trivial, trivial, rfl, trivial, trivial, ⟨rfl, (zr_in (n := 7) b18_ (by decide) (by decide))⟩, trivial⟩ (fun M29_ e30_ => ?_)
        have o31_ : pvOk M29_ := pvok_u2 e30_ hok rfl (zboolr n2)
        have f32_ : pvFr fp_X10_put_124_x_x M M29_ := pvfr_u e30_ pvfr_0 rfl
        refine pw_blk hT 1 (S' := (33, [some (pvR 124), some (pvI n1), some (pvI n2), some (pvI 1)], [pvI 1], M29_)) rfl ⟨trivial, trivial⟩ ?_
        exact pw_ret hT rfl (r := some (pvI 1)) (M' := M29_) ⟨rfl, rfl⟩ ⟨⟨_, rfl, (zr_wide (show 1 ≤ Int32.toInt 1 ∧ Int32.toInt 1 ≤ 1 from (by decide)) (by decide) (by decide))⟩, o31_, f32_⟩
def fp_X10_layOpen_124 (q k : Nat) : Bool := Nat.beq q 143
set_option maxHeartbeats 4000000 in
set_option maxRecDepth 10000 in
theorem sf_X10_layOpen_124 (M : pvM) (hok : pvOk M) (d : Nat) : PW 48 d (0, [some (pvR 124), none], [], M) (fun r X => r = none ∧ pvOk X ∧ pvFr fp_X10_layOpen_124 M X) := by
  have hT : pvdom 48 = pvD_48 := rfl
  refine pw_blk hT 2 (S' := (2, [some (pvR 124), some (pvI 0)], [], M)) rfl ⟨trivial, trivial, trivial⟩ ?_
  have hlz85_ : ∀ (nz85_ : Nat) (i1z85_ : Int32) (Mz85_ : pvM), (pvOk Mz85_) → (pvFr fp_X10_layOpen_124 M Mz85_) → (0 ≤ Int32.toInt i1z85_ ∧ Int32.toInt i1z85_ ≤ 7) → ((8 - Int32.toInt i1z85_).toNat < nz85_) → PW 48 d (2, [some (pvR 124), some (pvI i1z85_)], [], Mz85_) (fun r X => r = none ∧ pvOk X ∧ pvFr fp_X10_layOpen_124 M X) := by
    intro nz85_
    induction nz85_ with
    | zero => intro i1z85_ Mz85_ oz85_ fz85_ h1z85_ hmz85_; exact absurd hmz85_ (Nat.not_lt_zero _)
    | succ nz85_ ihz85_ =>
      intro i1z85_ Mz85_ oz85_ fz85_ h1z85_ hmz85_
      refine pw_blk hT 2 (S' := (5, [some (pvR 124), some (pvI i1z85_)], [pvI 7, pvI i1z85_], Mz85_)) rfl ⟨trivial, trivial, trivial⟩ ?_
      refine pw_ic hT (c := 7 ≤ i1z85_) rfl rfl (fun c86_ => ?_) (fun c86_ => ?_)
      · have b87_ : 7 ≤ Int32.toInt i1z85_ ∧ Int32.toInt i1z85_ ≤ 7 := zr_le_r 7 c86_ h1z85_ (show 7 ≤ Int32.toInt 7 ∧ Int32.toInt 7 ≤ 7 from (by decide)) (by decide)
        exact pw_ret hT rfl (r := none) (M' := Mz85_) ⟨rfl, rfl⟩ ⟨rfl, oz85_, fz85_⟩
      · have b88_ : 0 ≤ Int32.toInt i1z85_ ∧ Int32.toInt i1z85_ ≤ 6 := zr_nle_r 6 c86_ h1z85_ (show 7 ≤ Int32.toInt 7 ∧ Int32.toInt 7 ≤ 7 from (by decide)) (by decide)
        have b89_ : 0 ≤ Int32.toInt (Mz85_.1 131 (Int32.toNatClampNeg i1z85_)) ∧ Int32.toInt (Mz85_.1 131 (Int32.toNatClampNeg i1z85_)) ≤ 1 := pvok_r oz85_ 131 (Int32.toNatClampNeg i1z85_) rfl
        refine pw_blk hT 7 (S' := (19, [some (pvR 124), some (pvI i1z85_)], [pvI (Mz85_.1 131 (Int32.toNatClampNeg i1z85_)), pvI i1z85_, pvR 143], Mz85_)) rfl ⟨trivial, rfl, trivial, trivial, rfl, trivial, ⟨rfl, (zr_in (n := 7) b88_ (by decide) (by decide))⟩, trivial⟩ ?_
        refine pw_if hT (c := (Mz85_.1 131 (Int32.toNatClampNeg i1z85_)) = 0) rfl rfl (fun c90_ => ?_) (fun c90_ => ?_)
        · have b91_ : 0 ≤ Int32.toInt (Mz85_.1 131 (Int32.toNatClampNeg i1z85_)) ∧ Int32.toInt (Mz85_.1 131 (Int32.toNatClampNeg i1z85_)) ≤ 0 := (by have u0 := b89_; have u1 := (zi_eq _ _).mp c90_; have u2 := (show 0 ≤ Int32.toInt 0 ∧ Int32.toInt 0 ≤ 0 from (by decide)); omega)
          refine pw_blkw hT 2 (pc := 30) (lo := [some (pvR 124), some (pvI i1z85_)]) (st := []) (M := pvu Mz85_ 143 (Int32.toNatClampNeg i1z85_) 99999) rfl ⟨trivial, ⟨rfl, (zr_in (n := 7) b88_ (by decide) (by decide))⟩, trivial⟩ (fun M92_ e93_ => ?_)
          have o94_ : pvOk M92_ := pvok_u2 e93_ oz85_ rfl (zr_wide (show 99999 ≤ Int32.toInt 99999 ∧ Int32.toInt 99999 ≤ 99999 from (by decide)) (by decide) (by decide))
          have f95_ : pvFr fp_X10_layOpen_124 M M92_ := pvfr_u e93_ fz85_ rfl
          obtain ⟨q97_, b96_⟩ : (Int32.toInt (i1z85_ + 1) = Int32.toInt i1z85_ + Int32.toInt 1) ∧ (1 ≤ Int32.toInt (i1z85_ + 1) ∧ Int32.toInt (i1z85_ + 1) ≤ 7) := zadd_r i1z85_ 1 1 7 b88_ (show 1 ≤ Int32.toInt 1 ∧ Int32.toInt 1 ≤ 1 from (by decide)) (by decide) (by decide) (by decide) (by decide)
          have u98_ : Int32.toInt 1 = 1 := by decide
          refine pw_blk hT 2 (S' := (2, [some (pvR 124), some (pvI (i1z85_ + 1))], [], M92_)) rfl ⟨trivial, trivial, trivial⟩ ?_
          exact ihz85_ (i1z85_ + 1) M92_ o94_ f95_ (zr_wide b96_ (by decide) (by decide)) (by omega)
        · have b99_ : 1 ≤ Int32.toInt (Mz85_.1 131 (Int32.toNatClampNeg i1z85_)) ∧ Int32.toInt (Mz85_.1 131 (Int32.toNatClampNeg i1z85_)) ≤ 1 := (by have u0 := b89_; have u1 := (not_congr (zi_eq _ _)).mp c90_; have u2 := (show 0 ≤ Int32.toInt 0 ∧ Int32.toInt 0 ≤ 0 from (by decide)); omega)
          refine pw_blkw hT 3 (pc := 30) (lo := [some (pvR 124), some (pvI i1z85_)]) (st := []) (M := pvu Mz85_ 143 (Int32.toNatClampNeg i1z85_) (-1)) rfl ⟨trivial, trivial, ⟨rfl, (zr_in (n := 7) b88_ (by decide) (by decide))⟩, trivial⟩ (fun M100_ e101_ => ?_)
          have o102_ : pvOk M100_ := pvok_u2 e101_ oz85_ rfl (zr_wide (show (-1) ≤ Int32.toInt (-1) ∧ Int32.toInt (-1) ≤ (-1) from (by decide)) (by decide) (by decide))
          have f103_ : pvFr fp_X10_layOpen_124 M M100_ := pvfr_u e101_ fz85_ rfl
          obtain ⟨q105_, b104_⟩ : (Int32.toInt (i1z85_ + 1) = Int32.toInt i1z85_ + Int32.toInt 1) ∧ (1 ≤ Int32.toInt (i1z85_ + 1) ∧ Int32.toInt (i1z85_ + 1) ≤ 7) := zadd_r i1z85_ 1 1 7 b88_ (show 1 ≤ Int32.toInt 1 ∧ Int32.toInt 1 ≤ 1 from (by decide)) (by decide) (by decide) (by decide) (by decide)
          have u106_ : Int32.toInt 1 = 1 := by decide
          refine pw_blk hT 2 (S' := (2, [some (pvR 124), some (pvI (i1z85_ + 1))], [], M100_)) rfl ⟨trivial, trivial, trivial⟩ ?_
          exact ihz85_ (i1z85_ + 1) M100_ o102_ f103_ (zr_wide b104_ (by decide) (by decide)) (by omega)
  exact hlz85_ _ 0 M hok pvfr_0 (zr_wide (show 0 ≤ Int32.toInt 0 ∧ Int32.toInt 0 ≤ 0 from (by decide)) (by decide) (by decide)) (Nat.lt_succ_self _)
def fp_X10_image_124 (q k : Nat) : Bool := (Nat.beq q 124 && Nat.beq k 46) || (Nat.beq q 124 && Nat.beq k 47) || (Nat.beq q 124 && Nat.beq k 48) || (Nat.beq q 124 && Nat.beq k 49) || (Nat.beq q 124 && Nat.beq k 50) || (Nat.beq q 124 && Nat.beq k 51) || (Nat.beq q 124 && Nat.beq k 52) || (Nat.beq q 124 && Nat.beq k 53) || (Nat.beq q 124 && Nat.beq k 54) || (Nat.beq q 124 && Nat.beq k 55) || (Nat.beq q 124 && Nat.beq k 56) || (Nat.beq q 124 && Nat.beq k 57) || Nat.beq q 151 || Nat.beq q 152 || Nat.beq q 153 || Nat.beq q 154 || Nat.beq q 155 || Nat.beq q 156 || Nat.beq q 157 || Nat.beq q 158 || Nat.beq q 159 || Nat.beq q 160 || Nat.beq q 161 || Nat.beq q 162
set_option maxHeartbeats 4000000 in
set_option maxRecDepth 10000 in
theorem sf_X10_image_124 (M : pvM) (hok : pvOk M) (d : Nat) : PW 35 d (0, [some (pvR 124), none], [], M) (fun r X => (∃ x : Int32, r = some (pvI x) ∧ 0 ≤ Int32.toInt x ∧ Int32.toInt x ≤ 7) ∧ pvOk X ∧ pvFr fp_X10_image_124 M X) := by
  have hT : pvdom 35 = pvD_35 := rfl
  refine pw_blkw hT 3 (pc := 5) (lo := [some (pvR 124), none]) (st := []) (M := pvu M 124 46 1) rfl ⟨trivial, trivial, ⟨rfl, Or.inr rfl⟩, trivial⟩ (fun M1_ e2_ => ?_)
  have o3_ : pvOk M1_ := pvok_u2 e2_ hok rfl (zr_wide (show 1 ≤ Int32.toInt 1 ∧ Int32.toInt 1 ≤ 1 from (by decide)) (by decide) (by decide))
  have f4_ : pvFr fp_X10_image_124 M M1_ := pvfr_u e2_ pvfr_0 rfl
  have b5_ : (-1) ≤ Int32.toInt (M1_.1 124 15) ∧ Int32.toInt (M1_.1 124 15) ≤ 5 := pvok_r o3_ 124 15 rfl
  refine pw_blkw hT 4 (pc := 13) (lo := [some (pvR 124), none]) (st := []) (M := pvu M1_ 124 47 (M1_.1 124 15)) rfl ⟨trivial, trivial, rfl, rfl, trivial⟩ (fun M6_ e7_ => ?_)
  have o8_ : pvOk M6_ := pvok_u2 e7_ o3_ rfl b5_
  have f9_ : pvFr fp_X10_image_124 M M6_ := pvfr_u e7_ f4_ rfl
  have b10_ : 0 ≤ Int32.toInt (M6_.1 124 0) ∧ Int32.toInt (M6_.1 124 0) ≤ 7 := pvok_r o8_ 124 0 rfl
  refine pw_blkw hT 4 (pc := 21) (lo := [some (pvR 124), none]) (st := []) (M := pvu M6_ 124 48 (M6_.1 124 0)) rfl ⟨trivial, trivial, rfl, rfl, trivial⟩ (fun M11_ e12_ => ?_)
  have o13_ : pvOk M11_ := pvok_u2 e12_ o8_ rfl b10_
  have f14_ : pvFr fp_X10_image_124 M M11_ := pvfr_u e12_ f9_ rfl
  have b15_ : 0 ≤ Int32.toInt (M11_.1 124 1) ∧ Int32.toInt (M11_.1 124 1) ≤ 9999 := pvok_r o13_ 124 1 rfl
  refine pw_blkw hT 4 (pc := 29) (lo := [some (pvR 124), none]) (st := []) (M := pvu M11_ 124 49 (M11_.1 124 1)) rfl ⟨trivial, trivial, rfl, rfl, trivial⟩ (fun M16_ e17_ => ?_)
  have o18_ : pvOk M16_ := pvok_u2 e17_ o13_ rfl b15_
  have f19_ : pvFr fp_X10_image_124 M M16_ := pvfr_u e17_ f14_ rfl
  have b20_ : 0 ≤ Int32.toInt (M16_.1 124 2) ∧ Int32.toInt (M16_.1 124 2) ≤ 999999 := pvok_r o18_ 124 2 rfl
  refine pw_blkw hT 4 (pc := 37) (lo := [some (pvR 124), none]) (st := []) (M := pvu M16_ 124 50 (M16_.1 124 2)) rfl ⟨trivial, trivial, rfl, rfl, trivial⟩ (fun M21_ e22_ => ?_)
  have o23_ : pvOk M21_ := pvok_u2 e22_ o18_ rfl b20_
  have f24_ : pvFr fp_X10_image_124 M M21_ := pvfr_u e22_ f19_ rfl
  have b25_ : 0 ≤ Int32.toInt (M21_.1 124 3) ∧ Int32.toInt (M21_.1 124 3) ≤ 108 := pvok_r o23_ 124 3 rfl
  refine pw_blkw hT 4 (pc := 45) (lo := [some (pvR 124), none]) (st := []) (M := pvu M21_ 124 51 (M21_.1 124 3)) rfl ⟨trivial, trivial, rfl, rfl, trivial⟩ (fun M26_ e27_ => ?_)
  have o28_ : pvOk M26_ := pvok_u2 e27_ o23_ rfl b25_
  have f29_ : pvFr fp_X10_image_124 M M26_ := pvfr_u e27_ f24_ rfl
  have b30_ : 0 ≤ Int32.toInt (M26_.1 124 4) ∧ Int32.toInt (M26_.1 124 4) ≤ 3 := pvok_r o28_ 124 4 rfl
  refine pw_blkw hT 4 (pc := 53) (lo := [some (pvR 124), none]) (st := []) (M := pvu M26_ 124 52 (M26_.1 124 4)) rfl ⟨trivial, trivial, rfl, rfl, trivial⟩ (fun M31_ e32_ => ?_)
  have o33_ : pvOk M31_ := pvok_u2 e32_ o28_ rfl b30_
  have f34_ : pvFr fp_X10_image_124 M M31_ := pvfr_u e32_ f29_ rfl
  have b35_ : 0 ≤ Int32.toInt (M31_.1 124 5) ∧ Int32.toInt (M31_.1 124 5) ≤ 3 := pvok_r o33_ 124 5 rfl
  refine pw_blkw hT 4 (pc := 61) (lo := [some (pvR 124), none]) (st := []) (M := pvu M31_ 124 53 (M31_.1 124 5)) rfl ⟨trivial, trivial, rfl, rfl, trivial⟩ (fun M36_ e37_ => ?_)
  have o38_ : pvOk M36_ := pvok_u2 e37_ o33_ rfl b35_
  have f39_ : pvFr fp_X10_image_124 M M36_ := pvfr_u e37_ f34_ rfl
  have b40_ : 0 ≤ Int32.toInt (M36_.1 124 6) ∧ Int32.toInt (M36_.1 124 6) ≤ 4 := pvok_r o38_ 124 6 rfl
  refine pw_blkw hT 4 (pc := 69) (lo := [some (pvR 124), none]) (st := []) (M := pvu M36_ 124 54 (M36_.1 124 6)) rfl ⟨trivial, trivial, rfl, rfl, trivial⟩ (fun M41_ e42_ => ?_)
  have o43_ : pvOk M41_ := pvok_u2 e42_ o38_ rfl b40_
  have f44_ : pvFr fp_X10_image_124 M M41_ := pvfr_u e42_ f39_ rfl
  have b45_ : 0 ≤ Int32.toInt (M41_.1 124 37) ∧ Int32.toInt (M41_.1 124 37) ≤ 7 := pvok_r o43_ 124 37 rfl
  refine pw_blkw hT 4 (pc := 77) (lo := [some (pvR 124), none]) (st := []) (M := pvu M41_ 124 55 (M41_.1 124 37)) rfl ⟨trivial, trivial, rfl, rfl, trivial⟩ (fun M46_ e47_ => ?_)
  have o48_ : pvOk M46_ := pvok_u2 e47_ o43_ rfl b45_
  have f49_ : pvFr fp_X10_image_124 M M46_ := pvfr_u e47_ f44_ rfl
  have b50_ : 0 ≤ Int32.toInt (M46_.1 124 40) ∧ Int32.toInt (M46_.1 124 40) ≤ 6 := pvok_r o48_ 124 40 rfl
  refine pw_blkw hT 4 (pc := 85) (lo := [some (pvR 124), none]) (st := []) (M := pvu M46_ 124 56 (M46_.1 124 40)) rfl ⟨trivial, trivial, rfl, rfl, trivial⟩ (fun M51_ e52_ => ?_)
  have o53_ : pvOk M51_ := pvok_u2 e52_ o48_ rfl b50_
  have f54_ : pvFr fp_X10_image_124 M M51_ := pvfr_u e52_ f49_ rfl
  have b55_ : 0 ≤ Int32.toInt (M51_.1 124 43) ∧ Int32.toInt (M51_.1 124 43) ≤ 8 := pvok_r o53_ 124 43 rfl
  refine pw_blkw hT 4 (pc := 93) (lo := [some (pvR 124), none]) (st := []) (M := pvu M51_ 124 57 (M51_.1 124 43)) rfl ⟨trivial, trivial, rfl, rfl, trivial⟩ (fun M56_ e57_ => ?_)
  have o58_ : pvOk M56_ := pvok_u2 e57_ o53_ rfl b55_
  have f59_ : pvFr fp_X10_image_124 M M56_ := pvfr_u e57_ f54_ rfl
  refine pw_blk hT 2 (S' := (95, [some (pvR 124), some (pvI 0)], [], M56_)) rfl ⟨trivial, trivial, trivial⟩ ?_
  have hlz5572_ : ∀ (nz5572_ : Nat) (i1z5572_ : Int32) (Mz5572_ : pvM), (pvOk Mz5572_) → (pvFr fp_X10_image_124 M Mz5572_) → (0 ≤ Int32.toInt i1z5572_ ∧ Int32.toInt i1z5572_ ≤ 7) → ((8 - Int32.toInt i1z5572_).toNat < nz5572_) → PW 35 d (95, [some (pvR 124), some (pvI i1z5572_)], [], Mz5572_) (fun r X => (∃ x : Int32, r = some (pvI x) ∧ 0 ≤ Int32.toInt x ∧ Int32.toInt x ≤ 7) ∧ pvOk X ∧ pvFr fp_X10_image_124 M X) := by
    intro nz5572_
    induction nz5572_ with
    | zero => intro i1z5572_ Mz5572_ oz5572_ fz5572_ h1z5572_ hmz5572_; exact absurd hmz5572_ (Nat.not_lt_zero _)
    | succ nz5572_ ihz5572_ =>
      intro i1z5572_ Mz5572_ oz5572_ fz5572_ h1z5572_ hmz5572_
      refine pw_blk hT 2 (S' := (98, [some (pvR 124), some (pvI i1z5572_)], [pvI 7, pvI i1z5572_], Mz5572_)) rfl ⟨trivial, trivial, trivial⟩ ?_
      refine pw_ic hT (c := 7 ≤ i1z5572_) rfl rfl (fun c5573_ => ?_) (fun c5573_ => ?_)
      · have b5574_ : 7 ≤ Int32.toInt i1z5572_ ∧ Int32.toInt i1z5572_ ≤ 7 := zr_le_r 7 c5573_ h1z5572_ (show 7 ≤ Int32.toInt 7 ∧ Int32.toInt 7 ≤ 7 from (by decide)) (by decide)
        refine pw_blk hT 2 (S' := (193, [some (pvR 124), some (pvI 0)], [], Mz5572_)) rfl ⟨trivial, trivial, trivial⟩ ?_
        have hlz6914_ : ∀ (nz6914_ : Nat) (i1z6914_ : Int32) (Mz6914_ : pvM), (pvOk Mz6914_) → (pvFr fp_X10_image_124 M Mz6914_) → (0 ≤ Int32.toInt i1z6914_ ∧ Int32.toInt i1z6914_ ≤ 28) → ((29 - Int32.toInt i1z6914_).toNat < nz6914_) → PW 35 d (193, [some (pvR 124), some (pvI i1z6914_)], [], Mz6914_) (fun r X => (∃ x : Int32, r = some (pvI x) ∧ 0 ≤ Int32.toInt x ∧ Int32.toInt x ≤ 7) ∧ pvOk X ∧ pvFr fp_X10_image_124 M X) := by
          intro nz6914_
          induction nz6914_ with
          | zero => intro i1z6914_ Mz6914_ oz6914_ fz6914_ h1z6914_ hmz6914_; exact absurd hmz6914_ (Nat.not_lt_zero _)
          | succ nz6914_ ihz6914_ =>
            intro i1z6914_ Mz6914_ oz6914_ fz6914_ h1z6914_ hmz6914_
            refine pw_blk hT 2 (S' := (196, [some (pvR 124), some (pvI i1z6914_)], [pvI 28, pvI i1z6914_], Mz6914_)) rfl ⟨trivial, trivial, trivial⟩ ?_
            refine pw_ic hT (c := 28 ≤ i1z6914_) rfl rfl (fun c6915_ => ?_) (fun c6915_ => ?_)
            · have b6916_ : 28 ≤ Int32.toInt i1z6914_ ∧ Int32.toInt i1z6914_ ≤ 28 := zr_le_r 28 c6915_ h1z6914_ (show 28 ≤ Int32.toInt 28 ∧ Int32.toInt 28 ≤ 28 from (by decide)) (by decide)
              refine pw_blk hT 2 (S' := (219, [some (pvR 124), some (pvI 0)], [], Mz6914_)) rfl ⟨trivial, trivial, trivial⟩ ?_
              have hlz7244_ : ∀ (nz7244_ : Nat) (i1z7244_ : Int32) (Mz7244_ : pvM), (pvOk Mz7244_) → (pvFr fp_X10_image_124 M Mz7244_) → (0 ≤ Int32.toInt i1z7244_ ∧ Int32.toInt i1z7244_ ≤ 6) → ((7 - Int32.toInt i1z7244_).toNat < nz7244_) → PW 35 d (219, [some (pvR 124), some (pvI i1z7244_)], [], Mz7244_) (fun r X => (∃ x : Int32, r = some (pvI x) ∧ 0 ≤ Int32.toInt x ∧ Int32.toInt x ≤ 7) ∧ pvOk X ∧ pvFr fp_X10_image_124 M X) := by
                intro nz7244_
                induction nz7244_ with
                | zero => intro i1z7244_ Mz7244_ oz7244_ fz7244_ h1z7244_ hmz7244_; exact absurd hmz7244_ (Nat.not_lt_zero _)
                | succ nz7244_ ihz7244_ =>
                  intro i1z7244_ Mz7244_ oz7244_ fz7244_ h1z7244_ hmz7244_
                  refine pw_blk hT 2 (S' := (222, [some (pvR 124), some (pvI i1z7244_)], [pvI 6, pvI i1z7244_], Mz7244_)) rfl ⟨trivial, trivial, trivial⟩ ?_
                  refine pw_ic hT (c := 6 ≤ i1z7244_) rfl rfl (fun c7245_ => ?_) (fun c7245_ => ?_)
                  · have b7246_ : 6 ≤ Int32.toInt i1z7244_ ∧ Int32.toInt i1z7244_ ≤ 6 := zr_le_r 6 c7245_ h1z7244_ (show 6 ≤ Int32.toInt 6 ∧ Int32.toInt 6 ≤ 6 from (by decide)) (by decide)
                    refine pw_blk hT 2 (S' := (257, [some (pvR 124), some (pvI 0)], [], Mz7244_)) rfl ⟨trivial, trivial, trivial⟩ ?_
                    have hlz7316_ : ∀ (nz7316_ : Nat) (i1z7316_ : Int32) (Mz7316_ : pvM), (pvOk Mz7316_) → (pvFr fp_X10_image_124 M Mz7316_) → (0 ≤ Int32.toInt i1z7316_ ∧ Int32.toInt i1z7316_ ≤ 8) → ((9 - Int32.toInt i1z7316_).toNat < nz7316_) → PW 35 d (257, [some (pvR 124), some (pvI i1z7316_)], [], Mz7316_) (fun r X => (∃ x : Int32, r = some (pvI x) ∧ 0 ≤ Int32.toInt x ∧ Int32.toInt x ≤ 7) ∧ pvOk X ∧ pvFr fp_X10_image_124 M X) := by
                      intro nz7316_
                      induction nz7316_ with
                      | zero => intro i1z7316_ Mz7316_ oz7316_ fz7316_ h1z7316_ hmz7316_; exact absurd hmz7316_ (Nat.not_lt_zero _)
                      | succ nz7316_ ihz7316_ =>
                        intro i1z7316_ Mz7316_ oz7316_ fz7316_ h1z7316_ hmz7316_
                        refine pw_blk hT 2 (S' := (260, [some (pvR 124), some (pvI i1z7316_)], [pvI 8, pvI i1z7316_], Mz7316_)) rfl ⟨trivial, trivial, trivial⟩ ?_
                        refine pw_ic hT (c := 8 ≤ i1z7316_) rfl rfl (fun c7317_ => ?_) (fun c7317_ => ?_)
                        · have b7318_ : 8 ≤ Int32.toInt i1z7316_ ∧ Int32.toInt i1z7316_ ≤ 8 := zr_le_r 8 c7317_ h1z7316_ (show 8 ≤ Int32.toInt 8 ∧ Int32.toInt 8 ≤ 8 from (by decide)) (by decide)
                          have b7319_ : 0 ≤ Int32.toInt (Mz7316_.1 124 0) ∧ Int32.toInt (Mz7316_.1 124 0) ≤ 7 := pvok_r oz7316_ 124 0 rfl
                          refine pw_blk hT 2 (S' := (297, [some (pvR 124), some (pvI i1z7316_)], [pvI (Mz7316_.1 124 0)], Mz7316_)) rfl ⟨trivial, rfl, trivial⟩ ?_
                          exact pw_ret hT rfl (r := some (pvI (Mz7316_.1 124 0))) (M' := Mz7316_) ⟨rfl, rfl⟩ ⟨⟨_, rfl, b7319_⟩, oz7316_, fz7316_⟩
                        · have b7320_ : 0 ≤ Int32.toInt i1z7316_ ∧ Int32.toInt i1z7316_ ≤ 7 := zr_nle_r 7 c7317_ h1z7316_ (show 8 ≤ Int32.toInt 8 ∧ Int32.toInt 8 ≤ 8 from (by decide)) (by decide)
                          have b7321_ : 0 ≤ Int32.toInt (Mz7316_.1 149 (Int32.toNatClampNeg i1z7316_)) ∧ Int32.toInt (Mz7316_.1 149 (Int32.toNatClampNeg i1z7316_)) ≤ 6 := pvok_r oz7316_ 149 (Int32.toNatClampNeg i1z7316_) rfl
                          refine pw_blkw hT 8 (pc := 275) (lo := [some (pvR 124), some (pvI i1z7316_)]) (st := []) (M := pvu Mz7316_ 160 (Int32.toNatClampNeg i1z7316_) (Mz7316_.1 149 (Int32.toNatClampNeg i1z7316_))) rfl ⟨trivial, rfl, trivial, trivial, rfl, trivial, ⟨rfl, (zr_in (n := 8) b7320_ (by decide) (by decide))⟩, ⟨rfl, (zr_in (n := 8) b7320_ (by decide) (by decide))⟩, trivial⟩ (fun M7322_ e7323_ => ?_)
                          have o7324_ : pvOk M7322_ := pvok_u2 e7323_ oz7316_ rfl b7321_
                          have f7325_ : pvFr fp_X10_image_124 M M7322_ := pvfr_u e7323_ fz7316_ rfl
                          have b7326_ : 0 ≤ Int32.toInt (M7322_.1 150 (Int32.toNatClampNeg i1z7316_)) ∧ Int32.toInt (M7322_.1 150 (Int32.toNatClampNeg i1z7316_)) ≤ 9999 := pvok_r o7324_ 150 (Int32.toNatClampNeg i1z7316_) rfl
                          refine pw_blkw hT 8 (pc := 287) (lo := [some (pvR 124), some (pvI i1z7316_)]) (st := []) (M := pvu M7322_ 161 (Int32.toNatClampNeg i1z7316_) (M7322_.1 150 (Int32.toNatClampNeg i1z7316_))) rfl ⟨trivial, rfl, trivial, trivial, rfl, trivial, ⟨rfl, (zr_in (n := 8) b7320_ (by decide) (by decide))⟩, ⟨rfl, (zr_in (n := 8) b7320_ (by decide) (by decide))⟩, trivial⟩ (fun M7327_ e7328_ => ?_)
                          have o7329_ : pvOk M7327_ := pvok_u2 e7328_ o7324_ rfl b7326_
                          have f7330_ : pvFr fp_X10_image_124 M M7327_ := pvfr_u e7328_ f7325_ rfl
                          obtain ⟨q7332_, b7331_⟩ : (Int32.toInt (i1z7316_ + 1) = Int32.toInt i1z7316_ + Int32.toInt 1) ∧ (1 ≤ Int32.toInt (i1z7316_ + 1) ∧ Int32.toInt (i1z7316_ + 1) ≤ 8) := zadd_r i1z7316_ 1 1 8 b7320_ (show 1 ≤ Int32.toInt 1 ∧ Int32.toInt 1 ≤ 1 from (by decide)) (by decide) (by decide) (by decide) (by decide)
                          have u7333_ : Int32.toInt 1 = 1 := by decide
                          refine pw_blk hT 2 (S' := (257, [some (pvR 124), some (pvI (i1z7316_ + 1))], [], M7327_)) rfl ⟨trivial, trivial, trivial⟩ ?_
                          exact ihz7316_ (i1z7316_ + 1) M7327_ o7329_ f7330_ (zr_wide b7331_ (by decide) (by decide)) (by omega)
                    exact hlz7316_ _ 0 Mz7244_ oz7244_ fz7244_ (zr_wide (show 0 ≤ Int32.toInt 0 ∧ Int32.toInt 0 ≤ 0 from (by decide)) (by decide) (by decide)) (Nat.lt_succ_self _)
                  · have b7334_ : 0 ≤ Int32.toInt i1z7244_ ∧ Int32.toInt i1z7244_ ≤ 5 := zr_nle_r 5 c7245_ h1z7244_ (show 6 ≤ Int32.toInt 6 ∧ Int32.toInt 6 ≤ 6 from (by decide)) (by decide)
                    have b7335_ : 0 ≤ Int32.toInt (Mz7244_.1 147 (Int32.toNatClampNeg i1z7244_)) ∧ Int32.toInt (Mz7244_.1 147 (Int32.toNatClampNeg i1z7244_)) ≤ 6 := pvok_r oz7244_ 147 (Int32.toNatClampNeg i1z7244_) rfl
                    refine pw_blkw hT 8 (pc := 237) (lo := [some (pvR 124), some (pvI i1z7244_)]) (st := []) (M := pvu Mz7244_ 158 (Int32.toNatClampNeg i1z7244_) (Mz7244_.1 147 (Int32.toNatClampNeg i1z7244_))) rfl ⟨trivial, rfl, trivial, trivial, rfl, trivial, ⟨rfl, (zr_in (n := 6) b7334_ (by decide) (by decide))⟩, ⟨rfl, (zr_in (n := 6) b7334_ (by decide) (by decide))⟩, trivial⟩ (fun M7336_ e7337_ => ?_)
                    have o7338_ : pvOk M7336_ := pvok_u2 e7337_ oz7244_ rfl b7335_
                    have f7339_ : pvFr fp_X10_image_124 M M7336_ := pvfr_u e7337_ fz7244_ rfl
                    have b7340_ : 0 ≤ Int32.toInt (M7336_.1 148 (Int32.toNatClampNeg i1z7244_)) ∧ Int32.toInt (M7336_.1 148 (Int32.toNatClampNeg i1z7244_)) ≤ 9999 := pvok_r o7338_ 148 (Int32.toNatClampNeg i1z7244_) rfl
                    refine pw_blkw hT 8 (pc := 249) (lo := [some (pvR 124), some (pvI i1z7244_)]) (st := []) (M := pvu M7336_ 159 (Int32.toNatClampNeg i1z7244_) (M7336_.1 148 (Int32.toNatClampNeg i1z7244_))) rfl ⟨trivial, rfl, trivial, trivial, rfl, trivial, ⟨rfl, (zr_in (n := 6) b7334_ (by decide) (by decide))⟩, ⟨rfl, (zr_in (n := 6) b7334_ (by decide) (by decide))⟩, trivial⟩ (fun M7341_ e7342_ => ?_)
                    have o7343_ : pvOk M7341_ := pvok_u2 e7342_ o7338_ rfl b7340_
                    have f7344_ : pvFr fp_X10_image_124 M M7341_ := pvfr_u e7342_ f7339_ rfl
                    obtain ⟨q7346_, b7345_⟩ : (Int32.toInt (i1z7244_ + 1) = Int32.toInt i1z7244_ + Int32.toInt 1) ∧ (1 ≤ Int32.toInt (i1z7244_ + 1) ∧ Int32.toInt (i1z7244_ + 1) ≤ 6) := zadd_r i1z7244_ 1 1 6 b7334_ (show 1 ≤ Int32.toInt 1 ∧ Int32.toInt 1 ≤ 1 from (by decide)) (by decide) (by decide) (by decide) (by decide)
                    have u7347_ : Int32.toInt 1 = 1 := by decide
                    refine pw_blk hT 2 (S' := (219, [some (pvR 124), some (pvI (i1z7244_ + 1))], [], M7341_)) rfl ⟨trivial, trivial, trivial⟩ ?_
                    exact ihz7244_ (i1z7244_ + 1) M7341_ o7343_ f7344_ (zr_wide b7345_ (by decide) (by decide)) (by omega)
              exact hlz7244_ _ 0 Mz6914_ oz6914_ fz6914_ (zr_wide (show 0 ≤ Int32.toInt 0 ∧ Int32.toInt 0 ≤ 0 from (by decide)) (by decide) (by decide)) (Nat.lt_succ_self _)
            · have b7348_ : 0 ≤ Int32.toInt i1z6914_ ∧ Int32.toInt i1z6914_ ≤ 27 := zr_nle_r 27 c6915_ h1z6914_ (show 28 ≤ Int32.toInt 28 ∧ Int32.toInt 28 ≤ 28 from (by decide)) (by decide)
              have b7349_ : 0 ≤ Int32.toInt (Mz6914_.1 130 (Int32.toNatClampNeg i1z6914_)) ∧ Int32.toInt (Mz6914_.1 130 (Int32.toNatClampNeg i1z6914_)) ≤ 9 := pvok_r oz6914_ 130 (Int32.toNatClampNeg i1z6914_) rfl
              refine pw_blkw hT 8 (pc := 211) (lo := [some (pvR 124), some (pvI i1z6914_)]) (st := []) (M := pvu Mz6914_ 156 (Int32.toNatClampNeg i1z6914_) (Mz6914_.1 130 (Int32.toNatClampNeg i1z6914_))) rfl ⟨trivial, rfl, trivial, trivial, rfl, trivial, ⟨rfl, (zr_in (n := 28) b7348_ (by decide) (by decide))⟩, ⟨rfl, (zr_in (n := 28) b7348_ (by decide) (by decide))⟩, trivial⟩ (fun M7350_ e7351_ => ?_)
              have o7352_ : pvOk M7350_ := pvok_u2 e7351_ oz6914_ rfl b7349_
              have f7353_ : pvFr fp_X10_image_124 M M7350_ := pvfr_u e7351_ fz6914_ rfl
              obtain ⟨q7355_, b7354_⟩ : (Int32.toInt (i1z6914_ + 1) = Int32.toInt i1z6914_ + Int32.toInt 1) ∧ (1 ≤ Int32.toInt (i1z6914_ + 1) ∧ Int32.toInt (i1z6914_ + 1) ≤ 28) := zadd_r i1z6914_ 1 1 28 b7348_ (show 1 ≤ Int32.toInt 1 ∧ Int32.toInt 1 ≤ 1 from (by decide)) (by decide) (by decide) (by decide) (by decide)
              have u7356_ : Int32.toInt 1 = 1 := by decide
              refine pw_blk hT 2 (S' := (193, [some (pvR 124), some (pvI (i1z6914_ + 1))], [], M7350_)) rfl ⟨trivial, trivial, trivial⟩ ?_
              exact ihz6914_ (i1z6914_ + 1) M7350_ o7352_ f7353_ (zr_wide b7354_ (by decide) (by decide)) (by omega)
        exact hlz6914_ _ 0 Mz5572_ oz5572_ fz5572_ (zr_wide (show 0 ≤ Int32.toInt 0 ∧ Int32.toInt 0 ≤ 0 from (by decide)) (by decide) (by decide)) (Nat.lt_succ_self _)
      · have b7357_ : 0 ≤ Int32.toInt i1z5572_ ∧ Int32.toInt i1z5572_ ≤ 6 := zr_nle_r 6 c5573_ h1z5572_ (show 7 ≤ Int32.toInt 7 ∧ Int32.toInt 7 ≤ 7 from (by decide)) (by decide)
        have b7358_ : 0 ≤ Int32.toInt (Mz5572_.1 125 (Int32.toNatClampNeg i1z5572_)) ∧ Int32.toInt (Mz5572_.1 125 (Int32.toNatClampNeg i1z5572_)) ≤ 6 := pvok_r oz5572_ 125 (Int32.toNatClampNeg i1z5572_) rfl
        refine pw_blkw hT 8 (pc := 113) (lo := [some (pvR 124), some (pvI i1z5572_)]) (st := []) (M := pvu Mz5572_ 151 (Int32.toNatClampNeg i1z5572_) (Mz5572_.1 125 (Int32.toNatClampNeg i1z5572_))) rfl ⟨trivial, rfl, trivial, trivial, rfl, trivial, ⟨rfl, (zr_in (n := 7) b7357_ (by decide) (by decide))⟩, ⟨rfl, (zr_in (n := 7) b7357_ (by decide) (by decide))⟩, trivial⟩ (fun M7359_ e7360_ => ?_)
        have o7361_ : pvOk M7359_ := pvok_u2 e7360_ oz5572_ rfl b7358_
        have f7362_ : pvFr fp_X10_image_124 M M7359_ := pvfr_u e7360_ fz5572_ rfl
        have b7363_ : 0 ≤ Int32.toInt (M7359_.1 126 (Int32.toNatClampNeg i1z5572_)) ∧ Int32.toInt (M7359_.1 126 (Int32.toNatClampNeg i1z5572_)) ≤ 9 := pvok_r o7361_ 126 (Int32.toNatClampNeg i1z5572_) rfl
        refine pw_blkw hT 8 (pc := 125) (lo := [some (pvR 124), some (pvI i1z5572_)]) (st := []) (M := pvu M7359_ 152 (Int32.toNatClampNeg i1z5572_) (M7359_.1 126 (Int32.toNatClampNeg i1z5572_))) rfl ⟨trivial, rfl, trivial, trivial, rfl, trivial, ⟨rfl, (zr_in (n := 7) b7357_ (by decide) (by decide))⟩, ⟨rfl, (zr_in (n := 7) b7357_ (by decide) (by decide))⟩, trivial⟩ (fun M7364_ e7365_ => ?_)
        have o7366_ : pvOk M7364_ := pvok_u2 e7365_ o7361_ rfl b7363_
        have f7367_ : pvFr fp_X10_image_124 M M7364_ := pvfr_u e7365_ f7362_ rfl
        have b7368_ : 0 ≤ Int32.toInt (M7364_.1 127 (Int32.toNatClampNeg i1z5572_)) ∧ Int32.toInt (M7364_.1 127 (Int32.toNatClampNeg i1z5572_)) ≤ 3 := pvok_r o7366_ 127 (Int32.toNatClampNeg i1z5572_) rfl
        refine pw_blkw hT 8 (pc := 137) (lo := [some (pvR 124), some (pvI i1z5572_)]) (st := []) (M := pvu M7364_ 153 (Int32.toNatClampNeg i1z5572_) (M7364_.1 127 (Int32.toNatClampNeg i1z5572_))) rfl ⟨trivial, rfl, trivial, trivial, rfl, trivial, ⟨rfl, (zr_in (n := 7) b7357_ (by decide) (by decide))⟩, ⟨rfl, (zr_in (n := 7) b7357_ (by decide) (by decide))⟩, trivial⟩ (fun M7369_ e7370_ => ?_)
        have o7371_ : pvOk M7369_ := pvok_u2 e7370_ o7366_ rfl b7368_
        have f7372_ : pvFr fp_X10_image_124 M M7369_ := pvfr_u e7370_ f7367_ rfl
        have b7373_ : 0 ≤ Int32.toInt (M7369_.1 128 (Int32.toNatClampNeg i1z5572_)) ∧ Int32.toInt (M7369_.1 128 (Int32.toNatClampNeg i1z5572_)) ≤ 4 := pvok_r o7371_ 128 (Int32.toNatClampNeg i1z5572_) rfl
        refine pw_blkw hT 8 (pc := 149) (lo := [some (pvR 124), some (pvI i1z5572_)]) (st := []) (M := pvu M7369_ 154 (Int32.toNatClampNeg i1z5572_) (M7369_.1 128 (Int32.toNatClampNeg i1z5572_))) rfl ⟨trivial, rfl, trivial, trivial, rfl, trivial, ⟨rfl, (zr_in (n := 7) b7357_ (by decide) (by decide))⟩, ⟨rfl, (zr_in (n := 7) b7357_ (by decide) (by decide))⟩, trivial⟩ (fun M7374_ e7375_ => ?_)
        have o7376_ : pvOk M7374_ := pvok_u2 e7375_ o7371_ rfl b7373_
        have f7377_ : pvFr fp_X10_image_124 M M7374_ := pvfr_u e7375_ f7372_ rfl
        have b7378_ : 0 ≤ Int32.toInt (M7374_.1 129 (Int32.toNatClampNeg i1z5572_)) ∧ Int32.toInt (M7374_.1 129 (Int32.toNatClampNeg i1z5572_)) ≤ 9 := pvok_r o7376_ 129 (Int32.toNatClampNeg i1z5572_) rfl
        refine pw_blkw hT 8 (pc := 161) (lo := [some (pvR 124), some (pvI i1z5572_)]) (st := []) (M := pvu M7374_ 155 (Int32.toNatClampNeg i1z5572_) (M7374_.1 129 (Int32.toNatClampNeg i1z5572_))) rfl ⟨trivial, rfl, trivial, trivial, rfl, trivial, ⟨rfl, (zr_in (n := 7) b7357_ (by decide) (by decide))⟩, ⟨rfl, (zr_in (n := 7) b7357_ (by decide) (by decide))⟩, trivial⟩ (fun M7379_ e7380_ => ?_)
        have o7381_ : pvOk M7379_ := pvok_u2 e7380_ o7376_ rfl b7378_
        have f7382_ : pvFr fp_X10_image_124 M M7379_ := pvfr_u e7380_ f7377_ rfl
        have b7383_ : 0 ≤ Int32.toInt (M7379_.1 131 (Int32.toNatClampNeg i1z5572_)) ∧ Int32.toInt (M7379_.1 131 (Int32.toNatClampNeg i1z5572_)) ≤ 1 := pvok_r o7381_ 131 (Int32.toNatClampNeg i1z5572_) rfl
        refine pw_blkw hT 8 (pc := 173) (lo := [some (pvR 124), some (pvI i1z5572_)]) (st := []) (M := pvu M7379_ 162 (Int32.toNatClampNeg i1z5572_) (vp_nar .boolean (M7379_.1 131 (Int32.toNatClampNeg i1z5572_)))) rfl ⟨trivial, rfl, trivial, trivial, rfl, trivial, ⟨rfl, (zr_in (n := 7) b7357_ (by decide) (by decide))⟩, ⟨rfl, (zr_in (n := 7) b7357_ (by decide) (by decide))⟩, trivial⟩ (fun M7384_ e7385_ => ?_)
        have o7386_ : pvOk M7384_ := pvok_u2 e7385_ o7381_ rfl (zboolr (M7379_.1 131 (Int32.toNatClampNeg i1z5572_)))
        have f7387_ : pvFr fp_X10_image_124 M M7384_ := pvfr_u e7385_ f7382_ rfl
        have b7388_ : 0 ≤ Int32.toInt (M7384_.1 145 (Int32.toNatClampNeg i1z5572_)) ∧ Int32.toInt (M7384_.1 145 (Int32.toNatClampNeg i1z5572_)) ≤ 6 := pvok_r o7386_ 145 (Int32.toNatClampNeg i1z5572_) rfl
        refine pw_blkw hT 8 (pc := 185) (lo := [some (pvR 124), some (pvI i1z5572_)]) (st := []) (M := pvu M7384_ 157 (Int32.toNatClampNeg i1z5572_) (M7384_.1 145 (Int32.toNatClampNeg i1z5572_))) rfl ⟨trivial, rfl, trivial, trivial, rfl, trivial, ⟨rfl, (zr_in (n := 7) b7357_ (by decide) (by decide))⟩, ⟨rfl, (zr_in (n := 7) b7357_ (by decide) (by decide))⟩, trivial⟩ (fun M7389_ e7390_ => ?_)
        have o7391_ : pvOk M7389_ := pvok_u2 e7390_ o7386_ rfl b7388_
        have f7392_ : pvFr fp_X10_image_124 M M7389_ := pvfr_u e7390_ f7387_ rfl
        obtain ⟨q7394_, b7393_⟩ : (Int32.toInt (i1z5572_ + 1) = Int32.toInt i1z5572_ + Int32.toInt 1) ∧ (1 ≤ Int32.toInt (i1z5572_ + 1) ∧ Int32.toInt (i1z5572_ + 1) ≤ 7) := zadd_r i1z5572_ 1 1 7 b7357_ (show 1 ≤ Int32.toInt 1 ∧ Int32.toInt 1 ≤ 1 from (by decide)) (by decide) (by decide) (by decide) (by decide)
        have u7395_ : Int32.toInt 1 = 1 := by decide
        refine pw_blk hT 2 (S' := (95, [some (pvR 124), some (pvI (i1z5572_ + 1))], [], M7389_)) rfl ⟨trivial, trivial, trivial⟩ ?_
        exact ihz5572_ (i1z5572_ + 1) M7389_ o7391_ f7392_ (zr_wide b7393_ (by decide) (by decide)) (by omega)
  exact hlz5572_ _ 0 M56_ o58_ f59_ (zr_wide (show 0 ≤ Int32.toInt 0 ∧ Int32.toInt 0 ≤ 0 from (by decide)) (by decide) (by decide)) (Nat.lt_succ_self _)
set_option maxHeartbeats 4000000 in
set_option maxRecDepth 10000 in
theorem sf_X10_openSet_124 (M : pvM) (hok : pvOk M) (d : Nat) : PW 61 d (0, [some (pvR 124), none, none], [], M) (fun r X => (∃ x : Int32, r = some (pvI x) ∧ True) ∧ X = M) := by
  have hT : pvdom 61 = pvD_61 := rfl
  refine pw_blk hT 4 (S' := (4, [some (pvR 124), some (pvI 0), some (pvI 0)], [], M)) rfl ⟨trivial, trivial, trivial, trivial, trivial⟩ ?_
  have hlz52_ : ∀ (nz52_ : Nat) (i1z52_ : Int32) (i2z52_ : Int32), (0 ≤ Int32.toInt i2z52_ ∧ Int32.toInt i2z52_ ≤ 7) → ((8 - Int32.toInt i2z52_).toNat < nz52_) → PW 61 d (4, [some (pvR 124), some (pvI i1z52_), some (pvI i2z52_)], [], M) (fun r X => (∃ x : Int32, r = some (pvI x) ∧ True) ∧ X = M) := by
    intro nz52_
    induction nz52_ with
    | zero => intro i1z52_ i2z52_ h2z52_ hmz52_; exact absurd hmz52_ (Nat.not_lt_zero _)
    | succ nz52_ ihz52_ =>
      intro i1z52_ i2z52_ h2z52_ hmz52_
      have b53_ : 0 ≤ Int32.toInt (M.1 124 0) ∧ Int32.toInt (M.1 124 0) ≤ 7 := pvok_r hok 124 0 rfl
      refine pw_blk hT 3 (S' := (9, [some (pvR 124), some (pvI i1z52_), some (pvI i2z52_)], [pvI (M.1 124 0), pvI i2z52_], M)) rfl ⟨trivial, trivial, rfl, trivial⟩ ?_
      refine pw_ic hT (c := (M.1 124 0) ≤ i2z52_) rfl rfl (fun c54_ => ?_) (fun c54_ => ?_)
      · have d55_ : Int32.toInt (M.1 124 0) ≤ Int32.toInt i2z52_ := (zi_le _ _).mp c54_
        refine pw_blk hT 1 (S' := (38, [some (pvR 124), some (pvI i1z52_), some (pvI i2z52_)], [pvI i1z52_], M)) rfl ⟨trivial, trivial⟩ ?_
        exact pw_ret hT rfl (r := some (pvI i1z52_)) (M' := M) ⟨rfl, rfl⟩ ⟨⟨_, rfl, trivial⟩, rfl⟩
      · have b56_ : 1 ≤ Int32.toInt (M.1 124 0) ∧ Int32.toInt (M.1 124 0) ≤ 7 := zr_nle_l 1 c54_ b53_ h2z52_ (by decide)
        have b57_ : 0 ≤ Int32.toInt i2z52_ ∧ Int32.toInt i2z52_ ≤ 6 := zr_nle_r 6 c54_ h2z52_ b56_ (by decide)
        have d58_ : Int32.toInt (M.1 124 0) > Int32.toInt i2z52_ := Int.not_le.mp ((not_congr (zi_le _ _)).mp c54_)
        have b59_ : 0 ≤ Int32.toInt (M.1 131 (Int32.toNatClampNeg i2z52_)) ∧ Int32.toInt (M.1 131 (Int32.toNatClampNeg i2z52_)) ≤ 1 := pvok_r hok 131 (Int32.toNatClampNeg i2z52_) rfl
        refine pw_blk hT 5 (S' := (19, [some (pvR 124), some (pvI i1z52_), some (pvI i2z52_)], [pvI (M.1 131 (Int32.toNatClampNeg i2z52_)), pvI i1z52_], M)) rfl ⟨trivial, trivial, rfl, trivial, ⟨rfl, (zr_in (n := 7) b57_ (by decide) (by decide))⟩, trivial⟩ ?_
        refine pw_if hT (c := (M.1 131 (Int32.toNatClampNeg i2z52_)) = 0) rfl rfl (fun c60_ => ?_) (fun c60_ => ?_)
        · have b61_ : 0 ≤ Int32.toInt (M.1 131 (Int32.toNatClampNeg i2z52_)) ∧ Int32.toInt (M.1 131 (Int32.toNatClampNeg i2z52_)) ≤ 0 := (by have u0 := b59_; have u1 := (zi_eq _ _).mp c60_; have u2 := (show 0 ≤ Int32.toInt 0 ∧ Int32.toInt 0 ≤ 0 from (by decide)); omega)
          obtain ⟨q63_, b62_⟩ : (Int32.toInt (i2z52_ + 1) = Int32.toInt i2z52_ + Int32.toInt 1) ∧ (1 ≤ Int32.toInt (i2z52_ + 1) ∧ Int32.toInt (i2z52_ + 1) ≤ 7) := zadd_r i2z52_ 1 1 7 b57_ (show 1 ≤ Int32.toInt 1 ∧ Int32.toInt 1 ≤ 1 from (by decide)) (by decide) (by decide) (by decide) (by decide)
          have u64_ : Int32.toInt 1 = 1 := by decide
          refine pw_blk hT 7 (S' := (4, [some (pvR 124), some (pvI (i1z52_ ||| (1 <<< (i2z52_ &&& 31)))), some (pvI (i2z52_ + 1))], [], M)) rfl ⟨trivial, trivial, trivial, trivial, trivial, trivial, trivial, trivial⟩ ?_
          exact ihz52_ (i1z52_ ||| (1 <<< (i2z52_ &&& 31))) (i2z52_ + 1) (zr_wide b62_ (by decide) (by decide)) (by omega)
        · have b65_ : 1 ≤ Int32.toInt (M.1 131 (Int32.toNatClampNeg i2z52_)) ∧ Int32.toInt (M.1 131 (Int32.toNatClampNeg i2z52_)) ≤ 1 := (by have u0 := b59_; have u1 := (not_congr (zi_eq _ _)).mp c60_; have u2 := (show 0 ≤ Int32.toInt 0 ∧ Int32.toInt 0 ≤ 0 from (by decide)); omega)
          obtain ⟨q67_, b66_⟩ : (Int32.toInt (i2z52_ + 1) = Int32.toInt i2z52_ + Int32.toInt 1) ∧ (1 ≤ Int32.toInt (i2z52_ + 1) ∧ Int32.toInt (i2z52_ + 1) ≤ 7) := zadd_r i2z52_ 1 1 7 b57_ (show 1 ≤ Int32.toInt 1 ∧ Int32.toInt 1 ≤ 1 from (by decide)) (by decide) (by decide) (by decide) (by decide)
          have u68_ : Int32.toInt 1 = 1 := by decide
          refine pw_blk hT 6 (S' := (4, [some (pvR 124), some (pvI (i1z52_ ||| 0)), some (pvI (i2z52_ + 1))], [], M)) rfl ⟨trivial, trivial, trivial, trivial, trivial, trivial, trivial⟩ ?_
          exact ihz52_ (i1z52_ ||| 0) (i2z52_ + 1) (zr_wide b66_ (by decide) (by decide)) (by omega)
  exact hlz52_ _ 0 0 (zr_wide (show 0 ≤ Int32.toInt 0 ∧ Int32.toInt 0 ≤ 0 from (by decide)) (by decide) (by decide)) (Nat.lt_succ_self _)
def fp_X10_add_124_x (q k : Nat) : Bool := (Nat.beq q 124 && Nat.beq k 37) || Nat.beq q 145
set_option maxHeartbeats 4000000 in
set_option maxRecDepth 10000 in
theorem sf_X10_add_124_x (M : pvM) (hok : pvOk M) (n1 : Int32) (d : Nat) : PW 6 d (0, [some (pvR 124), some (pvI n1), none], [], M) (fun r X => (∃ x : Int32, r = some (pvI x) ∧ (-4) ≤ Int32.toInt x ∧ Int32.toInt x ≤ 7) ∧ pvOk X ∧ pvFr fp_X10_add_124_x M X) := by
  have hT : pvdom 6 = pvD_6 := rfl
  refine pw_blk hT 2 (S' := (2, [some (pvR 124), some (pvI n1), none], [pvI (-1), pvI n1], M)) rfl ⟨trivial, trivial, trivial⟩ ?_
  refine pw_icn hT (c := n1 = (-1)) rfl rfl (fun c1_ => ?_) (fun c1_ => ?_)
  · refine pw_blk hT 2 (S' := (14, [some (pvR 124), some (pvI n1), none], [pvI n1, pvR 124], M)) rfl ⟨trivial, trivial, trivial⟩ ?_
    refine pw_callT hT (as := [pvR 124, pvI n1]) (lo1 := [some (pvR 124), some (pvI n1)]) (d1 := d) (rest := []) rfl rfl rfl rfl rfl (fun _ => rfl) (Nat.zero_le _) rfl rfl rfl (sf_X10_isWindow_124_x M hok n1 d) ?_
    by_cases c7_ : n1 < 0
    · rw [if_pos c7_]
      have b8_ : (-2147483648) ≤ Int32.toInt n1 ∧ Int32.toInt n1 ≤ (-2) := (by have u0 := (zbnd n1); have u9 := (show _ ∧ _ from ⟨(zi_lt _ _).mp c7_, (show 0 ≤ Int32.toInt 0 ∧ Int32.toInt 0 ≤ 0 from (by decide))⟩); have v1 := (not_congr (zi_eq _ _)).mp c1_; have w1 : ((-1) : Int32).toInt = -1 := (by decide); omega)
      show PW 6 d (17, [some (pvR 124), some (pvI n1), none], [pvI 0], M) _
      refine pw_ifn hT (c := 0 = 0) rfl rfl (fun c9_ => absurd (by decide) c9_) (fun c9_ => ?_)
      refine pw_blk hT 1 (S' := (21, [some (pvR 124), some (pvI n1), none], [pvI (-1)], M)) rfl ⟨trivial, trivial⟩ ?_
      exact pw_ret hT rfl (r := some (pvI (-1))) (M' := M) ⟨rfl, rfl⟩ ⟨⟨_, rfl, (zr_wide (show (-1) ≤ Int32.toInt (-1) ∧ Int32.toInt (-1) ≤ (-1) from (by decide)) (by decide) (by decide))⟩, hok, pvfr_0⟩
    · rw [if_neg c7_]
      have b10_ : 0 ≤ Int32.toInt n1 ∧ Int32.toInt n1 ≤ 2147483647 := zr_nlt_l 0 c7_ (zbnd n1) (show 0 ≤ Int32.toInt 0 ∧ Int32.toInt 0 ≤ 0 from (by decide)) (by decide)
      have b11_ : 0 ≤ Int32.toInt (M.1 124 0) ∧ Int32.toInt (M.1 124 0) ≤ 7 := pvok_r hok 124 0 rfl
      obtain ⟨q13_, b12_⟩ : (Int32.toInt ((M.1 124 0) - 1) = Int32.toInt (M.1 124 0) - Int32.toInt 1) ∧ ((-1) ≤ Int32.toInt ((M.1 124 0) - 1) ∧ Int32.toInt ((M.1 124 0) - 1) ≤ 6) := zsub_r (M.1 124 0) 1 (-1) 6 b11_ (show 1 ≤ Int32.toInt 1 ∧ Int32.toInt 1 ≤ 1 from (by decide)) (by decide) (by decide) (by decide) (by decide)
      have u14_ : Int32.toInt 1 = 1 := by decide
      by_cases c15_ : ((M.1 124 0) - 1) < n1
      · rw [if_pos c15_]
        have d16_ : Int32.toInt ((M.1 124 0) - 1) < Int32.toInt n1 := (zi_lt _ _).mp c15_
        show PW 6 d (17, [some (pvR 124), some (pvI n1), none], [pvI 0], M) _
        refine pw_ifn hT (c := 0 = 0) rfl rfl (fun c17_ => absurd (by decide) c17_) (fun c17_ => ?_)
        refine pw_blk hT 1 (S' := (21, [some (pvR 124), some (pvI n1), none], [pvI (-1)], M)) rfl ⟨trivial, trivial⟩ ?_
        exact pw_ret hT rfl (r := some (pvI (-1))) (M' := M) ⟨rfl, rfl⟩ ⟨⟨_, rfl, (zr_wide (show (-1) ≤ Int32.toInt (-1) ∧ Int32.toInt (-1) ≤ (-1) from (by decide)) (by decide) (by decide))⟩, hok, pvfr_0⟩
      · rw [if_neg c15_]
        have b18_ : 0 ≤ Int32.toInt ((M.1 124 0) - 1) ∧ Int32.toInt ((M.1 124 0) - 1) ≤ 6 := zr_nlt_l 0 c15_ b12_ b10_ (by decide)
        have b19_ : 0 ≤ Int32.toInt n1 ∧ Int32.toInt n1 ≤ 6 := zr_nlt_r 6 c15_ b10_ b18_ (by decide)
        have d20_ : Int32.toInt ((M.1 124 0) - 1) ≥ Int32.toInt n1 := Int.not_lt.mp ((not_congr (zi_lt _ _)).mp c15_)
        show PW 6 d (17, [some (pvR 124), some (pvI n1), none], [pvI 1], M) _
        refine pw_ifn hT (c := 1 = 0) rfl rfl (fun c21_ => ?_) (fun c21_ => absurd c21_ (by decide))
        refine pw_blk hT 2 (S' := (24, [some (pvR 124), some (pvI n1), some (pvI 0)], [], M)) rfl ⟨trivial, trivial, trivial⟩ ?_
        have hlz107_ : ∀ (nz107_ : Nat) (i2z107_ : Int32), (0 ≤ Int32.toInt i2z107_ ∧ Int32.toInt i2z107_ ≤ 7) → ((8 - Int32.toInt i2z107_).toNat < nz107_) → PW 6 d (24, [some (pvR 124), some (pvI n1), some (pvI i2z107_)], [], M) (fun r X => (∃ x : Int32, r = some (pvI x) ∧ (-4) ≤ Int32.toInt x ∧ Int32.toInt x ≤ 7) ∧ pvOk X ∧ pvFr fp_X10_add_124_x M X) := by
          intro nz107_
          induction nz107_ with
          | zero => intro i2z107_ h2z107_ hmz107_; exact absurd hmz107_ (Nat.not_lt_zero _)
          | succ nz107_ ihz107_ =>
            intro i2z107_ h2z107_ hmz107_
            have b108_ : 0 ≤ Int32.toInt (M.1 124 37) ∧ Int32.toInt (M.1 124 37) ≤ 7 := pvok_r hok 124 37 rfl
            refine pw_blk hT 3 (S' := (29, [some (pvR 124), some (pvI n1), some (pvI i2z107_)], [pvI (M.1 124 37), pvI i2z107_], M)) rfl ⟨trivial, trivial, rfl, trivial⟩ ?_
            refine pw_ic hT (c := (M.1 124 37) ≤ i2z107_) rfl rfl (fun c109_ => ?_) (fun c109_ => ?_)
            · have d110_ : Int32.toInt (M.1 124 37) ≤ Int32.toInt i2z107_ := (zi_le _ _).mp c109_
              refine pw_blk hT 3 (S' := (57, [some (pvR 124), some (pvI n1), some (pvI i2z107_)], [pvI 7, pvI (M.1 124 37)], M)) rfl ⟨trivial, rfl, trivial, trivial⟩ ?_
              refine pw_icn hT (c := (M.1 124 37) = 7) rfl rfl (fun c111_ => ?_) (fun c111_ => ?_)
              · have b112_ : 0 ≤ Int32.toInt (M.1 124 37) ∧ Int32.toInt (M.1 124 37) ≤ 6 := (by have u0 := b108_; have u1 := (not_congr (zi_eq _ _)).mp c111_; have u2 := (show 7 ≤ Int32.toInt 7 ∧ Int32.toInt 7 ≤ 7 from (by decide)); omega)
                refine pw_blkw hT 6 (pc := 73) (lo := [some (pvR 124), some (pvI n1), some (pvI i2z107_)]) (st := []) (M := pvu M 145 (Int32.toNatClampNeg (M.1 124 37)) n1) rfl ⟨trivial, rfl, trivial, rfl, trivial, ⟨rfl, (zr_in (n := 7) b112_ (by decide) (by decide))⟩, trivial⟩ (fun M113_ e114_ => ?_)
                have o115_ : pvOk M113_ := pvok_u2 e114_ hok rfl b19_
                have f116_ : pvFr fp_X10_add_124_x M M113_ := pvfr_u e114_ pvfr_0 rfl
                have e117_ : (M113_.1 124 37) = (M.1 124 37) := (pvu_n e114_ 124 37 (Or.inl (by decide)))
                have b118_ : 0 ≤ Int32.toInt (M113_.1 124 37) ∧ Int32.toInt (M113_.1 124 37) ≤ 6 := (by rw [e117_]; exact b112_)
                obtain ⟨q120_, b119_⟩ : (Int32.toInt ((M113_.1 124 37) + 1) = Int32.toInt (M113_.1 124 37) + Int32.toInt 1) ∧ (1 ≤ Int32.toInt ((M113_.1 124 37) + 1) ∧ Int32.toInt ((M113_.1 124 37) + 1) ≤ 7) := zadd_r (M113_.1 124 37) 1 1 7 b118_ (show 1 ≤ Int32.toInt 1 ∧ Int32.toInt 1 ≤ 1 from (by decide)) (by decide) (by decide) (by decide) (by decide)
                refine pw_blkw hT 6 (pc := 83) (lo := [some (pvR 124), some (pvI n1), some (pvI i2z107_)]) (st := []) (M := pvu M113_ 124 37 ((M113_.1 124 37) + 1)) rfl ⟨trivial, trivial, rfl, trivial, trivial, rfl, trivial⟩ (fun M121_ e122_ => ?_)
                have o123_ : pvOk M121_ := pvok_u2 e122_ o115_ rfl (zr_wide b119_ (by decide) (by decide))
                have f124_ : pvFr fp_X10_add_124_x M M121_ := pvfr_u e122_ f116_ rfl
                have e125_ : (M121_.1 124 37) = ((M113_.1 124 37) + 1) := (pvu_s e122_)
                have b126_ : 1 ≤ Int32.toInt (M121_.1 124 37) ∧ Int32.toInt (M121_.1 124 37) ≤ 7 := (by rw [e125_]; exact b119_)
                refine pw_blk hT 2 (S' := (87, [some (pvR 124), some (pvI n1), some (pvI i2z107_)], [pvI (M121_.1 124 37)], M121_)) rfl ⟨trivial, rfl, trivial⟩ ?_
                exact pw_ret hT rfl (r := some (pvI (M121_.1 124 37))) (M' := M121_) ⟨rfl, rfl⟩ ⟨⟨_, rfl, (zr_wide b126_ (by decide) (by decide))⟩, o123_, f124_⟩
              · have b127_ : 7 ≤ Int32.toInt (M.1 124 37) ∧ Int32.toInt (M.1 124 37) ≤ 7 := (by have u0 := b108_; have u1 := (zi_eq _ _).mp c111_; have u2 := (show 7 ≤ Int32.toInt 7 ∧ Int32.toInt 7 ≤ 7 from (by decide)); omega)
                refine pw_blk hT 1 (S' := (62, [some (pvR 124), some (pvI n1), some (pvI i2z107_)], [pvI (-4)], M)) rfl ⟨trivial, trivial⟩ ?_
                exact pw_ret hT rfl (r := some (pvI (-4))) (M' := M) ⟨rfl, rfl⟩ ⟨⟨_, rfl, (zr_wide (show (-4) ≤ Int32.toInt (-4) ∧ Int32.toInt (-4) ≤ (-4) from (by decide)) (by decide) (by decide))⟩, hok, pvfr_0⟩
            · have b128_ : 1 ≤ Int32.toInt (M.1 124 37) ∧ Int32.toInt (M.1 124 37) ≤ 7 := zr_nle_l 1 c109_ b108_ h2z107_ (by decide)
              have b129_ : 0 ≤ Int32.toInt i2z107_ ∧ Int32.toInt i2z107_ ≤ 6 := zr_nle_r 6 c109_ h2z107_ b128_ (by decide)
              have d130_ : Int32.toInt (M.1 124 37) > Int32.toInt i2z107_ := Int.not_le.mp ((not_congr (zi_le _ _)).mp c109_)
              have b131_ : 0 ≤ Int32.toInt (M.1 145 (Int32.toNatClampNeg i2z107_)) ∧ Int32.toInt (M.1 145 (Int32.toNatClampNeg i2z107_)) ≤ 6 := pvok_r hok 145 (Int32.toNatClampNeg i2z107_) rfl
              refine pw_blk hT 5 (S' := (39, [some (pvR 124), some (pvI n1), some (pvI i2z107_)], [pvI n1, pvI (M.1 145 (Int32.toNatClampNeg i2z107_))], M)) rfl ⟨trivial, rfl, trivial, ⟨rfl, (zr_in (n := 7) b129_ (by decide) (by decide))⟩, trivial, trivial⟩ ?_
              refine pw_icn hT (c := (M.1 145 (Int32.toNatClampNeg i2z107_)) = n1) rfl rfl (fun c132_ => ?_) (fun c132_ => ?_)
              · obtain ⟨q134_, b133_⟩ : (Int32.toInt (i2z107_ + 1) = Int32.toInt i2z107_ + Int32.toInt 1) ∧ (1 ≤ Int32.toInt (i2z107_ + 1) ∧ Int32.toInt (i2z107_ + 1) ≤ 7) := zadd_r i2z107_ 1 1 7 b129_ (show 1 ≤ Int32.toInt 1 ∧ Int32.toInt 1 ≤ 1 from (by decide)) (by decide) (by decide) (by decide) (by decide)
                refine pw_blk hT 2 (S' := (24, [some (pvR 124), some (pvI n1), some (pvI (i2z107_ + 1))], [], M)) rfl ⟨trivial, trivial, trivial⟩ ?_
                exact ihz107_ (i2z107_ + 1) (zr_wide b133_ (by decide) (by decide)) (by omega)
              · have d135_ : Int32.toInt (M.1 145 (Int32.toNatClampNeg i2z107_)) = Int32.toInt n1 := (zi_eq _ _).mp c132_
                refine pw_blk hT 1 (S' := (44, [some (pvR 124), some (pvI n1), some (pvI i2z107_)], [pvI (-2)], M)) rfl ⟨trivial, trivial⟩ ?_
                exact pw_ret hT rfl (r := some (pvI (-2))) (M' := M) ⟨rfl, rfl⟩ ⟨⟨_, rfl, (zr_wide (show (-2) ≤ Int32.toInt (-2) ∧ Int32.toInt (-2) ≤ (-2) from (by decide)) (by decide) (by decide))⟩, hok, pvfr_0⟩
        exact hlz107_ _ 0 (zr_wide (show 0 ≤ Int32.toInt 0 ∧ Int32.toInt 0 ≤ 0 from (by decide)) (by decide) (by decide)) (Nat.lt_succ_self _)
  · have b136_ : (-1) ≤ Int32.toInt n1 ∧ Int32.toInt n1 ≤ (-1) := (by have u0 := (zbnd n1); have u1 := (zi_eq _ _).mp c1_; have u2 := (show (-1) ≤ Int32.toInt (-1) ∧ Int32.toInt (-1) ≤ (-1) from (by decide)); omega)
    refine pw_blkw hT 3 (pc := 10) (lo := [some (pvR 124), some (pvI n1), none]) (st := []) (M := pvu M 124 37 0) rfl ⟨trivial, trivial, rfl, trivial⟩ (fun M137_ e138_ => ?_)
    have o139_ : pvOk M137_ := pvok_u2 e138_ hok rfl (zr_wide (show 0 ≤ Int32.toInt 0 ∧ Int32.toInt 0 ≤ 0 from (by decide)) (by decide) (by decide))
    have f140_ : pvFr fp_X10_add_124_x M M137_ := pvfr_u e138_ pvfr_0 rfl
    refine pw_blk hT 1 (S' := (11, [some (pvR 124), some (pvI n1), none], [pvI 0], M137_)) rfl ⟨trivial, trivial⟩ ?_
    exact pw_ret hT rfl (r := some (pvI 0)) (M' := M137_) ⟨rfl, rfl⟩ ⟨⟨_, rfl, (zr_wide (show 0 ≤ Int32.toInt 0 ∧ Int32.toInt 0 ≤ 0 from (by decide)) (by decide) (by decide))⟩, o139_, f140_⟩
