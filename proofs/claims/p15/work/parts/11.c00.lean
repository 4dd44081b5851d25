set_option maxHeartbeats 4000000 in
set_option maxRecDepth 10000 in
theorem sf_X7_has_8_x (M : pvM) (hok : pvOk M) (n1 : Int32) (d : Nat) : PW 159 d (0, [some (pvR 8), some (pvI n1)], [], M) (fun r X => r = some (pvI ((if n1 < 0 then 0 else (if (M.1 8 1) ≤ n1 then 0 else 1)))) ∧ X = M) := by
  have hT : pvdom 159 = pvD_159 := rfl
  refine pw_blk hT 1 (S' := (1, [some (pvR 8), some (pvI n1)], [pvI n1], M)) rfl ⟨trivial, trivial⟩ ?_
  refine pw_if hT (c := n1 < 0) rfl rfl (fun c1_ => ?_) (fun c1_ => ?_)
  · have b2_ : (-2147483648) ≤ Int32.toInt n1 ∧ Int32.toInt n1 ≤ (-1) := zr_lt_l (-1) c1_ (zbnd n1) (show 0 ≤ Int32.toInt 0 ∧ Int32.toInt 0 ≤ 0 from (by decide)) (by decide)
    refine pw_blk hT 1 (S' := (17, [some (pvR 8), some (pvI n1)], [pvI 0], M)) rfl ⟨trivial, trivial⟩ ?_
    exact pw_ret hT rfl (r := some (pvI 0)) (M' := M) ⟨Or.inl rfl, rfl, rfl⟩ ⟨(by rw [if_pos c1_]), rfl⟩
  · have b3_ : 0 ≤ Int32.toInt n1 ∧ Int32.toInt n1 ≤ 2147483647 := zr_nlt_l 0 c1_ (zbnd n1) (show 0 ≤ Int32.toInt 0 ∧ Int32.toInt 0 ≤ 0 from (by decide)) (by decide)
    have b4_ : 0 ≤ Int32.toInt (M.1 8 1) ∧ Int32.toInt (M.1 8 1) ≤ 7 := pvok_r hok 8 1 rfl
    refine pw_blk hT 3 (S' := (9, [some (pvR 8), some (pvI n1)], [pvI (M.1 8 1), pvI n1], M)) rfl ⟨trivial, trivial, rfl, trivial⟩ ?_
    refine pw_ic hT (c := (M.1 8 1) ≤ n1) rfl rfl (fun c5_ => ?_) (fun c5_ => ?_)
    · have d6_ : Int32.toInt (M.1 8 1) ≤ Int32.toInt n1 := (zi_le _ _).mp c5_
      refine pw_blk hT 1 (S' := (17, [some (pvR 8), some (pvI n1)], [pvI 0], M)) rfl ⟨trivial, trivial⟩ ?_
      exact pw_ret hT rfl (r := some (pvI 0)) (M' := M) ⟨Or.inl rfl, rfl, rfl⟩ ⟨(by rw [if_neg c1_, if_pos c5_]), rfl⟩
    · have b7_ : 1 ≤ Int32.toInt (M.1 8 1) ∧ Int32.toInt (M.1 8 1) ≤ 7 := zr_nle_l 1 c5_ b4_ b3_ (by decide)
      have b8_ : 0 ≤ Int32.toInt n1 ∧ Int32.toInt n1 ≤ 6 := zr_nle_r 6 c5_ b3_ b7_ (by decide)
      have d9_ : Int32.toInt (M.1 8 1) > Int32.toInt n1 := Int.not_le.mp ((not_congr (zi_le _ _)).mp c5_)
      refine pw_blk hT 2 (S' := (17, [some (pvR 8), some (pvI n1)], [pvI 1], M)) rfl ⟨trivial, trivial, trivial⟩ ?_
      exact pw_ret hT rfl (r := some (pvI 1)) (M' := M) ⟨Or.inr rfl, rfl, rfl⟩ ⟨(by rw [if_neg c1_, if_neg c5_]), rfl⟩
set_option maxHeartbeats 4000000 in
set_option maxRecDepth 10000 in
theorem sf_X9_within_x_x_x (M : pvM) (hok : pvOk M) (n0 : Int32) (n1 : Int32) (n2 : Int32) (d : Nat) : PW 211 d (0, [some (pvI n0), some (pvI n1), some (pvI n2)], [], M) (fun r X => r = some (pvI ((if n0 < n1 then 0 else (if n2 < n0 then 0 else 1)))) ∧ X = M) := by
  have hT : pvdom 211 = pvD_211 := rfl
  refine pw_blk hT 2 (S' := (2, [some (pvI n0), some (pvI n1), some (pvI n2)], [pvI n1, pvI n0], M)) rfl ⟨trivial, trivial, trivial⟩ ?_
  refine pw_ic hT (c := n0 < n1) rfl rfl (fun c1_ => ?_) (fun c1_ => ?_)
  · have b2_ : (-2147483648) ≤ Int32.toInt n0 ∧ Int32.toInt n0 ≤ 2147483646 := zr_lt_l 2147483646 c1_ (zbnd n0) (zbnd n1) (by decide)
    have b3_ : (-2147483647) ≤ Int32.toInt n1 ∧ Int32.toInt n1 ≤ 2147483647 := zr_lt_r (-2147483647) c1_ (zbnd n1) b2_ (by decide)
    have d4_ : Int32.toInt n0 < Int32.toInt n1 := (zi_lt _ _).mp c1_
    refine pw_blk hT 1 (S' := (15, [some (pvI n0), some (pvI n1), some (pvI n2)], [pvI 0], M)) rfl ⟨trivial, trivial⟩ ?_
    exact pw_ret hT rfl (r := some (pvI 0)) (M' := M) ⟨Or.inl rfl, rfl, rfl⟩ ⟨(by rw [if_pos c1_]), rfl⟩
  · have d5_ : Int32.toInt n0 ≥ Int32.toInt n1 := Int.not_lt.mp ((not_congr (zi_lt _ _)).mp c1_)
    refine pw_blk hT 2 (S' := (7, [some (pvI n0), some (pvI n1), some (pvI n2)], [pvI n2, pvI n0], M)) rfl ⟨trivial, trivial, trivial⟩ ?_
    refine pw_ic hT (c := n2 < n0) rfl rfl (fun c6_ => ?_) (fun c6_ => ?_)
    · have b7_ : (-2147483648) ≤ Int32.toInt n2 ∧ Int32.toInt n2 ≤ 2147483646 := zr_lt_l 2147483646 c6_ (zbnd n2) (zbnd n0) (by decide)
      have b8_ : (-2147483647) ≤ Int32.toInt n0 ∧ Int32.toInt n0 ≤ 2147483647 := zr_lt_r (-2147483647) c6_ (zbnd n0) b7_ (by decide)
      have d9_ : Int32.toInt n2 < Int32.toInt n0 := (zi_lt _ _).mp c6_
      refine pw_blk hT 1 (S' := (15, [some (pvI n0), some (pvI n1), some (pvI n2)], [pvI 0], M)) rfl ⟨trivial, trivial⟩ ?_
      exact pw_ret hT rfl (r := some (pvI 0)) (M' := M) ⟨Or.inl rfl, rfl, rfl⟩ ⟨(by rw [if_neg c1_, if_pos c6_]), rfl⟩
    · have d10_ : Int32.toInt n2 ≥ Int32.toInt n0 := Int.not_lt.mp ((not_congr (zi_lt _ _)).mp c6_)
      refine pw_blk hT 2 (S' := (15, [some (pvI n0), some (pvI n1), some (pvI n2)], [pvI 1], M)) rfl ⟨trivial, trivial, trivial⟩ ?_
      exact pw_ret hT rfl (r := some (pvI 1)) (M' := M) ⟨Or.inr rfl, rfl, rfl⟩ ⟨(by rw [if_neg c1_, if_neg c6_]), rfl⟩
set_option maxHeartbeats 4000000 in
set_option maxRecDepth 10000 in
theorem sf_X0_bodyFrom_0_0 (M : pvM) (hok : pvOk M) (d : Nat) : PW 1 d (0, [some (pvI 0), some (pvI 0), none, none, none], [], M) (fun r X => r = some (pvI (((pvstab 1041).getD (Int32.toNatClampNeg ((0 * 3) + 0)) 0))) ∧ X = M) := by
  have hT : pvdom 1 = pvD_1 := rfl
  refine pw_blk hT 4 (S' := (4, [some (pvI 0), some (pvI 0), some (pvI 0), some (pvI 0), none], [], M)) rfl ⟨trivial, trivial, trivial, trivial, trivial⟩ ?_
  refine pw_blk hT 3 (S' := (9, [some (pvI 0), some (pvI 0), some (pvI 0), some (pvI 0), none], [pvI (Int32.ofNat (pvstab 1041).length), pvI 0], M)) rfl ⟨trivial, trivial, (by decide), trivial⟩ ?_
  refine pw_ic hT (c := (Int32.ofNat (pvstab 1041).length) ≤ 0) rfl rfl (fun c1_ => absurd c1_ (by decide)) (fun c1_ => ?_)
  refine pw_blk hT 1 (S' := (13, [some (pvI 0), some (pvI 0), some (pvI 0), some (pvI 0), none], [pvI 0], M)) rfl ⟨trivial, trivial⟩ ?_
  refine pw_if hT (c := 0 < 0) rfl rfl (fun c2_ => absurd c2_ (by decide)) (fun c2_ => ?_)
  refine pw_blk hT 7 (S' := (25, [some (pvI 0), some (pvI 0), some (pvI 0), some (pvI 0), some (pvI ((0 * 3) + 0))], [pvI ((0 * 3) + 0)], M)) rfl ⟨trivial, trivial, trivial, trivial, trivial, trivial, trivial, trivial⟩ ?_
  refine pw_if hT (c := ((0 * 3) + 0) < 0) rfl rfl (fun c3_ => absurd c3_ (by decide)) (fun c3_ => ?_)
  refine pw_blk hT 3 (S' := (34, [some (pvI 0), some (pvI 0), some (pvI 0), some (pvI 0), some (pvI ((0 * 3) + 0))], [pvI (Int32.ofNat (pvstab 1041).length), pvI ((0 * 3) + 0)], M)) rfl ⟨trivial, trivial, (by decide), trivial⟩ ?_
  refine pw_ic hT (c := (Int32.ofNat (pvstab 1041).length) ≤ ((0 * 3) + 0)) rfl rfl (fun c4_ => absurd c4_ (by decide)) (fun c4_ => ?_)
  refine pw_blk hT 3 (S' := (43, [some (pvI 0), some (pvI 0), some (pvI 0), some (pvI 0), some (pvI ((0 * 3) + 0))], [pvI ((pvstab 1041).getD (Int32.toNatClampNeg ((0 * 3) + 0)) 0)], M)) rfl ⟨trivial, trivial, ⟨by decide, (zr_in (n := 21) (show 0 ≤ Int32.toInt ((0 * 3) + 0) ∧ Int32.toInt ((0 * 3) + 0) ≤ 0 from (by decide)) (by decide) (by decide))⟩, trivial⟩ ?_
  refine pw_if hT (c := ((pvstab 1041).getD (Int32.toNatClampNeg ((0 * 3) + 0)) 0) = 0) rfl rfl (fun c5_ => absurd c5_ (by decide)) (fun c5_ => ?_)
  refine pw_blk hT 3 (S' := (52, [some (pvI 0), some (pvI 0), some (pvI 0), some (pvI 0), some (pvI ((0 * 3) + 0))], [pvI ((pvstab 1041).getD (Int32.toNatClampNeg ((0 * 3) + 0)) 0)], M)) rfl ⟨trivial, trivial, ⟨by decide, (zr_in (n := 21) (show 0 ≤ Int32.toInt ((0 * 3) + 0) ∧ Int32.toInt ((0 * 3) + 0) ≤ 0 from (by decide)) (by decide) (by decide))⟩, trivial⟩ ?_
  exact pw_ret hT rfl (r := some (pvI ((pvstab 1041).getD (Int32.toNatClampNeg ((0 * 3) + 0)) 0))) (M' := M) ⟨rfl, rfl⟩ ⟨rfl, rfl⟩
def fpL_X0_note_3_x : List (Nat × Nat × Nat) := [(0, 3, 2), (0, 4, 0)]
def fp_X0_note_3_x (q k : Nat) : Bool := pvfp fpL_X0_note_3_x q k
set_option maxHeartbeats 4000000 in
set_option maxRecDepth 10000 in
theorem sf_X0_note_3_x (M : pvM) (hok : pvOk M) (n1 : Int32) (hn1 : 0 ≤ Int32.toInt n1 ∧ Int32.toInt n1 ≤ 1000) (hc3_1 : 0 ≤ Int32.toInt (M.1 3 1) ∧ Int32.toInt (M.1 3 1) ≤ 999) (d : Nat) : PW 2 d (0, [some (pvR 3), some (pvI n1)], [], M) (fun r X => r = none ∧ pvOk X ∧ pvFr fp_X0_note_3_x M X ∧ Int32.toInt (X.1 3 1) ≤ Int32.toInt (M.1 3 1) + 1) := by
  have hT : pvdom 2 = pvD_2 := rfl
  refine pw_blk hT 3 (S' := (6, [some (pvR 3), some (pvI n1)], [pvI 20, pvI (M.1 3 1)], M)) rfl ⟨trivial, rfl, trivial, trivial⟩ ?_
  refine pw_ic hT (c := 20 ≤ (M.1 3 1)) rfl rfl (fun c1_ => ?_) (fun c1_ => ?_)
  · have b2_ : 20 ≤ Int32.toInt (M.1 3 1) ∧ Int32.toInt (M.1 3 1) ≤ 999 := zr_le_r 20 c1_ hc3_1 (show 20 ≤ Int32.toInt 20 ∧ Int32.toInt 20 ≤ 20 from (by decide)) (by decide)
    obtain ⟨q4_, b3_⟩ : (Int32.toInt ((M.1 3 1) + 1) = Int32.toInt (M.1 3 1) + 1) ∧ (21 ≤ Int32.toInt ((M.1 3 1) + 1) ∧ Int32.toInt ((M.1 3 1) + 1) ≤ 1000) := zadd_k (M.1 3 1) 1 1 21 1000 b2_ (by decide) (by decide) (by decide) (by decide) (by decide)
    refine pw_blkw hT 6 (pc := 29) (lo := [some (pvR 3), some (pvI n1)]) (st := []) (M := pvu M 3 1 ((M.1 3 1) + 1)) rfl ⟨trivial, trivial, rfl, trivial, trivial, rfl, trivial⟩ (fun M5_ e6_ => ?_)
    have o7_ : pvOk M5_ := pvok_u2 e6_ hok rfl (zr_wide b3_ (by decide) (by decide))
    have f8_ : pvFr fp_X0_note_3_x M M5_ := pvfr_u e6_ pvfr_0 rfl
    exact pw_ret hT rfl (r := none) (M' := M5_) ⟨rfl, rfl⟩ ⟨rfl, o7_, f8_, (by have u0 : Int32.toInt (M5_.1 3 1) = Int32.toInt ((M.1 3 1) + 1) := congrArg Int32.toInt (pvu_s e6_); omega)⟩
  · have b9_ : 0 ≤ Int32.toInt (M.1 3 1) ∧ Int32.toInt (M.1 3 1) ≤ 19 := zr_nle_r 19 c1_ hc3_1 (show 20 ≤ Int32.toInt 20 ∧ Int32.toInt 20 ≤ 20 from (by decide)) (by decide)
    refine pw_blkw hT 6 (pc := 19) (lo := [some (pvR 3), some (pvI n1)]) (st := []) (M := pvu M 4 (Int32.toNatClampNeg (M.1 3 1)) n1) rfl ⟨trivial, rfl, trivial, rfl, trivial, ⟨rfl, (zr_in (n := 20) b9_ (by decide) (by decide))⟩, trivial⟩ (fun M10_ e11_ => ?_)
    have o12_ : pvOk M10_ := pvok_u2 e11_ hok rfl hn1
    have f13_ : pvFr fp_X0_note_3_x M M10_ := pvfr_u e11_ pvfr_0 rfl
    have e14_ : (M10_.1 3 1) = (M.1 3 1) := (pvu_n e11_ 3 1 (Or.inl (by decide)))
    have b15_ : 0 ≤ Int32.toInt (M10_.1 3 1) ∧ Int32.toInt (M10_.1 3 1) ≤ 19 := (by rw [e14_]; exact b9_)
    obtain ⟨q17_, b16_⟩ : (Int32.toInt ((M10_.1 3 1) + 1) = Int32.toInt (M10_.1 3 1) + 1) ∧ (1 ≤ Int32.toInt ((M10_.1 3 1) + 1) ∧ Int32.toInt ((M10_.1 3 1) + 1) ≤ 20) := zadd_k (M10_.1 3 1) 1 1 1 20 b15_ (by decide) (by decide) (by decide) (by decide) (by decide)
    refine pw_blkw hT 6 (pc := 29) (lo := [some (pvR 3), some (pvI n1)]) (st := []) (M := pvu M10_ 3 1 ((M10_.1 3 1) + 1)) rfl ⟨trivial, trivial, rfl, trivial, trivial, rfl, trivial⟩ (fun M18_ e19_ => ?_)
    have o20_ : pvOk M18_ := pvok_u2 e19_ o12_ rfl (zr_wide b16_ (by decide) (by decide))
    have f21_ : pvFr fp_X0_note_3_x M M18_ := pvfr_u e19_ f13_ rfl
    exact pw_ret hT rfl (r := none) (M' := M18_) ⟨rfl, rfl⟩ ⟨rfl, o20_, f21_, (by have u0 : Int32.toInt (M18_.1 3 1) = Int32.toInt ((M10_.1 3 1) + 1) := congrArg Int32.toInt (pvu_s e19_); have u1 : Int32.toInt (M10_.1 3 1) = Int32.toInt (M.1 3 1) := congrArg Int32.toInt (pvu_n e11_ 3 1 (Or.inl (by decide))); omega)⟩
def fpL_X0_run_3_0_0_x_0_0 : List (Nat × Nat × Nat) := [(0, 3, 2), (0, 4, 0)]
def fp_X0_run_3_0_0_x_0_0 (q k : Nat) : Bool := pvfp fpL_X0_run_3_0_0_x_0_0 q k
theorem fp_X0_run_3_0_0_x_0_0_fp_X0_note_3_x (a b : Nat) (h : fp_X0_note_3_x a b = true) : fp_X0_run_3_0_0_x_0_0 a b = true := pvfp_sub (l1 := fpL_X0_note_3_x) (l2 := fpL_X0_run_3_0_0_x_0_0) (by decide) a b h
set_option maxHeartbeats 4000000 in
set_option maxRecDepth 10000 in
theorem sf_X0_run_3_0_0_x_0_0 (M : pvM) (hok : pvOk M) (n3 : Int32) (hc3_1 : 0 ≤ Int32.toInt (M.1 3 1) ∧ Int32.toInt (M.1 3 1) ≤ 998) (hc3_2 : 0 ≤ Int32.toInt (M.1 3 2) ∧ Int32.toInt (M.1 3 2) ≤ 0) (d : Nat) : PW 4 d (0, [some (pvR 3), some (pvI 0), some (pvI 0), some (pvI n3), some (pvI 0), none, none], [], M) (fun r X => (∃ x : Int32, r = some (pvI x) ∧ True) ∧ pvOk X ∧ pvFr fp_X0_run_3_0_0_x_0_0 M X ∧ Int32.toInt (X.1 3 1) ≤ Int32.toInt (M.1 3 1) + 1) := by
  have hT : pvdom 4 = pvD_4 := rfl
  refine pw_blk hT 2 (S' := (4, [some (pvR 3), some (pvI 0), some (pvI 0), some (pvI n3), some (pvI 0), none, none], [pvI 40, pvI 0], M)) rfl ⟨trivial, trivial, trivial⟩ ?_
  refine pw_ic hT (c := 0 ≤ 40) rfl rfl (fun c1_ => ?_) (fun c1_ => absurd (by decide) c1_)
  refine pw_blk hT 2 (S' := (11, [some (pvR 3), some (pvI 0), some (pvI 0), some (pvI n3), some (pvI 0), none, none], [pvI 0, pvI 0], M)) rfl ⟨trivial, trivial, trivial⟩ ?_
  refine pw_callT hT (as := [pvI 0, pvI 0]) (lo1 := [some (pvI 0), some (pvI 0), none, none, none]) (d1 := d) (rest := []) rfl rfl rfl rfl rfl (fun h => absurd h (by decide)) (Nat.zero_le _) rfl rfl rfl (sf_X0_bodyFrom_0_0 M hok d) ?_
  refine pw_eqI (show ((pvstab 1041).getD (Int32.toNatClampNeg ((0 * 3) + 0)) 0) = 10 from by decide) ?_
  show PW 4 d (14, [some (pvR 3), some (pvI 0), some (pvI 0), some (pvI n3), some (pvI 0), none, none], [pvI 10], M) _
  refine pw_blk hT 7 (S' := (25, [some (pvR 3), some (pvI 0), some (pvI 0), some (pvI n3), some (pvI 0), some (pvI 10), some (pvI (0 + 1))], [pvI 10, pvR 3], M)) rfl ⟨trivial, trivial, trivial, trivial, trivial, trivial, trivial, trivial⟩ ?_
  refine pw_callVd hT (as := [pvR 3, pvI 10]) (lo1 := [some (pvR 3), some (pvI 10)]) (d1 := d) (rest := []) rfl rfl rfl rfl rfl (fun _ => rfl) (Nat.zero_le _) rfl rfl rfl (sf_X0_note_3_x M hok 10 (zr_wide (show 10 ≤ Int32.toInt 10 ∧ Int32.toInt 10 ≤ 10 from (by decide)) (by decide) (by decide)) (zr_wide hc3_1 (by decide) (by decide)) d) (fun M9_ o11_ g12_ d7_ => ?_)
  have f13_ : pvFr fp_X0_run_3_0_0_x_0_0 M M9_ := pvfr_t g12_ pvfr_0 fp_X0_run_3_0_0_x_0_0_fp_X0_note_3_x
  have b14_ : 0 ≤ Int32.toInt (M9_.1 3 1) ∧ Int32.toInt (M9_.1 3 1) ≤ 999 := (by have u0 := hc3_1; have u1 := d7_; have u2 := pvok_r o11_ 3 1 (lo := 0) (hi := 1000000) rfl; omega)
  refine pw_blk hT 1 (S' := (30, [some (pvR 3), some (pvI 0), some (pvI 0), some (pvI n3), some (pvI 0), some (pvI 10), some (pvI (0 + 1))], [pvI 10], M9_)) rfl ⟨trivial, trivial⟩ ?_
  refine pw_sw hT rfl rfl ?_
  refine And.intro (fun c15_ => ?_) (fun c15_ => absurd (by decide) c15_)
  show PW 4 d (128, [some (pvR 3), some (pvI 0), some (pvI 0), some (pvI n3), some (pvI 0), some (pvI 10), some (pvI (0 + 1))], [], M9_) _
  refine pw_blk hT 4 (S' := (134, [some (pvR 3), some (pvI 0), some (pvI 0), some (pvI n3), some (pvI 0), some (pvI 10), some (pvI (0 + 1))], [pvI (n3 + (M9_.1 3 4))], M9_)) rfl ⟨trivial, trivial, rfl, trivial, trivial⟩ ?_
  exact pw_ret hT rfl (r := some (pvI (n3 + (M9_.1 3 4)))) (M' := M9_) ⟨rfl, rfl⟩ ⟨⟨_, rfl, trivial⟩, o11_, f13_, (by omega)⟩
set_option maxHeartbeats 4000000 in
set_option maxRecDepth 10000 in
theorem sf_X0_bodyFrom_0_1 (M : pvM) (hok : pvOk M) (d : Nat) : PW 1 d (0, [some (pvI 0), some (pvI 1), none, none, none], [], M) (fun r X => r = some (pvI (((pvstab 1041).getD (Int32.toNatClampNeg ((0 * 3) + 1)) 0))) ∧ X = M) := by
  have hT : pvdom 1 = pvD_1 := rfl
  refine pw_blk hT 4 (S' := (4, [some (pvI 0), some (pvI 1), some (pvI 0), some (pvI 0), none], [], M)) rfl ⟨trivial, trivial, trivial, trivial, trivial⟩ ?_
  refine pw_blk hT 3 (S' := (9, [some (pvI 0), some (pvI 1), some (pvI 0), some (pvI 0), none], [pvI (Int32.ofNat (pvstab 1041).length), pvI 0], M)) rfl ⟨trivial, trivial, (by decide), trivial⟩ ?_
  refine pw_ic hT (c := (Int32.ofNat (pvstab 1041).length) ≤ 0) rfl rfl (fun c1_ => absurd c1_ (by decide)) (fun c1_ => ?_)
  refine pw_blk hT 1 (S' := (13, [some (pvI 0), some (pvI 1), some (pvI 0), some (pvI 0), none], [pvI 0], M)) rfl ⟨trivial, trivial⟩ ?_
  refine pw_if hT (c := 0 < 0) rfl rfl (fun c2_ => absurd c2_ (by decide)) (fun c2_ => ?_)
  refine pw_blk hT 7 (S' := (25, [some (pvI 0), some (pvI 1), some (pvI 0), some (pvI 0), some (pvI ((0 * 3) + 1))], [pvI ((0 * 3) + 1)], M)) rfl ⟨trivial, trivial, trivial, trivial, trivial, trivial, trivial, trivial⟩ ?_
  refine pw_if hT (c := ((0 * 3) + 1) < 0) rfl rfl (fun c3_ => absurd c3_ (by decide)) (fun c3_ => ?_)
  refine pw_blk hT 3 (S' := (34, [some (pvI 0), some (pvI 1), some (pvI 0), some (pvI 0), some (pvI ((0 * 3) + 1))], [pvI (Int32.ofNat (pvstab 1041).length), pvI ((0 * 3) + 1)], M)) rfl ⟨trivial, trivial, (by decide), trivial⟩ ?_
  refine pw_ic hT (c := (Int32.ofNat (pvstab 1041).length) ≤ ((0 * 3) + 1)) rfl rfl (fun c4_ => absurd c4_ (by decide)) (fun c4_ => ?_)
  refine pw_blk hT 3 (S' := (43, [some (pvI 0), some (pvI 1), some (pvI 0), some (pvI 0), some (pvI ((0 * 3) + 1))], [pvI ((pvstab 1041).getD (Int32.toNatClampNeg ((0 * 3) + 1)) 0)], M)) rfl ⟨trivial, trivial, ⟨by decide, (zr_in (n := 21) (show 1 ≤ Int32.toInt ((0 * 3) + 1) ∧ Int32.toInt ((0 * 3) + 1) ≤ 1 from (by decide)) (by decide) (by decide))⟩, trivial⟩ ?_
  refine pw_if hT (c := ((pvstab 1041).getD (Int32.toNatClampNeg ((0 * 3) + 1)) 0) = 0) rfl rfl (fun c5_ => absurd c5_ (by decide)) (fun c5_ => ?_)
  refine pw_blk hT 3 (S' := (52, [some (pvI 0), some (pvI 1), some (pvI 0), some (pvI 0), some (pvI ((0 * 3) + 1))], [pvI ((pvstab 1041).getD (Int32.toNatClampNeg ((0 * 3) + 1)) 0)], M)) rfl ⟨trivial, trivial, ⟨by decide, (zr_in (n := 21) (show 1 ≤ Int32.toInt ((0 * 3) + 1) ∧ Int32.toInt ((0 * 3) + 1) ≤ 1 from (by decide)) (by decide) (by decide))⟩, trivial⟩ ?_
  exact pw_ret hT rfl (r := some (pvI ((pvstab 1041).getD (Int32.toNatClampNeg ((0 * 3) + 1)) 0))) (M' := M) ⟨rfl, rfl⟩ ⟨rfl, rfl⟩
def fpL_X0_run_3_0_0_x_1_0 : List (Nat × Nat × Nat) := [(0, 3, 2), (0, 4, 0)]
def fp_X0_run_3_0_0_x_1_0 (q k : Nat) : Bool := pvfp fpL_X0_run_3_0_0_x_1_0 q k
theorem fp_X0_run_3_0_0_x_1_0_fp_X0_note_3_x (a b : Nat) (h : fp_X0_note_3_x a b = true) : fp_X0_run_3_0_0_x_1_0 a b = true := pvfp_sub (l1 := fpL_X0_note_3_x) (l2 := fpL_X0_run_3_0_0_x_1_0) (by decide) a b h
set_option maxHeartbeats 4000000 in
set_option maxRecDepth 10000 in
theorem sf_X0_run_3_0_0_x_1_0 (M : pvM) (hok : pvOk M) (n3 : Int32) (hc3_1 : 0 ≤ Int32.toInt (M.1 3 1) ∧ Int32.toInt (M.1 3 1) ≤ 998) (hc3_2 : 0 ≤ Int32.toInt (M.1 3 2) ∧ Int32.toInt (M.1 3 2) ≤ 0) (d : Nat) : PW 4 d (0, [some (pvR 3), some (pvI 0), some (pvI 0), some (pvI n3), some (pvI 1), none, none], [], M) (fun r X => (∃ x : Int32, r = some (pvI x) ∧ True) ∧ pvOk X ∧ pvFr fp_X0_run_3_0_0_x_1_0 M X ∧ Int32.toInt (X.1 3 1) ≤ Int32.toInt (M.1 3 1) + 1) := by
  have hT : pvdom 4 = pvD_4 := rfl
  refine pw_blk hT 2 (S' := (4, [some (pvR 3), some (pvI 0), some (pvI 0), some (pvI n3), some (pvI 1), none, none], [pvI 40, pvI 1], M)) rfl ⟨trivial, trivial, trivial⟩ ?_
  refine pw_ic hT (c := 1 ≤ 40) rfl rfl (fun c1_ => ?_) (fun c1_ => absurd (by decide) c1_)
  refine pw_blk hT 2 (S' := (11, [some (pvR 3), some (pvI 0), some (pvI 0), some (pvI n3), some (pvI 1), none, none], [pvI 0, pvI 0], M)) rfl ⟨trivial, trivial, trivial⟩ ?_
  refine pw_callT hT (as := [pvI 0, pvI 0]) (lo1 := [some (pvI 0), some (pvI 0), none, none, none]) (d1 := d) (rest := []) rfl rfl rfl rfl rfl (fun h => absurd h (by decide)) (Nat.zero_le _) rfl rfl rfl (sf_X0_bodyFrom_0_0 M hok d) ?_
  refine pw_eqI (show ((pvstab 1041).getD (Int32.toNatClampNeg ((0 * 3) + 0)) 0) = 10 from by decide) ?_
  show PW 4 d (14, [some (pvR 3), some (pvI 0), some (pvI 0), some (pvI n3), some (pvI 1), none, none], [pvI 10], M) _
  refine pw_blk hT 7 (S' := (25, [some (pvR 3), some (pvI 0), some (pvI 0), some (pvI n3), some (pvI 1), some (pvI 10), some (pvI (1 + 1))], [pvI 10, pvR 3], M)) rfl ⟨trivial, trivial, trivial, trivial, trivial, trivial, trivial, trivial⟩ ?_
  refine pw_callVd hT (as := [pvR 3, pvI 10]) (lo1 := [some (pvR 3), some (pvI 10)]) (d1 := d) (rest := []) rfl rfl rfl rfl rfl (fun _ => rfl) (Nat.zero_le _) rfl rfl rfl (sf_X0_note_3_x M hok 10 (zr_wide (show 10 ≤ Int32.toInt 10 ∧ Int32.toInt 10 ≤ 10 from (by decide)) (by decide) (by decide)) (zr_wide hc3_1 (by decide) (by decide)) d) (fun M9_ o11_ g12_ d7_ => ?_)
  have f13_ : pvFr fp_X0_run_3_0_0_x_1_0 M M9_ := pvfr_t g12_ pvfr_0 fp_X0_run_3_0_0_x_1_0_fp_X0_note_3_x
  have b14_ : 0 ≤ Int32.toInt (M9_.1 3 1) ∧ Int32.toInt (M9_.1 3 1) ≤ 999 := (by have u0 := hc3_1; have u1 := d7_; have u2 := pvok_r o11_ 3 1 (lo := 0) (hi := 1000000) rfl; omega)
  refine pw_blk hT 1 (S' := (30, [some (pvR 3), some (pvI 0), some (pvI 0), some (pvI n3), some (pvI 1), some (pvI 10), some (pvI (1 + 1))], [pvI 10], M9_)) rfl ⟨trivial, trivial⟩ ?_
  refine pw_sw hT rfl rfl ?_
  refine And.intro (fun c15_ => ?_) (fun c15_ => absurd (by decide) c15_)
  show PW 4 d (128, [some (pvR 3), some (pvI 0), some (pvI 0), some (pvI n3), some (pvI 1), some (pvI 10), some (pvI (1 + 1))], [], M9_) _
  refine pw_blk hT 4 (S' := (134, [some (pvR 3), some (pvI 0), some (pvI 0), some (pvI n3), some (pvI 1), some (pvI 10), some (pvI (1 + 1))], [pvI (n3 + (M9_.1 3 4))], M9_)) rfl ⟨trivial, trivial, rfl, trivial, trivial⟩ ?_
  exact pw_ret hT rfl (r := some (pvI (n3 + (M9_.1 3 4)))) (M' := M9_) ⟨rfl, rfl⟩ ⟨⟨_, rfl, trivial⟩, o11_, f13_, (by omega)⟩
def fpL_X0_run_3_0_1_x_0_0 : List (Nat × Nat × Nat) := [(0, 3, 2), (0, 4, 0)]
def fp_X0_run_3_0_1_x_0_0 (q k : Nat) : Bool := pvfp fpL_X0_run_3_0_1_x_0_0 q k
theorem fp_X0_run_3_0_1_x_0_0_fp_X0_note_3_x (a b : Nat) (h : fp_X0_note_3_x a b = true) : fp_X0_run_3_0_1_x_0_0 a b = true := pvfp_sub (l1 := fpL_X0_note_3_x) (l2 := fpL_X0_run_3_0_1_x_0_0) (by decide) a b h
theorem fp_X0_run_3_0_1_x_0_0_fp_X0_run_3_0_0_x_1_0 (a b : Nat) (h : fp_X0_run_3_0_0_x_1_0 a b = true) : fp_X0_run_3_0_1_x_0_0 a b = true := pvfp_sub (l1 := fpL_X0_run_3_0_0_x_1_0) (l2 := fpL_X0_run_3_0_1_x_0_0) (by decide) a b h
set_option maxHeartbeats 4000000 in
set_option maxRecDepth 10000 in
theorem sf_X0_run_3_0_1_x_0_0 (M : pvM) (hok : pvOk M) (n3 : Int32) (hc3_1 : 0 ≤ Int32.toInt (M.1 3 1) ∧ Int32.toInt (M.1 3 1) ≤ 997) (hc3_2 : 0 ≤ Int32.toInt (M.1 3 2) ∧ Int32.toInt (M.1 3 2) ≤ 0) (d : Nat) (hd : 1 ≤ d) : PW 4 d (0, [some (pvR 3), some (pvI 0), some (pvI 1), some (pvI n3), some (pvI 0), none, none], [], M) (fun r X => (∃ x : Int32, r = some (pvI x) ∧ True) ∧ pvOk X ∧ pvFr fp_X0_run_3_0_1_x_0_0 M X ∧ Int32.toInt (X.1 3 1) ≤ Int32.toInt (M.1 3 1) + 2) := by
  have hT : pvdom 4 = pvD_4 := rfl
  refine pw_blk hT 2 (S' := (4, [some (pvR 3), some (pvI 0), some (pvI 1), some (pvI n3), some (pvI 0), none, none], [pvI 40, pvI 0], M)) rfl ⟨trivial, trivial, trivial⟩ ?_
  refine pw_ic hT (c := 0 ≤ 40) rfl rfl (fun c1_ => ?_) (fun c1_ => absurd (by decide) c1_)
  refine pw_blk hT 2 (S' := (11, [some (pvR 3), some (pvI 0), some (pvI 1), some (pvI n3), some (pvI 0), none, none], [pvI 1, pvI 0], M)) rfl ⟨trivial, trivial, trivial⟩ ?_
  refine pw_callT hT (as := [pvI 0, pvI 1]) (lo1 := [some (pvI 0), some (pvI 1), none, none, none]) (d1 := d) (rest := []) rfl rfl rfl rfl rfl (fun h => absurd h (by decide)) (Nat.zero_le _) rfl rfl rfl (sf_X0_bodyFrom_0_1 M hok d) ?_
  refine pw_eqI (show ((pvstab 1041).getD (Int32.toNatClampNeg ((0 * 3) + 1)) 0) = 11 from by decide) ?_
  show PW 4 d (14, [some (pvR 3), some (pvI 0), some (pvI 1), some (pvI n3), some (pvI 0), none, none], [pvI 11], M) _
  refine pw_blk hT 7 (S' := (25, [some (pvR 3), some (pvI 0), some (pvI 1), some (pvI n3), some (pvI 0), some (pvI 11), some (pvI (0 + 1))], [pvI 11, pvR 3], M)) rfl ⟨trivial, trivial, trivial, trivial, trivial, trivial, trivial, trivial⟩ ?_
  refine pw_callVd hT (as := [pvR 3, pvI 11]) (lo1 := [some (pvR 3), some (pvI 11)]) (d1 := d) (rest := []) rfl rfl rfl rfl rfl (fun _ => rfl) (Nat.zero_le _) rfl rfl rfl (sf_X0_note_3_x M hok 11 (zr_wide (show 11 ≤ Int32.toInt 11 ∧ Int32.toInt 11 ≤ 11 from (by decide)) (by decide) (by decide)) (zr_wide hc3_1 (by decide) (by decide)) d) (fun M9_ o11_ g12_ d7_ => ?_)
  have f13_ : pvFr fp_X0_run_3_0_1_x_0_0 M M9_ := pvfr_t g12_ pvfr_0 fp_X0_run_3_0_1_x_0_0_fp_X0_note_3_x
  have b14_ : 0 ≤ Int32.toInt (M9_.1 3 1) ∧ Int32.toInt (M9_.1 3 1) ≤ 998 := (by have u0 := hc3_1; have u1 := d7_; have u2 := pvok_r o11_ 3 1 (lo := 0) (hi := 1000000) rfl; omega)
  refine pw_blk hT 1 (S' := (30, [some (pvR 3), some (pvI 0), some (pvI 1), some (pvI n3), some (pvI 0), some (pvI 11), some (pvI (0 + 1))], [pvI 11], M9_)) rfl ⟨trivial, trivial⟩ ?_
  refine pw_sw hT rfl rfl ?_
  refine And.intro (fun c15_ => absurd c15_ (by decide)) (fun c15_ => ?_)
  refine And.intro (fun c16_ => ?_) (fun c16_ => absurd (by decide) c16_)
  show PW 4 d (135, [some (pvR 3), some (pvI 0), some (pvI 1), some (pvI n3), some (pvI 0), some (pvI 11), some (pvI (0 + 1))], [], M9_) _
  have e17_ : (M9_.1 3 2) = (M.1 3 2) := (g12_ 3 2 rfl)
  have b18_ : 0 ≤ Int32.toInt (M9_.1 3 2) ∧ Int32.toInt (M9_.1 3 2) ≤ 0 := (by rw [e17_]; exact hc3_2)
  refine pw_blk hT 3 (S' := (140, [some (pvR 3), some (pvI 0), some (pvI 1), some (pvI n3), some (pvI 0), some (pvI 11), some (pvI (0 + 1))], [pvI (M9_.1 3 2), pvR 3], M9_)) rfl ⟨trivial, trivial, rfl, trivial⟩ ?_
  refine pw_eqI ((zi_eq _ (0)).mpr (by have u0 := b18_; have u1 : Int32.toInt (0) = 0 := (by decide); omega)) ?_
  refine pw_blk hT 3 (S' := (144, [some (pvR 3), some (pvI 0), some (pvI 1), some (pvI n3), some (pvI 0), some (pvI 11), some (pvI (0 + 1))], [pvI (0 + 1), pvI n3, pvI 0, pvI 0, pvR 3], M9_)) rfl ⟨trivial, trivial, trivial, trivial⟩ ?_
  refine pw_callGd hT (as := [pvR 3, pvI 0, pvI 0, pvI n3, pvI (0 + 1)]) (lo1 := [some (pvR 3), some (pvI 0), some (pvI 0), some (pvI n3), some (pvI (0 + 1)), none, none]) (d1 := (d - 1)) (rest := []) rfl rfl rfl rfl rfl (fun h => absurd h (by decide)) (show 1 ≤ d by omega) rfl rfl rfl (sf_X0_run_3_0_0_x_1_0 M9_ o11_ n3 b14_ b18_ (d - 1)) (fun x20_ M21_ b22_ o23_ g24_ d19_ => ?_)
  have f25_ : pvFr fp_X0_run_3_0_1_x_0_0 M M21_ := pvfr_t g24_ f13_ fp_X0_run_3_0_1_x_0_0_fp_X0_run_3_0_0_x_1_0
  have b26_ : 0 ≤ Int32.toInt (M21_.1 3 1) ∧ Int32.toInt (M21_.1 3 1) ≤ 999 := (by have u0 := b14_; have u1 := d19_; have u2 := pvok_r o23_ 3 1 (lo := 0) (hi := 1000000) rfl; omega)
  refine pw_blk hT 3 (S' := (152, [some (pvR 3), some (pvI 0), some (pvI 1), some (pvI n3), some (pvI 0), some (pvI 11), some (pvI (0 + 1))], [pvI (x20_ - (M21_.1 3 3))], M21_)) rfl ⟨trivial, rfl, trivial, trivial⟩ ?_
  exact pw_ret hT rfl (r := some (pvI (x20_ - (M21_.1 3 3)))) (M' := M21_) ⟨rfl, rfl⟩ ⟨⟨_, rfl, trivial⟩, o23_, f25_, (by omega)⟩
set_option maxHeartbeats 4000000 in
set_option maxRecDepth 10000 in
theorem sf_X0_bodyFrom_0_2 (M : pvM) (hok : pvOk M) (d : Nat) : PW 1 d (0, [some (pvI 0), some (pvI 2), none, none, none], [], M) (fun r X => r = some (pvI (((pvstab 1041).getD (Int32.toNatClampNeg ((0 * 3) + 2)) 0))) ∧ X = M) := by
  have hT : pvdom 1 = pvD_1 := rfl
  refine pw_blk hT 4 (S' := (4, [some (pvI 0), some (pvI 2), some (pvI 0), some (pvI 0), none], [], M)) rfl ⟨trivial, trivial, trivial, trivial, trivial⟩ ?_
  refine pw_blk hT 3 (S' := (9, [some (pvI 0), some (pvI 2), some (pvI 0), some (pvI 0), none], [pvI (Int32.ofNat (pvstab 1041).length), pvI 0], M)) rfl ⟨trivial, trivial, (by decide), trivial⟩ ?_
  refine pw_ic hT (c := (Int32.ofNat (pvstab 1041).length) ≤ 0) rfl rfl (fun c1_ => absurd c1_ (by decide)) (fun c1_ => ?_)
  refine pw_blk hT 1 (S' := (13, [some (pvI 0), some (pvI 2), some (pvI 0), some (pvI 0), none], [pvI 0], M)) rfl ⟨trivial, trivial⟩ ?_
  refine pw_if hT (c := 0 < 0) rfl rfl (fun c2_ => absurd c2_ (by decide)) (fun c2_ => ?_)
  refine pw_blk hT 7 (S' := (25, [some (pvI 0), some (pvI 2), some (pvI 0), some (pvI 0), some (pvI ((0 * 3) + 2))], [pvI ((0 * 3) + 2)], M)) rfl ⟨trivial, trivial, trivial, trivial, trivial, trivial, trivial, trivial⟩ ?_
  refine pw_if hT (c := ((0 * 3) + 2) < 0) rfl rfl (fun c3_ => absurd c3_ (by decide)) (fun c3_ => ?_)
  refine pw_blk hT 3 (S' := (34, [some (pvI 0), some (pvI 2), some (pvI 0), some (pvI 0), some (pvI ((0 * 3) + 2))], [pvI (Int32.ofNat (pvstab 1041).length), pvI ((0 * 3) + 2)], M)) rfl ⟨trivial, trivial, (by decide), trivial⟩ ?_
  refine pw_ic hT (c := (Int32.ofNat (pvstab 1041).length) ≤ ((0 * 3) + 2)) rfl rfl (fun c4_ => absurd c4_ (by decide)) (fun c4_ => ?_)
  refine pw_blk hT 3 (S' := (43, [some (pvI 0), some (pvI 2), some (pvI 0), some (pvI 0), some (pvI ((0 * 3) + 2))], [pvI ((pvstab 1041).getD (Int32.toNatClampNeg ((0 * 3) + 2)) 0)], M)) rfl ⟨trivial, trivial, ⟨by decide, (zr_in (n := 21) (show 2 ≤ Int32.toInt ((0 * 3) + 2) ∧ Int32.toInt ((0 * 3) + 2) ≤ 2 from (by decide)) (by decide) (by decide))⟩, trivial⟩ ?_
  refine pw_if hT (c := ((pvstab 1041).getD (Int32.toNatClampNeg ((0 * 3) + 2)) 0) = 0) rfl rfl (fun c5_ => absurd c5_ (by decide)) (fun c5_ => ?_)
  refine pw_blk hT 3 (S' := (52, [some (pvI 0), some (pvI 2), some (pvI 0), some (pvI 0), some (pvI ((0 * 3) + 2))], [pvI ((pvstab 1041).getD (Int32.toNatClampNeg ((0 * 3) + 2)) 0)], M)) rfl ⟨trivial, trivial, ⟨by decide, (zr_in (n := 21) (show 2 ≤ Int32.toInt ((0 * 3) + 2) ∧ Int32.toInt ((0 * 3) + 2) ≤ 2 from (by decide)) (by decide) (by decide))⟩, trivial⟩ ?_
  exact pw_ret hT rfl (r := some (pvI ((pvstab 1041).getD (Int32.toNatClampNeg ((0 * 3) + 2)) 0))) (M' := M) ⟨rfl, rfl⟩ ⟨rfl, rfl⟩
def fpL_X0_run_3_0_0_x_2_0 : List (Nat × Nat × Nat) := [(0, 3, 2), (0, 4, 0)]
def fp_X0_run_3_0_0_x_2_0 (q k : Nat) : Bool := pvfp fpL_X0_run_3_0_0_x_2_0 q k
theorem fp_X0_run_3_0_0_x_2_0_fp_X0_note_3_x (a b : Nat) (h : fp_X0_note_3_x a b = true) : fp_X0_run_3_0_0_x_2_0 a b = true := pvfp_sub (l1 := fpL_X0_note_3_x) (l2 := fpL_X0_run_3_0_0_x_2_0) (by decide) a b h
set_option maxHeartbeats 4000000 in
set_option maxRecDepth 10000 in
theorem sf_X0_run_3_0_0_x_2_0 (M : pvM) (hok : pvOk M) (n3 : Int32) (hc3_1 : 0 ≤ Int32.toInt (M.1 3 1) ∧ Int32.toInt (M.1 3 1) ≤ 998) (hc3_2 : 0 ≤ Int32.toInt (M.1 3 2) ∧ Int32.toInt (M.1 3 2) ≤ 0) (d : Nat) : PW 4 d (0, [some (pvR 3), some (pvI 0), some (pvI 0), some (pvI n3), some (pvI 2), none, none], [], M) (fun r X => (∃ x : Int32, r = some (pvI x) ∧ True) ∧ pvOk X ∧ pvFr fp_X0_run_3_0_0_x_2_0 M X ∧ Int32.toInt (X.1 3 1) ≤ Int32.toInt (M.1 3 1) + 1) := by
  have hT : pvdom 4 = pvD_4 := rfl
  refine pw_blk hT 2 (S' := (4, [some (pvR 3), some (pvI 0), some (pvI 0), some (pvI n3), some (pvI 2), none, none], [pvI 40, pvI 2], M)) rfl ⟨trivial, trivial, trivial⟩ ?_
  refine pw_ic hT (c := 2 ≤ 40) rfl rfl (fun c1_ => ?_) (fun c1_ => absurd (by decide) c1_)
  refine pw_blk hT 2 (S' := (11, [some (pvR 3), some (pvI 0), some (pvI 0), some (pvI n3), some (pvI 2), none, none], [pvI 0, pvI 0], M)) rfl ⟨trivial, trivial, trivial⟩ ?_
  refine pw_callT hT (as := [pvI 0, pvI 0]) (lo1 := [some (pvI 0), some (pvI 0), none, none, none]) (d1 := d) (rest := []) rfl rfl rfl rfl rfl (fun h => absurd h (by decide)) (Nat.zero_le _) rfl rfl rfl (sf_X0_bodyFrom_0_0 M hok d) ?_
  refine pw_eqI (show ((pvstab 1041).getD (Int32.toNatClampNeg ((0 * 3) + 0)) 0) = 10 from by decide) ?_
  show PW 4 d (14, [some (pvR 3), some (pvI 0), some (pvI 0), some (pvI n3), some (pvI 2), none, none], [pvI 10], M) _
  refine pw_blk hT 7 (S' := (25, [some (pvR 3), some (pvI 0), some (pvI 0), some (pvI n3), some (pvI 2), some (pvI 10), some (pvI (2 + 1))], [pvI 10, pvR 3], M)) rfl ⟨trivial, trivial, trivial, trivial, trivial, trivial, trivial, trivial⟩ ?_
  refine pw_callVd hT (as := [pvR 3, pvI 10]) (lo1 := [some (pvR 3), some (pvI 10)]) (d1 := d) (rest := []) rfl rfl rfl rfl rfl (fun _ => rfl) (Nat.zero_le _) rfl rfl rfl (sf_X0_note_3_x M hok 10 (zr_wide (show 10 ≤ Int32.toInt 10 ∧ Int32.toInt 10 ≤ 10 from (by decide)) (by decide) (by decide)) (zr_wide hc3_1 (by decide) (by decide)) d) (fun M9_ o11_ g12_ d7_ => ?_)
  have f13_ : pvFr fp_X0_run_3_0_0_x_2_0 M M9_ := pvfr_t g12_ pvfr_0 fp_X0_run_3_0_0_x_2_0_fp_X0_note_3_x
  have b14_ : 0 ≤ Int32.toInt (M9_.1 3 1) ∧ Int32.toInt (M9_.1 3 1) ≤ 999 := (by have u0 := hc3_1; have u1 := d7_; have u2 := pvok_r o11_ 3 1 (lo := 0) (hi := 1000000) rfl; omega)
  refine pw_blk hT 1 (S' := (30, [some (pvR 3), some (pvI 0), some (pvI 0), some (pvI n3), some (pvI 2), some (pvI 10), some (pvI (2 + 1))], [pvI 10], M9_)) rfl ⟨trivial, trivial⟩ ?_
  refine pw_sw hT rfl rfl ?_
  refine And.intro (fun c15_ => ?_) (fun c15_ => absurd (by decide) c15_)
  show PW 4 d (128, [some (pvR 3), some (pvI 0), some (pvI 0), some (pvI n3), some (pvI 2), some (pvI 10), some (pvI (2 + 1))], [], M9_) _
  refine pw_blk hT 4 (S' := (134, [some (pvR 3), some (pvI 0), some (pvI 0), some (pvI n3), some (pvI 2), some (pvI 10), some (pvI (2 + 1))], [pvI (n3 + (M9_.1 3 4))], M9_)) rfl ⟨trivial, trivial, rfl, trivial, trivial⟩ ?_
  exact pw_ret hT rfl (r := some (pvI (n3 + (M9_.1 3 4)))) (M' := M9_) ⟨rfl, rfl⟩ ⟨⟨_, rfl, trivial⟩, o11_, f13_, (by omega)⟩
def fpL_X0_run_3_0_1_x_1_0 : List (Nat × Nat × Nat) := [(0, 3, 2), (0, 4, 0)]
def fp_X0_run_3_0_1_x_1_0 (q k : Nat) : Bool := pvfp fpL_X0_run_3_0_1_x_1_0 q k
theorem fp_X0_run_3_0_1_x_1_0_fp_X0_note_3_x (a b : Nat) (h : fp_X0_note_3_x a b = true) : fp_X0_run_3_0_1_x_1_0 a b = true := pvfp_sub (l1 := fpL_X0_note_3_x) (l2 := fpL_X0_run_3_0_1_x_1_0) (by decide) a b h
theorem fp_X0_run_3_0_1_x_1_0_fp_X0_run_3_0_0_x_2_0 (a b : Nat) (h : fp_X0_run_3_0_0_x_2_0 a b = true) : fp_X0_run_3_0_1_x_1_0 a b = true := pvfp_sub (l1 := fpL_X0_run_3_0_0_x_2_0) (l2 := fpL_X0_run_3_0_1_x_1_0) (by decide) a b h
set_option maxHeartbeats 4000000 in
set_option maxRecDepth 10000 in
theorem sf_X0_run_3_0_1_x_1_0 (M : pvM) (hok : pvOk M) (n3 : Int32) (hc3_1 : 0 ≤ Int32.toInt (M.1 3 1) ∧ Int32.toInt (M.1 3 1) ≤ 997) (hc3_2 : 0 ≤ Int32.toInt (M.1 3 2) ∧ Int32.toInt (M.1 3 2) ≤ 0) (d : Nat) (hd : 1 ≤ d) : PW 4 d (0, [some (pvR 3), some (pvI 0), some (pvI 1), some (pvI n3), some (pvI 1), none, none], [], M) (fun r X => (∃ x : Int32, r = some (pvI x) ∧ True) ∧ pvOk X ∧ pvFr fp_X0_run_3_0_1_x_1_0 M X ∧ Int32.toInt (X.1 3 1) ≤ Int32.toInt (M.1 3 1) + 2) := by
  have hT : pvdom 4 = pvD_4 := rfl
  refine pw_blk hT 2 (S' := (4, [some (pvR 3), some (pvI 0), some (pvI 1), some (pvI n3), some (pvI 1), none, none], [pvI 40, pvI 1], M)) rfl ⟨trivial, trivial, trivial⟩ ?_
  refine pw_ic hT (c := 1 ≤ 40) rfl rfl (fun c1_ => ?_) (fun c1_ => absurd (by decide) c1_)
  refine pw_blk hT 2 (S' := (11, [some (pvR 3), some (pvI 0), some (pvI 1), some (pvI n3), some (pvI 1), none, none], [pvI 1, pvI 0], M)) rfl ⟨trivial, trivial, trivial⟩ ?_
  refine pw_callT hT (as := [pvI 0, pvI 1]) (lo1 := [some (pvI 0), some (pvI 1), none, none, none]) (d1 := d) (rest := []) rfl rfl rfl rfl rfl (fun h => absurd h (by decide)) (Nat.zero_le _) rfl rfl rfl (sf_X0_bodyFrom_0_1 M hok d) ?_
  refine pw_eqI (show ((pvstab 1041).getD (Int32.toNatClampNeg ((0 * 3) + 1)) 0) = 11 from by decide) ?_
  show PW 4 d (14, [some (pvR 3), some (pvI 0), some (pvI 1), some (pvI n3), some (pvI 1), none, none], [pvI 11], M) _
  refine pw_blk hT 7 (S' := (25, [some (pvR 3), some (pvI 0), some (pvI 1), some (pvI n3), some (pvI 1), some (pvI 11), some (pvI (1 + 1))], [pvI 11, pvR 3], M)) rfl ⟨trivial, trivial, trivial, trivial, trivial, trivial, trivial, trivial⟩ ?_
  refine pw_callVd hT (as := [pvR 3, pvI 11]) (lo1 := [some (pvR 3), some (pvI 11)]) (d1 := d) (rest := []) rfl rfl rfl rfl rfl (fun _ => rfl) (Nat.zero_le _) rfl rfl rfl (sf_X0_note_3_x M hok 11 (zr_wide (show 11 ≤ Int32.toInt 11 ∧ Int32.toInt 11 ≤ 11 from (by decide)) (by decide) (by decide)) (zr_wide hc3_1 (by decide) (by decide)) d) (fun M9_ o11_ g12_ d7_ => ?_)
  have f13_ : pvFr fp_X0_run_3_0_1_x_1_0 M M9_ := pvfr_t g12_ pvfr_0 fp_X0_run_3_0_1_x_1_0_fp_X0_note_3_x
  have b14_ : 0 ≤ Int32.toInt (M9_.1 3 1) ∧ Int32.toInt (M9_.1 3 1) ≤ 998 := (by have u0 := hc3_1; have u1 := d7_; have u2 := pvok_r o11_ 3 1 (lo := 0) (hi := 1000000) rfl; omega)
  refine pw_blk hT 1 (S' := (30, [some (pvR 3), some (pvI 0), some (pvI 1), some (pvI n3), some (pvI 1), some (pvI 11), some (pvI (1 + 1))], [pvI 11], M9_)) rfl ⟨trivial, trivial⟩ ?_
  refine pw_sw hT rfl rfl ?_
  refine And.intro (fun c15_ => absurd c15_ (by decide)) (fun c15_ => ?_)
  refine And.intro (fun c16_ => ?_) (fun c16_ => absurd (by decide) c16_)
  show PW 4 d (135, [some (pvR 3), some (pvI 0), some (pvI 1), some (pvI n3), some (pvI 1), some (pvI 11), some (pvI (1 + 1))], [], M9_) _
  have e17_ : (M9_.1 3 2) = (M.1 3 2) := (g12_ 3 2 rfl)
  have b18_ : 0 ≤ Int32.toInt (M9_.1 3 2) ∧ Int32.toInt (M9_.1 3 2) ≤ 0 := (by rw [e17_]; exact hc3_2)
  refine pw_blk hT 3 (S' := (140, [some (pvR 3), some (pvI 0), some (pvI 1), some (pvI n3), some (pvI 1), some (pvI 11), some (pvI (1 + 1))], [pvI (M9_.1 3 2), pvR 3], M9_)) rfl ⟨trivial, trivial, rfl, trivial⟩ ?_
  refine pw_eqI ((zi_eq _ (0)).mpr (by have u0 := b18_; have u1 : Int32.toInt (0) = 0 := (by decide); omega)) ?_
  refine pw_blk hT 3 (S' := (144, [some (pvR 3), some (pvI 0), some (pvI 1), some (pvI n3), some (pvI 1), some (pvI 11), some (pvI (1 + 1))], [pvI (1 + 1), pvI n3, pvI 0, pvI 0, pvR 3], M9_)) rfl ⟨trivial, trivial, trivial, trivial⟩ ?_
  refine pw_callGd hT (as := [pvR 3, pvI 0, pvI 0, pvI n3, pvI (1 + 1)]) (lo1 := [some (pvR 3), some (pvI 0), some (pvI 0), some (pvI n3), some (pvI (1 + 1)), none, none]) (d1 := (d - 1)) (rest := []) rfl rfl rfl rfl rfl (fun h => absurd h (by decide)) (show 1 ≤ d by omega) rfl rfl rfl (sf_X0_run_3_0_0_x_2_0 M9_ o11_ n3 b14_ b18_ (d - 1)) (fun x20_ M21_ b22_ o23_ g24_ d19_ => ?_)
  have f25_ : pvFr fp_X0_run_3_0_1_x_1_0 M M21_ := pvfr_t g24_ f13_ fp_X0_run_3_0_1_x_1_0_fp_X0_run_3_0_0_x_2_0
  have b26_ : 0 ≤ Int32.toInt (M21_.1 3 1) ∧ Int32.toInt (M21_.1 3 1) ≤ 999 := (by have u0 := b14_; have u1 := d19_; have u2 := pvok_r o23_ 3 1 (lo := 0) (hi := 1000000) rfl; omega)
  refine pw_blk hT 3 (S' := (152, [some (pvR 3), some (pvI 0), some (pvI 1), some (pvI n3), some (pvI 1), some (pvI 11), some (pvI (1 + 1))], [pvI (x20_ - (M21_.1 3 3))], M21_)) rfl ⟨trivial, rfl, trivial, trivial⟩ ?_
  exact pw_ret hT rfl (r := some (pvI (x20_ - (M21_.1 3 3)))) (M' := M21_) ⟨rfl, rfl⟩ ⟨⟨_, rfl, trivial⟩, o23_, f25_, (by omega)⟩
def fpL_X0_run_3_0_2_x_0_0 : List (Nat × Nat × Nat) := [(0, 3, 2), (0, 4, 0)]
def fp_X0_run_3_0_2_x_0_0 (q k : Nat) : Bool := pvfp fpL_X0_run_3_0_2_x_0_0 q k
theorem fp_X0_run_3_0_2_x_0_0_fp_X0_note_3_x (a b : Nat) (h : fp_X0_note_3_x a b = true) : fp_X0_run_3_0_2_x_0_0 a b = true := pvfp_sub (l1 := fpL_X0_note_3_x) (l2 := fpL_X0_run_3_0_2_x_0_0) (by decide) a b h
theorem fp_X0_run_3_0_2_x_0_0_fp_X0_run_3_0_1_x_1_0 (a b : Nat) (h : fp_X0_run_3_0_1_x_1_0 a b = true) : fp_X0_run_3_0_2_x_0_0 a b = true := pvfp_sub (l1 := fpL_X0_run_3_0_1_x_1_0) (l2 := fpL_X0_run_3_0_2_x_0_0) (by decide) a b h
set_option maxHeartbeats 4000000 in
set_option maxRecDepth 10000 in
theorem sf_X0_run_3_0_2_x_0_0 (M : pvM) (hok : pvOk M) (n3 : Int32) (hc3_1 : 0 ≤ Int32.toInt (M.1 3 1) ∧ Int32.toInt (M.1 3 1) ≤ 996) (hc3_2 : 0 ≤ Int32.toInt (M.1 3 2) ∧ Int32.toInt (M.1 3 2) ≤ 0) (d : Nat) (hd : 2 ≤ d) : PW 4 d (0, [some (pvR 3), some (pvI 0), some (pvI 2), some (pvI n3), some (pvI 0), none, none], [], M) (fun r X => (∃ x : Int32, r = some (pvI x) ∧ True) ∧ pvOk X ∧ pvFr fp_X0_run_3_0_2_x_0_0 M X ∧ Int32.toInt (X.1 3 1) ≤ Int32.toInt (M.1 3 1) + 3) := by
  have hT : pvdom 4 = pvD_4 := rfl
  refine pw_blk hT 2 (S' := (4, [some (pvR 3), some (pvI 0), some (pvI 2), some (pvI n3), some (pvI 0), none, none], [pvI 40, pvI 0], M)) rfl ⟨trivial, trivial, trivial⟩ ?_
  refine pw_ic hT (c := 0 ≤ 40) rfl rfl (fun c1_ => ?_) (fun c1_ => absurd (by decide) c1_)
  refine pw_blk hT 2 (S' := (11, [some (pvR 3), some (pvI 0), some (pvI 2), some (pvI n3), some (pvI 0), none, none], [pvI 2, pvI 0], M)) rfl ⟨trivial, trivial, trivial⟩ ?_
  refine pw_callT hT (as := [pvI 0, pvI 2]) (lo1 := [some (pvI 0), some (pvI 2), none, none, none]) (d1 := d) (rest := []) rfl rfl rfl rfl rfl (fun h => absurd h (by decide)) (Nat.zero_le _) rfl rfl rfl (sf_X0_bodyFrom_0_2 M hok d) ?_
  refine pw_eqI (show ((pvstab 1041).getD (Int32.toNatClampNeg ((0 * 3) + 2)) 0) = 12 from by decide) ?_
  show PW 4 d (14, [some (pvR 3), some (pvI 0), some (pvI 2), some (pvI n3), some (pvI 0), none, none], [pvI 12], M) _
  refine pw_blk hT 7 (S' := (25, [some (pvR 3), some (pvI 0), some (pvI 2), some (pvI n3), some (pvI 0), some (pvI 12), some (pvI (0 + 1))], [pvI 12, pvR 3], M)) rfl ⟨trivial, trivial, trivial, trivial, trivial, trivial, trivial, trivial⟩ ?_
  refine pw_callVd hT (as := [pvR 3, pvI 12]) (lo1 := [some (pvR 3), some (pvI 12)]) (d1 := d) (rest := []) rfl rfl rfl rfl rfl (fun _ => rfl) (Nat.zero_le _) rfl rfl rfl (sf_X0_note_3_x M hok 12 (zr_wide (show 12 ≤ Int32.toInt 12 ∧ Int32.toInt 12 ≤ 12 from (by decide)) (by decide) (by decide)) (zr_wide hc3_1 (by decide) (by decide)) d) (fun M9_ o11_ g12_ d7_ => ?_)
  have f13_ : pvFr fp_X0_run_3_0_2_x_0_0 M M9_ := pvfr_t g12_ pvfr_0 fp_X0_run_3_0_2_x_0_0_fp_X0_note_3_x
  have b14_ : 0 ≤ Int32.toInt (M9_.1 3 1) ∧ Int32.toInt (M9_.1 3 1) ≤ 997 := (by have u0 := hc3_1; have u1 := d7_; have u2 := pvok_r o11_ 3 1 (lo := 0) (hi := 1000000) rfl; omega)
  refine pw_blk hT 1 (S' := (30, [some (pvR 3), some (pvI 0), some (pvI 2), some (pvI n3), some (pvI 0), some (pvI 12), some (pvI (0 + 1))], [pvI 12], M9_)) rfl ⟨trivial, trivial⟩ ?_
  refine pw_sw hT rfl rfl ?_
  refine And.intro (fun c15_ => absurd c15_ (by decide)) (fun c15_ => ?_)
  refine And.intro (fun c16_ => absurd c16_ (by decide)) (fun c16_ => ?_)
  refine And.intro (fun c17_ => ?_) (fun c17_ => absurd (by decide) c17_)
  show PW 4 d (153, [some (pvR 3), some (pvI 0), some (pvI 2), some (pvI n3), some (pvI 0), some (pvI 12), some (pvI (0 + 1))], [], M9_) _
  have e18_ : (M9_.1 3 2) = (M.1 3 2) := (g12_ 3 2 rfl)
  have b19_ : 0 ≤ Int32.toInt (M9_.1 3 2) ∧ Int32.toInt (M9_.1 3 2) ≤ 0 := (by rw [e18_]; exact hc3_2)
  refine pw_blk hT 3 (S' := (158, [some (pvR 3), some (pvI 0), some (pvI 2), some (pvI n3), some (pvI 0), some (pvI 12), some (pvI (0 + 1))], [pvI (M9_.1 3 2), pvR 3], M9_)) rfl ⟨trivial, trivial, rfl, trivial⟩ ?_
  refine pw_eqI ((zi_eq _ (0)).mpr (by have u0 := b19_; have u1 : Int32.toInt (0) = 0 := (by decide); omega)) ?_
  refine pw_blk hT 3 (S' := (162, [some (pvR 3), some (pvI 0), some (pvI 2), some (pvI n3), some (pvI 0), some (pvI 12), some (pvI (0 + 1))], [pvI (0 + 1), pvI n3, pvI 1, pvI 0, pvR 3], M9_)) rfl ⟨trivial, trivial, trivial, trivial⟩ ?_
  refine pw_callGd hT (as := [pvR 3, pvI 0, pvI 1, pvI n3, pvI (0 + 1)]) (lo1 := [some (pvR 3), some (pvI 0), some (pvI 1), some (pvI n3), some (pvI (0 + 1)), none, none]) (d1 := (d - 1)) (rest := []) rfl rfl rfl rfl rfl (fun h => absurd h (by decide)) (show 1 ≤ d by omega) rfl rfl rfl (sf_X0_run_3_0_1_x_1_0 M9_ o11_ n3 b14_ b19_ (d - 1) (by omega)) (fun x21_ M22_ b23_ o24_ g25_ d20_ => ?_)
  have f26_ : pvFr fp_X0_run_3_0_2_x_0_0 M M22_ := pvfr_t g25_ f13_ fp_X0_run_3_0_2_x_0_0_fp_X0_run_3_0_1_x_1_0
  have b27_ : 0 ≤ Int32.toInt (M22_.1 3 1) ∧ Int32.toInt (M22_.1 3 1) ≤ 999 := (by have u0 := b14_; have u1 := d20_; have u2 := pvok_r o24_ 3 1 (lo := 0) (hi := 1000000) rfl; omega)
  refine pw_blk hT 2 (S' := (167, [some (pvR 3), some (pvI 0), some (pvI 2), some (pvI n3), some (pvI 0), some (pvI 12), some (pvI (0 + 1))], [pvI (x21_ * 2)], M22_)) rfl ⟨trivial, trivial, trivial⟩ ?_
  exact pw_ret hT rfl (r := some (pvI (x21_ * 2))) (M' := M22_) ⟨rfl, rfl⟩ ⟨⟨_, rfl, trivial⟩, o24_, f26_, (by omega)⟩
set_option maxHeartbeats 4000000 in
set_option maxRecDepth 10000 in
theorem sf_X3_above_1 (M : pvM) (hok : pvOk M) (d : Nat) : PW 131 d (0, [some (pvI 1)], [], M) (fun r X => r = some (pvI (((pvstab 1040).getD (Int32.toNatClampNeg 1) 0))) ∧ X = M) := by
  have hT : pvdom 131 = pvD_131 := rfl
  refine pw_blk hT 1 (S' := (1, [some (pvI 1)], [pvI 1], M)) rfl ⟨trivial, trivial⟩ ?_
  refine pw_if hT (c := 1 < 0) rfl rfl (fun c1_ => absurd c1_ (by decide)) (fun c1_ => ?_)
  refine pw_blk hT 3 (S' := (9, [some (pvI 1)], [pvI (Int32.ofNat (pvstab 1040).length), pvI 1], M)) rfl ⟨trivial, trivial, (by decide), trivial⟩ ?_
  refine pw_ic hT (c := 1 < (Int32.ofNat (pvstab 1040).length)) rfl rfl (fun c2_ => ?_) (fun c2_ => absurd (by decide) c2_)
  refine pw_blk hT 3 (S' := (21, [some (pvI 1)], [pvI ((pvstab 1040).getD (Int32.toNatClampNeg 1) 0)], M)) rfl ⟨trivial, trivial, ⟨by decide, (zr_in (n := 7) (show 1 ≤ Int32.toInt 1 ∧ Int32.toInt 1 ≤ 1 from (by decide)) (by decide) (by decide))⟩, trivial⟩ ?_
  exact pw_ret hT rfl (r := some (pvI ((pvstab 1040).getD (Int32.toNatClampNeg 1) 0))) (M' := M) ⟨rfl, rfl⟩ ⟨rfl, rfl⟩
set_option maxHeartbeats 4000000 in
set_option maxRecDepth 10000 in
theorem sf_X0_bodyFrom_1_0 (M : pvM) (hok : pvOk M) (d : Nat) : PW 1 d (0, [some (pvI 1), some (pvI 0), none, none, none], [], M) (fun r X => r = some (pvI (((pvstab 1041).getD (Int32.toNatClampNeg ((0 * 3) + 0)) 0))) ∧ X = M) := by
  have hT : pvdom 1 = pvD_1 := rfl
  refine pw_blk hT 4 (S' := (4, [some (pvI 1), some (pvI 0), some (pvI 1), some (pvI 0), none], [], M)) rfl ⟨trivial, trivial, trivial, trivial, trivial⟩ ?_
  refine pw_blk hT 3 (S' := (9, [some (pvI 1), some (pvI 0), some (pvI 1), some (pvI 0), none], [pvI (Int32.ofNat (pvstab 1041).length), pvI 0], M)) rfl ⟨trivial, trivial, (by decide), trivial⟩ ?_
  refine pw_ic hT (c := (Int32.ofNat (pvstab 1041).length) ≤ 0) rfl rfl (fun c1_ => absurd c1_ (by decide)) (fun c1_ => ?_)
  refine pw_blk hT 1 (S' := (13, [some (pvI 1), some (pvI 0), some (pvI 1), some (pvI 0), none], [pvI 1], M)) rfl ⟨trivial, trivial⟩ ?_
  refine pw_if hT (c := 1 < 0) rfl rfl (fun c2_ => absurd c2_ (by decide)) (fun c2_ => ?_)
  refine pw_blk hT 7 (S' := (25, [some (pvI 1), some (pvI 0), some (pvI 1), some (pvI 0), some (pvI ((1 * 3) + 0))], [pvI ((1 * 3) + 0)], M)) rfl ⟨trivial, trivial, trivial, trivial, trivial, trivial, trivial, trivial⟩ ?_
  refine pw_if hT (c := ((1 * 3) + 0) < 0) rfl rfl (fun c3_ => absurd c3_ (by decide)) (fun c3_ => ?_)
  refine pw_blk hT 3 (S' := (34, [some (pvI 1), some (pvI 0), some (pvI 1), some (pvI 0), some (pvI ((1 * 3) + 0))], [pvI (Int32.ofNat (pvstab 1041).length), pvI ((1 * 3) + 0)], M)) rfl ⟨trivial, trivial, (by decide), trivial⟩ ?_
  refine pw_ic hT (c := (Int32.ofNat (pvstab 1041).length) ≤ ((1 * 3) + 0)) rfl rfl (fun c4_ => absurd c4_ (by decide)) (fun c4_ => ?_)
  refine pw_blk hT 3 (S' := (43, [some (pvI 1), some (pvI 0), some (pvI 1), some (pvI 0), some (pvI ((1 * 3) + 0))], [pvI ((pvstab 1041).getD (Int32.toNatClampNeg ((1 * 3) + 0)) 0)], M)) rfl ⟨trivial, trivial, ⟨by decide, (zr_in (n := 21) (show 3 ≤ Int32.toInt ((1 * 3) + 0) ∧ Int32.toInt ((1 * 3) + 0) ≤ 3 from (by decide)) (by decide) (by decide))⟩, trivial⟩ ?_
  refine pw_if hT (c := ((pvstab 1041).getD (Int32.toNatClampNeg ((1 * 3) + 0)) 0) = 0) rfl rfl (fun c5_ => ?_) (fun c5_ => absurd (by decide) c5_)
  refine pw_blk hT 1 (S' := (54, [some (pvI 1), some (pvI 0), some (pvI 1), some (pvI 0), some (pvI ((1 * 3) + 0))], [pvI 1], M)) rfl ⟨trivial, trivial⟩ ?_
  refine pw_callT hT (as := [pvI 1]) (lo1 := [some (pvI 1)]) (d1 := d) (rest := []) rfl rfl rfl rfl rfl (fun h => absurd h (by decide)) (Nat.zero_le _) rfl rfl rfl (sf_X3_above_1 M hok d) ?_
  refine pw_eqI (show ((pvstab 1040).getD (Int32.toNatClampNeg 1) 0) = 0 from by decide) ?_
  show PW 1 d (57, [some (pvI 1), some (pvI 0), some (pvI 1), some (pvI 0), some (pvI ((1 * 3) + 0))], [pvI 0], M) _
  refine pw_blk hT 3 (S' := (4, [some (pvI 1), some (pvI 0), some (pvI 0), some (pvI (0 + 1)), some (pvI ((1 * 3) + 0))], [], M)) rfl ⟨trivial, trivial, trivial, trivial⟩ ?_
  refine pw_blk hT 3 (S' := (9, [some (pvI 1), some (pvI 0), some (pvI 0), some (pvI (0 + 1)), some (pvI ((1 * 3) + 0))], [pvI (Int32.ofNat (pvstab 1041).length), pvI (0 + 1)], M)) rfl ⟨trivial, trivial, (by decide), trivial⟩ ?_
  refine pw_ic hT (c := (Int32.ofNat (pvstab 1041).length) ≤ (0 + 1)) rfl rfl (fun c11_ => absurd c11_ (by decide)) (fun c11_ => ?_)
  refine pw_blk hT 1 (S' := (13, [some (pvI 1), some (pvI 0), some (pvI 0), some (pvI (0 + 1)), some (pvI ((1 * 3) + 0))], [pvI 0], M)) rfl ⟨trivial, trivial⟩ ?_
  refine pw_if hT (c := 0 < 0) rfl rfl (fun c12_ => absurd c12_ (by decide)) (fun c12_ => ?_)
  refine pw_blk hT 7 (S' := (25, [some (pvI 1), some (pvI 0), some (pvI 0), some (pvI (0 + 1)), some (pvI ((0 * 3) + 0))], [pvI ((0 * 3) + 0)], M)) rfl ⟨trivial, trivial, trivial, trivial, trivial, trivial, trivial, trivial⟩ ?_
  refine pw_if hT (c := ((0 * 3) + 0) < 0) rfl rfl (fun c13_ => absurd c13_ (by decide)) (fun c13_ => ?_)
  refine pw_blk hT 3 (S' := (34, [some (pvI 1), some (pvI 0), some (pvI 0), some (pvI (0 + 1)), some (pvI ((0 * 3) + 0))], [pvI (Int32.ofNat (pvstab 1041).length), pvI ((0 * 3) + 0)], M)) rfl ⟨trivial, trivial, (by decide), trivial⟩ ?_
  refine pw_ic hT (c := (Int32.ofNat (pvstab 1041).length) ≤ ((0 * 3) + 0)) rfl rfl (fun c14_ => absurd c14_ (by decide)) (fun c14_ => ?_)
  refine pw_blk hT 3 (S' := (43, [some (pvI 1), some (pvI 0), some (pvI 0), some (pvI (0 + 1)), some (pvI ((0 * 3) + 0))], [pvI ((pvstab 1041).getD (Int32.toNatClampNeg ((0 * 3) + 0)) 0)], M)) rfl ⟨trivial, trivial, ⟨by decide, (zr_in (n := 21) (show 0 ≤ Int32.toInt ((0 * 3) + 0) ∧ Int32.toInt ((0 * 3) + 0) ≤ 0 from (by decide)) (by decide) (by decide))⟩, trivial⟩ ?_
  refine pw_if hT (c := ((pvstab 1041).getD (Int32.toNatClampNeg ((0 * 3) + 0)) 0) = 0) rfl rfl (fun c15_ => absurd c15_ (by decide)) (fun c15_ => ?_)
  refine pw_blk hT 3 (S' := (52, [some (pvI 1), some (pvI 0), some (pvI 0), some (pvI (0 + 1)), some (pvI ((0 * 3) + 0))], [pvI ((pvstab 1041).getD (Int32.toNatClampNeg ((0 * 3) + 0)) 0)], M)) rfl ⟨trivial, trivial, ⟨by decide, (zr_in (n := 21) (show 0 ≤ Int32.toInt ((0 * 3) + 0) ∧ Int32.toInt ((0 * 3) + 0) ≤ 0 from (by decide)) (by decide) (by decide))⟩, trivial⟩ ?_
  exact pw_ret hT rfl (r := some (pvI ((pvstab 1041).getD (Int32.toNatClampNeg ((0 * 3) + 0)) 0))) (M' := M) ⟨rfl, rfl⟩ ⟨rfl, rfl⟩
def fpL_X0_run_3_1_0_x_0_1 : List (Nat × Nat × Nat) := [(0, 3, 2), (0, 4, 0)]
def fp_X0_run_3_1_0_x_0_1 (q k : Nat) : Bool := pvfp fpL_X0_run_3_1_0_x_0_1 q k
theorem fp_X0_run_3_1_0_x_0_1_fp_X0_note_3_x (a b : Nat) (h : fp_X0_note_3_x a b = true) : fp_X0_run_3_1_0_x_0_1 a b = true := pvfp_sub (l1 := fpL_X0_note_3_x) (l2 := fpL_X0_run_3_1_0_x_0_1) (by decide) a b h
set_option maxHeartbeats 4000000 in
set_option maxRecDepth 10000 in
theorem sf_X0_run_3_1_0_x_0_1 (M : pvM) (hok : pvOk M) (n3 : Int32) (hc3_1 : 0 ≤ Int32.toInt (M.1 3 1) ∧ Int32.toInt (M.1 3 1) ≤ 998) (hc3_2 : 1 ≤ Int32.toInt (M.1 3 2) ∧ Int32.toInt (M.1 3 2) ≤ 1) (d : Nat) : PW 4 d (0, [some (pvR 3), some (pvI 1), some (pvI 0), some (pvI n3), some (pvI 0), none, none], [], M) (fun r X => (∃ x : Int32, r = some (pvI x) ∧ True) ∧ pvOk X ∧ pvFr fp_X0_run_3_1_0_x_0_1 M X ∧ Int32.toInt (X.1 3 1) ≤ Int32.toInt (M.1 3 1) + 1) := by
  have hT : pvdom 4 = pvD_4 := rfl
  refine pw_blk hT 2 (S' := (4, [some (pvR 3), some (pvI 1), some (pvI 0), some (pvI n3), some (pvI 0), none, none], [pvI 40, pvI 0], M)) rfl ⟨trivial, trivial, trivial⟩ ?_
  refine pw_ic hT (c := 0 ≤ 40) rfl rfl (fun c1_ => ?_) (fun c1_ => absurd (by decide) c1_)
  refine pw_blk hT 2 (S' := (11, [some (pvR 3), some (pvI 1), some (pvI 0), some (pvI n3), some (pvI 0), none, none], [pvI 0, pvI 1], M)) rfl ⟨trivial, trivial, trivial⟩ ?_
  refine pw_callT hT (as := [pvI 1, pvI 0]) (lo1 := [some (pvI 1), some (pvI 0), none, none, none]) (d1 := d) (rest := []) rfl rfl rfl rfl rfl (fun h => absurd h (by decide)) (Nat.zero_le _) rfl rfl rfl (sf_X0_bodyFrom_1_0 M hok d) ?_
  refine pw_eqI (show ((pvstab 1041).getD (Int32.toNatClampNeg ((0 * 3) + 0)) 0) = 10 from by decide) ?_
  show PW 4 d (14, [some (pvR 3), some (pvI 1), some (pvI 0), some (pvI n3), some (pvI 0), none, none], [pvI 10], M) _
  refine pw_blk hT 7 (S' := (25, [some (pvR 3), some (pvI 1), some (pvI 0), some (pvI n3), some (pvI 0), some (pvI 10), some (pvI (0 + 1))], [pvI 10, pvR 3], M)) rfl ⟨trivial, trivial, trivial, trivial, trivial, trivial, trivial, trivial⟩ ?_
  refine pw_callVd hT (as := [pvR 3, pvI 10]) (lo1 := [some (pvR 3), some (pvI 10)]) (d1 := d) (rest := []) rfl rfl rfl rfl rfl (fun _ => rfl) (Nat.zero_le _) rfl rfl rfl (sf_X0_note_3_x M hok 10 (zr_wide (show 10 ≤ Int32.toInt 10 ∧ Int32.toInt 10 ≤ 10 from (by decide)) (by decide) (by decide)) (zr_wide hc3_1 (by decide) (by decide)) d) (fun M9_ o11_ g12_ d7_ => ?_)
  have f13_ : pvFr fp_X0_run_3_1_0_x_0_1 M M9_ := pvfr_t g12_ pvfr_0 fp_X0_run_3_1_0_x_0_1_fp_X0_note_3_x
  have b14_ : 0 ≤ Int32.toInt (M9_.1 3 1) ∧ Int32.toInt (M9_.1 3 1) ≤ 999 := (by have u0 := hc3_1; have u1 := d7_; have u2 := pvok_r o11_ 3 1 (lo := 0) (hi := 1000000) rfl; omega)
  refine pw_blk hT 1 (S' := (30, [some (pvR 3), some (pvI 1), some (pvI 0), some (pvI n3), some (pvI 0), some (pvI 10), some (pvI (0 + 1))], [pvI 10], M9_)) rfl ⟨trivial, trivial⟩ ?_
  refine pw_sw hT rfl rfl ?_
  refine And.intro (fun c15_ => ?_) (fun c15_ => absurd (by decide) c15_)
  show PW 4 d (128, [some (pvR 3), some (pvI 1), some (pvI 0), some (pvI n3), some (pvI 0), some (pvI 10), some (pvI (0 + 1))], [], M9_) _
  refine pw_blk hT 4 (S' := (134, [some (pvR 3), some (pvI 1), some (pvI 0), some (pvI n3), some (pvI 0), some (pvI 10), some (pvI (0 + 1))], [pvI (n3 + (M9_.1 3 4))], M9_)) rfl ⟨trivial, trivial, rfl, trivial, trivial⟩ ?_
  exact pw_ret hT rfl (r := some (pvI (n3 + (M9_.1 3 4)))) (M' := M9_) ⟨rfl, rfl⟩ ⟨⟨_, rfl, trivial⟩, o11_, f13_, (by omega)⟩
set_option maxHeartbeats 4000000 in
set_option maxRecDepth 10000 in
theorem sf_X0_bodyFrom_1_1 (M : pvM) (hok : pvOk M) (d : Nat) : PW 1 d (0, [some (pvI 1), some (pvI 1), none, none, none], [], M) (fun r X => r = some (pvI (((pvstab 1041).getD (Int32.toNatClampNeg ((1 * 3) + 1)) 0))) ∧ X = M) := by
  have hT : pvdom 1 = pvD_1 := rfl
  refine pw_blk hT 4 (S' := (4, [some (pvI 1), some (pvI 1), some (pvI 1), some (pvI 0), none], [], M)) rfl ⟨trivial, trivial, trivial, trivial, trivial⟩ ?_
  refine pw_blk hT 3 (S' := (9, [some (pvI 1), some (pvI 1), some (pvI 1), some (pvI 0), none], [pvI (Int32.ofNat (pvstab 1041).length), pvI 0], M)) rfl ⟨trivial, trivial, (by decide), trivial⟩ ?_
  refine pw_ic hT (c := (Int32.ofNat (pvstab 1041).length) ≤ 0) rfl rfl (fun c1_ => absurd c1_ (by decide)) (fun c1_ => ?_)
  refine pw_blk hT 1 (S' := (13, [some (pvI 1), some (pvI 1), some (pvI 1), some (pvI 0), none], [pvI 1], M)) rfl ⟨trivial, trivial⟩ ?_
  refine pw_if hT (c := 1 < 0) rfl rfl (fun c2_ => absurd c2_ (by decide)) (fun c2_ => ?_)
  refine pw_blk hT 7 (S' := (25, [some (pvI 1), some (pvI 1), some (pvI 1), some (pvI 0), some (pvI ((1 * 3) + 1))], [pvI ((1 * 3) + 1)], M)) rfl ⟨trivial, trivial, trivial, trivial, trivial, trivial, trivial, trivial⟩ ?_
  refine pw_if hT (c := ((1 * 3) + 1) < 0) rfl rfl (fun c3_ => absurd c3_ (by decide)) (fun c3_ => ?_)
  refine pw_blk hT 3 (S' := (34, [some (pvI 1), some (pvI 1), some (pvI 1), some (pvI 0), some (pvI ((1 * 3) + 1))], [pvI (Int32.ofNat (pvstab 1041).length), pvI ((1 * 3) + 1)], M)) rfl ⟨trivial, trivial, (by decide), trivial⟩ ?_
  refine pw_ic hT (c := (Int32.ofNat (pvstab 1041).length) ≤ ((1 * 3) + 1)) rfl rfl (fun c4_ => absurd c4_ (by decide)) (fun c4_ => ?_)
  refine pw_blk hT 3 (S' := (43, [some (pvI 1), some (pvI 1), some (pvI 1), some (pvI 0), some (pvI ((1 * 3) + 1))], [pvI ((pvstab 1041).getD (Int32.toNatClampNeg ((1 * 3) + 1)) 0)], M)) rfl ⟨trivial, trivial, ⟨by decide, (zr_in (n := 21) (show 4 ≤ Int32.toInt ((1 * 3) + 1) ∧ Int32.toInt ((1 * 3) + 1) ≤ 4 from (by decide)) (by decide) (by decide))⟩, trivial⟩ ?_
  refine pw_if hT (c := ((pvstab 1041).getD (Int32.toNatClampNeg ((1 * 3) + 1)) 0) = 0) rfl rfl (fun c5_ => absurd c5_ (by decide)) (fun c5_ => ?_)
  refine pw_blk hT 3 (S' := (52, [some (pvI 1), some (pvI 1), some (pvI 1), some (pvI 0), some (pvI ((1 * 3) + 1))], [pvI ((pvstab 1041).getD (Int32.toNatClampNeg ((1 * 3) + 1)) 0)], M)) rfl ⟨trivial, trivial, ⟨by decide, (zr_in (n := 21) (show 4 ≤ Int32.toInt ((1 * 3) + 1) ∧ Int32.toInt ((1 * 3) + 1) ≤ 4 from (by decide)) (by decide) (by decide))⟩, trivial⟩ ?_
  exact pw_ret hT rfl (r := some (pvI ((pvstab 1041).getD (Int32.toNatClampNeg ((1 * 3) + 1)) 0))) (M' := M) ⟨rfl, rfl⟩ ⟨rfl, rfl⟩
def fpL_X0_run_3_1_0_x_2_1 : List (Nat × Nat × Nat) := [(0, 3, 2), (0, 4, 0)]
def fp_X0_run_3_1_0_x_2_1 (q k : Nat) : Bool := pvfp fpL_X0_run_3_1_0_x_2_1 q k
theorem fp_X0_run_3_1_0_x_2_1_fp_X0_note_3_x (a b : Nat) (h : fp_X0_note_3_x a b = true) : fp_X0_run_3_1_0_x_2_1 a b = true := pvfp_sub (l1 := fpL_X0_note_3_x) (l2 := fpL_X0_run_3_1_0_x_2_1) (by decide) a b h
set_option maxHeartbeats 4000000 in
set_option maxRecDepth 10000 in
theorem sf_X0_run_3_1_0_x_2_1 (M : pvM) (hok : pvOk M) (n3 : Int32) (hc3_1 : 0 ≤ Int32.toInt (M.1 3 1) ∧ Int32.toInt (M.1 3 1) ≤ 998) (hc3_2 : 1 ≤ Int32.toInt (M.1 3 2) ∧ Int32.toInt (M.1 3 2) ≤ 1) (d : Nat) : PW 4 d (0, [some (pvR 3), some (pvI 1), some (pvI 0), some (pvI n3), some (pvI 2), none, none], [], M) (fun r X => (∃ x : Int32, r = some (pvI x) ∧ True) ∧ pvOk X ∧ pvFr fp_X0_run_3_1_0_x_2_1 M X ∧ Int32.toInt (X.1 3 1) ≤ Int32.toInt (M.1 3 1) + 1) := by
  have hT : pvdom 4 = pvD_4 := rfl
  refine pw_blk hT 2 (S' := (4, [some (pvR 3), some (pvI 1), some (pvI 0), some (pvI n3), some (pvI 2), none, none], [pvI 40, pvI 2], M)) rfl ⟨trivial, trivial, trivial⟩ ?_
  refine pw_ic hT (c := 2 ≤ 40) rfl rfl (fun c1_ => ?_) (fun c1_ => absurd (by decide) c1_)
  refine pw_blk hT 2 (S' := (11, [some (pvR 3), some (pvI 1), some (pvI 0), some (pvI n3), some (pvI 2), none, none], [pvI 0, pvI 1], M)) rfl ⟨trivial, trivial, trivial⟩ ?_
  refine pw_callT hT (as := [pvI 1, pvI 0]) (lo1 := [some (pvI 1), some (pvI 0), none, none, none]) (d1 := d) (rest := []) rfl rfl rfl rfl rfl (fun h => absurd h (by decide)) (Nat.zero_le _) rfl rfl rfl (sf_X0_bodyFrom_1_0 M hok d) ?_
  refine pw_eqI (show ((pvstab 1041).getD (Int32.toNatClampNeg ((0 * 3) + 0)) 0) = 10 from by decide) ?_
  show PW 4 d (14, [some (pvR 3), some (pvI 1), some (pvI 0), some (pvI n3), some (pvI 2), none, none], [pvI 10], M) _
  refine pw_blk hT 7 (S' := (25, [some (pvR 3), some (pvI 1), some (pvI 0), some (pvI n3), some (pvI 2), some (pvI 10), some (pvI (2 + 1))], [pvI 10, pvR 3], M)) rfl ⟨trivial, trivial, trivial, trivial, trivial, trivial, trivial, trivial⟩ ?_
  refine pw_callVd hT (as := [pvR 3, pvI 10]) (lo1 := [some (pvR 3), some (pvI 10)]) (d1 := d) (rest := []) rfl rfl rfl rfl rfl (fun _ => rfl) (Nat.zero_le _) rfl rfl rfl (sf_X0_note_3_x M hok 10 (zr_wide (show 10 ≤ Int32.toInt 10 ∧ Int32.toInt 10 ≤ 10 from (by decide)) (by decide) (by decide)) (zr_wide hc3_1 (by decide) (by decide)) d) (fun M9_ o11_ g12_ d7_ => ?_)
  have f13_ : pvFr fp_X0_run_3_1_0_x_2_1 M M9_ := pvfr_t g12_ pvfr_0 fp_X0_run_3_1_0_x_2_1_fp_X0_note_3_x
  have b14_ : 0 ≤ Int32.toInt (M9_.1 3 1) ∧ Int32.toInt (M9_.1 3 1) ≤ 999 := (by have u0 := hc3_1; have u1 := d7_; have u2 := pvok_r o11_ 3 1 (lo := 0) (hi := 1000000) rfl; omega)
  refine pw_blk hT 1 (S' := (30, [some (pvR 3), some (pvI 1), some (pvI 0), some (pvI n3), some (pvI 2), some (pvI 10), some (pvI (2 + 1))], [pvI 10], M9_)) rfl ⟨trivial, trivial⟩ ?_
  refine pw_sw hT rfl rfl ?_
  refine And.intro (fun c15_ => ?_) (fun c15_ => absurd (by decide) c15_)
  show PW 4 d (128, [some (pvR 3), some (pvI 1), some (pvI 0), some (pvI n3), some (pvI 2), some (pvI 10), some (pvI (2 + 1))], [], M9_) _
  refine pw_blk hT 4 (S' := (134, [some (pvR 3), some (pvI 1), some (pvI 0), some (pvI n3), some (pvI 2), some (pvI 10), some (pvI (2 + 1))], [pvI (n3 + (M9_.1 3 4))], M9_)) rfl ⟨trivial, trivial, rfl, trivial, trivial⟩ ?_
  exact pw_ret hT rfl (r := some (pvI (n3 + (M9_.1 3 4)))) (M' := M9_) ⟨rfl, rfl⟩ ⟨⟨_, rfl, trivial⟩, o11_, f13_, (by omega)⟩
def fpL_X0_run_3_0_1_x_1_1 : List (Nat × Nat × Nat) := [(0, 3, 2), (0, 4, 0)]
def fp_X0_run_3_0_1_x_1_1 (q k : Nat) : Bool := pvfp fpL_X0_run_3_0_1_x_1_1 q k
theorem fp_X0_run_3_0_1_x_1_1_fp_X0_note_3_x (a b : Nat) (h : fp_X0_note_3_x a b = true) : fp_X0_run_3_0_1_x_1_1 a b = true := pvfp_sub (l1 := fpL_X0_note_3_x) (l2 := fpL_X0_run_3_0_1_x_1_1) (by decide) a b h
theorem fp_X0_run_3_0_1_x_1_1_fp_X0_run_3_1_0_x_2_1 (a b : Nat) (h : fp_X0_run_3_1_0_x_2_1 a b = true) : fp_X0_run_3_0_1_x_1_1 a b = true := pvfp_sub (l1 := fpL_X0_run_3_1_0_x_2_1) (l2 := fpL_X0_run_3_0_1_x_1_1) (by decide) a b h
set_option maxHeartbeats 4000000 in
set_option maxRecDepth 10000 in
theorem sf_X0_run_3_0_1_x_1_1 (M : pvM) (hok : pvOk M) (n3 : Int32) (hc3_1 : 0 ≤ Int32.toInt (M.1 3 1) ∧ Int32.toInt (M.1 3 1) ≤ 997) (hc3_2 : 1 ≤ Int32.toInt (M.1 3 2) ∧ Int32.toInt (M.1 3 2) ≤ 1) (d : Nat) (hd : 1 ≤ d) : PW 4 d (0, [some (pvR 3), some (pvI 0), some (pvI 1), some (pvI n3), some (pvI 1), none, none], [], M) (fun r X => (∃ x : Int32, r = some (pvI x) ∧ True) ∧ pvOk X ∧ pvFr fp_X0_run_3_0_1_x_1_1 M X ∧ Int32.toInt (X.1 3 1) ≤ Int32.toInt (M.1 3 1) + 2) := by
  have hT : pvdom 4 = pvD_4 := rfl
  refine pw_blk hT 2 (S' := (4, [some (pvR 3), some (pvI 0), some (pvI 1), some (pvI n3), some (pvI 1), none, none], [pvI 40, pvI 1], M)) rfl ⟨trivial, trivial, trivial⟩ ?_
  refine pw_ic hT (c := 1 ≤ 40) rfl rfl (fun c1_ => ?_) (fun c1_ => absurd (by decide) c1_)
  refine pw_blk hT 2 (S' := (11, [some (pvR 3), some (pvI 0), some (pvI 1), some (pvI n3), some (pvI 1), none, none], [pvI 1, pvI 0], M)) rfl ⟨trivial, trivial, trivial⟩ ?_
  refine pw_callT hT (as := [pvI 0, pvI 1]) (lo1 := [some (pvI 0), some (pvI 1), none, none, none]) (d1 := d) (rest := []) rfl rfl rfl rfl rfl (fun h => absurd h (by decide)) (Nat.zero_le _) rfl rfl rfl (sf_X0_bodyFrom_0_1 M hok d) ?_
  refine pw_eqI (show ((pvstab 1041).getD (Int32.toNatClampNeg ((0 * 3) + 1)) 0) = 11 from by decide) ?_
  show PW 4 d (14, [some (pvR 3), some (pvI 0), some (pvI 1), some (pvI n3), some (pvI 1), none, none], [pvI 11], M) _
  refine pw_blk hT 7 (S' := (25, [some (pvR 3), some (pvI 0), some (pvI 1), some (pvI n3), some (pvI 1), some (pvI 11), some (pvI (1 + 1))], [pvI 11, pvR 3], M)) rfl ⟨trivial, trivial, trivial, trivial, trivial, trivial, trivial, trivial⟩ ?_
  refine pw_callVd hT (as := [pvR 3, pvI 11]) (lo1 := [some (pvR 3), some (pvI 11)]) (d1 := d) (rest := []) rfl rfl rfl rfl rfl (fun _ => rfl) (Nat.zero_le _) rfl rfl rfl (sf_X0_note_3_x M hok 11 (zr_wide (show 11 ≤ Int32.toInt 11 ∧ Int32.toInt 11 ≤ 11 from (by decide)) (by decide) (by decide)) (zr_wide hc3_1 (by decide) (by decide)) d) (fun M9_ o11_ g12_ d7_ => ?_)
  have f13_ : pvFr fp_X0_run_3_0_1_x_1_1 M M9_ := pvfr_t g12_ pvfr_0 fp_X0_run_3_0_1_x_1_1_fp_X0_note_3_x
  have b14_ : 0 ≤ Int32.toInt (M9_.1 3 1) ∧ Int32.toInt (M9_.1 3 1) ≤ 998 := (by have u0 := hc3_1; have u1 := d7_; have u2 := pvok_r o11_ 3 1 (lo := 0) (hi := 1000000) rfl; omega)
  refine pw_blk hT 1 (S' := (30, [some (pvR 3), some (pvI 0), some (pvI 1), some (pvI n3), some (pvI 1), some (pvI 11), some (pvI (1 + 1))], [pvI 11], M9_)) rfl ⟨trivial, trivial⟩ ?_
  refine pw_sw hT rfl rfl ?_
  refine And.intro (fun c15_ => absurd c15_ (by decide)) (fun c15_ => ?_)
  refine And.intro (fun c16_ => ?_) (fun c16_ => absurd (by decide) c16_)
  show PW 4 d (135, [some (pvR 3), some (pvI 0), some (pvI 1), some (pvI n3), some (pvI 1), some (pvI 11), some (pvI (1 + 1))], [], M9_) _
  have e17_ : (M9_.1 3 2) = (M.1 3 2) := (g12_ 3 2 rfl)
  have b18_ : 1 ≤ Int32.toInt (M9_.1 3 2) ∧ Int32.toInt (M9_.1 3 2) ≤ 1 := (by rw [e17_]; exact hc3_2)
  refine pw_blk hT 3 (S' := (140, [some (pvR 3), some (pvI 0), some (pvI 1), some (pvI n3), some (pvI 1), some (pvI 11), some (pvI (1 + 1))], [pvI (M9_.1 3 2), pvR 3], M9_)) rfl ⟨trivial, trivial, rfl, trivial⟩ ?_
  refine pw_eqI ((zi_eq _ (1)).mpr (by have u0 := b18_; have u1 : Int32.toInt (1) = 1 := (by decide); omega)) ?_
  refine pw_blk hT 3 (S' := (144, [some (pvR 3), some (pvI 0), some (pvI 1), some (pvI n3), some (pvI 1), some (pvI 11), some (pvI (1 + 1))], [pvI (1 + 1), pvI n3, pvI 0, pvI 1, pvR 3], M9_)) rfl ⟨trivial, trivial, trivial, trivial⟩ ?_
  refine pw_callGd hT (as := [pvR 3, pvI 1, pvI 0, pvI n3, pvI (1 + 1)]) (lo1 := [some (pvR 3), some (pvI 1), some (pvI 0), some (pvI n3), some (pvI (1 + 1)), none, none]) (d1 := (d - 1)) (rest := []) rfl rfl rfl rfl rfl (fun h => absurd h (by decide)) (show 1 ≤ d by omega) rfl rfl rfl (sf_X0_run_3_1_0_x_2_1 M9_ o11_ n3 b14_ b18_ (d - 1)) (fun x20_ M21_ b22_ o23_ g24_ d19_ => ?_)
  have f25_ : pvFr fp_X0_run_3_0_1_x_1_1 M M21_ := pvfr_t g24_ f13_ fp_X0_run_3_0_1_x_1_1_fp_X0_run_3_1_0_x_2_1
  have b26_ : 0 ≤ Int32.toInt (M21_.1 3 1) ∧ Int32.toInt (M21_.1 3 1) ≤ 999 := (by have u0 := b14_; have u1 := d19_; have u2 := pvok_r o23_ 3 1 (lo := 0) (hi := 1000000) rfl; omega)
  refine pw_blk hT 3 (S' := (152, [some (pvR 3), some (pvI 0), some (pvI 1), some (pvI n3), some (pvI 1), some (pvI 11), some (pvI (1 + 1))], [pvI (x20_ - (M21_.1 3 3))], M21_)) rfl ⟨trivial, rfl, trivial, trivial⟩ ?_
  exact pw_ret hT rfl (r := some (pvI (x20_ - (M21_.1 3 3)))) (M' := M21_) ⟨rfl, rfl⟩ ⟨⟨_, rfl, trivial⟩, o23_, f25_, (by omega)⟩
def fpL_X0_run_3_1_1_x_0_1 : List (Nat × Nat × Nat) := [(0, 3, 2), (0, 4, 0)]
def fp_X0_run_3_1_1_x_0_1 (q k : Nat) : Bool := pvfp fpL_X0_run_3_1_1_x_0_1 q k
theorem fp_X0_run_3_1_1_x_0_1_fp_X0_note_3_x (a b : Nat) (h : fp_X0_note_3_x a b = true) : fp_X0_run_3_1_1_x_0_1 a b = true := pvfp_sub (l1 := fpL_X0_note_3_x) (l2 := fpL_X0_run_3_1_1_x_0_1) (by decide) a b h
theorem fp_X0_run_3_1_1_x_0_1_fp_X0_run_3_0_1_x_1_1 (a b : Nat) (h : fp_X0_run_3_0_1_x_1_1 a b = true) : fp_X0_run_3_1_1_x_0_1 a b = true := pvfp_sub (l1 := fpL_X0_run_3_0_1_x_1_1) (l2 := fpL_X0_run_3_1_1_x_0_1) (by decide) a b h
set_option maxHeartbeats 4000000 in
set_option maxRecDepth 10000 in
theorem sf_X0_run_3_1_1_x_0_1 (M : pvM) (hok : pvOk M) (n3 : Int32) (hc3_1 : 0 ≤ Int32.toInt (M.1 3 1) ∧ Int32.toInt (M.1 3 1) ≤ 996) (hc3_2 : 1 ≤ Int32.toInt (M.1 3 2) ∧ Int32.toInt (M.1 3 2) ≤ 1) (d : Nat) (hd : 2 ≤ d) : PW 4 d (0, [some (pvR 3), some (pvI 1), some (pvI 1), some (pvI n3), some (pvI 0), none, none], [], M) (fun r X => (∃ x : Int32, r = some (pvI x) ∧ True) ∧ pvOk X ∧ pvFr fp_X0_run_3_1_1_x_0_1 M X ∧ Int32.toInt (X.1 3 1) ≤ Int32.toInt (M.1 3 1) + 3) := by
  have hT : pvdom 4 = pvD_4 := rfl
  refine pw_blk hT 2 (S' := (4, [some (pvR 3), some (pvI 1), some (pvI 1), some (pvI n3), some (pvI 0), none, none], [pvI 40, pvI 0], M)) rfl ⟨trivial, trivial, trivial⟩ ?_
  refine pw_ic hT (c := 0 ≤ 40) rfl rfl (fun c1_ => ?_) (fun c1_ => absurd (by decide) c1_)
  refine pw_blk hT 2 (S' := (11, [some (pvR 3), some (pvI 1), some (pvI 1), some (pvI n3), some (pvI 0), none, none], [pvI 1, pvI 1], M)) rfl ⟨trivial, trivial, trivial⟩ ?_
  refine pw_callT hT (as := [pvI 1, pvI 1]) (lo1 := [some (pvI 1), some (pvI 1), none, none, none]) (d1 := d) (rest := []) rfl rfl rfl rfl rfl (fun h => absurd h (by decide)) (Nat.zero_le _) rfl rfl rfl (sf_X0_bodyFrom_1_1 M hok d) ?_
  refine pw_eqI (show ((pvstab 1041).getD (Int32.toNatClampNeg ((1 * 3) + 1)) 0) = 20 from by decide) ?_
  show PW 4 d (14, [some (pvR 3), some (pvI 1), some (pvI 1), some (pvI n3), some (pvI 0), none, none], [pvI 20], M) _
  refine pw_blk hT 7 (S' := (25, [some (pvR 3), some (pvI 1), some (pvI 1), some (pvI n3), some (pvI 0), some (pvI 20), some (pvI (0 + 1))], [pvI 20, pvR 3], M)) rfl ⟨trivial, trivial, trivial, trivial, trivial, trivial, trivial, trivial⟩ ?_
  refine pw_callVd hT (as := [pvR 3, pvI 20]) (lo1 := [some (pvR 3), some (pvI 20)]) (d1 := d) (rest := []) rfl rfl rfl rfl rfl (fun _ => rfl) (Nat.zero_le _) rfl rfl rfl (sf_X0_note_3_x M hok 20 (zr_wide (show 20 ≤ Int32.toInt 20 ∧ Int32.toInt 20 ≤ 20 from (by decide)) (by decide) (by decide)) (zr_wide hc3_1 (by decide) (by decide)) d) (fun M9_ o11_ g12_ d7_ => ?_)
  have f13_ : pvFr fp_X0_run_3_1_1_x_0_1 M M9_ := pvfr_t g12_ pvfr_0 fp_X0_run_3_1_1_x_0_1_fp_X0_note_3_x
  have b14_ : 0 ≤ Int32.toInt (M9_.1 3 1) ∧ Int32.toInt (M9_.1 3 1) ≤ 997 := (by have u0 := hc3_1; have u1 := d7_; have u2 := pvok_r o11_ 3 1 (lo := 0) (hi := 1000000) rfl; omega)
  refine pw_blk hT 1 (S' := (30, [some (pvR 3), some (pvI 1), some (pvI 1), some (pvI n3), some (pvI 0), some (pvI 20), some (pvI (0 + 1))], [pvI 20], M9_)) rfl ⟨trivial, trivial⟩ ?_
  refine pw_sw hT rfl rfl ?_
  refine And.intro (fun c15_ => absurd c15_ (by decide)) (fun c15_ => ?_)
  refine And.intro (fun c16_ => absurd c16_ (by decide)) (fun c16_ => ?_)
  refine And.intro (fun c17_ => absurd c17_ (by decide)) (fun c17_ => ?_)
  refine And.intro (fun c18_ => ?_) (fun c18_ => absurd (by decide) c18_)
  show PW 4 d (168, [some (pvR 3), some (pvI 1), some (pvI 1), some (pvI n3), some (pvI 0), some (pvI 20), some (pvI (0 + 1))], [], M9_) _
  refine pw_blk hT 5 (S' := (174, [some (pvR 3), some (pvI 1), some (pvI 1), some (pvI n3), some (pvI 0), some (pvI 20), some (pvI (0 + 1))], [pvI (0 + 1), pvI n3, pvI 1, pvI 0, pvR 3], M9_)) rfl ⟨trivial, trivial, trivial, trivial, trivial, trivial⟩ ?_
  have e19_ : (M9_.1 3 2) = (M.1 3 2) := (g12_ 3 2 rfl)
  have b20_ : 1 ≤ Int32.toInt (M9_.1 3 2) ∧ Int32.toInt (M9_.1 3 2) ≤ 1 := (by rw [e19_]; exact hc3_2)
  refine pw_callGd hT (as := [pvR 3, pvI 0, pvI 1, pvI n3, pvI (0 + 1)]) (lo1 := [some (pvR 3), some (pvI 0), some (pvI 1), some (pvI n3), some (pvI (0 + 1)), none, none]) (d1 := (d - 1)) (rest := []) rfl rfl rfl rfl rfl (fun h => absurd h (by decide)) (show 1 ≤ d by omega) rfl rfl rfl (sf_X0_run_3_0_1_x_1_1 M9_ o11_ n3 b14_ b20_ (d - 1) (by omega)) (fun x22_ M23_ b24_ o25_ g26_ d21_ => ?_)
  have f27_ : pvFr fp_X0_run_3_1_1_x_0_1 M M23_ := pvfr_t g26_ f13_ fp_X0_run_3_1_1_x_0_1_fp_X0_run_3_0_1_x_1_1
  have b28_ : 0 ≤ Int32.toInt (M23_.1 3 1) ∧ Int32.toInt (M23_.1 3 1) ≤ 999 := (by have u0 := b14_; have u1 := d21_; have u2 := pvok_r o25_ 3 1 (lo := 0) (hi := 1000000) rfl; omega)
  refine pw_blk hT 2 (S' := (180, [some (pvR 3), some (pvI 1), some (pvI 1), some (pvI n3), some (pvI 0), some (pvI 20), some (pvI (0 + 1))], [pvI (x22_ ^^^ 6)], M23_)) rfl ⟨trivial, trivial, trivial⟩ ?_
  exact pw_ret hT rfl (r := some (pvI (x22_ ^^^ 6))) (M' := M23_) ⟨rfl, rfl⟩ ⟨⟨_, rfl, trivial⟩, o25_, f27_, (by omega)⟩
set_option maxHeartbeats 4000000 in
set_option maxRecDepth 10000 in
theorem sf_X0_bodyFrom_1_2 (M : pvM) (hok : pvOk M) (d : Nat) : PW 1 d (0, [some (pvI 1), some (pvI 2), none, none, none], [], M) (fun r X => r = some (pvI (((pvstab 1041).getD (Int32.toNatClampNeg ((0 * 3) + 2)) 0))) ∧ X = M) := by
  have hT : pvdom 1 = pvD_1 := rfl
  refine pw_blk hT 4 (S' := (4, [some (pvI 1), some (pvI 2), some (pvI 1), some (pvI 0), none], [], M)) rfl ⟨trivial, trivial, trivial, trivial, trivial⟩ ?_
  refine pw_blk hT 3 (S' := (9, [some (pvI 1), some (pvI 2), some (pvI 1), some (pvI 0), none], [pvI (Int32.ofNat (pvstab 1041).length), pvI 0], M)) rfl ⟨trivial, trivial, (by decide), trivial⟩ ?_
  refine pw_ic hT (c := (Int32.ofNat (pvstab 1041).length) ≤ 0) rfl rfl (fun c1_ => absurd c1_ (by decide)) (fun c1_ => ?_)
  refine pw_blk hT 1 (S' := (13, [some (pvI 1), some (pvI 2), some (pvI 1), some (pvI 0), none], [pvI 1], M)) rfl ⟨trivial, trivial⟩ ?_
  refine pw_if hT (c := 1 < 0) rfl rfl (fun c2_ => absurd c2_ (by decide)) (fun c2_ => ?_)
  refine pw_blk hT 7 (S' := (25, [some (pvI 1), some (pvI 2), some (pvI 1), some (pvI 0), some (pvI ((1 * 3) + 2))], [pvI ((1 * 3) + 2)], M)) rfl ⟨trivial, trivial, trivial, trivial, trivial, trivial, trivial, trivial⟩ ?_
  refine pw_if hT (c := ((1 * 3) + 2) < 0) rfl rfl (fun c3_ => absurd c3_ (by decide)) (fun c3_ => ?_)
  refine pw_blk hT 3 (S' := (34, [some (pvI 1), some (pvI 2), some (pvI 1), some (pvI 0), some (pvI ((1 * 3) + 2))], [pvI (Int32.ofNat (pvstab 1041).length), pvI ((1 * 3) + 2)], M)) rfl ⟨trivial, trivial, (by decide), trivial⟩ ?_
  refine pw_ic hT (c := (Int32.ofNat (pvstab 1041).length) ≤ ((1 * 3) + 2)) rfl rfl (fun c4_ => absurd c4_ (by decide)) (fun c4_ => ?_)
  refine pw_blk hT 3 (S' := (43, [some (pvI 1), some (pvI 2), some (pvI 1), some (pvI 0), some (pvI ((1 * 3) + 2))], [pvI ((pvstab 1041).getD (Int32.toNatClampNeg ((1 * 3) + 2)) 0)], M)) rfl ⟨trivial, trivial, ⟨by decide, (zr_in (n := 21) (show 5 ≤ Int32.toInt ((1 * 3) + 2) ∧ Int32.toInt ((1 * 3) + 2) ≤ 5 from (by decide)) (by decide) (by decide))⟩, trivial⟩ ?_
  refine pw_if hT (c := ((pvstab 1041).getD (Int32.toNatClampNeg ((1 * 3) + 2)) 0) = 0) rfl rfl (fun c5_ => ?_) (fun c5_ => absurd (by decide) c5_)
  refine pw_blk hT 1 (S' := (54, [some (pvI 1), some (pvI 2), some (pvI 1), some (pvI 0), some (pvI ((1 * 3) + 2))], [pvI 1], M)) rfl ⟨trivial, trivial⟩ ?_
  refine pw_callT hT (as := [pvI 1]) (lo1 := [some (pvI 1)]) (d1 := d) (rest := []) rfl rfl rfl rfl rfl (fun h => absurd h (by decide)) (Nat.zero_le _) rfl rfl rfl (sf_X3_above_1 M hok d) ?_
  refine pw_eqI (show ((pvstab 1040).getD (Int32.toNatClampNeg 1) 0) = 0 from by decide) ?_
  show PW 1 d (57, [some (pvI 1), some (pvI 2), some (pvI 1), some (pvI 0), some (pvI ((1 * 3) + 2))], [pvI 0], M) _
  refine pw_blk hT 3 (S' := (4, [some (pvI 1), some (pvI 2), some (pvI 0), some (pvI (0 + 1)), some (pvI ((1 * 3) + 2))], [], M)) rfl ⟨trivial, trivial, trivial, trivial⟩ ?_
  refine pw_blk hT 3 (S' := (9, [some (pvI 1), some (pvI 2), some (pvI 0), some (pvI (0 + 1)), some (pvI ((1 * 3) + 2))], [pvI (Int32.ofNat (pvstab 1041).length), pvI (0 + 1)], M)) rfl ⟨trivial, trivial, (by decide), trivial⟩ ?_
  refine pw_ic hT (c := (Int32.ofNat (pvstab 1041).length) ≤ (0 + 1)) rfl rfl (fun c11_ => absurd c11_ (by decide)) (fun c11_ => ?_)
  refine pw_blk hT 1 (S' := (13, [some (pvI 1), some (pvI 2), some (pvI 0), some (pvI (0 + 1)), some (pvI ((1 * 3) + 2))], [pvI 0], M)) rfl ⟨trivial, trivial⟩ ?_
  refine pw_if hT (c := 0 < 0) rfl rfl (fun c12_ => absurd c12_ (by decide)) (fun c12_ => ?_)
  refine pw_blk hT 7 (S' := (25, [some (pvI 1), some (pvI 2), some (pvI 0), some (pvI (0 + 1)), some (pvI ((0 * 3) + 2))], [pvI ((0 * 3) + 2)], M)) rfl ⟨trivial, trivial, trivial, trivial, trivial, trivial, trivial, trivial⟩ ?_
  refine pw_if hT (c := ((0 * 3) + 2) < 0) rfl rfl (fun c13_ => absurd c13_ (by decide)) (fun c13_ => ?_)
  refine pw_blk hT 3 (S' := (34, [some (pvI 1), some (pvI 2), some (pvI 0), some (pvI (0 + 1)), some (pvI ((0 * 3) + 2))], [pvI (Int32.ofNat (pvstab 1041).length), pvI ((0 * 3) + 2)], M)) rfl ⟨trivial, trivial, (by decide), trivial⟩ ?_
  refine pw_ic hT (c := (Int32.ofNat (pvstab 1041).length) ≤ ((0 * 3) + 2)) rfl rfl (fun c14_ => absurd c14_ (by decide)) (fun c14_ => ?_)
  refine pw_blk hT 3 (S' := (43, [some (pvI 1), some (pvI 2), some (pvI 0), some (pvI (0 + 1)), some (pvI ((0 * 3) + 2))], [pvI ((pvstab 1041).getD (Int32.toNatClampNeg ((0 * 3) + 2)) 0)], M)) rfl ⟨trivial, trivial, ⟨by decide, (zr_in (n := 21) (show 2 ≤ Int32.toInt ((0 * 3) + 2) ∧ Int32.toInt ((0 * 3) + 2) ≤ 2 from (by decide)) (by decide) (by decide))⟩, trivial⟩ ?_
  refine pw_if hT (c := ((pvstab 1041).getD (Int32.toNatClampNeg ((0 * 3) + 2)) 0) = 0) rfl rfl (fun c15_ => absurd c15_ (by decide)) (fun c15_ => ?_)
  refine pw_blk hT 3 (S' := (52, [some (pvI 1), some (pvI 2), some (pvI 0), some (pvI (0 + 1)), some (pvI ((0 * 3) + 2))], [pvI ((pvstab 1041).getD (Int32.toNatClampNeg ((0 * 3) + 2)) 0)], M)) rfl ⟨trivial, trivial, ⟨by decide, (zr_in (n := 21) (show 2 ≤ Int32.toInt ((0 * 3) + 2) ∧ Int32.toInt ((0 * 3) + 2) ≤ 2 from (by decide)) (by decide) (by decide))⟩, trivial⟩ ?_
  exact pw_ret hT rfl (r := some (pvI ((pvstab 1041).getD (Int32.toNatClampNeg ((0 * 3) + 2)) 0))) (M' := M) ⟨rfl, rfl⟩ ⟨rfl, rfl⟩
def fpL_X0_run_3_1_0_x_3_1 : List (Nat × Nat × Nat) := [(0, 3, 2), (0, 4, 0)]
def fp_X0_run_3_1_0_x_3_1 (q k : Nat) : Bool := pvfp fpL_X0_run_3_1_0_x_3_1 q k
theorem fp_X0_run_3_1_0_x_3_1_fp_X0_note_3_x (a b : Nat) (h : fp_X0_note_3_x a b = true) : fp_X0_run_3_1_0_x_3_1 a b = true := pvfp_sub (l1 := fpL_X0_note_3_x) (l2 := fpL_X0_run_3_1_0_x_3_1) (by decide) a b h
set_option maxHeartbeats 4000000 in
set_option maxRecDepth 10000 in
theorem sf_X0_run_3_1_0_x_3_1 (M : pvM) (hok : pvOk M) (n3 : Int32) (hc3_1 : 0 ≤ Int32.toInt (M.1 3 1) ∧ Int32.toInt (M.1 3 1) ≤ 998) (hc3_2 : 1 ≤ Int32.toInt (M.1 3 2) ∧ Int32.toInt (M.1 3 2) ≤ 1) (d : Nat) : PW 4 d (0, [some (pvR 3), some (pvI 1), some (pvI 0), some (pvI n3), some (pvI 3), none, none], [], M) (fun r X => (∃ x : Int32, r = some (pvI x) ∧ True) ∧ pvOk X ∧ pvFr fp_X0_run_3_1_0_x_3_1 M X ∧ Int32.toInt (X.1 3 1) ≤ Int32.toInt (M.1 3 1) + 1) := by
  have hT : pvdom 4 = pvD_4 := rfl
  refine pw_blk hT 2 (S' := (4, [some (pvR 3), some (pvI 1), some (pvI 0), some (pvI n3), some (pvI 3), none, none], [pvI 40, pvI 3], M)) rfl ⟨trivial, trivial, trivial⟩ ?_
  refine pw_ic hT (c := 3 ≤ 40) rfl rfl (fun c1_ => ?_) (fun c1_ => absurd (by decide) c1_)
  refine pw_blk hT 2 (S' := (11, [some (pvR 3), some (pvI 1), some (pvI 0), some (pvI n3), some (pvI 3), none, none], [pvI 0, pvI 1], M)) rfl ⟨trivial, trivial, trivial⟩ ?_
  refine pw_callT hT (as := [pvI 1, pvI 0]) (lo1 := [some (pvI 1), some (pvI 0), none, none, none]) (d1 := d) (rest := []) rfl rfl rfl rfl rfl (fun h => absurd h (by decide)) (Nat.zero_le _) rfl rfl rfl (sf_X0_bodyFrom_1_0 M hok d) ?_
  refine pw_eqI (show ((pvstab 1041).getD (Int32.toNatClampNeg ((0 * 3) + 0)) 0) = 10 from by decide) ?_
  show PW 4 d (14, [some (pvR 3), some (pvI 1), some (pvI 0), some (pvI n3), some (pvI 3), none, none], [pvI 10], M) _
  refine pw_blk hT 7 (S' := (25, [some (pvR 3), some (pvI 1), some (pvI 0), some (pvI n3), some (pvI 3), some (pvI 10), some (pvI (3 + 1))], [pvI 10, pvR 3], M)) rfl ⟨trivial, trivial, trivial, trivial, trivial, trivial, trivial, trivial⟩ ?_
  refine pw_callVd hT (as := [pvR 3, pvI 10]) (lo1 := [some (pvR 3), some (pvI 10)]) (d1 := d) (rest := []) rfl rfl rfl rfl rfl (fun _ => rfl) (Nat.zero_le _) rfl rfl rfl (sf_X0_note_3_x M hok 10 (zr_wide (show 10 ≤ Int32.toInt 10 ∧ Int32.toInt 10 ≤ 10 from (by decide)) (by decide) (by decide)) (zr_wide hc3_1 (by decide) (by decide)) d) (fun M9_ o11_ g12_ d7_ => ?_)
  have f13_ : pvFr fp_X0_run_3_1_0_x_3_1 M M9_ := pvfr_t g12_ pvfr_0 fp_X0_run_3_1_0_x_3_1_fp_X0_note_3_x
  have b14_ : 0 ≤ Int32.toInt (M9_.1 3 1) ∧ Int32.toInt (M9_.1 3 1) ≤ 999 := (by have u0 := hc3_1; have u1 := d7_; have u2 := pvok_r o11_ 3 1 (lo := 0) (hi := 1000000) rfl; omega)
  refine pw_blk hT 1 (S' := (30, [some (pvR 3), some (pvI 1), some (pvI 0), some (pvI n3), some (pvI 3), some (pvI 10), some (pvI (3 + 1))], [pvI 10], M9_)) rfl ⟨trivial, trivial⟩ ?_
  refine pw_sw hT rfl rfl ?_
  refine And.intro (fun c15_ => ?_) (fun c15_ => absurd (by decide) c15_)
  show PW 4 d (128, [some (pvR 3), some (pvI 1), some (pvI 0), some (pvI n3), some (pvI 3), some (pvI 10), some (pvI (3 + 1))], [], M9_) _
  refine pw_blk hT 4 (S' := (134, [some (pvR 3), some (pvI 1), some (pvI 0), some (pvI n3), some (pvI 3), some (pvI 10), some (pvI (3 + 1))], [pvI (n3 + (M9_.1 3 4))], M9_)) rfl ⟨trivial, trivial, rfl, trivial, trivial⟩ ?_
  exact pw_ret hT rfl (r := some (pvI (n3 + (M9_.1 3 4)))) (M' := M9_) ⟨rfl, rfl⟩ ⟨⟨_, rfl, trivial⟩, o11_, f13_, (by omega)⟩
def fpL_X0_run_3_0_1_x_2_1 : List (Nat × Nat × Nat) := [(0, 3, 2), (0, 4, 0)]
def fp_X0_run_3_0_1_x_2_1 (q k : Nat) : Bool := pvfp fpL_X0_run_3_0_1_x_2_1 q k
theorem fp_X0_run_3_0_1_x_2_1_fp_X0_note_3_x (a b : Nat) (h : fp_X0_note_3_x a b = true) : fp_X0_run_3_0_1_x_2_1 a b = true := pvfp_sub (l1 := fpL_X0_note_3_x) (l2 := fpL_X0_run_3_0_1_x_2_1) (by decide) a b h
theorem fp_X0_run_3_0_1_x_2_1_fp_X0_run_3_1_0_x_3_1 (a b : Nat) (h : fp_X0_run_3_1_0_x_3_1 a b = true) : fp_X0_run_3_0_1_x_2_1 a b = true := pvfp_sub (l1 := fpL_X0_run_3_1_0_x_3_1) (l2 := fpL_X0_run_3_0_1_x_2_1) (by decide) a b h
set_option maxHeartbeats 4000000 in
set_option maxRecDepth 10000 in
theorem sf_X0_run_3_0_1_x_2_1 (M : pvM) (hok : pvOk M) (n3 : Int32) (hc3_1 : 0 ≤ Int32.toInt (M.1 3 1) ∧ Int32.toInt (M.1 3 1) ≤ 997) (hc3_2 : 1 ≤ Int32.toInt (M.1 3 2) ∧ Int32.toInt (M.1 3 2) ≤ 1) (d : Nat) (hd : 1 ≤ d) : PW 4 d (0, [some (pvR 3), some (pvI 0), some (pvI 1), some (pvI n3), some (pvI 2), none, none], [], M) (fun r X => (∃ x : Int32, r = some (pvI x) ∧ True) ∧ pvOk X ∧ pvFr fp_X0_run_3_0_1_x_2_1 M X ∧ Int32.toInt (X.1 3 1) ≤ Int32.toInt (M.1 3 1) + 2) := by
  have hT : pvdom 4 = pvD_4 := rfl
  refine pw_blk hT 2 (S' := (4, [some (pvR 3), some (pvI 0), some (pvI 1), some (pvI n3), some (pvI 2), none, none], [pvI 40, pvI 2], M)) rfl ⟨trivial, trivial, trivial⟩ ?_
  refine pw_ic hT (c := 2 ≤ 40) rfl rfl (fun c1_ => ?_) (fun c1_ => absurd (by decide) c1_)
  refine pw_blk hT 2 (S' := (11, [some (pvR 3), some (pvI 0), some (pvI 1), some (pvI n3), some (pvI 2), none, none], [pvI 1, pvI 0], M)) rfl ⟨trivial, trivial, trivial⟩ ?_
  refine pw_callT hT (as := [pvI 0, pvI 1]) (lo1 := [some (pvI 0), some (pvI 1), none, none, none]) (d1 := d) (rest := []) rfl rfl rfl rfl rfl (fun h => absurd h (by decide)) (Nat.zero_le _) rfl rfl rfl (sf_X0_bodyFrom_0_1 M hok d) ?_
  refine pw_eqI (show ((pvstab 1041).getD (Int32.toNatClampNeg ((0 * 3) + 1)) 0) = 11 from by decide) ?_
  show PW 4 d (14, [some (pvR 3), some (pvI 0), some (pvI 1), some (pvI n3), some (pvI 2), none, none], [pvI 11], M) _
  refine pw_blk hT 7 (S' := (25, [some (pvR 3), some (pvI 0), some (pvI 1), some (pvI n3), some (pvI 2), some (pvI 11), some (pvI (2 + 1))], [pvI 11, pvR 3], M)) rfl ⟨trivial, trivial, trivial, trivial, trivial, trivial, trivial, trivial⟩ ?_
  refine pw_callVd hT (as := [pvR 3, pvI 11]) (lo1 := [some (pvR 3), some (pvI 11)]) (d1 := d) (rest := []) rfl rfl rfl rfl rfl (fun _ => rfl) (Nat.zero_le _) rfl rfl rfl (sf_X0_note_3_x M hok 11 (zr_wide (show 11 ≤ Int32.toInt 11 ∧ Int32.toInt 11 ≤ 11 from (by decide)) (by decide) (by decide)) (zr_wide hc3_1 (by decide) (by decide)) d) (fun M9_ o11_ g12_ d7_ => ?_)
  have f13_ : pvFr fp_X0_run_3_0_1_x_2_1 M M9_ := pvfr_t g12_ pvfr_0 fp_X0_run_3_0_1_x_2_1_fp_X0_note_3_x
  have b14_ : 0 ≤ Int32.toInt (M9_.1 3 1) ∧ Int32.toInt (M9_.1 3 1) ≤ 998 := (by have u0 := hc3_1; have u1 := d7_; have u2 := pvok_r o11_ 3 1 (lo := 0) (hi := 1000000) rfl; omega)
  refine pw_blk hT 1 (S' := (30, [some (pvR 3), some (pvI 0), some (pvI 1), some (pvI n3), some (pvI 2), some (pvI 11), some (pvI (2 + 1))], [pvI 11], M9_)) rfl ⟨trivial, trivial⟩ ?_
  refine pw_sw hT rfl rfl ?_
  refine And.intro (fun c15_ => absurd c15_ (by decide)) (fun c15_ => ?_)
  refine And.intro (fun c16_ => ?_) (fun c16_ => absurd (by decide) c16_)
  show PW 4 d (135, [some (pvR 3), some (pvI 0), some (pvI 1), some (pvI n3), some (pvI 2), some (pvI 11), some (pvI (2 + 1))], [], M9_) _
  have e17_ : (M9_.1 3 2) = (M.1 3 2) := (g12_ 3 2 rfl)
  have b18_ : 1 ≤ Int32.toInt (M9_.1 3 2) ∧ Int32.toInt (M9_.1 3 2) ≤ 1 := (by rw [e17_]; exact hc3_2)
  refine pw_blk hT 3 (S' := (140, [some (pvR 3), some (pvI 0), some (pvI 1), some (pvI n3), some (pvI 2), some (pvI 11), some (pvI (2 + 1))], [pvI (M9_.1 3 2), pvR 3], M9_)) rfl ⟨trivial, trivial, rfl, trivial⟩ ?_
  refine pw_eqI ((zi_eq _ (1)).mpr (by have u0 := b18_; have u1 : Int32.toInt (1) = 1 := (by decide); omega)) ?_
  refine pw_blk hT 3 (S' := (144, [some (pvR 3), some (pvI 0), some (pvI 1), some (pvI n3), some (pvI 2), some (pvI 11), some (pvI (2 + 1))], [pvI (2 + 1), pvI n3, pvI 0, pvI 1, pvR 3], M9_)) rfl ⟨trivial, trivial, trivial, trivial⟩ ?_
  refine pw_callGd hT (as := [pvR 3, pvI 1, pvI 0, pvI n3, pvI (2 + 1)]) (lo1 := [some (pvR 3), some (pvI 1), some (pvI 0), some (pvI n3), some (pvI (2 + 1)), none, none]) (d1 := (d - 1)) (rest := []) rfl rfl rfl rfl rfl (fun h => absurd h (by decide)) (show 1 ≤ d by omega) rfl rfl rfl (sf_X0_run_3_1_0_x_3_1 M9_ o11_ n3 b14_ b18_ (d - 1)) (fun x20_ M21_ b22_ o23_ g24_ d19_ => ?_)
  have f25_ : pvFr fp_X0_run_3_0_1_x_2_1 M M21_ := pvfr_t g24_ f13_ fp_X0_run_3_0_1_x_2_1_fp_X0_run_3_1_0_x_3_1
  have b26_ : 0 ≤ Int32.toInt (M21_.1 3 1) ∧ Int32.toInt (M21_.1 3 1) ≤ 999 := (by have u0 := b14_; have u1 := d19_; have u2 := pvok_r o23_ 3 1 (lo := 0) (hi := 1000000) rfl; omega)
  refine pw_blk hT 3 (S' := (152, [some (pvR 3), some (pvI 0), some (pvI 1), some (pvI n3), some (pvI 2), some (pvI 11), some (pvI (2 + 1))], [pvI (x20_ - (M21_.1 3 3))], M21_)) rfl ⟨trivial, rfl, trivial, trivial⟩ ?_
  exact pw_ret hT rfl (r := some (pvI (x20_ - (M21_.1 3 3)))) (M' := M21_) ⟨rfl, rfl⟩ ⟨⟨_, rfl, trivial⟩, o23_, f25_, (by omega)⟩
def fpL_X0_run_3_1_1_x_1_1 : List (Nat × Nat × Nat) := [(0, 3, 2), (0, 4, 0)]
def fp_X0_run_3_1_1_x_1_1 (q k : Nat) : Bool := pvfp fpL_X0_run_3_1_1_x_1_1 q k
theorem fp_X0_run_3_1_1_x_1_1_fp_X0_note_3_x (a b : Nat) (h : fp_X0_note_3_x a b = true) : fp_X0_run_3_1_1_x_1_1 a b = true := pvfp_sub (l1 := fpL_X0_note_3_x) (l2 := fpL_X0_run_3_1_1_x_1_1) (by decide) a b h
theorem fp_X0_run_3_1_1_x_1_1_fp_X0_run_3_0_1_x_2_1 (a b : Nat) (h : fp_X0_run_3_0_1_x_2_1 a b = true) : fp_X0_run_3_1_1_x_1_1 a b = true := pvfp_sub (l1 := fpL_X0_run_3_0_1_x_2_1) (l2 := fpL_X0_run_3_1_1_x_1_1) (by decide) a b h
set_option maxHeartbeats 4000000 in
set_option maxRecDepth 10000 in
theorem sf_X0_run_3_1_1_x_1_1 (M : pvM) (hok : pvOk M) (n3 : Int32) (hc3_1 : 0 ≤ Int32.toInt (M.1 3 1) ∧ Int32.toInt (M.1 3 1) ≤ 996) (hc3_2 : 1 ≤ Int32.toInt (M.1 3 2) ∧ Int32.toInt (M.1 3 2) ≤ 1) (d : Nat) (hd : 2 ≤ d) : PW 4 d (0, [some (pvR 3), some (pvI 1), some (pvI 1), some (pvI n3), some (pvI 1), none, none], [], M) (fun r X => (∃ x : Int32, r = some (pvI x) ∧ True) ∧ pvOk X ∧ pvFr fp_X0_run_3_1_1_x_1_1 M X ∧ Int32.toInt (X.1 3 1) ≤ Int32.toInt (M.1 3 1) + 3) := by
  have hT : pvdom 4 = pvD_4 := rfl
  refine pw_blk hT 2 (S' := (4, [some (pvR 3), some (pvI 1), some (pvI 1), some (pvI n3), some (pvI 1), none, none], [pvI 40, pvI 1], M)) rfl ⟨trivial, trivial, trivial⟩ ?_
  refine pw_ic hT (c := 1 ≤ 40) rfl rfl (fun c1_ => ?_) (fun c1_ => absurd (by decide) c1_)
  refine pw_blk hT 2 (S' := (11, [some (pvR 3), some (pvI 1), some (pvI 1), some (pvI n3), some (pvI 1), none, none], [pvI 1, pvI 1], M)) rfl ⟨trivial, trivial, trivial⟩ ?_
  refine pw_callT hT (as := [pvI 1, pvI 1]) (lo1 := [some (pvI 1), some (pvI 1), none, none, none]) (d1 := d) (rest := []) rfl rfl rfl rfl rfl (fun h => absurd h (by decide)) (Nat.zero_le _) rfl rfl rfl (sf_X0_bodyFrom_1_1 M hok d) ?_
  refine pw_eqI (show ((pvstab 1041).getD (Int32.toNatClampNeg ((1 * 3) + 1)) 0) = 20 from by decide) ?_
  show PW 4 d (14, [some (pvR 3), some (pvI 1), some (pvI 1), some (pvI n3), some (pvI 1), none, none], [pvI 20], M) _
  refine pw_blk hT 7 (S' := (25, [some (pvR 3), some (pvI 1), some (pvI 1), some (pvI n3), some (pvI 1), some (pvI 20), some (pvI (1 + 1))], [pvI 20, pvR 3], M)) rfl ⟨trivial, trivial, trivial, trivial, trivial, trivial, trivial, trivial⟩ ?_
  refine pw_callVd hT (as := [pvR 3, pvI 20]) (lo1 := [some (pvR 3), some (pvI 20)]) (d1 := d) (rest := []) rfl rfl rfl rfl rfl (fun _ => rfl) (Nat.zero_le _) rfl rfl rfl (sf_X0_note_3_x M hok 20 (zr_wide (show 20 ≤ Int32.toInt 20 ∧ Int32.toInt 20 ≤ 20 from (by decide)) (by decide) (by decide)) (zr_wide hc3_1 (by decide) (by decide)) d) (fun M9_ o11_ g12_ d7_ => ?_)
  have f13_ : pvFr fp_X0_run_3_1_1_x_1_1 M M9_ := pvfr_t g12_ pvfr_0 fp_X0_run_3_1_1_x_1_1_fp_X0_note_3_x
  have b14_ : 0 ≤ Int32.toInt (M9_.1 3 1) ∧ Int32.toInt (M9_.1 3 1) ≤ 997 := (by have u0 := hc3_1; have u1 := d7_; have u2 := pvok_r o11_ 3 1 (lo := 0) (hi := 1000000) rfl; omega)
  refine pw_blk hT 1 (S' := (30, [some (pvR 3), some (pvI 1), some (pvI 1), some (pvI n3), some (pvI 1), some (pvI 20), some (pvI (1 + 1))], [pvI 20], M9_)) rfl ⟨trivial, trivial⟩ ?_
  refine pw_sw hT rfl rfl ?_
  refine And.intro (fun c15_ => absurd c15_ (by decide)) (fun c15_ => ?_)
  refine And.intro (fun c16_ => absurd c16_ (by decide)) (fun c16_ => ?_)
  refine And.intro (fun c17_ => absurd c17_ (by decide)) (fun c17_ => ?_)
  refine And.intro (fun c18_ => ?_) (fun c18_ => absurd (by decide) c18_)
  show PW 4 d (168, [some (pvR 3), some (pvI 1), some (pvI 1), some (pvI n3), some (pvI 1), some (pvI 20), some (pvI (1 + 1))], [], M9_) _
  refine pw_blk hT 5 (S' := (174, [some (pvR 3), some (pvI 1), some (pvI 1), some (pvI n3), some (pvI 1), some (pvI 20), some (pvI (1 + 1))], [pvI (1 + 1), pvI n3, pvI 1, pvI 0, pvR 3], M9_)) rfl ⟨trivial, trivial, trivial, trivial, trivial, trivial⟩ ?_
  have e19_ : (M9_.1 3 2) = (M.1 3 2) := (g12_ 3 2 rfl)
  have b20_ : 1 ≤ Int32.toInt (M9_.1 3 2) ∧ Int32.toInt (M9_.1 3 2) ≤ 1 := (by rw [e19_]; exact hc3_2)
  refine pw_callGd hT (as := [pvR 3, pvI 0, pvI 1, pvI n3, pvI (1 + 1)]) (lo1 := [some (pvR 3), some (pvI 0), some (pvI 1), some (pvI n3), some (pvI (1 + 1)), none, none]) (d1 := (d - 1)) (rest := []) rfl rfl rfl rfl rfl (fun h => absurd h (by decide)) (show 1 ≤ d by omega) rfl rfl rfl (sf_X0_run_3_0_1_x_2_1 M9_ o11_ n3 b14_ b20_ (d - 1) (by omega)) (fun x22_ M23_ b24_ o25_ g26_ d21_ => ?_)
  have f27_ : pvFr fp_X0_run_3_1_1_x_1_1 M M23_ := pvfr_t g26_ f13_ fp_X0_run_3_1_1_x_1_1_fp_X0_run_3_0_1_x_2_1
  have b28_ : 0 ≤ Int32.toInt (M23_.1 3 1) ∧ Int32.toInt (M23_.1 3 1) ≤ 999 := (by have u0 := b14_; have u1 := d21_; have u2 := pvok_r o25_ 3 1 (lo := 0) (hi := 1000000) rfl; omega)
  refine pw_blk hT 2 (S' := (180, [some (pvR 3), some (pvI 1), some (pvI 1), some (pvI n3), some (pvI 1), some (pvI 20), some (pvI (1 + 1))], [pvI (x22_ ^^^ 6)], M23_)) rfl ⟨trivial, trivial, trivial⟩ ?_
  exact pw_ret hT rfl (r := some (pvI (x22_ ^^^ 6))) (M' := M23_) ⟨rfl, rfl⟩ ⟨⟨_, rfl, trivial⟩, o25_, f27_, (by omega)⟩
def fpL_X0_run_3_1_2_x_0_1 : List (Nat × Nat × Nat) := [(0, 3, 2), (0, 4, 0)]
def fp_X0_run_3_1_2_x_0_1 (q k : Nat) : Bool := pvfp fpL_X0_run_3_1_2_x_0_1 q k
theorem fp_X0_run_3_1_2_x_0_1_fp_X0_note_3_x (a b : Nat) (h : fp_X0_note_3_x a b = true) : fp_X0_run_3_1_2_x_0_1 a b = true := pvfp_sub (l1 := fpL_X0_note_3_x) (l2 := fpL_X0_run_3_1_2_x_0_1) (by decide) a b h
theorem fp_X0_run_3_1_2_x_0_1_fp_X0_run_3_1_1_x_1_1 (a b : Nat) (h : fp_X0_run_3_1_1_x_1_1 a b = true) : fp_X0_run_3_1_2_x_0_1 a b = true := pvfp_sub (l1 := fpL_X0_run_3_1_1_x_1_1) (l2 := fpL_X0_run_3_1_2_x_0_1) (by decide) a b h
set_option maxHeartbeats 4000000 in
set_option maxRecDepth 10000 in
theorem sf_X0_run_3_1_2_x_0_1 (M : pvM) (hok : pvOk M) (n3 : Int32) (hc3_1 : 0 ≤ Int32.toInt (M.1 3 1) ∧ Int32.toInt (M.1 3 1) ≤ 995) (hc3_2 : 1 ≤ Int32.toInt (M.1 3 2) ∧ Int32.toInt (M.1 3 2) ≤ 1) (d : Nat) (hd : 3 ≤ d) : PW 4 d (0, [some (pvR 3), some (pvI 1), some (pvI 2), some (pvI n3), some (pvI 0), none, none], [], M) (fun r X => (∃ x : Int32, r = some (pvI x) ∧ True) ∧ pvOk X ∧ pvFr fp_X0_run_3_1_2_x_0_1 M X ∧ Int32.toInt (X.1 3 1) ≤ Int32.toInt (M.1 3 1) + 4) := by
  have hT : pvdom 4 = pvD_4 := rfl
  refine pw_blk hT 2 (S' := (4, [some (pvR 3), some (pvI 1), some (pvI 2), some (pvI n3), some (pvI 0), none, none], [pvI 40, pvI 0], M)) rfl ⟨trivial, trivial, trivial⟩ ?_
  refine pw_ic hT (c := 0 ≤ 40) rfl rfl (fun c1_ => ?_) (fun c1_ => absurd (by decide) c1_)
  refine pw_blk hT 2 (S' := (11, [some (pvR 3), some (pvI 1), some (pvI 2), some (pvI n3), some (pvI 0), none, none], [pvI 2, pvI 1], M)) rfl ⟨trivial, trivial, trivial⟩ ?_
  refine pw_callT hT (as := [pvI 1, pvI 2]) (lo1 := [some (pvI 1), some (pvI 2), none, none, none]) (d1 := d) (rest := []) rfl rfl rfl rfl rfl (fun h => absurd h (by decide)) (Nat.zero_le _) rfl rfl rfl (sf_X0_bodyFrom_1_2 M hok d) ?_
  refine pw_eqI (show ((pvstab 1041).getD (Int32.toNatClampNeg ((0 * 3) + 2)) 0) = 12 from by decide) ?_
  show PW 4 d (14, [some (pvR 3), some (pvI 1), some (pvI 2), some (pvI n3), some (pvI 0), none, none], [pvI 12], M) _
  refine pw_blk hT 7 (S' := (25, [some (pvR 3), some (pvI 1), some (pvI 2), some (pvI n3), some (pvI 0), some (pvI 12), some (pvI (0 + 1))], [pvI 12, pvR 3], M)) rfl ⟨trivial, trivial, trivial, trivial, trivial, trivial, trivial, trivial⟩ ?_
  refine pw_callVd hT (as := [pvR 3, pvI 12]) (lo1 := [some (pvR 3), some (pvI 12)]) (d1 := d) (rest := []) rfl rfl rfl rfl rfl (fun _ => rfl) (Nat.zero_le _) rfl rfl rfl (sf_X0_note_3_x M hok 12 (zr_wide (show 12 ≤ Int32.toInt 12 ∧ Int32.toInt 12 ≤ 12 from (by decide)) (by decide) (by decide)) (zr_wide hc3_1 (by decide) (by decide)) d) (fun M9_ o11_ g12_ d7_ => ?_)
  have f13_ : pvFr fp_X0_run_3_1_2_x_0_1 M M9_ := pvfr_t g12_ pvfr_0 fp_X0_run_3_1_2_x_0_1_fp_X0_note_3_x
  have b14_ : 0 ≤ Int32.toInt (M9_.1 3 1) ∧ Int32.toInt (M9_.1 3 1) ≤ 996 := (by have u0 := hc3_1; have u1 := d7_; have u2 := pvok_r o11_ 3 1 (lo := 0) (hi := 1000000) rfl; omega)
  refine pw_blk hT 1 (S' := (30, [some (pvR 3), some (pvI 1), some (pvI 2), some (pvI n3), some (pvI 0), some (pvI 12), some (pvI (0 + 1))], [pvI 12], M9_)) rfl ⟨trivial, trivial⟩ ?_
  refine pw_sw hT rfl rfl ?_
  refine And.intro (fun c15_ => absurd c15_ (by decide)) (fun c15_ => ?_)
  refine And.intro (fun c16_ => absurd c16_ (by decide)) (fun c16_ => ?_)
  refine And.intro (fun c17_ => ?_) (fun c17_ => absurd (by decide) c17_)
  show PW 4 d (153, [some (pvR 3), some (pvI 1), some (pvI 2), some (pvI n3), some (pvI 0), some (pvI 12), some (pvI (0 + 1))], [], M9_) _
  have e18_ : (M9_.1 3 2) = (M.1 3 2) := (g12_ 3 2 rfl)
  have b19_ : 1 ≤ Int32.toInt (M9_.1 3 2) ∧ Int32.toInt (M9_.1 3 2) ≤ 1 := (by rw [e18_]; exact hc3_2)
  refine pw_blk hT 3 (S' := (158, [some (pvR 3), some (pvI 1), some (pvI 2), some (pvI n3), some (pvI 0), some (pvI 12), some (pvI (0 + 1))], [pvI (M9_.1 3 2), pvR 3], M9_)) rfl ⟨trivial, trivial, rfl, trivial⟩ ?_
  refine pw_eqI ((zi_eq _ (1)).mpr (by have u0 := b19_; have u1 : Int32.toInt (1) = 1 := (by decide); omega)) ?_
  refine pw_blk hT 3 (S' := (162, [some (pvR 3), some (pvI 1), some (pvI 2), some (pvI n3), some (pvI 0), some (pvI 12), some (pvI (0 + 1))], [pvI (0 + 1), pvI n3, pvI 1, pvI 1, pvR 3], M9_)) rfl ⟨trivial, trivial, trivial, trivial⟩ ?_
  refine pw_callGd hT (as := [pvR 3, pvI 1, pvI 1, pvI n3, pvI (0 + 1)]) (lo1 := [some (pvR 3), some (pvI 1), some (pvI 1), some (pvI n3), some (pvI (0 + 1)), none, none]) (d1 := (d - 1)) (rest := []) rfl rfl rfl rfl rfl (fun h => absurd h (by decide)) (show 1 ≤ d by omega) rfl rfl rfl (sf_X0_run_3_1_1_x_1_1 M9_ o11_ n3 b14_ b19_ (d - 1) (by omega)) (fun x21_ M22_ b23_ o24_ g25_ d20_ => ?_)
  have f26_ : pvFr fp_X0_run_3_1_2_x_0_1 M M22_ := pvfr_t g25_ f13_ fp_X0_run_3_1_2_x_0_1_fp_X0_run_3_1_1_x_1_1
  have b27_ : 0 ≤ Int32.toInt (M22_.1 3 1) ∧ Int32.toInt (M22_.1 3 1) ≤ 999 := (by have u0 := b14_; have u1 := d20_; have u2 := pvok_r o24_ 3 1 (lo := 0) (hi := 1000000) rfl; omega)
  refine pw_blk hT 2 (S' := (167, [some (pvR 3), some (pvI 1), some (pvI 2), some (pvI n3), some (pvI 0), some (pvI 12), some (pvI (0 + 1))], [pvI (x21_ * 2)], M22_)) rfl ⟨trivial, trivial, trivial⟩ ?_
  exact pw_ret hT rfl (r := some (pvI (x21_ * 2))) (M' := M22_) ⟨rfl, rfl⟩ ⟨⟨_, rfl, trivial⟩, o24_, f26_, (by omega)⟩
