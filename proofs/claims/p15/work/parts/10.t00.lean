set_option maxHeartbeats 4000000 in
set_option maxRecDepth 10000 in
theorem sf_X10_in_124_x_x_x (M : pvM) (hok : pvOk M) (n1 : Int32) (n2 : Int32) (n3 : Int32) (d : Nat) : PW 36 d (0, [some (pvR 124), some (pvI n1), some (pvI n2), some (pvI n3)], [], M) (fun r X => r = some (pvI ((if n1 < n2 then 0 else (if n3 < n1 then 0 else 1)))) ∧ X = M) := by
  have hT : pvdom 36 = pvD_36 := rfl
  refine pw_blk hT 2 (S' := (2, [some (pvR 124), some (pvI n1), some (pvI n2), some (pvI n3)], [pvI n2, pvI n1], M)) rfl ⟨trivial, trivial, trivial⟩ ?_
  refine pw_ic hT (c := n1 < n2) rfl rfl (fun c1_ => ?_) (fun c1_ => ?_)
  · have b2_ : (-2147483648) ≤ Int32.toInt n1 ∧ Int32.toInt n1 ≤ 2147483646 := zr_lt_l 2147483646 c1_ (zbnd n1) (zbnd n2) (by decide)
    have b3_ : (-2147483647) ≤ Int32.toInt n2 ∧ Int32.toInt n2 ≤ 2147483647 := zr_lt_r (-2147483647) c1_ (zbnd n2) b2_ (by decide)
    have d4_ : Int32.toInt n1 < Int32.toInt n2 := (zi_lt _ _).mp c1_
    refine pw_blk hT 1 (S' := (15, [some (pvR 124), some (pvI n1), some (pvI n2), some (pvI n3)], [pvI 0], M)) rfl ⟨trivial, trivial⟩ ?_
    exact pw_ret hT rfl (r := some (pvI 0)) (M' := M) ⟨Or.inl rfl, rfl, rfl⟩ ⟨(by rw [if_pos c1_]), rfl⟩
  · have d5_ : Int32.toInt n1 ≥ Int32.toInt n2 := Int.not_lt.mp ((not_congr (zi_lt _ _)).mp c1_)
    refine pw_blk hT 2 (S' := (7, [some (pvR 124), some (pvI n1), some (pvI n2), some (pvI n3)], [pvI n3, pvI n1], M)) rfl ⟨trivial, trivial, trivial⟩ ?_
    refine pw_ic hT (c := n3 < n1) rfl rfl (fun c6_ => ?_) (fun c6_ => ?_)
    · have b7_ : (-2147483648) ≤ Int32.toInt n3 ∧ Int32.toInt n3 ≤ 2147483646 := zr_lt_l 2147483646 c6_ (zbnd n3) (zbnd n1) (by decide)
      have b8_ : (-2147483647) ≤ Int32.toInt n1 ∧ Int32.toInt n1 ≤ 2147483647 := zr_lt_r (-2147483647) c6_ (zbnd n1) b7_ (by decide)
      have d9_ : Int32.toInt n3 < Int32.toInt n1 := (zi_lt _ _).mp c6_
      refine pw_blk hT 1 (S' := (15, [some (pvR 124), some (pvI n1), some (pvI n2), some (pvI n3)], [pvI 0], M)) rfl ⟨trivial, trivial⟩ ?_
      exact pw_ret hT rfl (r := some (pvI 0)) (M' := M) ⟨Or.inl rfl, rfl, rfl⟩ ⟨(by rw [if_neg c1_, if_pos c6_]), rfl⟩
    · have d10_ : Int32.toInt n3 ≥ Int32.toInt n1 := Int.not_lt.mp ((not_congr (zi_lt _ _)).mp c6_)
      refine pw_blk hT 2 (S' := (15, [some (pvR 124), some (pvI n1), some (pvI n2), some (pvI n3)], [pvI 1], M)) rfl ⟨trivial, trivial, trivial⟩ ?_
      exact pw_ret hT rfl (r := some (pvI 1)) (M' := M) ⟨Or.inr rfl, rfl, rfl⟩ ⟨(by rw [if_neg c1_, if_neg c6_]), rfl⟩
set_option maxHeartbeats 4000000 in
set_option maxRecDepth 10000 in
theorem sf_X10_isWindow_124_x (M : pvM) (hok : pvOk M) (n1 : Int32) (d : Nat) : PW 42 d (0, [some (pvR 124), some (pvI n1)], [], M) (fun r X => r = some (pvI ((if n1 < 0 then 0 else (if ((M.1 124 0) - 1) < n1 then 0 else 1)))) ∧ X = M) := by
  have hT : pvdom 42 = pvD_42 := rfl
  have b1_ : 0 ≤ Int32.toInt (M.1 124 0) ∧ Int32.toInt (M.1 124 0) ≤ 7 := pvok_r hok 124 0 rfl
  obtain ⟨q3_, b2_⟩ : (Int32.toInt ((M.1 124 0) - 1) = Int32.toInt (M.1 124 0) - 1) ∧ ((-1) ≤ Int32.toInt ((M.1 124 0) - 1) ∧ Int32.toInt ((M.1 124 0) - 1) ≤ 6) := zsub_k (M.1 124 0) 1 1 (-1) 6 b1_ (by decide) (by decide) (by decide) (by decide) (by decide)
  refine pw_blk hT 7 (S' := (9, [some (pvR 124), some (pvI n1)], [pvI ((M.1 124 0) - 1), pvI 0, pvI n1, pvR 124], M)) rfl ⟨trivial, trivial, trivial, trivial, rfl, trivial, trivial, trivial⟩ ?_
  refine pw_callT hT (as := [pvR 124, pvI n1, pvI 0, pvI ((M.1 124 0) - 1)]) (lo1 := [some (pvR 124), some (pvI n1), some (pvI 0), some (pvI ((M.1 124 0) - 1))]) (d1 := d) (rest := []) rfl rfl rfl rfl rfl (fun _ => rfl) (Nat.zero_le _) rfl rfl rfl (sf_X10_in_124_x_x_x M hok n1 0 ((M.1 124 0) - 1) d) ?_
  by_cases c9_ : n1 < 0
  · refine pw_eqI (if_pos c9_) ?_
    have b10_ : (-2147483648) ≤ Int32.toInt n1 ∧ Int32.toInt n1 ≤ (-1) := zr_lt_l (-1) c9_ (zbnd n1) (show 0 ≤ Int32.toInt 0 ∧ Int32.toInt 0 ≤ 0 from (by decide)) (by decide)
    show PW 42 d (12, [some (pvR 124), some (pvI n1)], [pvI 0], M) _
    exact pw_ret hT rfl (r := some (pvI 0)) (M' := M) ⟨Or.inl rfl, rfl, rfl⟩ ⟨(by rw [if_pos c9_]), rfl⟩
  · refine pw_eqI (if_neg c9_) ?_
    have b11_ : 0 ≤ Int32.toInt n1 ∧ Int32.toInt n1 ≤ 2147483647 := zr_nlt_l 0 c9_ (zbnd n1) (show 0 ≤ Int32.toInt 0 ∧ Int32.toInt 0 ≤ 0 from (by decide)) (by decide)
    by_cases c12_ : ((M.1 124 0) - 1) < n1
    · refine pw_eqI (if_pos c12_) ?_
      have d13_ : Int32.toInt ((M.1 124 0) - 1) < Int32.toInt n1 := (zi_lt _ _).mp c12_
      show PW 42 d (12, [some (pvR 124), some (pvI n1)], [pvI 0], M) _
      exact pw_ret hT rfl (r := some (pvI 0)) (M' := M) ⟨Or.inl rfl, rfl, rfl⟩ ⟨(by rw [if_neg c9_, if_pos c12_]), rfl⟩
    · refine pw_eqI (if_neg c12_) ?_
      have b14_ : 0 ≤ Int32.toInt ((M.1 124 0) - 1) ∧ Int32.toInt ((M.1 124 0) - 1) ≤ 6 := zr_nlt_l 0 c12_ b2_ b11_ (by decide)
      have b15_ : 0 ≤ Int32.toInt n1 ∧ Int32.toInt n1 ≤ 6 := zr_nlt_r 6 c12_ b11_ b14_ (by decide)
      have d16_ : Int32.toInt ((M.1 124 0) - 1) ≥ Int32.toInt n1 := Int.not_lt.mp ((not_congr (zi_lt _ _)).mp c12_)
      show PW 42 d (12, [some (pvR 124), some (pvI n1)], [pvI 1], M) _
      exact pw_ret hT rfl (r := some (pvI 1)) (M' := M) ⟨Or.inr rfl, rfl, rfl⟩ ⟨(by rw [if_neg c9_, if_neg c12_]), rfl⟩
def fpL_X10_body_124_x : List (Nat × Nat × Nat) := [(0, 124, 71), (0, 163, 0)]
def fp_X10_body_124_x (q k : Nat) : Bool := pvfp fpL_X10_body_124_x q k
set_option maxHeartbeats 4000000 in
set_option maxRecDepth 10000 in
theorem sf_X10_body_124_x (M : pvM) (hok : pvOk M) (n1 : Int32) (hn1 : 0 ≤ Int32.toInt n1 ∧ Int32.toInt n1 ≤ 100) (hc124_70 : 0 ≤ Int32.toInt (M.1 124 70) ∧ Int32.toInt (M.1 124 70) ≤ 999) (d : Nat) : PW 11 d (0, [some (pvR 124), some (pvI n1)], [], M) (fun r X => r = none ∧ pvOk X ∧ pvFr fp_X10_body_124_x M X ∧ Int32.toInt (X.1 124 70) ≤ Int32.toInt (M.1 124 70) + 1) := by
  have hT : pvdom 11 = pvD_11 := rfl
  refine pw_blk hT 3 (S' := (6, [some (pvR 124), some (pvI n1)], [pvI 20, pvI (M.1 124 70)], M)) rfl ⟨trivial, rfl, trivial, trivial⟩ ?_
  refine pw_ic hT (c := 20 ≤ (M.1 124 70)) rfl rfl (fun c1_ => ?_) (fun c1_ => ?_)
  · have b2_ : 20 ≤ Int32.toInt (M.1 124 70) ∧ Int32.toInt (M.1 124 70) ≤ 999 := zr_le_r 20 c1_ hc124_70 (show 20 ≤ Int32.toInt 20 ∧ Int32.toInt 20 ≤ 20 from (by decide)) (by decide)
    obtain ⟨q4_, b3_⟩ : (Int32.toInt ((M.1 124 70) + 1) = Int32.toInt (M.1 124 70) + 1) ∧ (21 ≤ Int32.toInt ((M.1 124 70) + 1) ∧ Int32.toInt ((M.1 124 70) + 1) ≤ 1000) := zadd_k (M.1 124 70) 1 1 21 1000 b2_ (by decide) (by decide) (by decide) (by decide) (by decide)
    refine pw_blkw hT 6 (pc := 29) (lo := [some (pvR 124), some (pvI n1)]) (st := []) (M := pvu M 124 70 ((M.1 124 70) + 1)) rfl ⟨trivial, trivial, rfl, trivial, trivial, rfl, trivial⟩ (fun M5_ e6_ => ?_)
    have o7_ : pvOk M5_ := pvok_u2 e6_ hok rfl (zr_wide b3_ (by decide) (by decide))
    have f8_ : pvFr fp_X10_body_124_x M M5_ := pvfr_u e6_ pvfr_0 rfl
    exact pw_ret hT rfl (r := none) (M' := M5_) ⟨rfl, rfl⟩ ⟨rfl, o7_, f8_, (by have u0 : Int32.toInt (M5_.1 124 70) = Int32.toInt ((M.1 124 70) + 1) := congrArg Int32.toInt (pvu_s e6_); omega)⟩
  · have b9_ : 0 ≤ Int32.toInt (M.1 124 70) ∧ Int32.toInt (M.1 124 70) ≤ 19 := zr_nle_r 19 c1_ hc124_70 (show 20 ≤ Int32.toInt 20 ∧ Int32.toInt 20 ≤ 20 from (by decide)) (by decide)
    refine pw_blkw hT 6 (pc := 19) (lo := [some (pvR 124), some (pvI n1)]) (st := []) (M := pvu M 163 (Int32.toNatClampNeg (M.1 124 70)) n1) rfl ⟨trivial, rfl, trivial, rfl, trivial, ⟨rfl, (zr_in (n := 20) b9_ (by decide) (by decide))⟩, trivial⟩ (fun M10_ e11_ => ?_)
    have o12_ : pvOk M10_ := pvok_u2 e11_ hok rfl (zbnd n1)
    have f13_ : pvFr fp_X10_body_124_x M M10_ := pvfr_u e11_ pvfr_0 rfl
    have e14_ : (M10_.1 124 70) = (M.1 124 70) := (pvu_n e11_ 124 70 (Or.inl (by decide)))
    have b15_ : 0 ≤ Int32.toInt (M10_.1 124 70) ∧ Int32.toInt (M10_.1 124 70) ≤ 19 := (by rw [e14_]; exact b9_)
    obtain ⟨q17_, b16_⟩ : (Int32.toInt ((M10_.1 124 70) + 1) = Int32.toInt (M10_.1 124 70) + 1) ∧ (1 ≤ Int32.toInt ((M10_.1 124 70) + 1) ∧ Int32.toInt ((M10_.1 124 70) + 1) ≤ 20) := zadd_k (M10_.1 124 70) 1 1 1 20 b15_ (by decide) (by decide) (by decide) (by decide) (by decide)
    refine pw_blkw hT 6 (pc := 29) (lo := [some (pvR 124), some (pvI n1)]) (st := []) (M := pvu M10_ 124 70 ((M10_.1 124 70) + 1)) rfl ⟨trivial, trivial, rfl, trivial, trivial, rfl, trivial⟩ (fun M18_ e19_ => ?_)
    have o20_ : pvOk M18_ := pvok_u2 e19_ o12_ rfl (zr_wide b16_ (by decide) (by decide))
    have f21_ : pvFr fp_X10_body_124_x M M18_ := pvfr_u e19_ f13_ rfl
    exact pw_ret hT rfl (r := none) (M' := M18_) ⟨rfl, rfl⟩ ⟨rfl, o20_, f21_, (by have u0 : Int32.toInt (M18_.1 124 70) = Int32.toInt ((M10_.1 124 70) + 1) := congrArg Int32.toInt (pvu_s e19_); have u1 : Int32.toInt (M10_.1 124 70) = Int32.toInt (M.1 124 70) := congrArg Int32.toInt (pvu_n e11_ 124 70 (Or.inl (by decide))); omega)⟩
def fpL_X10_windowOpens_124_x_x : List (Nat × Nat × Nat) := [(0, 124, 71), (0, 163, 0)]
def fp_X10_windowOpens_124_x_x (q k : Nat) : Bool := pvfp fpL_X10_windowOpens_124_x_x q k
theorem fp_X10_windowOpens_124_x_x_fp_X10_body_124_x (a b : Nat) (h : fp_X10_body_124_x a b = true) : fp_X10_windowOpens_124_x_x a b = true := pvfp_sub (l1 := fpL_X10_body_124_x) (l2 := fpL_X10_windowOpens_124_x_x) (by decide) a b h
set_option maxHeartbeats 4000000 in
set_option maxRecDepth 10000 in
theorem sf_X10_windowOpens_124_x_x (M : pvM) (hok : pvOk M) (n1 : Int32) (n2 : Int32) (hn1 : 0 ≤ Int32.toInt n1 ∧ Int32.toInt n1 ≤ 6) (hc124_70 : 0 ≤ Int32.toInt (M.1 124 70) ∧ Int32.toInt (M.1 124 70) ≤ 998) (d : Nat) : PW 98 d (0, [some (pvR 124), some (pvI n1), some (pvI n2)], [], M) (fun r X => (∃ x : Int32, r = some (pvI x) ∧ True) ∧ pvOk X ∧ pvFr fp_X10_windowOpens_124_x_x M X ∧ Int32.toInt (X.1 124 70) ≤ Int32.toInt (M.1 124 70) + 1) := by
  have hT : pvdom 98 = pvD_98 := rfl
  refine pw_blk hT 2 (S' := (3, [some (pvR 124), some (pvI n1), some (pvI n2)], [pvI 10, pvR 124], M)) rfl ⟨trivial, trivial, trivial⟩ ?_
  refine pw_callVd hT (as := [pvR 124, pvI 10]) (lo1 := [some (pvR 124), some (pvI 10)]) (d1 := d) (rest := []) rfl rfl rfl rfl rfl (fun _ => rfl) (Nat.zero_le _) rfl rfl rfl (sf_X10_body_124_x M hok 10 (zr_wide (show 10 ≤ Int32.toInt 10 ∧ Int32.toInt 10 ≤ 10 from (by decide)) (by decide) (by decide)) (zr_wide hc124_70 (by decide) (by decide)) d) (fun M3_ o5_ g6_ d1_ => ?_)
  have f7_ : pvFr fp_X10_windowOpens_124_x_x M M3_ := pvfr_t g6_ pvfr_0 fp_X10_windowOpens_124_x_x_fp_X10_body_124_x
  have b8_ : 0 ≤ Int32.toInt (M3_.1 124 70) ∧ Int32.toInt (M3_.1 124 70) ≤ 999 := (by have u0 := hc124_70; have u1 := d1_; have u2 := pvok_r o5_ 124 70 (lo := 0) (hi := 1000000) rfl; omega)
  refine pw_blk hT 3 (S' := (9, [some (pvR 124), some (pvI n1), some (pvI n2)], [pvI (n2 + n1)], M3_)) rfl ⟨trivial, trivial, trivial, trivial⟩ ?_
  exact pw_ret hT rfl (r := some (pvI (n2 + n1))) (M' := M3_) ⟨rfl, rfl⟩ ⟨⟨_, rfl, trivial⟩, o5_, f7_, (by omega)⟩
def fpL_X10_opensAct_124_x_x : List (Nat × Nat × Nat) := [(0, 124, 71), (0, 163, 0)]
def fp_X10_opensAct_124_x_x (q k : Nat) : Bool := pvfp fpL_X10_opensAct_124_x_x q k
theorem fp_X10_opensAct_124_x_x_fp_X10_body_124_x (a b : Nat) (h : fp_X10_body_124_x a b = true) : fp_X10_opensAct_124_x_x a b = true := pvfp_sub (l1 := fpL_X10_body_124_x) (l2 := fpL_X10_opensAct_124_x_x) (by decide) a b h
theorem fp_X10_opensAct_124_x_x_fp_X10_windowOpens_124_x_x (a b : Nat) (h : fp_X10_windowOpens_124_x_x a b = true) : fp_X10_opensAct_124_x_x a b = true := pvfp_sub (l1 := fpL_X10_windowOpens_124_x_x) (l2 := fpL_X10_opensAct_124_x_x) (by decide) a b h
set_option maxHeartbeats 4000000 in
set_option maxRecDepth 10000 in
theorem sf_X10_opensAct_124_x_x (M : pvM) (hok : pvOk M) (n1 : Int32) (n2 : Int32) (hn1 : 0 ≤ Int32.toInt n1 ∧ Int32.toInt n1 ≤ 6) (hc124_70 : 0 ≤ Int32.toInt (M.1 124 70) ∧ Int32.toInt (M.1 124 70) ≤ 990) (d : Nat) : PW 62 d (0, [some (pvR 124), some (pvI n1), some (pvI n2)], [], M) (fun r X => (∃ x : Int32, r = some (pvI x) ∧ True) ∧ pvOk X ∧ pvFr fp_X10_opensAct_124_x_x M X ∧ Int32.toInt (X.1 124 70) ≤ Int32.toInt (M.1 124 70) + 2) := by
  have hT : pvdom 62 = pvD_62 := rfl
  have b1_ : 0 ≤ Int32.toInt (M.1 125 (Int32.toNatClampNeg n1)) ∧ Int32.toInt (M.1 125 (Int32.toNatClampNeg n1)) ≤ 6 := pvok_r hok 125 (Int32.toNatClampNeg n1) rfl
  refine pw_blk hT 4 (S' := (6, [some (pvR 124), some (pvI n1), some (pvI n2)], [pvI (M.1 125 (Int32.toNatClampNeg n1))], M)) rfl ⟨trivial, rfl, trivial, ⟨rfl, (zr_in (n := 7) hn1 (by decide) (by decide))⟩, trivial⟩ ?_
  refine pw_sw hT rfl rfl ?_
  refine And.intro (fun c2_ => ?_) (fun c2_ => ?_)
  · show PW 62 d (40, [some (pvR 124), some (pvI n1), some (pvI n2)], [], M) _
    have b3_ : 2 ≤ Int32.toInt (M.1 125 (Int32.toNatClampNeg n1)) ∧ Int32.toInt (M.1 125 (Int32.toNatClampNeg n1)) ≤ 2 := (by have u0 := b1_; have u1 := (zi_eq _ _).mp c2_; have u2 := (show 2 ≤ Int32.toInt 2 ∧ Int32.toInt 2 ≤ 2 from (by decide)); omega)
    refine pw_blk hT 2 (S' := (43, [some (pvR 124), some (pvI n1), some (pvI n2)], [pvI 30, pvR 124], M)) rfl ⟨trivial, trivial, trivial⟩ ?_
    refine pw_callVd hT (as := [pvR 124, pvI 30]) (lo1 := [some (pvR 124), some (pvI 30)]) (d1 := d) (rest := []) rfl rfl rfl rfl rfl (fun _ => rfl) (Nat.zero_le _) rfl rfl rfl (sf_X10_body_124_x M hok 30 (zr_wide (show 30 ≤ Int32.toInt 30 ∧ Int32.toInt 30 ≤ 30 from (by decide)) (by decide) (by decide)) (zr_wide hc124_70 (by decide) (by decide)) d) (fun M6_ o8_ g9_ d4_ => ?_)
    have f10_ : pvFr fp_X10_opensAct_124_x_x M M6_ := pvfr_t g9_ pvfr_0 fp_X10_opensAct_124_x_x_fp_X10_body_124_x
    have b11_ : 0 ≤ Int32.toInt (M6_.1 124 70) ∧ Int32.toInt (M6_.1 124 70) ≤ 991 := (by have u0 := hc124_70; have u1 := d4_; have u2 := pvok_r o8_ 124 70 (lo := 0) (hi := 1000000) rfl; omega)
    refine pw_blk hT 5 (S' := (51, [some (pvR 124), some (pvI n1), some (pvI n2)], [pvI (n2 * 3), pvI n1, pvR 124], M6_)) rfl ⟨trivial, trivial, trivial, trivial, trivial, trivial⟩ ?_
    refine pw_callGd hT (as := [pvR 124, pvI n1, pvI (n2 * 3)]) (lo1 := [some (pvR 124), some (pvI n1), some (pvI (n2 * 3))]) (d1 := d) (rest := []) rfl rfl rfl rfl rfl (fun _ => rfl) (Nat.zero_le _) rfl rfl rfl (sf_X10_windowOpens_124_x_x M6_ o8_ n1 (n2 * 3) hn1 (zr_wide b11_ (by decide) (by decide)) d) (fun x13_ M14_ b15_ o16_ g17_ d12_ => ?_)
    have f18_ : pvFr fp_X10_opensAct_124_x_x M M14_ := pvfr_t g17_ f10_ fp_X10_opensAct_124_x_x_fp_X10_windowOpens_124_x_x
    have b19_ : 0 ≤ Int32.toInt (M14_.1 124 70) ∧ Int32.toInt (M14_.1 124 70) ≤ 992 := (by have u0 := b11_; have u1 := d12_; have u2 := pvok_r o16_ 124 70 (lo := 0) (hi := 1000000) rfl; omega)
    exact pw_ret hT rfl (r := some (pvI x13_)) (M' := M14_) ⟨rfl, rfl⟩ ⟨⟨_, rfl, trivial⟩, o16_, f18_, (by omega)⟩
  · refine And.intro (fun c20_ => ?_) (fun c20_ => ?_)
    · show PW 62 d (89, [some (pvR 124), some (pvI n1), some (pvI n2)], [], M) _
      have b21_ : 3 ≤ Int32.toInt (M.1 125 (Int32.toNatClampNeg n1)) ∧ Int32.toInt (M.1 125 (Int32.toNatClampNeg n1)) ≤ 3 := (by have u0 := b1_; have u1 := (zi_eq _ _).mp c20_; have u2 := (show 3 ≤ Int32.toInt 3 ∧ Int32.toInt 3 ≤ 3 from (by decide)); omega)
      refine pw_blk hT 3 (S' := (92, [some (pvR 124), some (pvI n1), some (pvI n2)], [pvI n2, pvI n1, pvR 124], M)) rfl ⟨trivial, trivial, trivial, trivial⟩ ?_
      refine pw_callGd hT (as := [pvR 124, pvI n1, pvI n2]) (lo1 := [some (pvR 124), some (pvI n1), some (pvI n2)]) (d1 := d) (rest := []) rfl rfl rfl rfl rfl (fun _ => rfl) (Nat.zero_le _) rfl rfl rfl (sf_X10_windowOpens_124_x_x M hok n1 n2 hn1 (zr_wide hc124_70 (by decide) (by decide)) d) (fun x23_ M24_ b25_ o26_ g27_ d22_ => ?_)
      have f28_ : pvFr fp_X10_opensAct_124_x_x M M24_ := pvfr_t g27_ pvfr_0 fp_X10_opensAct_124_x_x_fp_X10_windowOpens_124_x_x
      have b29_ : 0 ≤ Int32.toInt (M24_.1 124 70) ∧ Int32.toInt (M24_.1 124 70) ≤ 991 := (by have u0 := hc124_70; have u1 := d22_; have u2 := pvok_r o26_ 124 70 (lo := 0) (hi := 1000000) rfl; omega)
      exact pw_ret hT rfl (r := some (pvI x23_)) (M' := M24_) ⟨rfl, rfl⟩ ⟨⟨_, rfl, trivial⟩, o26_, f28_, (by omega)⟩
    · refine And.intro (fun c30_ => ?_) (fun c30_ => ?_)
      · show PW 62 d (55, [some (pvR 124), some (pvI n1), some (pvI n2)], [], M) _
        have b31_ : 4 ≤ Int32.toInt (M.1 125 (Int32.toNatClampNeg n1)) ∧ Int32.toInt (M.1 125 (Int32.toNatClampNeg n1)) ≤ 4 := (by have u0 := b1_; have u1 := (zi_eq _ _).mp c30_; have u2 := (show 4 ≤ Int32.toInt 4 ∧ Int32.toInt 4 ≤ 4 from (by decide)); omega)
        refine pw_blk hT 2 (S' := (58, [some (pvR 124), some (pvI n1), some (pvI n2)], [pvI 50, pvR 124], M)) rfl ⟨trivial, trivial, trivial⟩ ?_
        refine pw_callVd hT (as := [pvR 124, pvI 50]) (lo1 := [some (pvR 124), some (pvI 50)]) (d1 := d) (rest := []) rfl rfl rfl rfl rfl (fun _ => rfl) (Nat.zero_le _) rfl rfl rfl (sf_X10_body_124_x M hok 50 (zr_wide (show 50 ≤ Int32.toInt 50 ∧ Int32.toInt 50 ≤ 50 from (by decide)) (by decide) (by decide)) (zr_wide hc124_70 (by decide) (by decide)) d) (fun M34_ o36_ g37_ d32_ => ?_)
        have f38_ : pvFr fp_X10_opensAct_124_x_x M M34_ := pvfr_t g37_ pvfr_0 fp_X10_opensAct_124_x_x_fp_X10_body_124_x
        have b39_ : 0 ≤ Int32.toInt (M34_.1 124 70) ∧ Int32.toInt (M34_.1 124 70) ≤ 991 := (by have u0 := hc124_70; have u1 := d32_; have u2 := pvok_r o36_ 124 70 (lo := 0) (hi := 1000000) rfl; omega)
        refine pw_blk hT 3 (S' := (64, [some (pvR 124), some (pvI n1), some (pvI n2)], [pvI n2, pvI n1, pvR 124], M34_)) rfl ⟨trivial, trivial, trivial, trivial⟩ ?_
        refine pw_callGd hT (as := [pvR 124, pvI n1, pvI n2]) (lo1 := [some (pvR 124), some (pvI n1), some (pvI n2)]) (d1 := d) (rest := []) rfl rfl rfl rfl rfl (fun _ => rfl) (Nat.zero_le _) rfl rfl rfl (sf_X10_windowOpens_124_x_x M34_ o36_ n1 n2 hn1 (zr_wide b39_ (by decide) (by decide)) d) (fun x41_ M42_ b43_ o44_ g45_ d40_ => ?_)
        have f46_ : pvFr fp_X10_opensAct_124_x_x M M42_ := pvfr_t g45_ f38_ fp_X10_opensAct_124_x_x_fp_X10_windowOpens_124_x_x
        have b47_ : 0 ≤ Int32.toInt (M42_.1 124 70) ∧ Int32.toInt (M42_.1 124 70) ≤ 992 := (by have u0 := b39_; have u1 := d40_; have u2 := pvok_r o44_ 124 70 (lo := 0) (hi := 1000000) rfl; omega)
        refine pw_blk hT 1 (S' := (68, [some (pvR 124), some (pvI n1), some (pvI n2)], [pvI (-x41_)], M42_)) rfl ⟨trivial, trivial⟩ ?_
        exact pw_ret hT rfl (r := some (pvI (-x41_))) (M' := M42_) ⟨rfl, rfl⟩ ⟨⟨_, rfl, trivial⟩, o44_, f46_, (by omega)⟩
      · refine And.intro (fun c48_ => ?_) (fun c48_ => ?_)
        · show PW 62 d (40, [some (pvR 124), some (pvI n1), some (pvI n2)], [], M) _
          have b49_ : 5 ≤ Int32.toInt (M.1 125 (Int32.toNatClampNeg n1)) ∧ Int32.toInt (M.1 125 (Int32.toNatClampNeg n1)) ≤ 5 := (by have u0 := b1_; have u1 := (zi_eq _ _).mp c48_; have u2 := (show 5 ≤ Int32.toInt 5 ∧ Int32.toInt 5 ≤ 5 from (by decide)); omega)
          refine pw_blk hT 2 (S' := (43, [some (pvR 124), some (pvI n1), some (pvI n2)], [pvI 30, pvR 124], M)) rfl ⟨trivial, trivial, trivial⟩ ?_
          refine pw_callVd hT (as := [pvR 124, pvI 30]) (lo1 := [some (pvR 124), some (pvI 30)]) (d1 := d) (rest := []) rfl rfl rfl rfl rfl (fun _ => rfl) (Nat.zero_le _) rfl rfl rfl (sf_X10_body_124_x M hok 30 (zr_wide (show 30 ≤ Int32.toInt 30 ∧ Int32.toInt 30 ≤ 30 from (by decide)) (by decide) (by decide)) (zr_wide hc124_70 (by decide) (by decide)) d) (fun M52_ o54_ g55_ d50_ => ?_)
          have f56_ : pvFr fp_X10_opensAct_124_x_x M M52_ := pvfr_t g55_ pvfr_0 fp_X10_opensAct_124_x_x_fp_X10_body_124_x
          have b57_ : 0 ≤ Int32.toInt (M52_.1 124 70) ∧ Int32.toInt (M52_.1 124 70) ≤ 991 := (by have u0 := hc124_70; have u1 := d50_; have u2 := pvok_r o54_ 124 70 (lo := 0) (hi := 1000000) rfl; omega)
          refine pw_blk hT 5 (S' := (51, [some (pvR 124), some (pvI n1), some (pvI n2)], [pvI (n2 * 3), pvI n1, pvR 124], M52_)) rfl ⟨trivial, trivial, trivial, trivial, trivial, trivial⟩ ?_
          refine pw_callGd hT (as := [pvR 124, pvI n1, pvI (n2 * 3)]) (lo1 := [some (pvR 124), some (pvI n1), some (pvI (n2 * 3))]) (d1 := d) (rest := []) rfl rfl rfl rfl rfl (fun _ => rfl) (Nat.zero_le _) rfl rfl rfl (sf_X10_windowOpens_124_x_x M52_ o54_ n1 (n2 * 3) hn1 (zr_wide b57_ (by decide) (by decide)) d) (fun x59_ M60_ b61_ o62_ g63_ d58_ => ?_)
          have f64_ : pvFr fp_X10_opensAct_124_x_x M M60_ := pvfr_t g63_ f56_ fp_X10_opensAct_124_x_x_fp_X10_windowOpens_124_x_x
          have b65_ : 0 ≤ Int32.toInt (M60_.1 124 70) ∧ Int32.toInt (M60_.1 124 70) ≤ 992 := (by have u0 := b57_; have u1 := d58_; have u2 := pvok_r o62_ 124 70 (lo := 0) (hi := 1000000) rfl; omega)
          exact pw_ret hT rfl (r := some (pvI x59_)) (M' := M60_) ⟨rfl, rfl⟩ ⟨⟨_, rfl, trivial⟩, o62_, f64_, (by omega)⟩
        · refine And.intro (fun c66_ => ?_) (fun c66_ => ?_)
          · show PW 62 d (69, [some (pvR 124), some (pvI n1), some (pvI n2)], [], M) _
            have b67_ : 6 ≤ Int32.toInt (M.1 125 (Int32.toNatClampNeg n1)) ∧ Int32.toInt (M.1 125 (Int32.toNatClampNeg n1)) ≤ 6 := (by have u0 := b1_; have u1 := (zi_eq _ _).mp c66_; have u2 := (show 6 ≤ Int32.toInt 6 ∧ Int32.toInt 6 ≤ 6 from (by decide)); omega)
            refine pw_blk hT 2 (S' := (72, [some (pvR 124), some (pvI n1), some (pvI n2)], [pvI 71, pvR 124], M)) rfl ⟨trivial, trivial, trivial⟩ ?_
            refine pw_callVd hT (as := [pvR 124, pvI 71]) (lo1 := [some (pvR 124), some (pvI 71)]) (d1 := d) (rest := []) rfl rfl rfl rfl rfl (fun _ => rfl) (Nat.zero_le _) rfl rfl rfl (sf_X10_body_124_x M hok 71 (zr_wide (show 71 ≤ Int32.toInt 71 ∧ Int32.toInt 71 ≤ 71 from (by decide)) (by decide) (by decide)) (zr_wide hc124_70 (by decide) (by decide)) d) (fun M70_ o72_ g73_ d68_ => ?_)
            have f74_ : pvFr fp_X10_opensAct_124_x_x M M70_ := pvfr_t g73_ pvfr_0 fp_X10_opensAct_124_x_x_fp_X10_body_124_x
            have b75_ : 0 ≤ Int32.toInt (M70_.1 124 70) ∧ Int32.toInt (M70_.1 124 70) ≤ 991 := (by have u0 := hc124_70; have u1 := d68_; have u2 := pvok_r o72_ 124 70 (lo := 0) (hi := 1000000) rfl; omega)
            refine pw_blk hT 3 (S' := (78, [some (pvR 124), some (pvI n1), some (pvI n2)], [pvI n2, pvI n1, pvR 124], M70_)) rfl ⟨trivial, trivial, trivial, trivial⟩ ?_
            refine pw_callGd hT (as := [pvR 124, pvI n1, pvI n2]) (lo1 := [some (pvR 124), some (pvI n1), some (pvI n2)]) (d1 := d) (rest := []) rfl rfl rfl rfl rfl (fun _ => rfl) (Nat.zero_le _) rfl rfl rfl (sf_X10_windowOpens_124_x_x M70_ o72_ n1 n2 hn1 (zr_wide b75_ (by decide) (by decide)) d) (fun x77_ M78_ b79_ o80_ g81_ d76_ => ?_)
            have f82_ : pvFr fp_X10_opensAct_124_x_x M M78_ := pvfr_t g81_ f74_ fp_X10_opensAct_124_x_x_fp_X10_windowOpens_124_x_x
            have b83_ : 0 ≤ Int32.toInt (M78_.1 124 70) ∧ Int32.toInt (M78_.1 124 70) ≤ 992 := (by have u0 := b75_; have u1 := d76_; have u2 := pvok_r o80_ 124 70 (lo := 0) (hi := 1000000) rfl; omega)
            have b84_ : 0 ≤ Int32.toInt (M78_.1 126 (Int32.toNatClampNeg n1)) ∧ Int32.toInt (M78_.1 126 (Int32.toNatClampNeg n1)) ≤ 9 := pvok_r o80_ 126 (Int32.toNatClampNeg n1) rfl
            refine pw_blk hT 5 (S' := (88, [some (pvR 124), some (pvI n1), some (pvI n2)], [pvI (x77_ ^^^ (M78_.1 126 (Int32.toNatClampNeg n1)))], M78_)) rfl ⟨trivial, rfl, trivial, ⟨rfl, (zr_in (n := 7) hn1 (by decide) (by decide))⟩, trivial, trivial⟩ ?_
            exact pw_ret hT rfl (r := some (pvI (x77_ ^^^ (M78_.1 126 (Int32.toNatClampNeg n1))))) (M' := M78_) ⟨rfl, rfl⟩ ⟨⟨_, rfl, trivial⟩, o80_, f82_, (by omega)⟩
          · have b85_ : 0 ≤ Int32.toInt (M.1 125 (Int32.toNatClampNeg n1)) ∧ Int32.toInt (M.1 125 (Int32.toNatClampNeg n1)) ≤ 1 := (by have u0 := b1_; have u9 := (show _ ∧ _ from ⟨(not_congr (zi_eq _ _)).mp c66_, (show 6 ≤ Int32.toInt 6 ∧ Int32.toInt 6 ≤ 6 from (by decide))⟩); have v1 := (not_congr (zi_eq _ _)).mp c48_; have w1 : (5 : Int32).toInt = 5 := (by decide); have v2 := (not_congr (zi_eq _ _)).mp c30_; have w2 : (4 : Int32).toInt = 4 := (by decide); have v3 := (not_congr (zi_eq _ _)).mp c20_; have w3 : (3 : Int32).toInt = 3 := (by decide); have v4 := (not_congr (zi_eq _ _)).mp c2_; have w4 : (2 : Int32).toInt = 2 := (by decide); omega)
            show PW 62 d (89, [some (pvR 124), some (pvI n1), some (pvI n2)], [], M) _
            refine pw_blk hT 3 (S' := (92, [some (pvR 124), some (pvI n1), some (pvI n2)], [pvI n2, pvI n1, pvR 124], M)) rfl ⟨trivial, trivial, trivial, trivial⟩ ?_
            refine pw_callGd hT (as := [pvR 124, pvI n1, pvI n2]) (lo1 := [some (pvR 124), some (pvI n1), some (pvI n2)]) (d1 := d) (rest := []) rfl rfl rfl rfl rfl (fun _ => rfl) (Nat.zero_le _) rfl rfl rfl (sf_X10_windowOpens_124_x_x M hok n1 n2 hn1 (zr_wide hc124_70 (by decide) (by decide)) d) (fun x87_ M88_ b89_ o90_ g91_ d86_ => ?_)
            have f92_ : pvFr fp_X10_opensAct_124_x_x M M88_ := pvfr_t g91_ pvfr_0 fp_X10_opensAct_124_x_x_fp_X10_windowOpens_124_x_x
            have b93_ : 0 ≤ Int32.toInt (M88_.1 124 70) ∧ Int32.toInt (M88_.1 124 70) ≤ 991 := (by have u0 := hc124_70; have u1 := d86_; have u2 := pvok_r o90_ 124 70 (lo := 0) (hi := 1000000) rfl; omega)
            exact pw_ret hT rfl (r := some (pvI x87_)) (M' := M88_) ⟨rfl, rfl⟩ ⟨⟨_, rfl, trivial⟩, o90_, f92_, (by omega)⟩
def fpL_X10_windowShuts_124_x_x : List (Nat × Nat × Nat) := [(0, 124, 71), (0, 163, 0)]
def fp_X10_windowShuts_124_x_x (q k : Nat) : Bool := pvfp fpL_X10_windowShuts_124_x_x q k
theorem fp_X10_windowShuts_124_x_x_fp_X10_body_124_x (a b : Nat) (h : fp_X10_body_124_x a b = true) : fp_X10_windowShuts_124_x_x a b = true := pvfp_sub (l1 := fpL_X10_body_124_x) (l2 := fpL_X10_windowShuts_124_x_x) (by decide) a b h
theorem fp_X10_windowShuts_124_x_x_fp_X10_opensAct_124_x_x (a b : Nat) (h : fp_X10_opensAct_124_x_x a b = true) : fp_X10_windowShuts_124_x_x a b = true := pvfp_sub (l1 := fpL_X10_opensAct_124_x_x) (l2 := fpL_X10_windowShuts_124_x_x) (by decide) a b h
set_option maxHeartbeats 4000000 in
set_option maxRecDepth 10000 in
theorem sf_X10_windowShuts_124_x_x (M : pvM) (hok : pvOk M) (n1 : Int32) (n2 : Int32) (hn1 : 0 ≤ Int32.toInt n1 ∧ Int32.toInt n1 ≤ 6) (hc124_70 : 0 ≤ Int32.toInt (M.1 124 70) ∧ Int32.toInt (M.1 124 70) ≤ 980) (d : Nat) : PW 99 d (0, [some (pvR 124), some (pvI n1), some (pvI n2)], [], M) (fun r X => (∃ x : Int32, r = some (pvI x) ∧ True) ∧ pvOk X ∧ pvFr fp_X10_windowShuts_124_x_x M X ∧ Int32.toInt (X.1 124 70) ≤ Int32.toInt (M.1 124 70) + 3) := by
  have hT : pvdom 99 = pvD_99 := rfl
  refine pw_blk hT 2 (S' := (3, [some (pvR 124), some (pvI n1), some (pvI n2)], [pvI 11, pvR 124], M)) rfl ⟨trivial, trivial, trivial⟩ ?_
  refine pw_callVd hT (as := [pvR 124, pvI 11]) (lo1 := [some (pvR 124), some (pvI 11)]) (d1 := d) (rest := []) rfl rfl rfl rfl rfl (fun _ => rfl) (Nat.zero_le _) rfl rfl rfl (sf_X10_body_124_x M hok 11 (zr_wide (show 11 ≤ Int32.toInt 11 ∧ Int32.toInt 11 ≤ 11 from (by decide)) (by decide) (by decide)) (zr_wide hc124_70 (by decide) (by decide)) d) (fun M3_ o5_ g6_ d1_ => ?_)
  have f7_ : pvFr fp_X10_windowShuts_124_x_x M M3_ := pvfr_t g6_ pvfr_0 fp_X10_windowShuts_124_x_x_fp_X10_body_124_x
  have b8_ : 0 ≤ Int32.toInt (M3_.1 124 70) ∧ Int32.toInt (M3_.1 124 70) ≤ 981 := (by have u0 := hc124_70; have u1 := d1_; have u2 := pvok_r o5_ 124 70 (lo := 0) (hi := 1000000) rfl; omega)
  refine pw_blk hT 3 (S' := (9, [some (pvR 124), some (pvI n1), some (pvI n2)], [pvI n2, pvI n1, pvR 124], M3_)) rfl ⟨trivial, trivial, trivial, trivial⟩ ?_
  refine pw_callGd hT (as := [pvR 124, pvI n1, pvI n2]) (lo1 := [some (pvR 124), some (pvI n1), some (pvI n2)]) (d1 := d) (rest := []) rfl rfl rfl rfl rfl (fun _ => rfl) (Nat.zero_le _) rfl rfl rfl (sf_X10_opensAct_124_x_x M3_ o5_ n1 n2 hn1 (zr_wide b8_ (by decide) (by decide)) d) (fun x10_ M11_ b12_ o13_ g14_ d9_ => ?_)
  have f15_ : pvFr fp_X10_windowShuts_124_x_x M M11_ := pvfr_t g14_ f7_ fp_X10_windowShuts_124_x_x_fp_X10_opensAct_124_x_x
  have b16_ : 0 ≤ Int32.toInt (M11_.1 124 70) ∧ Int32.toInt (M11_.1 124 70) ≤ 983 := (by have u0 := b8_; have u1 := d9_; have u2 := pvok_r o13_ 124 70 (lo := 0) (hi := 1000000) rfl; omega)
  have b17_ : 0 ≤ Int32.toInt (M11_.1 126 (Int32.toNatClampNeg n1)) ∧ Int32.toInt (M11_.1 126 (Int32.toNatClampNeg n1)) ≤ 9 := pvok_r o13_ 126 (Int32.toNatClampNeg n1) rfl
  refine pw_blk hT 5 (S' := (19, [some (pvR 124), some (pvI n1), some (pvI n2)], [pvI (x10_ - (M11_.1 126 (Int32.toNatClampNeg n1)))], M11_)) rfl ⟨trivial, rfl, trivial, ⟨rfl, (zr_in (n := 7) hn1 (by decide) (by decide))⟩, trivial, trivial⟩ ?_
  exact pw_ret hT rfl (r := some (pvI (x10_ - (M11_.1 126 (Int32.toNatClampNeg n1))))) (M' := M11_) ⟨rfl, rfl⟩ ⟨⟨_, rfl, trivial⟩, o13_, f15_, (by omega)⟩
def fpL_X10_stickingShuts_124_x_x : List (Nat × Nat × Nat) := [(0, 124, 71), (0, 163, 0)]
def fp_X10_stickingShuts_124_x_x (q k : Nat) : Bool := pvfp fpL_X10_stickingShuts_124_x_x q k
theorem fp_X10_stickingShuts_124_x_x_fp_X10_body_124_x (a b : Nat) (h : fp_X10_body_124_x a b = true) : fp_X10_stickingShuts_124_x_x a b = true := pvfp_sub (l1 := fpL_X10_body_124_x) (l2 := fpL_X10_stickingShuts_124_x_x) (by decide) a b h
theorem fp_X10_stickingShuts_124_x_x_fp_X10_windowShuts_124_x_x (a b : Nat) (h : fp_X10_windowShuts_124_x_x a b = true) : fp_X10_stickingShuts_124_x_x a b = true := pvfp_sub (l1 := fpL_X10_windowShuts_124_x_x) (l2 := fpL_X10_stickingShuts_124_x_x) (by decide) a b h
set_option maxHeartbeats 4000000 in
set_option maxRecDepth 10000 in
theorem sf_X10_stickingShuts_124_x_x (M : pvM) (hok : pvOk M) (n1 : Int32) (n2 : Int32) (hn1 : 0 ≤ Int32.toInt n1 ∧ Int32.toInt n1 ≤ 6) (hc124_70 : 0 ≤ Int32.toInt (M.1 124 70) ∧ Int32.toInt (M.1 124 70) ≤ 970) (d : Nat) : PW 79 d (0, [some (pvR 124), some (pvI n1), some (pvI n2)], [], M) (fun r X => (∃ x : Int32, r = some (pvI x) ∧ True) ∧ pvOk X ∧ pvFr fp_X10_stickingShuts_124_x_x M X ∧ Int32.toInt (X.1 124 70) ≤ Int32.toInt (M.1 124 70) + 4) := by
  have hT : pvdom 79 = pvD_79 := rfl
  refine pw_blk hT 2 (S' := (3, [some (pvR 124), some (pvI n1), some (pvI n2)], [pvI 20, pvR 124], M)) rfl ⟨trivial, trivial, trivial⟩ ?_
  refine pw_callVd hT (as := [pvR 124, pvI 20]) (lo1 := [some (pvR 124), some (pvI 20)]) (d1 := d) (rest := []) rfl rfl rfl rfl rfl (fun _ => rfl) (Nat.zero_le _) rfl rfl rfl (sf_X10_body_124_x M hok 20 (zr_wide (show 20 ≤ Int32.toInt 20 ∧ Int32.toInt 20 ≤ 20 from (by decide)) (by decide) (by decide)) (zr_wide hc124_70 (by decide) (by decide)) d) (fun M3_ o5_ g6_ d1_ => ?_)
  have f7_ : pvFr fp_X10_stickingShuts_124_x_x M M3_ := pvfr_t g6_ pvfr_0 fp_X10_stickingShuts_124_x_x_fp_X10_body_124_x
  have b8_ : 0 ≤ Int32.toInt (M3_.1 124 70) ∧ Int32.toInt (M3_.1 124 70) ≤ 971 := (by have u0 := hc124_70; have u1 := d1_; have u2 := pvok_r o5_ 124 70 (lo := 0) (hi := 1000000) rfl; omega)
  refine pw_blk hT 3 (S' := (9, [some (pvR 124), some (pvI n1), some (pvI n2)], [pvI n2, pvI n1, pvR 124], M3_)) rfl ⟨trivial, trivial, trivial, trivial⟩ ?_
  refine pw_callGd hT (as := [pvR 124, pvI n1, pvI n2]) (lo1 := [some (pvR 124), some (pvI n1), some (pvI n2)]) (d1 := d) (rest := []) rfl rfl rfl rfl rfl (fun _ => rfl) (Nat.zero_le _) rfl rfl rfl (sf_X10_windowShuts_124_x_x M3_ o5_ n1 n2 hn1 (zr_wide b8_ (by decide) (by decide)) d) (fun x10_ M11_ b12_ o13_ g14_ d9_ => ?_)
  have f15_ : pvFr fp_X10_stickingShuts_124_x_x M M11_ := pvfr_t g14_ f7_ fp_X10_stickingShuts_124_x_x_fp_X10_windowShuts_124_x_x
  have b16_ : 0 ≤ Int32.toInt (M11_.1 124 70) ∧ Int32.toInt (M11_.1 124 70) ≤ 974 := (by have u0 := b8_; have u1 := d9_; have u2 := pvok_r o13_ 124 70 (lo := 0) (hi := 1000000) rfl; omega)
  refine pw_blk hT 2 (S' := (15, [some (pvR 124), some (pvI n1), some (pvI n2)], [pvI (x10_ ^^^ 6)], M11_)) rfl ⟨trivial, trivial, trivial⟩ ?_
  exact pw_ret hT rfl (r := some (pvI (x10_ ^^^ 6))) (M' := M11_) ⟨rfl, rfl⟩ ⟨⟨_, rfl, trivial⟩, o13_, f15_, (by omega)⟩
def fpL_X10_shutsAct_124_x_x : List (Nat × Nat × Nat) := [(0, 124, 71), (0, 163, 0)]
def fp_X10_shutsAct_124_x_x (q k : Nat) : Bool := pvfp fpL_X10_shutsAct_124_x_x q k
theorem fp_X10_shutsAct_124_x_x_fp_X10_body_124_x (a b : Nat) (h : fp_X10_body_124_x a b = true) : fp_X10_shutsAct_124_x_x a b = true := pvfp_sub (l1 := fpL_X10_body_124_x) (l2 := fpL_X10_shutsAct_124_x_x) (by decide) a b h
theorem fp_X10_shutsAct_124_x_x_fp_X10_stickingShuts_124_x_x (a b : Nat) (h : fp_X10_stickingShuts_124_x_x a b = true) : fp_X10_shutsAct_124_x_x a b = true := pvfp_sub (l1 := fpL_X10_stickingShuts_124_x_x) (l2 := fpL_X10_shutsAct_124_x_x) (by decide) a b h
theorem fp_X10_shutsAct_124_x_x_fp_X10_windowOpens_124_x_x (a b : Nat) (h : fp_X10_windowOpens_124_x_x a b = true) : fp_X10_shutsAct_124_x_x a b = true := pvfp_sub (l1 := fpL_X10_windowOpens_124_x_x) (l2 := fpL_X10_shutsAct_124_x_x) (by decide) a b h
theorem fp_X10_shutsAct_124_x_x_fp_X10_windowShuts_124_x_x (a b : Nat) (h : fp_X10_windowShuts_124_x_x a b = true) : fp_X10_shutsAct_124_x_x a b = true := pvfp_sub (l1 := fpL_X10_windowShuts_124_x_x) (l2 := fpL_X10_shutsAct_124_x_x) (by decide) a b h
set_option maxHeartbeats 4000000 in
set_option maxRecDepth 10000 in
theorem sf_X10_shutsAct_124_x_x (M : pvM) (hok : pvOk M) (n1 : Int32) (n2 : Int32) (hn1 : 0 ≤ Int32.toInt n1 ∧ Int32.toInt n1 ≤ 6) (hc124_70 : 0 ≤ Int32.toInt (M.1 124 70) ∧ Int32.toInt (M.1 124 70) ≤ 960) (d : Nat) : PW 75 d (0, [some (pvR 124), some (pvI n1), some (pvI n2), none], [], M) (fun r X => (∃ x : Int32, r = some (pvI x) ∧ True) ∧ pvOk X ∧ pvFr fp_X10_shutsAct_124_x_x M X ∧ Int32.toInt (X.1 124 70) ≤ Int32.toInt (M.1 124 70) + 5) := by
  have hT : pvdom 75 = pvD_75 := rfl
  have b1_ : 0 ≤ Int32.toInt (M.1 125 (Int32.toNatClampNeg n1)) ∧ Int32.toInt (M.1 125 (Int32.toNatClampNeg n1)) ≤ 6 := pvok_r hok 125 (Int32.toNatClampNeg n1) rfl
  refine pw_blk hT 4 (S' := (6, [some (pvR 124), some (pvI n1), some (pvI n2), none], [pvI (M.1 125 (Int32.toNatClampNeg n1))], M)) rfl ⟨trivial, rfl, trivial, ⟨rfl, (zr_in (n := 7) hn1 (by decide) (by decide))⟩, trivial⟩ ?_
  refine pw_sw hT rfl rfl ?_
  refine And.intro (fun c2_ => ?_) (fun c2_ => ?_)
  · show PW 75 d (40, [some (pvR 124), some (pvI n1), some (pvI n2), none], [], M) _
    have b3_ : 1 ≤ Int32.toInt (M.1 125 (Int32.toNatClampNeg n1)) ∧ Int32.toInt (M.1 125 (Int32.toNatClampNeg n1)) ≤ 1 := (by have u0 := b1_; have u1 := (zi_eq _ _).mp c2_; have u2 := (show 1 ≤ Int32.toInt 1 ∧ Int32.toInt 1 ≤ 1 from (by decide)); omega)
    refine pw_blk hT 3 (S' := (43, [some (pvR 124), some (pvI n1), some (pvI n2), none], [pvI n2, pvI n1, pvR 124], M)) rfl ⟨trivial, trivial, trivial, trivial⟩ ?_
    refine pw_callGd hT (as := [pvR 124, pvI n1, pvI n2]) (lo1 := [some (pvR 124), some (pvI n1), some (pvI n2)]) (d1 := d) (rest := []) rfl rfl rfl rfl rfl (fun _ => rfl) (Nat.zero_le _) rfl rfl rfl (sf_X10_stickingShuts_124_x_x M hok n1 n2 hn1 (zr_wide hc124_70 (by decide) (by decide)) d) (fun x5_ M6_ b7_ o8_ g9_ d4_ => ?_)
    have f10_ : pvFr fp_X10_shutsAct_124_x_x M M6_ := pvfr_t g9_ pvfr_0 fp_X10_shutsAct_124_x_x_fp_X10_stickingShuts_124_x_x
    have b11_ : 0 ≤ Int32.toInt (M6_.1 124 70) ∧ Int32.toInt (M6_.1 124 70) ≤ 964 := (by have u0 := hc124_70; have u1 := d4_; have u2 := pvok_r o8_ 124 70 (lo := 0) (hi := 1000000) rfl; omega)
    exact pw_ret hT rfl (r := some (pvI x5_)) (M' := M6_) ⟨rfl, rfl⟩ ⟨⟨_, rfl, trivial⟩, o8_, f10_, (by omega)⟩
  · refine And.intro (fun c12_ => ?_) (fun c12_ => ?_)
    · show PW 75 d (47, [some (pvR 124), some (pvI n1), some (pvI n2), none], [], M) _
      have b13_ : 4 ≤ Int32.toInt (M.1 125 (Int32.toNatClampNeg n1)) ∧ Int32.toInt (M.1 125 (Int32.toNatClampNeg n1)) ≤ 4 := (by have u0 := b1_; have u1 := (zi_eq _ _).mp c12_; have u2 := (show 4 ≤ Int32.toInt 4 ∧ Int32.toInt 4 ≤ 4 from (by decide)); omega)
      refine pw_blk hT 2 (S' := (50, [some (pvR 124), some (pvI n1), some (pvI n2), none], [pvI 51, pvR 124], M)) rfl ⟨trivial, trivial, trivial⟩ ?_
      refine pw_callVd hT (as := [pvR 124, pvI 51]) (lo1 := [some (pvR 124), some (pvI 51)]) (d1 := d) (rest := []) rfl rfl rfl rfl rfl (fun _ => rfl) (Nat.zero_le _) rfl rfl rfl (sf_X10_body_124_x M hok 51 (zr_wide (show 51 ≤ Int32.toInt 51 ∧ Int32.toInt 51 ≤ 51 from (by decide)) (by decide) (by decide)) (zr_wide hc124_70 (by decide) (by decide)) d) (fun M16_ o18_ g19_ d14_ => ?_)
      have f20_ : pvFr fp_X10_shutsAct_124_x_x M M16_ := pvfr_t g19_ pvfr_0 fp_X10_shutsAct_124_x_x_fp_X10_body_124_x
      have b21_ : 0 ≤ Int32.toInt (M16_.1 124 70) ∧ Int32.toInt (M16_.1 124 70) ≤ 961 := (by have u0 := hc124_70; have u1 := d14_; have u2 := pvok_r o18_ 124 70 (lo := 0) (hi := 1000000) rfl; omega)
      refine pw_blk hT 5 (S' := (58, [some (pvR 124), some (pvI n1), some (pvI n2), none], [pvI (n2 + 1), pvI n1, pvR 124], M16_)) rfl ⟨trivial, trivial, trivial, trivial, trivial, trivial⟩ ?_
      refine pw_callGd hT (as := [pvR 124, pvI n1, pvI (n2 + 1)]) (lo1 := [some (pvR 124), some (pvI n1), some (pvI (n2 + 1))]) (d1 := d) (rest := []) rfl rfl rfl rfl rfl (fun _ => rfl) (Nat.zero_le _) rfl rfl rfl (sf_X10_stickingShuts_124_x_x M16_ o18_ n1 (n2 + 1) hn1 (zr_wide b21_ (by decide) (by decide)) d) (fun x23_ M24_ b25_ o26_ g27_ d22_ => ?_)
      have f28_ : pvFr fp_X10_shutsAct_124_x_x M M24_ := pvfr_t g27_ f20_ fp_X10_shutsAct_124_x_x_fp_X10_stickingShuts_124_x_x
      have b29_ : 0 ≤ Int32.toInt (M24_.1 124 70) ∧ Int32.toInt (M24_.1 124 70) ≤ 965 := (by have u0 := b21_; have u1 := d22_; have u2 := pvok_r o26_ 124 70 (lo := 0) (hi := 1000000) rfl; omega)
      exact pw_ret hT rfl (r := some (pvI x23_)) (M' := M24_) ⟨rfl, rfl⟩ ⟨⟨_, rfl, trivial⟩, o26_, f28_, (by omega)⟩
    · refine And.intro (fun c30_ => ?_) (fun c30_ => ?_)
      · show PW 75 d (62, [some (pvR 124), some (pvI n1), some (pvI n2), none], [], M) _
        have b31_ : 6 ≤ Int32.toInt (M.1 125 (Int32.toNatClampNeg n1)) ∧ Int32.toInt (M.1 125 (Int32.toNatClampNeg n1)) ≤ 6 := (by have u0 := b1_; have u1 := (zi_eq _ _).mp c30_; have u2 := (show 6 ≤ Int32.toInt 6 ∧ Int32.toInt 6 ≤ 6 from (by decide)); omega)
        refine pw_blk hT 2 (S' := (65, [some (pvR 124), some (pvI n1), some (pvI n2), none], [pvI 70, pvR 124], M)) rfl ⟨trivial, trivial, trivial⟩ ?_
        refine pw_callVd hT (as := [pvR 124, pvI 70]) (lo1 := [some (pvR 124), some (pvI 70)]) (d1 := d) (rest := []) rfl rfl rfl rfl rfl (fun _ => rfl) (Nat.zero_le _) rfl rfl rfl (sf_X10_body_124_x M hok 70 (zr_wide (show 70 ≤ Int32.toInt 70 ∧ Int32.toInt 70 ≤ 70 from (by decide)) (by decide) (by decide)) (zr_wide hc124_70 (by decide) (by decide)) d) (fun M34_ o36_ g37_ d32_ => ?_)
        have f38_ : pvFr fp_X10_shutsAct_124_x_x M M34_ := pvfr_t g37_ pvfr_0 fp_X10_shutsAct_124_x_x_fp_X10_body_124_x
        have b39_ : 0 ≤ Int32.toInt (M34_.1 124 70) ∧ Int32.toInt (M34_.1 124 70) ≤ 961 := (by have u0 := hc124_70; have u1 := d32_; have u2 := pvok_r o36_ 124 70 (lo := 0) (hi := 1000000) rfl; omega)
        refine pw_blk hT 3 (S' := (71, [some (pvR 124), some (pvI n1), some (pvI n2), none], [pvI n2, pvI n1, pvR 124], M34_)) rfl ⟨trivial, trivial, trivial, trivial⟩ ?_
        refine pw_callGd hT (as := [pvR 124, pvI n1, pvI n2]) (lo1 := [some (pvR 124), some (pvI n1), some (pvI n2)]) (d1 := d) (rest := []) rfl rfl rfl rfl rfl (fun _ => rfl) (Nat.zero_le _) rfl rfl rfl (sf_X10_windowShuts_124_x_x M34_ o36_ n1 n2 hn1 (zr_wide b39_ (by decide) (by decide)) d) (fun x41_ M42_ b43_ o44_ g45_ d40_ => ?_)
        have f46_ : pvFr fp_X10_shutsAct_124_x_x M M42_ := pvfr_t g45_ f38_ fp_X10_shutsAct_124_x_x_fp_X10_windowShuts_124_x_x
        have b47_ : 0 ≤ Int32.toInt (M42_.1 124 70) ∧ Int32.toInt (M42_.1 124 70) ≤ 964 := (by have u0 := b39_; have u1 := d40_; have u2 := pvok_r o44_ 124 70 (lo := 0) (hi := 1000000) rfl; omega)
        refine pw_blk hT 5 (S' := (79, [some (pvR 124), some (pvI n1), some (pvI n2), some (pvI x41_)], [pvI 2, pvI n1, pvR 124, pvI x41_], M42_)) rfl ⟨trivial, trivial, trivial, trivial, trivial, trivial⟩ ?_
        refine pw_callGd hT (as := [pvR 124, pvI n1, pvI 2]) (lo1 := [some (pvR 124), some (pvI n1), some (pvI 2)]) (d1 := d) (rest := [pvI x41_]) rfl rfl rfl rfl rfl (fun _ => rfl) (Nat.zero_le _) rfl rfl rfl (sf_X10_windowOpens_124_x_x M42_ o44_ n1 2 hn1 (zr_wide b47_ (by decide) (by decide)) d) (fun x49_ M50_ b51_ o52_ g53_ d48_ => ?_)
        have f54_ : pvFr fp_X10_shutsAct_124_x_x M M50_ := pvfr_t g53_ f46_ fp_X10_shutsAct_124_x_x_fp_X10_windowOpens_124_x_x
        have b55_ : 0 ≤ Int32.toInt (M50_.1 124 70) ∧ Int32.toInt (M50_.1 124 70) ≤ 965 := (by have u0 := b47_; have u1 := d48_; have u2 := pvok_r o52_ 124 70 (lo := 0) (hi := 1000000) rfl; omega)
        refine pw_blk hT 1 (S' := (83, [some (pvR 124), some (pvI n1), some (pvI n2), some (pvI x41_)], [pvI (x41_ + x49_)], M50_)) rfl ⟨trivial, trivial⟩ ?_
        exact pw_ret hT rfl (r := some (pvI (x41_ + x49_))) (M' := M50_) ⟨rfl, rfl⟩ ⟨⟨_, rfl, trivial⟩, o52_, f54_, (by omega)⟩
      · have b56_ : 0 ≤ Int32.toInt (M.1 125 (Int32.toNatClampNeg n1)) ∧ Int32.toInt (M.1 125 (Int32.toNatClampNeg n1)) ≤ 5 := (by have u0 := b1_; have u1 := (not_congr (zi_eq _ _)).mp c30_; have u2 := (show 6 ≤ Int32.toInt 6 ∧ Int32.toInt 6 ≤ 6 from (by decide)); omega)
        show PW 75 d (84, [some (pvR 124), some (pvI n1), some (pvI n2), none], [], M) _
        refine pw_blk hT 3 (S' := (87, [some (pvR 124), some (pvI n1), some (pvI n2), none], [pvI n2, pvI n1, pvR 124], M)) rfl ⟨trivial, trivial, trivial, trivial⟩ ?_
        refine pw_callGd hT (as := [pvR 124, pvI n1, pvI n2]) (lo1 := [some (pvR 124), some (pvI n1), some (pvI n2)]) (d1 := d) (rest := []) rfl rfl rfl rfl rfl (fun _ => rfl) (Nat.zero_le _) rfl rfl rfl (sf_X10_windowShuts_124_x_x M hok n1 n2 hn1 (zr_wide hc124_70 (by decide) (by decide)) d) (fun x58_ M59_ b60_ o61_ g62_ d57_ => ?_)
        have f63_ : pvFr fp_X10_shutsAct_124_x_x M M59_ := pvfr_t g62_ pvfr_0 fp_X10_shutsAct_124_x_x_fp_X10_windowShuts_124_x_x
        have b64_ : 0 ≤ Int32.toInt (M59_.1 124 70) ∧ Int32.toInt (M59_.1 124 70) ≤ 963 := (by have u0 := hc124_70; have u1 := d57_; have u2 := pvok_r o61_ 124 70 (lo := 0) (hi := 1000000) rfl; omega)
        exact pw_ret hT rfl (r := some (pvI x58_)) (M' := M59_) ⟨rfl, rfl⟩ ⟨⟨_, rfl, trivial⟩, o61_, f63_, (by omega)⟩
def fpL_X10_windowTells_124_x_x : List (Nat × Nat × Nat) := [(0, 124, 71), (0, 163, 0)]
def fp_X10_windowTells_124_x_x (q k : Nat) : Bool := pvfp fpL_X10_windowTells_124_x_x q k
theorem fp_X10_windowTells_124_x_x_fp_X10_body_124_x (a b : Nat) (h : fp_X10_body_124_x a b = true) : fp_X10_windowTells_124_x_x a b = true := pvfp_sub (l1 := fpL_X10_body_124_x) (l2 := fpL_X10_windowTells_124_x_x) (by decide) a b h
theorem fp_X10_windowTells_124_x_x_fp_X10_shutsAct_124_x_x (a b : Nat) (h : fp_X10_shutsAct_124_x_x a b = true) : fp_X10_windowTells_124_x_x a b = true := pvfp_sub (l1 := fpL_X10_shutsAct_124_x_x) (l2 := fpL_X10_windowTells_124_x_x) (by decide) a b h
set_option maxHeartbeats 4000000 in
set_option maxRecDepth 10000 in
theorem sf_X10_windowTells_124_x_x (M : pvM) (hok : pvOk M) (n1 : Int32) (n2 : Int32) (hn1 : 0 ≤ Int32.toInt n1 ∧ Int32.toInt n1 ≤ 6) (hc124_70 : 0 ≤ Int32.toInt (M.1 124 70) ∧ Int32.toInt (M.1 124 70) ≤ 950) (d : Nat) : PW 100 d (0, [some (pvR 124), some (pvI n1), some (pvI n2)], [], M) (fun r X => (∃ x : Int32, r = some (pvI x) ∧ True) ∧ pvOk X ∧ pvFr fp_X10_windowTells_124_x_x M X ∧ Int32.toInt (X.1 124 70) ≤ Int32.toInt (M.1 124 70) + 6) := by
  have hT : pvdom 100 = pvD_100 := rfl
  refine pw_blk hT 2 (S' := (3, [some (pvR 124), some (pvI n1), some (pvI n2)], [pvI 12, pvR 124], M)) rfl ⟨trivial, trivial, trivial⟩ ?_
  refine pw_callVd hT (as := [pvR 124, pvI 12]) (lo1 := [some (pvR 124), some (pvI 12)]) (d1 := d) (rest := []) rfl rfl rfl rfl rfl (fun _ => rfl) (Nat.zero_le _) rfl rfl rfl (sf_X10_body_124_x M hok 12 (zr_wide (show 12 ≤ Int32.toInt 12 ∧ Int32.toInt 12 ≤ 12 from (by decide)) (by decide) (by decide)) (zr_wide hc124_70 (by decide) (by decide)) d) (fun M3_ o5_ g6_ d1_ => ?_)
  have f7_ : pvFr fp_X10_windowTells_124_x_x M M3_ := pvfr_t g6_ pvfr_0 fp_X10_windowTells_124_x_x_fp_X10_body_124_x
  have b8_ : 0 ≤ Int32.toInt (M3_.1 124 70) ∧ Int32.toInt (M3_.1 124 70) ≤ 951 := (by have u0 := hc124_70; have u1 := d1_; have u2 := pvok_r o5_ 124 70 (lo := 0) (hi := 1000000) rfl; omega)
  refine pw_blk hT 3 (S' := (9, [some (pvR 124), some (pvI n1), some (pvI n2)], [pvI n2, pvI n1, pvR 124], M3_)) rfl ⟨trivial, trivial, trivial, trivial⟩ ?_
  refine pw_callGd hT (as := [pvR 124, pvI n1, pvI n2]) (lo1 := [some (pvR 124), some (pvI n1), some (pvI n2), none]) (d1 := d) (rest := []) rfl rfl rfl rfl rfl (fun _ => rfl) (Nat.zero_le _) rfl rfl rfl (sf_X10_shutsAct_124_x_x M3_ o5_ n1 n2 hn1 (zr_wide b8_ (by decide) (by decide)) d) (fun x10_ M11_ b12_ o13_ g14_ d9_ => ?_)
  have f15_ : pvFr fp_X10_windowTells_124_x_x M M11_ := pvfr_t g14_ f7_ fp_X10_windowTells_124_x_x_fp_X10_shutsAct_124_x_x
  have b16_ : 0 ≤ Int32.toInt (M11_.1 124 70) ∧ Int32.toInt (M11_.1 124 70) ≤ 956 := (by have u0 := b8_; have u1 := d9_; have u2 := pvok_r o13_ 124 70 (lo := 0) (hi := 1000000) rfl; omega)
  refine pw_blk hT 2 (S' := (14, [some (pvR 124), some (pvI n1), some (pvI n2)], [pvI (x10_ * 2)], M11_)) rfl ⟨trivial, trivial, trivial⟩ ?_
  exact pw_ret hT rfl (r := some (pvI (x10_ * 2))) (M' := M11_) ⟨rfl, rfl⟩ ⟨⟨_, rfl, trivial⟩, o13_, f15_, (by omega)⟩
def fpL_X10_tellsAct_124_x_x : List (Nat × Nat × Nat) := [(0, 124, 71), (0, 163, 0)]
def fp_X10_tellsAct_124_x_x (q k : Nat) : Bool := pvfp fpL_X10_tellsAct_124_x_x q k
theorem fp_X10_tellsAct_124_x_x_fp_X10_body_124_x (a b : Nat) (h : fp_X10_body_124_x a b = true) : fp_X10_tellsAct_124_x_x a b = true := pvfp_sub (l1 := fpL_X10_body_124_x) (l2 := fpL_X10_tellsAct_124_x_x) (by decide) a b h
theorem fp_X10_tellsAct_124_x_x_fp_X10_shutsAct_124_x_x (a b : Nat) (h : fp_X10_shutsAct_124_x_x a b = true) : fp_X10_tellsAct_124_x_x a b = true := pvfp_sub (l1 := fpL_X10_shutsAct_124_x_x) (l2 := fpL_X10_tellsAct_124_x_x) (by decide) a b h
theorem fp_X10_tellsAct_124_x_x_fp_X10_windowTells_124_x_x (a b : Nat) (h : fp_X10_windowTells_124_x_x a b = true) : fp_X10_tellsAct_124_x_x a b = true := pvfp_sub (l1 := fpL_X10_windowTells_124_x_x) (l2 := fpL_X10_tellsAct_124_x_x) (by decide) a b h
set_option maxHeartbeats 4000000 in
set_option maxRecDepth 10000 in
theorem sf_X10_tellsAct_124_x_x (M : pvM) (hok : pvOk M) (n1 : Int32) (n2 : Int32) (hn1 : 0 ≤ Int32.toInt n1 ∧ Int32.toInt n1 ≤ 6) (hc124_70 : 0 ≤ Int32.toInt (M.1 124 70) ∧ Int32.toInt (M.1 124 70) ≤ 900) (d : Nat) : PW 90 d (0, [some (pvR 124), some (pvI n1), some (pvI n2), none], [], M) (fun r X => (∃ x : Int32, r = some (pvI x) ∧ True) ∧ pvOk X ∧ pvFr fp_X10_tellsAct_124_x_x M X ∧ Int32.toInt (X.1 124 70) ≤ Int32.toInt (M.1 124 70) + 12) := by
  have hT : pvdom 90 = pvD_90 := rfl
  have b1_ : 0 ≤ Int32.toInt (M.1 125 (Int32.toNatClampNeg n1)) ∧ Int32.toInt (M.1 125 (Int32.toNatClampNeg n1)) ≤ 6 := pvok_r hok 125 (Int32.toNatClampNeg n1) rfl
  refine pw_blk hT 4 (S' := (6, [some (pvR 124), some (pvI n1), some (pvI n2), none], [pvI (M.1 125 (Int32.toNatClampNeg n1))], M)) rfl ⟨trivial, rfl, trivial, ⟨rfl, (zr_in (n := 7) hn1 (by decide) (by decide))⟩, trivial⟩ ?_
  refine pw_sw hT rfl rfl ?_
  refine And.intro (fun c2_ => ?_) (fun c2_ => ?_)
  · show PW 90 d (36, [some (pvR 124), some (pvI n1), some (pvI n2), none], [], M) _
    have b3_ : 3 ≤ Int32.toInt (M.1 125 (Int32.toNatClampNeg n1)) ∧ Int32.toInt (M.1 125 (Int32.toNatClampNeg n1)) ≤ 3 := (by have u0 := b1_; have u1 := (zi_eq _ _).mp c2_; have u2 := (show 3 ≤ Int32.toInt 3 ∧ Int32.toInt 3 ≤ 3 from (by decide)); omega)
    refine pw_blk hT 2 (S' := (39, [some (pvR 124), some (pvI n1), some (pvI n2), none], [pvI 40, pvR 124], M)) rfl ⟨trivial, trivial, trivial⟩ ?_
    refine pw_callVd hT (as := [pvR 124, pvI 40]) (lo1 := [some (pvR 124), some (pvI 40)]) (d1 := d) (rest := []) rfl rfl rfl rfl rfl (fun _ => rfl) (Nat.zero_le _) rfl rfl rfl (sf_X10_body_124_x M hok 40 (zr_wide (show 40 ≤ Int32.toInt 40 ∧ Int32.toInt 40 ≤ 40 from (by decide)) (by decide) (by decide)) (zr_wide hc124_70 (by decide) (by decide)) d) (fun M6_ o8_ g9_ d4_ => ?_)
    have f10_ : pvFr fp_X10_tellsAct_124_x_x M M6_ := pvfr_t g9_ pvfr_0 fp_X10_tellsAct_124_x_x_fp_X10_body_124_x
    have b11_ : 0 ≤ Int32.toInt (M6_.1 124 70) ∧ Int32.toInt (M6_.1 124 70) ≤ 901 := (by have u0 := hc124_70; have u1 := d4_; have u2 := pvok_r o8_ 124 70 (lo := 0) (hi := 1000000) rfl; omega)
    refine pw_blk hT 3 (S' := (45, [some (pvR 124), some (pvI n1), some (pvI n2), none], [pvI n2, pvI n1, pvR 124], M6_)) rfl ⟨trivial, trivial, trivial, trivial⟩ ?_
    refine pw_callGd hT (as := [pvR 124, pvI n1, pvI n2]) (lo1 := [some (pvR 124), some (pvI n1), some (pvI n2)]) (d1 := d) (rest := []) rfl rfl rfl rfl rfl (fun _ => rfl) (Nat.zero_le _) rfl rfl rfl (sf_X10_windowTells_124_x_x M6_ o8_ n1 n2 hn1 (zr_wide b11_ (by decide) (by decide)) d) (fun x13_ M14_ b15_ o16_ g17_ d12_ => ?_)
    have f18_ : pvFr fp_X10_tellsAct_124_x_x M M14_ := pvfr_t g17_ f10_ fp_X10_tellsAct_124_x_x_fp_X10_windowTells_124_x_x
    have b19_ : 0 ≤ Int32.toInt (M14_.1 124 70) ∧ Int32.toInt (M14_.1 124 70) ≤ 907 := (by have u0 := b11_; have u1 := d12_; have u2 := pvok_r o16_ 124 70 (lo := 0) (hi := 1000000) rfl; omega)
    refine pw_blk hT 5 (S' := (53, [some (pvR 124), some (pvI n1), some (pvI n2), some (pvI x13_)], [pvI 1, pvI n1, pvR 124, pvI x13_], M14_)) rfl ⟨trivial, trivial, trivial, trivial, trivial, trivial⟩ ?_
    refine pw_callGd hT (as := [pvR 124, pvI n1, pvI 1]) (lo1 := [some (pvR 124), some (pvI n1), some (pvI 1), none]) (d1 := d) (rest := [pvI x13_]) rfl rfl rfl rfl rfl (fun _ => rfl) (Nat.zero_le _) rfl rfl rfl (sf_X10_shutsAct_124_x_x M14_ o16_ n1 1 hn1 (zr_wide b19_ (by decide) (by decide)) d) (fun x21_ M22_ b23_ o24_ g25_ d20_ => ?_)
    have f26_ : pvFr fp_X10_tellsAct_124_x_x M M22_ := pvfr_t g25_ f18_ fp_X10_tellsAct_124_x_x_fp_X10_shutsAct_124_x_x
    have b27_ : 0 ≤ Int32.toInt (M22_.1 124 70) ∧ Int32.toInt (M22_.1 124 70) ≤ 912 := (by have u0 := b19_; have u1 := d20_; have u2 := pvok_r o24_ 124 70 (lo := 0) (hi := 1000000) rfl; omega)
    refine pw_blk hT 1 (S' := (57, [some (pvR 124), some (pvI n1), some (pvI n2), some (pvI x13_)], [pvI (x13_ + x21_)], M22_)) rfl ⟨trivial, trivial⟩ ?_
    exact pw_ret hT rfl (r := some (pvI (x13_ + x21_))) (M' := M22_) ⟨rfl, rfl⟩ ⟨⟨_, rfl, trivial⟩, o24_, f26_, (by omega)⟩
  · refine And.intro (fun c28_ => ?_) (fun c28_ => ?_)
    · show PW 90 d (73, [some (pvR 124), some (pvI n1), some (pvI n2), none], [], M) _
      have b29_ : 4 ≤ Int32.toInt (M.1 125 (Int32.toNatClampNeg n1)) ∧ Int32.toInt (M.1 125 (Int32.toNatClampNeg n1)) ≤ 4 := (by have u0 := b1_; have u1 := (zi_eq _ _).mp c28_; have u2 := (show 4 ≤ Int32.toInt 4 ∧ Int32.toInt 4 ≤ 4 from (by decide)); omega)
      refine pw_blk hT 3 (S' := (76, [some (pvR 124), some (pvI n1), some (pvI n2), none], [pvI n2, pvI n1, pvR 124], M)) rfl ⟨trivial, trivial, trivial, trivial⟩ ?_
      refine pw_callGd hT (as := [pvR 124, pvI n1, pvI n2]) (lo1 := [some (pvR 124), some (pvI n1), some (pvI n2)]) (d1 := d) (rest := []) rfl rfl rfl rfl rfl (fun _ => rfl) (Nat.zero_le _) rfl rfl rfl (sf_X10_windowTells_124_x_x M hok n1 n2 hn1 (zr_wide hc124_70 (by decide) (by decide)) d) (fun x31_ M32_ b33_ o34_ g35_ d30_ => ?_)
      have f36_ : pvFr fp_X10_tellsAct_124_x_x M M32_ := pvfr_t g35_ pvfr_0 fp_X10_tellsAct_124_x_x_fp_X10_windowTells_124_x_x
      have b37_ : 0 ≤ Int32.toInt (M32_.1 124 70) ∧ Int32.toInt (M32_.1 124 70) ≤ 906 := (by have u0 := hc124_70; have u1 := d30_; have u2 := pvok_r o34_ 124 70 (lo := 0) (hi := 1000000) rfl; omega)
      exact pw_ret hT rfl (r := some (pvI x31_)) (M' := M32_) ⟨rfl, rfl⟩ ⟨⟨_, rfl, trivial⟩, o34_, f36_, (by omega)⟩
    · refine And.intro (fun c38_ => ?_) (fun c38_ => ?_)
      · show PW 90 d (58, [some (pvR 124), some (pvI n1), some (pvI n2), none], [], M) _
        have b39_ : 5 ≤ Int32.toInt (M.1 125 (Int32.toNatClampNeg n1)) ∧ Int32.toInt (M.1 125 (Int32.toNatClampNeg n1)) ≤ 5 := (by have u0 := b1_; have u1 := (zi_eq _ _).mp c38_; have u2 := (show 5 ≤ Int32.toInt 5 ∧ Int32.toInt 5 ≤ 5 from (by decide)); omega)
        refine pw_blk hT 2 (S' := (61, [some (pvR 124), some (pvI n1), some (pvI n2), none], [pvI 60, pvR 124], M)) rfl ⟨trivial, trivial, trivial⟩ ?_
        refine pw_callVd hT (as := [pvR 124, pvI 60]) (lo1 := [some (pvR 124), some (pvI 60)]) (d1 := d) (rest := []) rfl rfl rfl rfl rfl (fun _ => rfl) (Nat.zero_le _) rfl rfl rfl (sf_X10_body_124_x M hok 60 (zr_wide (show 60 ≤ Int32.toInt 60 ∧ Int32.toInt 60 ≤ 60 from (by decide)) (by decide) (by decide)) (zr_wide hc124_70 (by decide) (by decide)) d) (fun M42_ o44_ g45_ d40_ => ?_)
        have f46_ : pvFr fp_X10_tellsAct_124_x_x M M42_ := pvfr_t g45_ pvfr_0 fp_X10_tellsAct_124_x_x_fp_X10_body_124_x
        have b47_ : 0 ≤ Int32.toInt (M42_.1 124 70) ∧ Int32.toInt (M42_.1 124 70) ≤ 901 := (by have u0 := hc124_70; have u1 := d40_; have u2 := pvok_r o44_ 124 70 (lo := 0) (hi := 1000000) rfl; omega)
        refine pw_blk hT 5 (S' := (69, [some (pvR 124), some (pvI n1), some (pvI n2), none], [pvI (n2 - n1), pvI n1, pvR 124], M42_)) rfl ⟨trivial, trivial, trivial, trivial, trivial, trivial⟩ ?_
        refine pw_callGd hT (as := [pvR 124, pvI n1, pvI (n2 - n1)]) (lo1 := [some (pvR 124), some (pvI n1), some (pvI (n2 - n1))]) (d1 := d) (rest := []) rfl rfl rfl rfl rfl (fun _ => rfl) (Nat.zero_le _) rfl rfl rfl (sf_X10_windowTells_124_x_x M42_ o44_ n1 (n2 - n1) hn1 (zr_wide b47_ (by decide) (by decide)) d) (fun x49_ M50_ b51_ o52_ g53_ d48_ => ?_)
        have f54_ : pvFr fp_X10_tellsAct_124_x_x M M50_ := pvfr_t g53_ f46_ fp_X10_tellsAct_124_x_x_fp_X10_windowTells_124_x_x
        have b55_ : 0 ≤ Int32.toInt (M50_.1 124 70) ∧ Int32.toInt (M50_.1 124 70) ≤ 907 := (by have u0 := b47_; have u1 := d48_; have u2 := pvok_r o52_ 124 70 (lo := 0) (hi := 1000000) rfl; omega)
        exact pw_ret hT rfl (r := some (pvI x49_)) (M' := M50_) ⟨rfl, rfl⟩ ⟨⟨_, rfl, trivial⟩, o52_, f54_, (by omega)⟩
      · refine And.intro (fun c56_ => ?_) (fun c56_ => ?_)
        · show PW 90 d (36, [some (pvR 124), some (pvI n1), some (pvI n2), none], [], M) _
          have b57_ : 6 ≤ Int32.toInt (M.1 125 (Int32.toNatClampNeg n1)) ∧ Int32.toInt (M.1 125 (Int32.toNatClampNeg n1)) ≤ 6 := (by have u0 := b1_; have u1 := (zi_eq _ _).mp c56_; have u2 := (show 6 ≤ Int32.toInt 6 ∧ Int32.toInt 6 ≤ 6 from (by decide)); omega)
          refine pw_blk hT 2 (S' := (39, [some (pvR 124), some (pvI n1), some (pvI n2), none], [pvI 40, pvR 124], M)) rfl ⟨trivial, trivial, trivial⟩ ?_
          refine pw_callVd hT (as := [pvR 124, pvI 40]) (lo1 := [some (pvR 124), some (pvI 40)]) (d1 := d) (rest := []) rfl rfl rfl rfl rfl (fun _ => rfl) (Nat.zero_le _) rfl rfl rfl (sf_X10_body_124_x M hok 40 (zr_wide (show 40 ≤ Int32.toInt 40 ∧ Int32.toInt 40 ≤ 40 from (by decide)) (by decide) (by decide)) (zr_wide hc124_70 (by decide) (by decide)) d) (fun M60_ o62_ g63_ d58_ => ?_)
          have f64_ : pvFr fp_X10_tellsAct_124_x_x M M60_ := pvfr_t g63_ pvfr_0 fp_X10_tellsAct_124_x_x_fp_X10_body_124_x
          have b65_ : 0 ≤ Int32.toInt (M60_.1 124 70) ∧ Int32.toInt (M60_.1 124 70) ≤ 901 := (by have u0 := hc124_70; have u1 := d58_; have u2 := pvok_r o62_ 124 70 (lo := 0) (hi := 1000000) rfl; omega)
          refine pw_blk hT 3 (S' := (45, [some (pvR 124), some (pvI n1), some (pvI n2), none], [pvI n2, pvI n1, pvR 124], M60_)) rfl ⟨trivial, trivial, trivial, trivial⟩ ?_
          refine pw_callGd hT (as := [pvR 124, pvI n1, pvI n2]) (lo1 := [some (pvR 124), some (pvI n1), some (pvI n2)]) (d1 := d) (rest := []) rfl rfl rfl rfl rfl (fun _ => rfl) (Nat.zero_le _) rfl rfl rfl (sf_X10_windowTells_124_x_x M60_ o62_ n1 n2 hn1 (zr_wide b65_ (by decide) (by decide)) d) (fun x67_ M68_ b69_ o70_ g71_ d66_ => ?_)
          have f72_ : pvFr fp_X10_tellsAct_124_x_x M M68_ := pvfr_t g71_ f64_ fp_X10_tellsAct_124_x_x_fp_X10_windowTells_124_x_x
          have b73_ : 0 ≤ Int32.toInt (M68_.1 124 70) ∧ Int32.toInt (M68_.1 124 70) ≤ 907 := (by have u0 := b65_; have u1 := d66_; have u2 := pvok_r o70_ 124 70 (lo := 0) (hi := 1000000) rfl; omega)
          refine pw_blk hT 5 (S' := (53, [some (pvR 124), some (pvI n1), some (pvI n2), some (pvI x67_)], [pvI 1, pvI n1, pvR 124, pvI x67_], M68_)) rfl ⟨trivial, trivial, trivial, trivial, trivial, trivial⟩ ?_
          refine pw_callGd hT (as := [pvR 124, pvI n1, pvI 1]) (lo1 := [some (pvR 124), some (pvI n1), some (pvI 1), none]) (d1 := d) (rest := [pvI x67_]) rfl rfl rfl rfl rfl (fun _ => rfl) (Nat.zero_le _) rfl rfl rfl (sf_X10_shutsAct_124_x_x M68_ o70_ n1 1 hn1 (zr_wide b73_ (by decide) (by decide)) d) (fun x75_ M76_ b77_ o78_ g79_ d74_ => ?_)
          have f80_ : pvFr fp_X10_tellsAct_124_x_x M M76_ := pvfr_t g79_ f72_ fp_X10_tellsAct_124_x_x_fp_X10_shutsAct_124_x_x
          have b81_ : 0 ≤ Int32.toInt (M76_.1 124 70) ∧ Int32.toInt (M76_.1 124 70) ≤ 912 := (by have u0 := b73_; have u1 := d74_; have u2 := pvok_r o78_ 124 70 (lo := 0) (hi := 1000000) rfl; omega)
          refine pw_blk hT 1 (S' := (57, [some (pvR 124), some (pvI n1), some (pvI n2), some (pvI x67_)], [pvI (x67_ + x75_)], M76_)) rfl ⟨trivial, trivial⟩ ?_
          exact pw_ret hT rfl (r := some (pvI (x67_ + x75_))) (M' := M76_) ⟨rfl, rfl⟩ ⟨⟨_, rfl, trivial⟩, o78_, f80_, (by omega)⟩
        · have b82_ : 0 ≤ Int32.toInt (M.1 125 (Int32.toNatClampNeg n1)) ∧ Int32.toInt (M.1 125 (Int32.toNatClampNeg n1)) ≤ 2 := (by have u0 := b1_; have u9 := (show _ ∧ _ from ⟨(not_congr (zi_eq _ _)).mp c56_, (show 6 ≤ Int32.toInt 6 ∧ Int32.toInt 6 ≤ 6 from (by decide))⟩); have v1 := (not_congr (zi_eq _ _)).mp c38_; have w1 : (5 : Int32).toInt = 5 := (by decide); have v2 := (not_congr (zi_eq _ _)).mp c28_; have w2 : (4 : Int32).toInt = 4 := (by decide); have v3 := (not_congr (zi_eq _ _)).mp c2_; have w3 : (3 : Int32).toInt = 3 := (by decide); omega)
          show PW 90 d (73, [some (pvR 124), some (pvI n1), some (pvI n2), none], [], M) _
          refine pw_blk hT 3 (S' := (76, [some (pvR 124), some (pvI n1), some (pvI n2), none], [pvI n2, pvI n1, pvR 124], M)) rfl ⟨trivial, trivial, trivial, trivial⟩ ?_
          refine pw_callGd hT (as := [pvR 124, pvI n1, pvI n2]) (lo1 := [some (pvR 124), some (pvI n1), some (pvI n2)]) (d1 := d) (rest := []) rfl rfl rfl rfl rfl (fun _ => rfl) (Nat.zero_le _) rfl rfl rfl (sf_X10_windowTells_124_x_x M hok n1 n2 hn1 (zr_wide hc124_70 (by decide) (by decide)) d) (fun x84_ M85_ b86_ o87_ g88_ d83_ => ?_)
          have f89_ : pvFr fp_X10_tellsAct_124_x_x M M85_ := pvfr_t g88_ pvfr_0 fp_X10_tellsAct_124_x_x_fp_X10_windowTells_124_x_x
          have b90_ : 0 ≤ Int32.toInt (M85_.1 124 70) ∧ Int32.toInt (M85_.1 124 70) ≤ 906 := (by have u0 := hc124_70; have u1 := d83_; have u2 := pvok_r o87_ 124 70 (lo := 0) (hi := 1000000) rfl; omega)
          exact pw_ret hT rfl (r := some (pvI x84_)) (M' := M85_) ⟨rfl, rfl⟩ ⟨⟨_, rfl, trivial⟩, o87_, f89_, (by omega)⟩
def fpL_X10_act_124_x_x_x : List (Nat × Nat × Nat) := [(0, 124, 71), (0, 163, 0)]
def fp_X10_act_124_x_x_x (q k : Nat) : Bool := pvfp fpL_X10_act_124_x_x_x q k
theorem fp_X10_act_124_x_x_x_fp_X10_opensAct_124_x_x (a b : Nat) (h : fp_X10_opensAct_124_x_x a b = true) : fp_X10_act_124_x_x_x a b = true := pvfp_sub (l1 := fpL_X10_opensAct_124_x_x) (l2 := fpL_X10_act_124_x_x_x) (by decide) a b h
theorem fp_X10_act_124_x_x_x_fp_X10_shutsAct_124_x_x (a b : Nat) (h : fp_X10_shutsAct_124_x_x a b = true) : fp_X10_act_124_x_x_x a b = true := pvfp_sub (l1 := fpL_X10_shutsAct_124_x_x) (l2 := fpL_X10_act_124_x_x_x) (by decide) a b h
theorem fp_X10_act_124_x_x_x_fp_X10_tellsAct_124_x_x (a b : Nat) (h : fp_X10_tellsAct_124_x_x a b = true) : fp_X10_act_124_x_x_x a b = true := pvfp_sub (l1 := fpL_X10_tellsAct_124_x_x) (l2 := fpL_X10_act_124_x_x_x) (by decide) a b h
set_option maxHeartbeats 4000000 in
set_option maxRecDepth 10000 in
theorem sf_X10_act_124_x_x_x (M : pvM) (hok : pvOk M) (n1 : Int32) (n2 : Int32) (n3 : Int32) (d : Nat) : PW 5 d (0, [some (pvR 124), some (pvI n1), some (pvI n2), some (pvI n3)], [], M) (fun r X => (∃ x : Int32, r = some (pvI x) ∧ True) ∧ pvOk X ∧ pvFr fp_X10_act_124_x_x_x M X) := by
  have hT : pvdom 5 = pvD_5 := rfl
  refine pw_blkw hT 3 (pc := 5) (lo := [some (pvR 124), some (pvI n1), some (pvI n2), some (pvI n3)]) (st := []) (M := pvu M 124 70 0) rfl ⟨trivial, trivial, rfl, trivial⟩ (fun M1_ e2_ => ?_)
  have o3_ : pvOk M1_ := pvok_u2 e2_ hok rfl (zr_wide (show 0 ≤ Int32.toInt 0 ∧ Int32.toInt 0 ≤ 0 from (by decide)) (by decide) (by decide))
  have f4_ : pvFr fp_X10_act_124_x_x_x M M1_ := pvfr_u e2_ pvfr_0 rfl
  refine pw_blk hT 2 (S' := (7, [some (pvR 124), some (pvI n1), some (pvI n2), some (pvI n3)], [pvI n1, pvR 124], M1_)) rfl ⟨trivial, trivial, trivial⟩ ?_
  refine pw_callT hT (as := [pvR 124, pvI n1]) (lo1 := [some (pvR 124), some (pvI n1)]) (d1 := d) (rest := []) rfl rfl rfl rfl rfl (fun _ => rfl) (Nat.zero_le _) rfl rfl rfl (sf_X10_isWindow_124_x M1_ o3_ n1 d) ?_
  by_cases c10_ : n1 < 0
  · refine pw_eqI (if_pos c10_) ?_
    have b11_ : (-2147483648) ≤ Int32.toInt n1 ∧ Int32.toInt n1 ≤ (-1) := zr_lt_l (-1) c10_ (zbnd n1) (show 0 ≤ Int32.toInt 0 ∧ Int32.toInt 0 ≤ 0 from (by decide)) (by decide)
    show PW 5 d (10, [some (pvR 124), some (pvI n1), some (pvI n2), some (pvI n3)], [pvI 0], M1_) _
    refine pw_if hT (c := 0 = 0) rfl rfl (fun c12_ => ?_) (fun c12_ => absurd (by decide) c12_)
    refine pw_blk hT 1 (S' := (24, [some (pvR 124), some (pvI n1), some (pvI n2), some (pvI n3)], [pvI 0], M1_)) rfl ⟨trivial, trivial⟩ ?_
    exact pw_ret hT rfl (r := some (pvI 0)) (M' := M1_) ⟨rfl, rfl⟩ ⟨⟨_, rfl, trivial⟩, o3_, f4_⟩
  · refine pw_eqI (if_neg c10_) ?_
    have b13_ : 0 ≤ Int32.toInt n1 ∧ Int32.toInt n1 ≤ 2147483647 := zr_nlt_l 0 c10_ (zbnd n1) (show 0 ≤ Int32.toInt 0 ∧ Int32.toInt 0 ≤ 0 from (by decide)) (by decide)
    have b14_ : 0 ≤ Int32.toInt (M1_.1 124 0) ∧ Int32.toInt (M1_.1 124 0) ≤ 7 := pvok_r o3_ 124 0 rfl
    obtain ⟨q16_, b15_⟩ : (Int32.toInt ((M1_.1 124 0) - 1) = Int32.toInt (M1_.1 124 0) - 1) ∧ ((-1) ≤ Int32.toInt ((M1_.1 124 0) - 1) ∧ Int32.toInt ((M1_.1 124 0) - 1) ≤ 6) := zsub_k (M1_.1 124 0) 1 1 (-1) 6 b14_ (by decide) (by decide) (by decide) (by decide) (by decide)
    by_cases c17_ : ((M1_.1 124 0) - 1) < n1
    · refine pw_eqI (if_pos c17_) ?_
      have d18_ : Int32.toInt ((M1_.1 124 0) - 1) < Int32.toInt n1 := (zi_lt _ _).mp c17_
      show PW 5 d (10, [some (pvR 124), some (pvI n1), some (pvI n2), some (pvI n3)], [pvI 0], M1_) _
      refine pw_if hT (c := 0 = 0) rfl rfl (fun c19_ => ?_) (fun c19_ => absurd (by decide) c19_)
      refine pw_blk hT 1 (S' := (24, [some (pvR 124), some (pvI n1), some (pvI n2), some (pvI n3)], [pvI 0], M1_)) rfl ⟨trivial, trivial⟩ ?_
      exact pw_ret hT rfl (r := some (pvI 0)) (M' := M1_) ⟨rfl, rfl⟩ ⟨⟨_, rfl, trivial⟩, o3_, f4_⟩
    · refine pw_eqI (if_neg c17_) ?_
      have b20_ : 0 ≤ Int32.toInt ((M1_.1 124 0) - 1) ∧ Int32.toInt ((M1_.1 124 0) - 1) ≤ 6 := zr_nlt_l 0 c17_ b15_ b13_ (by decide)
      have b21_ : 0 ≤ Int32.toInt n1 ∧ Int32.toInt n1 ≤ 6 := zr_nlt_r 6 c17_ b13_ b20_ (by decide)
      have d22_ : Int32.toInt ((M1_.1 124 0) - 1) ≥ Int32.toInt n1 := Int.not_lt.mp ((not_congr (zi_lt _ _)).mp c17_)
      show PW 5 d (10, [some (pvR 124), some (pvI n1), some (pvI n2), some (pvI n3)], [pvI 1], M1_) _
      refine pw_if hT (c := 1 = 0) rfl rfl (fun c23_ => absurd c23_ (by decide)) (fun c23_ => ?_)
      refine pw_blk hT 4 (S' := (17, [some (pvR 124), some (pvI n1), some (pvI n2), some (pvI n3)], [pvI 2, pvI 0, pvI n2, pvR 124], M1_)) rfl ⟨trivial, trivial, trivial, trivial, trivial⟩ ?_
      refine pw_callT hT (as := [pvR 124, pvI n2, pvI 0, pvI 2]) (lo1 := [some (pvR 124), some (pvI n2), some (pvI 0), some (pvI 2)]) (d1 := d) (rest := []) rfl rfl rfl rfl rfl (fun _ => rfl) (Nat.zero_le _) rfl rfl rfl (sf_X10_in_124_x_x_x M1_ o3_ n2 0 2 d) ?_
      by_cases c29_ : n2 < 0
      · refine pw_eqI (if_pos c29_) ?_
        have b30_ : (-2147483648) ≤ Int32.toInt n2 ∧ Int32.toInt n2 ≤ (-1) := zr_lt_l (-1) c29_ (zbnd n2) (show 0 ≤ Int32.toInt 0 ∧ Int32.toInt 0 ≤ 0 from (by decide)) (by decide)
        show PW 5 d (20, [some (pvR 124), some (pvI n1), some (pvI n2), some (pvI n3)], [pvI 0], M1_) _
        refine pw_ifn hT (c := 0 = 0) rfl rfl (fun c31_ => absurd (by decide) c31_) (fun c31_ => ?_)
        refine pw_blk hT 1 (S' := (24, [some (pvR 124), some (pvI n1), some (pvI n2), some (pvI n3)], [pvI 0], M1_)) rfl ⟨trivial, trivial⟩ ?_
        exact pw_ret hT rfl (r := some (pvI 0)) (M' := M1_) ⟨rfl, rfl⟩ ⟨⟨_, rfl, trivial⟩, o3_, f4_⟩
      · refine pw_eqI (if_neg c29_) ?_
        have b32_ : 0 ≤ Int32.toInt n2 ∧ Int32.toInt n2 ≤ 2147483647 := zr_nlt_l 0 c29_ (zbnd n2) (show 0 ≤ Int32.toInt 0 ∧ Int32.toInt 0 ≤ 0 from (by decide)) (by decide)
        by_cases c33_ : 2 < n2
        · refine pw_eqI (if_pos c33_) ?_
          have b34_ : 3 ≤ Int32.toInt n2 ∧ Int32.toInt n2 ≤ 2147483647 := zr_lt_r 3 c33_ b32_ (show 2 ≤ Int32.toInt 2 ∧ Int32.toInt 2 ≤ 2 from (by decide)) (by decide)
          show PW 5 d (20, [some (pvR 124), some (pvI n1), some (pvI n2), some (pvI n3)], [pvI 0], M1_) _
          refine pw_ifn hT (c := 0 = 0) rfl rfl (fun c35_ => absurd (by decide) c35_) (fun c35_ => ?_)
          refine pw_blk hT 1 (S' := (24, [some (pvR 124), some (pvI n1), some (pvI n2), some (pvI n3)], [pvI 0], M1_)) rfl ⟨trivial, trivial⟩ ?_
          exact pw_ret hT rfl (r := some (pvI 0)) (M' := M1_) ⟨rfl, rfl⟩ ⟨⟨_, rfl, trivial⟩, o3_, f4_⟩
        · refine pw_eqI (if_neg c33_) ?_
          have b36_ : 0 ≤ Int32.toInt n2 ∧ Int32.toInt n2 ≤ 2 := zr_nlt_r 2 c33_ b32_ (show 2 ≤ Int32.toInt 2 ∧ Int32.toInt 2 ≤ 2 from (by decide)) (by decide)
          show PW 5 d (20, [some (pvR 124), some (pvI n1), some (pvI n2), some (pvI n3)], [pvI 1], M1_) _
          refine pw_ifn hT (c := 1 = 0) rfl rfl (fun c37_ => ?_) (fun c37_ => absurd c37_ (by decide))
          refine pw_blk hT 1 (S' := (26, [some (pvR 124), some (pvI n1), some (pvI n2), some (pvI n3)], [pvI n2], M1_)) rfl ⟨trivial, trivial⟩ ?_
          refine pw_ifn hT (c := n2 = 0) rfl rfl (fun c38_ => ?_) (fun c38_ => ?_)
          · have b39_ : 1 ≤ Int32.toInt n2 ∧ Int32.toInt n2 ≤ 2 := (by have u0 := b36_; have u1 := (not_congr (zi_eq _ _)).mp c38_; have u2 := (show 0 ≤ Int32.toInt 0 ∧ Int32.toInt 0 ≤ 0 from (by decide)); omega)
            refine pw_blk hT 2 (S' := (40, [some (pvR 124), some (pvI n1), some (pvI n2), some (pvI n3)], [pvI 1, pvI n2], M1_)) rfl ⟨trivial, trivial, trivial⟩ ?_
            refine pw_icn hT (c := n2 = 1) rfl rfl (fun c40_ => ?_) (fun c40_ => ?_)
            · have b41_ : 2 ≤ Int32.toInt n2 ∧ Int32.toInt n2 ≤ 2 := (by have u0 := b39_; have u1 := (not_congr (zi_eq _ _)).mp c40_; have u2 := (show 1 ≤ Int32.toInt 1 ∧ Int32.toInt 1 ≤ 1 from (by decide)); omega)
              refine pw_blk hT 3 (S' := (55, [some (pvR 124), some (pvI n1), some (pvI n2), some (pvI n3)], [pvI n3, pvI n1, pvR 124], M1_)) rfl ⟨trivial, trivial, trivial, trivial⟩ ?_
              have e42_ : (M1_.1 124 70) = 0 := (pvu_s e2_)
              have b43_ : 0 ≤ Int32.toInt (M1_.1 124 70) ∧ Int32.toInt (M1_.1 124 70) ≤ 0 := (by rw [e42_]; exact (show 0 ≤ Int32.toInt 0 ∧ Int32.toInt 0 ≤ 0 from (by decide)))
              refine pw_callGd hT (as := [pvR 124, pvI n1, pvI n3]) (lo1 := [some (pvR 124), some (pvI n1), some (pvI n3), none]) (d1 := d) (rest := []) rfl rfl rfl rfl rfl (fun _ => rfl) (Nat.zero_le _) rfl rfl rfl (sf_X10_tellsAct_124_x_x M1_ o3_ n1 n3 b21_ (zr_wide b43_ (by decide) (by decide)) d) (fun x45_ M46_ b47_ o48_ g49_ d44_ => ?_)
              have f50_ : pvFr fp_X10_act_124_x_x_x M M46_ := pvfr_t g49_ f4_ fp_X10_act_124_x_x_x_fp_X10_tellsAct_124_x_x
              have b51_ : 0 ≤ Int32.toInt (M46_.1 124 70) ∧ Int32.toInt (M46_.1 124 70) ≤ 12 := (by have u0 := b43_; have u1 := d44_; have u2 := pvok_r o48_ 124 70 (lo := 0) (hi := 1000000) rfl; omega)
              exact pw_ret hT rfl (r := some (pvI x45_)) (M' := M46_) ⟨rfl, rfl⟩ ⟨⟨_, rfl, trivial⟩, o48_, f50_⟩
            · have b52_ : 1 ≤ Int32.toInt n2 ∧ Int32.toInt n2 ≤ 1 := (by have u0 := b39_; have u1 := (zi_eq _ _).mp c40_; have u2 := (show 1 ≤ Int32.toInt 1 ∧ Int32.toInt 1 ≤ 1 from (by decide)); omega)
              refine pw_blk hT 3 (S' := (46, [some (pvR 124), some (pvI n1), some (pvI n2), some (pvI n3)], [pvI n3, pvI n1, pvR 124], M1_)) rfl ⟨trivial, trivial, trivial, trivial⟩ ?_
              have e53_ : (M1_.1 124 70) = 0 := (pvu_s e2_)
              have b54_ : 0 ≤ Int32.toInt (M1_.1 124 70) ∧ Int32.toInt (M1_.1 124 70) ≤ 0 := (by rw [e53_]; exact (show 0 ≤ Int32.toInt 0 ∧ Int32.toInt 0 ≤ 0 from (by decide)))
              refine pw_callGd hT (as := [pvR 124, pvI n1, pvI n3]) (lo1 := [some (pvR 124), some (pvI n1), some (pvI n3), none]) (d1 := d) (rest := []) rfl rfl rfl rfl rfl (fun _ => rfl) (Nat.zero_le _) rfl rfl rfl (sf_X10_shutsAct_124_x_x M1_ o3_ n1 n3 b21_ (zr_wide b54_ (by decide) (by decide)) d) (fun x56_ M57_ b58_ o59_ g60_ d55_ => ?_)
              have f61_ : pvFr fp_X10_act_124_x_x_x M M57_ := pvfr_t g60_ f4_ fp_X10_act_124_x_x_x_fp_X10_shutsAct_124_x_x
              have b62_ : 0 ≤ Int32.toInt (M57_.1 124 70) ∧ Int32.toInt (M57_.1 124 70) ≤ 5 := (by have u0 := b54_; have u1 := d55_; have u2 := pvok_r o59_ 124 70 (lo := 0) (hi := 1000000) rfl; omega)
              refine pw_blk hT 1 (S' := (58, [some (pvR 124), some (pvI n1), some (pvI n2), some (pvI n3)], [pvI x56_], M57_)) rfl ⟨trivial, trivial⟩ ?_
              exact pw_ret hT rfl (r := some (pvI x56_)) (M' := M57_) ⟨rfl, rfl⟩ ⟨⟨_, rfl, trivial⟩, o59_, f61_⟩
          · have b63_ : 0 ≤ Int32.toInt n2 ∧ Int32.toInt n2 ≤ 0 := (by have u0 := b36_; have u1 := (zi_eq _ _).mp c38_; have u2 := (show 0 ≤ Int32.toInt 0 ∧ Int32.toInt 0 ≤ 0 from (by decide)); omega)
            refine pw_blk hT 3 (S' := (32, [some (pvR 124), some (pvI n1), some (pvI n2), some (pvI n3)], [pvI n3, pvI n1, pvR 124], M1_)) rfl ⟨trivial, trivial, trivial, trivial⟩ ?_
            have e64_ : (M1_.1 124 70) = 0 := (pvu_s e2_)
            have b65_ : 0 ≤ Int32.toInt (M1_.1 124 70) ∧ Int32.toInt (M1_.1 124 70) ≤ 0 := (by rw [e64_]; exact (show 0 ≤ Int32.toInt 0 ∧ Int32.toInt 0 ≤ 0 from (by decide)))
            refine pw_callGd hT (as := [pvR 124, pvI n1, pvI n3]) (lo1 := [some (pvR 124), some (pvI n1), some (pvI n3)]) (d1 := d) (rest := []) rfl rfl rfl rfl rfl (fun _ => rfl) (Nat.zero_le _) rfl rfl rfl (sf_X10_opensAct_124_x_x M1_ o3_ n1 n3 b21_ (zr_wide b65_ (by decide) (by decide)) d) (fun x67_ M68_ b69_ o70_ g71_ d66_ => ?_)
            have f72_ : pvFr fp_X10_act_124_x_x_x M M68_ := pvfr_t g71_ f4_ fp_X10_act_124_x_x_x_fp_X10_opensAct_124_x_x
            have b73_ : 0 ≤ Int32.toInt (M68_.1 124 70) ∧ Int32.toInt (M68_.1 124 70) ≤ 2 := (by have u0 := b65_; have u1 := d66_; have u2 := pvok_r o70_ 124 70 (lo := 0) (hi := 1000000) rfl; omega)
            refine pw_blk hT 1 (S' := (58, [some (pvR 124), some (pvI n1), some (pvI n2), some (pvI n3)], [pvI x67_], M68_)) rfl ⟨trivial, trivial⟩ ?_
            exact pw_ret hT rfl (r := some (pvI x67_)) (M' := M68_) ⟨rfl, rfl⟩ ⟨⟨_, rfl, trivial⟩, o70_, f72_⟩
def fpL_X10_add_124_x : List (Nat × Nat × Nat) := [(0, 124, 38), (0, 145, 0)]
def fp_X10_add_124_x (q k : Nat) : Bool := pvfp fpL_X10_add_124_x q k
set_option maxHeartbeats 4000000 in
set_option maxRecDepth 10000 in
theorem sf_X10_add_124_x (M : pvM) (hok : pvOk M) (n1 : Int32) (d : Nat) : PW 6 d (0, [some (pvR 124), some (pvI n1), none], [], M) (fun r X => (∃ x : Int32, r = some (pvI x) ∧ (-4) ≤ Int32.toInt x ∧ Int32.toInt x ≤ 7) ∧ pvOk X ∧ pvFr fp_X10_add_124_x M X) := by
  have hT : pvdom 6 = pvD_6 := rfl
  refine pw_blk hT 2 (S' := (2, [some (pvR 124), some (pvI n1), none], [pvI (-1), pvI n1], M)) rfl ⟨trivial, trivial, trivial⟩ ?_
  refine pw_icn hT (c := n1 = (-1)) rfl rfl (fun c1_ => ?_) (fun c1_ => ?_)
  · refine pw_blk hT 2 (S' := (14, [some (pvR 124), some (pvI n1), none], [pvI n1, pvR 124], M)) rfl ⟨trivial, trivial, trivial⟩ ?_
    refine pw_callT hT (as := [pvR 124, pvI n1]) (lo1 := [some (pvR 124), some (pvI n1)]) (d1 := d) (rest := []) rfl rfl rfl rfl rfl (fun _ => rfl) (Nat.zero_le _) rfl rfl rfl (sf_X10_isWindow_124_x M hok n1 d) ?_
    by_cases c7_ : n1 < 0
    · refine pw_eqI (if_pos c7_) ?_
      have b8_ : (-2147483648) ≤ Int32.toInt n1 ∧ Int32.toInt n1 ≤ (-2) := (by have u0 := (zbnd n1); have u9 := (show _ ∧ _ from ⟨(zi_lt _ _).mp c7_, (show 0 ≤ Int32.toInt 0 ∧ Int32.toInt 0 ≤ 0 from (by decide))⟩); have v1 := (not_congr (zi_eq _ _)).mp c1_; have w1 : ((-1) : Int32).toInt = -1 := (by decide); omega)
      show PW 6 d (17, [some (pvR 124), some (pvI n1), none], [pvI 0], M) _
      refine pw_ifn hT (c := 0 = 0) rfl rfl (fun c9_ => absurd (by decide) c9_) (fun c9_ => ?_)
      refine pw_blk hT 1 (S' := (21, [some (pvR 124), some (pvI n1), none], [pvI (-1)], M)) rfl ⟨trivial, trivial⟩ ?_
      exact pw_ret hT rfl (r := some (pvI (-1))) (M' := M) ⟨rfl, rfl⟩ ⟨⟨_, rfl, (zr_wide (show (-1) ≤ Int32.toInt (-1) ∧ Int32.toInt (-1) ≤ (-1) from (by decide)) (by decide) (by decide))⟩, hok, pvfr_0⟩
    · refine pw_eqI (if_neg c7_) ?_
      have b10_ : 0 ≤ Int32.toInt n1 ∧ Int32.toInt n1 ≤ 2147483647 := zr_nlt_l 0 c7_ (zbnd n1) (show 0 ≤ Int32.toInt 0 ∧ Int32.toInt 0 ≤ 0 from (by decide)) (by decide)
      have b11_ : 0 ≤ Int32.toInt (M.1 124 0) ∧ Int32.toInt (M.1 124 0) ≤ 7 := pvok_r hok 124 0 rfl
      obtain ⟨q13_, b12_⟩ : (Int32.toInt ((M.1 124 0) - 1) = Int32.toInt (M.1 124 0) - 1) ∧ ((-1) ≤ Int32.toInt ((M.1 124 0) - 1) ∧ Int32.toInt ((M.1 124 0) - 1) ≤ 6) := zsub_k (M.1 124 0) 1 1 (-1) 6 b11_ (by decide) (by decide) (by decide) (by decide) (by decide)
      by_cases c14_ : ((M.1 124 0) - 1) < n1
      · refine pw_eqI (if_pos c14_) ?_
        have d15_ : Int32.toInt ((M.1 124 0) - 1) < Int32.toInt n1 := (zi_lt _ _).mp c14_
        show PW 6 d (17, [some (pvR 124), some (pvI n1), none], [pvI 0], M) _
        refine pw_ifn hT (c := 0 = 0) rfl rfl (fun c16_ => absurd (by decide) c16_) (fun c16_ => ?_)
        refine pw_blk hT 1 (S' := (21, [some (pvR 124), some (pvI n1), none], [pvI (-1)], M)) rfl ⟨trivial, trivial⟩ ?_
        exact pw_ret hT rfl (r := some (pvI (-1))) (M' := M) ⟨rfl, rfl⟩ ⟨⟨_, rfl, (zr_wide (show (-1) ≤ Int32.toInt (-1) ∧ Int32.toInt (-1) ≤ (-1) from (by decide)) (by decide) (by decide))⟩, hok, pvfr_0⟩
      · refine pw_eqI (if_neg c14_) ?_
        have b17_ : 0 ≤ Int32.toInt ((M.1 124 0) - 1) ∧ Int32.toInt ((M.1 124 0) - 1) ≤ 6 := zr_nlt_l 0 c14_ b12_ b10_ (by decide)
        have b18_ : 0 ≤ Int32.toInt n1 ∧ Int32.toInt n1 ≤ 6 := zr_nlt_r 6 c14_ b10_ b17_ (by decide)
        have d19_ : Int32.toInt ((M.1 124 0) - 1) ≥ Int32.toInt n1 := Int.not_lt.mp ((not_congr (zi_lt _ _)).mp c14_)
        show PW 6 d (17, [some (pvR 124), some (pvI n1), none], [pvI 1], M) _
        refine pw_ifn hT (c := 1 = 0) rfl rfl (fun c20_ => ?_) (fun c20_ => absurd c20_ (by decide))
        refine pw_blk hT 2 (S' := (24, [some (pvR 124), some (pvI n1), some (pvI 0)], [], M)) rfl ⟨trivial, trivial, trivial⟩ ?_
        have hlz106_ : ∀ (nz106_ : Nat) (i2z106_ : Int32), (0 ≤ Int32.toInt i2z106_ ∧ Int32.toInt i2z106_ ≤ 7) → (zhide ((8 - Int32.toInt i2z106_).toNat < nz106_)) → PW 6 d (24, [some (pvR 124), some (pvI n1), some (pvI i2z106_)], [], M) (fun r X => (∃ x : Int32, r = some (pvI x) ∧ (-4) ≤ Int32.toInt x ∧ Int32.toInt x ≤ 7) ∧ pvOk X ∧ pvFr fp_X10_add_124_x M X) := by
          intro nz106_
          induction nz106_ with
          | zero => intro i2z106_ h2z106_ hmz106_; exact absurd (zshow hmz106_) (Nat.not_lt_zero _)
          | succ nz106_ ihz106_ =>
            intro i2z106_ h2z106_ hmz106_
            have b107_ : 0 ≤ Int32.toInt (M.1 124 37) ∧ Int32.toInt (M.1 124 37) ≤ 7 := pvok_r hok 124 37 rfl
            refine pw_blk hT 3 (S' := (29, [some (pvR 124), some (pvI n1), some (pvI i2z106_)], [pvI (M.1 124 37), pvI i2z106_], M)) rfl ⟨trivial, trivial, rfl, trivial⟩ ?_
            refine pw_ic hT (c := (M.1 124 37) ≤ i2z106_) rfl rfl (fun c108_ => ?_) (fun c108_ => ?_)
            · have d109_ : Int32.toInt (M.1 124 37) ≤ Int32.toInt i2z106_ := (zi_le _ _).mp c108_
              refine pw_blk hT 3 (S' := (57, [some (pvR 124), some (pvI n1), some (pvI i2z106_)], [pvI 7, pvI (M.1 124 37)], M)) rfl ⟨trivial, rfl, trivial, trivial⟩ ?_
              refine pw_icn hT (c := (M.1 124 37) = 7) rfl rfl (fun c110_ => ?_) (fun c110_ => ?_)
              · have b111_ : 0 ≤ Int32.toInt (M.1 124 37) ∧ Int32.toInt (M.1 124 37) ≤ 6 := (by have u0 := b107_; have u1 := (not_congr (zi_eq _ _)).mp c110_; have u2 := (show 7 ≤ Int32.toInt 7 ∧ Int32.toInt 7 ≤ 7 from (by decide)); omega)
                refine pw_blkw hT 6 (pc := 73) (lo := [some (pvR 124), some (pvI n1), some (pvI i2z106_)]) (st := []) (M := pvu M 145 (Int32.toNatClampNeg (M.1 124 37)) n1) rfl ⟨trivial, rfl, trivial, rfl, trivial, ⟨rfl, (zr_in (n := 7) b111_ (by decide) (by decide))⟩, trivial⟩ (fun M112_ e113_ => ?_)
                have o114_ : pvOk M112_ := pvok_u2 e113_ hok rfl b18_
                have f115_ : pvFr fp_X10_add_124_x M M112_ := pvfr_u e113_ pvfr_0 rfl
                have e116_ : (M112_.1 124 37) = (M.1 124 37) := (pvu_n e113_ 124 37 (Or.inl (by decide)))
                have b117_ : 0 ≤ Int32.toInt (M112_.1 124 37) ∧ Int32.toInt (M112_.1 124 37) ≤ 6 := (by rw [e116_]; exact b111_)
                obtain ⟨q119_, b118_⟩ : (Int32.toInt ((M112_.1 124 37) + 1) = Int32.toInt (M112_.1 124 37) + 1) ∧ (1 ≤ Int32.toInt ((M112_.1 124 37) + 1) ∧ Int32.toInt ((M112_.1 124 37) + 1) ≤ 7) := zadd_k (M112_.1 124 37) 1 1 1 7 b117_ (by decide) (by decide) (by decide) (by decide) (by decide)
                refine pw_blkw hT 6 (pc := 83) (lo := [some (pvR 124), some (pvI n1), some (pvI i2z106_)]) (st := []) (M := pvu M112_ 124 37 ((M112_.1 124 37) + 1)) rfl ⟨trivial, trivial, rfl, trivial, trivial, rfl, trivial⟩ (fun M120_ e121_ => ?_)
                have o122_ : pvOk M120_ := pvok_u2 e121_ o114_ rfl (zr_wide b118_ (by decide) (by decide))
                have f123_ : pvFr fp_X10_add_124_x M M120_ := pvfr_u e121_ f115_ rfl
                have e124_ : (M120_.1 124 37) = ((M112_.1 124 37) + 1) := (pvu_s e121_)
                have b125_ : 1 ≤ Int32.toInt (M120_.1 124 37) ∧ Int32.toInt (M120_.1 124 37) ≤ 7 := (by rw [e124_]; exact b118_)
                refine pw_blk hT 2 (S' := (87, [some (pvR 124), some (pvI n1), some (pvI i2z106_)], [pvI (M120_.1 124 37)], M120_)) rfl ⟨trivial, rfl, trivial⟩ ?_
                exact pw_ret hT rfl (r := some (pvI (M120_.1 124 37))) (M' := M120_) ⟨rfl, rfl⟩ ⟨⟨_, rfl, (zr_wide b125_ (by decide) (by decide))⟩, o122_, f123_⟩
              · have b126_ : 7 ≤ Int32.toInt (M.1 124 37) ∧ Int32.toInt (M.1 124 37) ≤ 7 := (by have u0 := b107_; have u1 := (zi_eq _ _).mp c110_; have u2 := (show 7 ≤ Int32.toInt 7 ∧ Int32.toInt 7 ≤ 7 from (by decide)); omega)
                refine pw_blk hT 1 (S' := (62, [some (pvR 124), some (pvI n1), some (pvI i2z106_)], [pvI (-4)], M)) rfl ⟨trivial, trivial⟩ ?_
                exact pw_ret hT rfl (r := some (pvI (-4))) (M' := M) ⟨rfl, rfl⟩ ⟨⟨_, rfl, (zr_wide (show (-4) ≤ Int32.toInt (-4) ∧ Int32.toInt (-4) ≤ (-4) from (by decide)) (by decide) (by decide))⟩, hok, pvfr_0⟩
            · have b127_ : 1 ≤ Int32.toInt (M.1 124 37) ∧ Int32.toInt (M.1 124 37) ≤ 7 := zr_nle_l 1 c108_ b107_ h2z106_ (by decide)
              have b128_ : 0 ≤ Int32.toInt i2z106_ ∧ Int32.toInt i2z106_ ≤ 6 := zr_nle_r 6 c108_ h2z106_ b127_ (by decide)
              have d129_ : Int32.toInt (M.1 124 37) > Int32.toInt i2z106_ := Int.not_le.mp ((not_congr (zi_le _ _)).mp c108_)
              have b130_ : 0 ≤ Int32.toInt (M.1 145 (Int32.toNatClampNeg i2z106_)) ∧ Int32.toInt (M.1 145 (Int32.toNatClampNeg i2z106_)) ≤ 6 := pvok_r hok 145 (Int32.toNatClampNeg i2z106_) rfl
              refine pw_blk hT 5 (S' := (39, [some (pvR 124), some (pvI n1), some (pvI i2z106_)], [pvI n1, pvI (M.1 145 (Int32.toNatClampNeg i2z106_))], M)) rfl ⟨trivial, rfl, trivial, ⟨rfl, (zr_in (n := 7) b128_ (by decide) (by decide))⟩, trivial, trivial⟩ ?_
              refine pw_icn hT (c := (M.1 145 (Int32.toNatClampNeg i2z106_)) = n1) rfl rfl (fun c131_ => ?_) (fun c131_ => ?_)
              · obtain ⟨q133_, b132_⟩ : (Int32.toInt (i2z106_ + 1) = Int32.toInt i2z106_ + 1) ∧ (1 ≤ Int32.toInt (i2z106_ + 1) ∧ Int32.toInt (i2z106_ + 1) ≤ 7) := zadd_k i2z106_ 1 1 1 7 b128_ (by decide) (by decide) (by decide) (by decide) (by decide)
                refine pw_blk hT 2 (S' := (24, [some (pvR 124), some (pvI n1), some (pvI (i2z106_ + 1))], [], M)) rfl ⟨trivial, trivial, trivial⟩ ?_
                exact ihz106_ (i2z106_ + 1) (zr_wide b132_ (by decide) (by decide)) (zhid (pvms_up (zshow hmz106_) h2z106_ q133_ (by decide) (by decide)))
              · have d134_ : Int32.toInt (M.1 145 (Int32.toNatClampNeg i2z106_)) = Int32.toInt n1 := (zi_eq _ _).mp c131_
                refine pw_blk hT 1 (S' := (44, [some (pvR 124), some (pvI n1), some (pvI i2z106_)], [pvI (-2)], M)) rfl ⟨trivial, trivial⟩ ?_
                exact pw_ret hT rfl (r := some (pvI (-2))) (M' := M) ⟨rfl, rfl⟩ ⟨⟨_, rfl, (zr_wide (show (-2) ≤ Int32.toInt (-2) ∧ Int32.toInt (-2) ≤ (-2) from (by decide)) (by decide) (by decide))⟩, hok, pvfr_0⟩
        exact hlz106_ _ 0 (zr_wide (show 0 ≤ Int32.toInt 0 ∧ Int32.toInt 0 ≤ 0 from (by decide)) (by decide) (by decide)) (zhid (Nat.lt_succ_self _))
  · have b135_ : (-1) ≤ Int32.toInt n1 ∧ Int32.toInt n1 ≤ (-1) := (by have u0 := (zbnd n1); have u1 := (zi_eq _ _).mp c1_; have u2 := (show (-1) ≤ Int32.toInt (-1) ∧ Int32.toInt (-1) ≤ (-1) from (by decide)); omega)
    refine pw_blkw hT 3 (pc := 10) (lo := [some (pvR 124), some (pvI n1), none]) (st := []) (M := pvu M 124 37 0) rfl ⟨trivial, trivial, rfl, trivial⟩ (fun M136_ e137_ => ?_)
    have o138_ : pvOk M136_ := pvok_u2 e137_ hok rfl (zr_wide (show 0 ≤ Int32.toInt 0 ∧ Int32.toInt 0 ≤ 0 from (by decide)) (by decide) (by decide))
    have f139_ : pvFr fp_X10_add_124_x M M136_ := pvfr_u e137_ pvfr_0 rfl
    refine pw_blk hT 1 (S' := (11, [some (pvR 124), some (pvI n1), none], [pvI 0], M136_)) rfl ⟨trivial, trivial⟩ ?_
    exact pw_ret hT rfl (r := some (pvI 0)) (M' := M136_) ⟨rfl, rfl⟩ ⟨⟨_, rfl, (zr_wide (show 0 ≤ Int32.toInt 0 ∧ Int32.toInt 0 ≤ 0 from (by decide)) (by decide) (by decide))⟩, o138_, f139_⟩
set_option maxHeartbeats 4000000 in
set_option maxRecDepth 10000 in
theorem sf_X10_apart_124_x_x (M : pvM) (hok : pvOk M) (n1 : Int32) (n2 : Int32) (hn1 : 0 ≤ Int32.toInt n1 ∧ Int32.toInt n1 ≤ 4) (hn2 : 0 ≤ Int32.toInt n2 ∧ Int32.toInt n2 ≤ 4) (d : Nat) : PW 7 d (0, [some (pvR 124), some (pvI n1), some (pvI n2)], [], M) (fun r X => r = some (pvI ((if n2 ≤ n1 then (n1 - n2) else (n2 - n1)))) ∧ X = M) := by
  have hT : pvdom 7 = pvD_7 := rfl
  refine pw_blk hT 2 (S' := (2, [some (pvR 124), some (pvI n1), some (pvI n2)], [pvI n2, pvI n1], M)) rfl ⟨trivial, trivial, trivial⟩ ?_
  refine pw_ic hT (c := n2 ≤ n1) rfl rfl (fun c1_ => ?_) (fun c1_ => ?_)
  · have d2_ : Int32.toInt n2 ≤ Int32.toInt n1 := (zi_le _ _).mp c1_
    obtain ⟨q4_, b3_⟩ : (Int32.toInt (n1 - n2) = Int32.toInt n1 - Int32.toInt n2) ∧ ((-4) ≤ Int32.toInt (n1 - n2) ∧ Int32.toInt (n1 - n2) ≤ 4) := zsub_r n1 n2 (-4) 4 hn1 hn2 (by decide) (by decide) (by decide) (by decide)
    have b5_ : 0 ≤ Int32.toInt (n1 - n2) ∧ Int32.toInt (n1 - n2) ≤ 4 := (by have u0 := b3_; omega)
    refine pw_blk hT 3 (S' := (14, [some (pvR 124), some (pvI n1), some (pvI n2)], [pvI (n1 - n2)], M)) rfl ⟨trivial, trivial, trivial, trivial⟩ ?_
    exact pw_ret hT rfl (r := some (pvI (n1 - n2))) (M' := M) ⟨rfl, rfl⟩ ⟨(by rw [if_pos c1_]), rfl⟩
  · have b6_ : 1 ≤ Int32.toInt n2 ∧ Int32.toInt n2 ≤ 4 := zr_nle_l 1 c1_ hn2 hn1 (by decide)
    have b7_ : 0 ≤ Int32.toInt n1 ∧ Int32.toInt n1 ≤ 3 := zr_nle_r 3 c1_ hn1 b6_ (by decide)
    have d8_ : Int32.toInt n2 > Int32.toInt n1 := Int.not_le.mp ((not_congr (zi_le _ _)).mp c1_)
    obtain ⟨q10_, b9_⟩ : (Int32.toInt (n2 - n1) = Int32.toInt n2 - Int32.toInt n1) ∧ ((-2) ≤ Int32.toInt (n2 - n1) ∧ Int32.toInt (n2 - n1) ≤ 4) := zsub_r n2 n1 (-2) 4 b6_ b7_ (by decide) (by decide) (by decide) (by decide)
    have b11_ : 1 ≤ Int32.toInt (n2 - n1) ∧ Int32.toInt (n2 - n1) ≤ 4 := (by have u0 := b9_; omega)
    refine pw_blk hT 4 (S' := (14, [some (pvR 124), some (pvI n1), some (pvI n2)], [pvI (n2 - n1)], M)) rfl ⟨trivial, trivial, trivial, trivial, trivial⟩ ?_
    exact pw_ret hT rfl (r := some (pvI (n2 - n1))) (M' := M) ⟨rfl, rfl⟩ ⟨(by rw [if_neg c1_]), rfl⟩
set_option maxHeartbeats 4000000 in
set_option maxRecDepth 10000 in
theorem sf_X10_firstClause_124 (M : pvM) (hok : pvOk M) (d : Nat) : PW 21 d (0, [some (pvR 124)], [], M) (fun r X => r = some (pvI ((if 0 ≤ (M.1 124 15) then (10 * (M.1 124 15)) else 0))) ∧ X = M) := by
  have hT : pvdom 21 = pvD_21 := rfl
  have b1_ : (-1) ≤ Int32.toInt (M.1 124 15) ∧ Int32.toInt (M.1 124 15) ≤ 5 := pvok_r hok 124 15 rfl
  refine pw_blk hT 2 (S' := (4, [some (pvR 124)], [pvI (M.1 124 15)], M)) rfl ⟨trivial, rfl, trivial⟩ ?_
  refine pw_if hT (c := 0 ≤ (M.1 124 15)) rfl rfl (fun c2_ => ?_) (fun c2_ => ?_)
  · have b3_ : 0 ≤ Int32.toInt (M.1 124 15) ∧ Int32.toInt (M.1 124 15) ≤ 5 := zr_le_r 0 c2_ b1_ (show 0 ≤ Int32.toInt 0 ∧ Int32.toInt 0 ≤ 0 from (by decide)) (by decide)
    have q4_ : Int32.toInt (10 * (M.1 124 15)) = 10 * Int32.toInt (M.1 124 15) := by have u0 : Int32.toInt 10 = 10 := (by decide); have u1 := b3_; have u2 := zmul 10 (M.1 124 15) (by rw [u0]; omega) (by rw [u0]; omega); rw [u0] at u2; omega
    have b5_ : 0 ≤ Int32.toInt (10 * (M.1 124 15)) ∧ Int32.toInt (10 * (M.1 124 15)) ≤ 50 := (by have u1 := b3_; omega)
    refine pw_blk hT 4 (S' := (18, [some (pvR 124)], [pvI (10 * (M.1 124 15))], M)) rfl ⟨trivial, trivial, rfl, trivial, trivial⟩ ?_
    exact pw_ret hT rfl (r := some (pvI (10 * (M.1 124 15)))) (M' := M) ⟨rfl, rfl⟩ ⟨(by rw [if_pos c2_]), rfl⟩
  · have b6_ : (-1) ≤ Int32.toInt (M.1 124 15) ∧ Int32.toInt (M.1 124 15) ≤ (-1) := zr_nle_r (-1) c2_ b1_ (show 0 ≤ Int32.toInt 0 ∧ Int32.toInt 0 ≤ 0 from (by decide)) (by decide)
    refine pw_blk hT 2 (S' := (18, [some (pvR 124)], [pvI 0], M)) rfl ⟨trivial, trivial, trivial⟩ ?_
    exact pw_ret hT rfl (r := some (pvI 0)) (M' := M) ⟨rfl, rfl⟩ ⟨(by rw [if_neg c2_]), rfl⟩
set_option maxHeartbeats 4000000 in
set_option maxRecDepth 10000 in
theorem sf_X10_behindClauses_124 (M : pvM) (hok : pvOk M) (d : Nat) : PW 9 d (0, [some (pvR 124)], [], M) (fun r X => r = some (pvI ((if 0 ≤ (M.1 124 15) then ((10 * (M.1 124 15)) + (M.1 133 (Int32.toNatClampNeg (M.1 124 15)))) else 0))) ∧ X = M) := by
  have hT : pvdom 9 = pvD_9 := rfl
  have b1_ : (-1) ≤ Int32.toInt (M.1 124 15) ∧ Int32.toInt (M.1 124 15) ≤ 5 := pvok_r hok 124 15 rfl
  refine pw_blk hT 2 (S' := (4, [some (pvR 124)], [pvI (M.1 124 15)], M)) rfl ⟨trivial, rfl, trivial⟩ ?_
  refine pw_if hT (c := 0 ≤ (M.1 124 15)) rfl rfl (fun c2_ => ?_) (fun c2_ => ?_)
  · have b3_ : 0 ≤ Int32.toInt (M.1 124 15) ∧ Int32.toInt (M.1 124 15) ≤ 5 := zr_le_r 0 c2_ b1_ (show 0 ≤ Int32.toInt 0 ∧ Int32.toInt 0 ≤ 0 from (by decide)) (by decide)
    have q4_ : Int32.toInt (10 * (M.1 124 15)) = 10 * Int32.toInt (M.1 124 15) := by have u0 : Int32.toInt 10 = 10 := (by decide); have u1 := b3_; have u2 := zmul 10 (M.1 124 15) (by rw [u0]; omega) (by rw [u0]; omega); rw [u0] at u2; omega
    have b5_ : 0 ≤ Int32.toInt (10 * (M.1 124 15)) ∧ Int32.toInt (10 * (M.1 124 15)) ≤ 50 := (by have u1 := b3_; omega)
    have b6_ : 0 ≤ Int32.toInt (M.1 133 (Int32.toNatClampNeg (M.1 124 15))) ∧ Int32.toInt (M.1 133 (Int32.toNatClampNeg (M.1 124 15))) ≤ 10 := pvok_r hok 133 (Int32.toNatClampNeg (M.1 124 15)) rfl
    obtain ⟨q8_, b7_⟩ : (Int32.toInt ((10 * (M.1 124 15)) + (M.1 133 (Int32.toNatClampNeg (M.1 124 15)))) = Int32.toInt (10 * (M.1 124 15)) + Int32.toInt (M.1 133 (Int32.toNatClampNeg (M.1 124 15)))) ∧ (0 ≤ Int32.toInt ((10 * (M.1 124 15)) + (M.1 133 (Int32.toNatClampNeg (M.1 124 15)))) ∧ Int32.toInt ((10 * (M.1 124 15)) + (M.1 133 (Int32.toNatClampNeg (M.1 124 15)))) ≤ 60) := zadd_r (10 * (M.1 124 15)) (M.1 133 (Int32.toNatClampNeg (M.1 124 15))) 0 60 b5_ b6_ (by decide) (by decide) (by decide) (by decide)
    refine pw_blk hT 10 (S' := (28, [some (pvR 124)], [pvI ((10 * (M.1 124 15)) + (M.1 133 (Int32.toNatClampNeg (M.1 124 15))))], M)) rfl ⟨trivial, trivial, rfl, trivial, trivial, rfl, trivial, rfl, ⟨rfl, (zr_in (n := 6) b3_ (by decide) (by decide))⟩, trivial, trivial⟩ ?_
    exact pw_ret hT rfl (r := some (pvI ((10 * (M.1 124 15)) + (M.1 133 (Int32.toNatClampNeg (M.1 124 15)))))) (M' := M) ⟨rfl, rfl⟩ ⟨(by rw [if_pos c2_]), rfl⟩
  · have b9_ : (-1) ≤ Int32.toInt (M.1 124 15) ∧ Int32.toInt (M.1 124 15) ≤ (-1) := zr_nle_r (-1) c2_ b1_ (show 0 ≤ Int32.toInt 0 ∧ Int32.toInt 0 ≤ 0 from (by decide)) (by decide)
    refine pw_blk hT 2 (S' := (28, [some (pvR 124)], [pvI 0], M)) rfl ⟨trivial, trivial, trivial⟩ ?_
    exact pw_ret hT rfl (r := some (pvI 0)) (M' := M) ⟨rfl, rfl⟩ ⟨(by rw [if_neg c2_]), rfl⟩
set_option maxHeartbeats 4000000 in
set_option maxRecDepth 10000 in
theorem sf_X10_lastOf_124_x_x (M : pvM) (hok : pvOk M) (n1 : Int32) (n2 : Int32) (hn1 : 0 ≤ Int32.toInt n1 ∧ Int32.toInt n1 ≤ 3) (hn2 : 0 ≤ Int32.toInt n2 ∧ Int32.toInt n2 ≤ 99) (d : Nat) : PW 46 d (0, [some (pvR 124), some (pvI n1), some (pvI n2), none, none], [], M) (fun r X => (∃ x : Int32, r = some (pvI x) ∧ 0 ≤ Int32.toInt x ∧ Int32.toInt x ≤ 99) ∧ X = M) := by
  have hT : pvdom 46 = pvD_46 := rfl
  refine pw_blk hT 3 (S' := (3, [some (pvR 124), some (pvI n1), some (pvI n2), some (pvI n2), none], [pvR 124], M)) rfl ⟨trivial, trivial, trivial, trivial⟩ ?_
  refine pw_callT hT (as := [pvR 124]) (lo1 := [some (pvR 124)]) (d1 := d) (rest := []) rfl rfl rfl rfl rfl (fun _ => rfl) (Nat.zero_le _) rfl rfl rfl (sf_X10_firstClause_124 M hok d) ?_
  have b6_ : (-1) ≤ Int32.toInt (M.1 124 15) ∧ Int32.toInt (M.1 124 15) ≤ 5 := pvok_r hok 124 15 rfl
  by_cases c7_ : 0 ≤ (M.1 124 15)
  · refine pw_eqI (if_pos c7_) ?_
    have b8_ : 0 ≤ Int32.toInt (M.1 124 15) ∧ Int32.toInt (M.1 124 15) ≤ 5 := zr_le_r 0 c7_ b6_ (show 0 ≤ Int32.toInt 0 ∧ Int32.toInt 0 ≤ 0 from (by decide)) (by decide)
    have q9_ : Int32.toInt (10 * (M.1 124 15)) = 10 * Int32.toInt (M.1 124 15) := by have u0 : Int32.toInt 10 = 10 := (by decide); have u1 := b8_; have u2 := zmul 10 (M.1 124 15) (by rw [u0]; omega) (by rw [u0]; omega); rw [u0] at u2; omega
    have b10_ : 0 ≤ Int32.toInt (10 * (M.1 124 15)) ∧ Int32.toInt (10 * (M.1 124 15)) ≤ 50 := (by have u1 := b8_; omega)
    show PW 46 d (6, [some (pvR 124), some (pvI n1), some (pvI n2), some (pvI n2), none], [pvI (10 * (M.1 124 15))], M) _
    refine pw_blk hT 1 (S' := (8, [some (pvR 124), some (pvI n1), some (pvI n2), some (pvI n2), some (pvI (10 * (M.1 124 15)))], [], M)) rfl ⟨trivial, trivial⟩ ?_
    have hlz77_ : ∀ (nz77_ : Nat) (i3z77_ : Int32) (i4z77_ : Int32), (0 ≤ Int32.toInt i3z77_ ∧ Int32.toInt i3z77_ ≤ 99) → (0 ≤ Int32.toInt i4z77_ ∧ Int32.toInt i4z77_ ≤ 60) → (zhide ((61 - Int32.toInt i4z77_).toNat < nz77_)) → PW 46 d (8, [some (pvR 124), some (pvI n1), some (pvI n2), some (pvI i3z77_), some (pvI i4z77_)], [], M) (fun r X => (∃ x : Int32, r = some (pvI x) ∧ 0 ≤ Int32.toInt x ∧ Int32.toInt x ≤ 99) ∧ X = M) := by
      intro nz77_
      induction nz77_ with
      | zero => intro i3z77_ i4z77_ h3z77_ h4z77_ hmz77_; exact absurd (zshow hmz77_) (Nat.not_lt_zero _)
      | succ nz77_ ihz77_ =>
        intro i3z77_ i4z77_ h3z77_ h4z77_ hmz77_
        refine pw_blk hT 2 (S' := (11, [some (pvR 124), some (pvI n1), some (pvI n2), some (pvI i3z77_), some (pvI i4z77_)], [pvR 124, pvI i4z77_], M)) rfl ⟨trivial, trivial, trivial⟩ ?_
        refine pw_callT hT (as := [pvR 124]) (lo1 := [some (pvR 124)]) (d1 := d) (rest := [pvI i4z77_]) rfl rfl rfl rfl rfl (fun _ => rfl) (Nat.zero_le _) rfl rfl rfl (sf_X10_behindClauses_124 M hok d) ?_
        refine pw_eqI (if_pos c7_) ?_
        have b83_ : 0 ≤ Int32.toInt (M.1 133 (Int32.toNatClampNeg (M.1 124 15))) ∧ Int32.toInt (M.1 133 (Int32.toNatClampNeg (M.1 124 15))) ≤ 10 := pvok_r hok 133 (Int32.toNatClampNeg (M.1 124 15)) rfl
        obtain ⟨q85_, b84_⟩ : (Int32.toInt ((10 * (M.1 124 15)) + (M.1 133 (Int32.toNatClampNeg (M.1 124 15)))) = Int32.toInt (10 * (M.1 124 15)) + Int32.toInt (M.1 133 (Int32.toNatClampNeg (M.1 124 15)))) ∧ (0 ≤ Int32.toInt ((10 * (M.1 124 15)) + (M.1 133 (Int32.toNatClampNeg (M.1 124 15)))) ∧ Int32.toInt ((10 * (M.1 124 15)) + (M.1 133 (Int32.toNatClampNeg (M.1 124 15)))) ≤ 60) := zadd_r (10 * (M.1 124 15)) (M.1 133 (Int32.toNatClampNeg (M.1 124 15))) 0 60 b10_ b83_ (by decide) (by decide) (by decide) (by decide)
        show PW 46 d (14, [some (pvR 124), some (pvI n1), some (pvI n2), some (pvI i3z77_), some (pvI i4z77_)], [pvI ((10 * (M.1 124 15)) + (M.1 133 (Int32.toNatClampNeg (M.1 124 15)))), pvI i4z77_], M) _
        refine pw_ic hT (c := ((10 * (M.1 124 15)) + (M.1 133 (Int32.toNatClampNeg (M.1 124 15)))) ≤ i4z77_) rfl rfl (fun c86_ => ?_) (fun c86_ => ?_)
        · have d87_ : Int32.toInt ((10 * (M.1 124 15)) + (M.1 133 (Int32.toNatClampNeg (M.1 124 15)))) ≤ Int32.toInt i4z77_ := (zi_le _ _).mp c86_
          refine pw_blk hT 1 (S' := (47, [some (pvR 124), some (pvI n1), some (pvI n2), some (pvI i3z77_), some (pvI i4z77_)], [pvI i3z77_], M)) rfl ⟨trivial, trivial⟩ ?_
          exact pw_ret hT rfl (r := some (pvI i3z77_)) (M' := M) ⟨rfl, rfl⟩ ⟨⟨_, rfl, h3z77_⟩, rfl⟩
        · have b88_ : 1 ≤ Int32.toInt ((10 * (M.1 124 15)) + (M.1 133 (Int32.toNatClampNeg (M.1 124 15)))) ∧ Int32.toInt ((10 * (M.1 124 15)) + (M.1 133 (Int32.toNatClampNeg (M.1 124 15)))) ≤ 60 := zr_nle_l 1 c86_ b84_ h4z77_ (by decide)
          have b89_ : 0 ≤ Int32.toInt i4z77_ ∧ Int32.toInt i4z77_ ≤ 59 := zr_nle_r 59 c86_ h4z77_ b88_ (by decide)
          have d90_ : Int32.toInt ((10 * (M.1 124 15)) + (M.1 133 (Int32.toNatClampNeg (M.1 124 15)))) > Int32.toInt i4z77_ := Int.not_le.mp ((not_congr (zi_le _ _)).mp c86_)
          have b91_ : 0 ≤ Int32.toInt (M.1 134 (Int32.toNatClampNeg i4z77_)) ∧ Int32.toInt (M.1 134 (Int32.toNatClampNeg i4z77_)) ≤ 3 := pvok_r hok 134 (Int32.toNatClampNeg i4z77_) rfl
          refine pw_blk hT 5 (S' := (25, [some (pvR 124), some (pvI n1), some (pvI n2), some (pvI i3z77_), some (pvI i4z77_)], [pvI n1, pvI (M.1 134 (Int32.toNatClampNeg i4z77_))], M)) rfl ⟨trivial, rfl, trivial, ⟨rfl, (zr_in (n := 60) b89_ (by decide) (by decide))⟩, trivial, trivial⟩ ?_
          refine pw_icn hT (c := (M.1 134 (Int32.toNatClampNeg i4z77_)) = n1) rfl rfl (fun c92_ => ?_) (fun c92_ => ?_)
          · obtain ⟨q94_, b93_⟩ : (Int32.toInt (i4z77_ + 1) = Int32.toInt i4z77_ + 1) ∧ (1 ≤ Int32.toInt (i4z77_ + 1) ∧ Int32.toInt (i4z77_ + 1) ≤ 60) := zadd_k i4z77_ 1 1 1 60 b89_ (by decide) (by decide) (by decide) (by decide) (by decide)
            refine pw_blk hT 4 (S' := (8, [some (pvR 124), some (pvI n1), some (pvI n2), some (pvI i3z77_), some (pvI (i4z77_ + 1))], [], M)) rfl ⟨trivial, trivial, trivial, trivial, trivial⟩ ?_
            exact ihz77_ i3z77_ (i4z77_ + 1) h3z77_ (zr_wide b93_ (by decide) (by decide)) (zhid (pvms_up (zshow hmz77_) h4z77_ q94_ (by decide) (by decide)))
          · have d95_ : Int32.toInt (M.1 134 (Int32.toNatClampNeg i4z77_)) = Int32.toInt n1 := (zi_eq _ _).mp c92_
            have b96_ : 0 ≤ Int32.toInt (M.1 135 (Int32.toNatClampNeg i4z77_)) ∧ Int32.toInt (M.1 135 (Int32.toNatClampNeg i4z77_)) ≤ 99 := pvok_r hok 135 (Int32.toNatClampNeg i4z77_) rfl
            obtain ⟨q98_, b97_⟩ : (Int32.toInt (i4z77_ + 1) = Int32.toInt i4z77_ + 1) ∧ (1 ≤ Int32.toInt (i4z77_ + 1) ∧ Int32.toInt (i4z77_ + 1) ≤ 60) := zadd_k i4z77_ 1 1 1 60 b89_ (by decide) (by decide) (by decide) (by decide) (by decide)
            refine pw_blk hT 8 (S' := (8, [some (pvR 124), some (pvI n1), some (pvI n2), some (pvI (M.1 135 (Int32.toNatClampNeg i4z77_))), some (pvI (i4z77_ + 1))], [], M)) rfl ⟨trivial, rfl, trivial, ⟨rfl, (zr_in (n := 60) b89_ (by decide) (by decide))⟩, trivial, trivial, trivial, trivial, trivial⟩ ?_
            exact ihz77_ (M.1 135 (Int32.toNatClampNeg i4z77_)) (i4z77_ + 1) b96_ (zr_wide b97_ (by decide) (by decide)) (zhid (pvms_up (zshow hmz77_) h4z77_ q98_ (by decide) (by decide)))
    exact hlz77_ _ n2 (10 * (M.1 124 15)) hn2 (zr_wide b10_ (by decide) (by decide)) (zhid (Nat.lt_succ_self _))
  · refine pw_eqI (if_neg c7_) ?_
    have b99_ : (-1) ≤ Int32.toInt (M.1 124 15) ∧ Int32.toInt (M.1 124 15) ≤ (-1) := zr_nle_r (-1) c7_ b6_ (show 0 ≤ Int32.toInt 0 ∧ Int32.toInt 0 ≤ 0 from (by decide)) (by decide)
    show PW 46 d (6, [some (pvR 124), some (pvI n1), some (pvI n2), some (pvI n2), none], [pvI 0], M) _
    refine pw_blk hT 1 (S' := (8, [some (pvR 124), some (pvI n1), some (pvI n2), some (pvI n2), some (pvI 0)], [], M)) rfl ⟨trivial, trivial⟩ ?_
    have hlz107_ : ∀ (nz107_ : Nat) (i3z107_ : Int32) (i4z107_ : Int32), (0 ≤ Int32.toInt i3z107_ ∧ Int32.toInt i3z107_ ≤ 99) → (0 ≤ Int32.toInt i4z107_ ∧ Int32.toInt i4z107_ ≤ 0) → (zhide (0 < nz107_)) → PW 46 d (8, [some (pvR 124), some (pvI n1), some (pvI n2), some (pvI i3z107_), some (pvI i4z107_)], [], M) (fun r X => (∃ x : Int32, r = some (pvI x) ∧ 0 ≤ Int32.toInt x ∧ Int32.toInt x ≤ 99) ∧ X = M) := by
      intro nz107_
      induction nz107_ with
      | zero => intro i3z107_ i4z107_ h3z107_ h4z107_ hmz107_; exact absurd (zshow hmz107_) (Nat.not_lt_zero _)
      | succ nz107_ ihz107_ =>
        intro i3z107_ i4z107_ h3z107_ h4z107_ hmz107_
        refine pw_blk hT 2 (S' := (11, [some (pvR 124), some (pvI n1), some (pvI n2), some (pvI i3z107_), some (pvI i4z107_)], [pvR 124, pvI i4z107_], M)) rfl ⟨trivial, trivial, trivial⟩ ?_
        refine pw_callT hT (as := [pvR 124]) (lo1 := [some (pvR 124)]) (d1 := d) (rest := [pvI i4z107_]) rfl rfl rfl rfl rfl (fun _ => rfl) (Nat.zero_le _) rfl rfl rfl (sf_X10_behindClauses_124 M hok d) ?_
        refine pw_eqI (if_neg c7_) ?_
        show PW 46 d (14, [some (pvR 124), some (pvI n1), some (pvI n2), some (pvI i3z107_), some (pvI i4z107_)], [pvI 0, pvI i4z107_], M) _
        refine pw_ic hT (c := 0 ≤ i4z107_) rfl rfl (fun c113_ => ?_) (fun c113_ => absurd (by have z0 := (show 0 ≤ Int32.toInt 0 ∧ Int32.toInt 0 ≤ 0 from (by decide)); have z1 := h4z107_; rw [zi_le]; omega) c113_)
        refine pw_blk hT 1 (S' := (47, [some (pvR 124), some (pvI n1), some (pvI n2), some (pvI i3z107_), some (pvI i4z107_)], [pvI i3z107_], M)) rfl ⟨trivial, trivial⟩ ?_
        exact pw_ret hT rfl (r := some (pvI i3z107_)) (M' := M) ⟨rfl, rfl⟩ ⟨⟨_, rfl, h3z107_⟩, rfl⟩
    exact hlz107_ _ n2 0 hn2 (show 0 ≤ Int32.toInt 0 ∧ Int32.toInt 0 ≤ 0 from (by decide)) (zhid (Nat.lt_succ_self _))
