set_option maxHeartbeats 4000000 in
set_option maxRecDepth 10000 in
theorem sf_X6_isFull_104 (M : pvM) (hok : pvOk M) (d : Nat) : PW 154 d (0, [some (pvR 104)], [], M) (fun r X => r = some (pvI ((if (M.1 104 0) < (Int32.ofNat 8) then 0 else 1))) ∧ X = M) := by
  have hT : pvdom 154 = pvD_154 := rfl
  have b1_ : 0 ≤ Int32.toInt (M.1 104 0) ∧ Int32.toInt (M.1 104 0) ≤ 8 := pvok_r hok 104 0 rfl
  refine pw_blk hT 5 (S' := (9, [some (pvR 104)], [pvI (Int32.ofNat 8), pvI (M.1 104 0)], M)) rfl ⟨trivial, rfl, trivial, rfl, rfl, trivial⟩ ?_
  refine pw_ic hT (c := (M.1 104 0) < (Int32.ofNat 8)) rfl rfl (fun c2_ => ?_) (fun c2_ => ?_)
  · have b3_ : 0 ≤ Int32.toInt (M.1 104 0) ∧ Int32.toInt (M.1 104 0) ≤ 7 := zr_lt_l 7 c2_ b1_ (show 8 ≤ Int32.toInt (Int32.ofNat 8) ∧ Int32.toInt (Int32.ofNat 8) ≤ 8 from (by decide)) (by decide)
    refine pw_blk hT 1 (S' := (17, [some (pvR 104)], [pvI 0], M)) rfl ⟨trivial, trivial⟩ ?_
    exact pw_ret hT rfl (r := some (pvI 0)) (M' := M) ⟨Or.inl rfl, rfl, rfl⟩ ⟨(by rw [if_pos c2_]), rfl⟩
  · have b4_ : 8 ≤ Int32.toInt (M.1 104 0) ∧ Int32.toInt (M.1 104 0) ≤ 8 := zr_nlt_l 8 c2_ b1_ (show 8 ≤ Int32.toInt (Int32.ofNat 8) ∧ Int32.toInt (Int32.ofNat 8) ≤ 8 from (by decide)) (by decide)
    refine pw_blk hT 2 (S' := (17, [some (pvR 104)], [pvI 1], M)) rfl ⟨trivial, trivial, trivial⟩ ?_
    exact pw_ret hT rfl (r := some (pvI 1)) (M' := M) ⟨Or.inr rfl, rfl, rfl⟩ ⟨(by rw [if_neg c2_]), rfl⟩
def fpL_X6_append_104_x_x : List (Nat × Nat × Nat) := [(0, 104, 1), (0, 112, 0), (0, 120, 0)]
def fp_X6_append_104_x_x (q k : Nat) : Bool := pvfp fpL_X6_append_104_x_x q k
set_option maxHeartbeats 4000000 in
set_option maxRecDepth 10000 in
theorem sf_X6_append_104_x_x (M : pvM) (hok : pvOk M) (n1 : Int32) (n2 : Int32) (hn1 : 0 ≤ Int32.toInt n1 ∧ Int32.toInt n1 ≤ 6) (hn2 : 0 ≤ Int32.toInt n2 ∧ Int32.toInt n2 ≤ 9999) (d : Nat) : PW 151 d (0, [some (pvR 104), some (pvI n1), some (pvI n2)], [], M) (fun r X => (∃ x : Int32, r = some (pvI x) ∧ 1 ≤ Int32.toInt x ∧ Int32.toInt x ≤ 8) ∧ pvOk X ∧ pvFr fp_X6_append_104_x_x M X) := by
  have hT : pvdom 151 = pvD_151 := rfl
  refine pw_blk hT 1 (S' := (1, [some (pvR 104), some (pvI n1), some (pvI n2)], [pvR 104], M)) rfl ⟨trivial, trivial⟩ ?_
  refine pw_callT hT (as := [pvR 104]) (lo1 := [some (pvR 104)]) (d1 := d) (rest := []) rfl rfl rfl rfl rfl (fun _ => rfl) (Nat.zero_le _) rfl rfl rfl (sf_X6_isFull_104 M hok d) ?_
  have b6_ : 0 ≤ Int32.toInt (M.1 104 0) ∧ Int32.toInt (M.1 104 0) ≤ 8 := pvok_r hok 104 0 rfl
  by_cases c7_ : (M.1 104 0) < (Int32.ofNat 8)
  · refine pw_eqI (if_pos c7_) ?_
    have b8_ : 0 ≤ Int32.toInt (M.1 104 0) ∧ Int32.toInt (M.1 104 0) ≤ 7 := zr_lt_l 7 c7_ b6_ (show 8 ≤ Int32.toInt (Int32.ofNat 8) ∧ Int32.toInt (Int32.ofNat 8) ≤ 8 from (by decide)) (by decide)
    show PW 151 d (4, [some (pvR 104), some (pvI n1), some (pvI n2)], [pvI 0], M) _
    refine pw_if hT (c := 0 = 0) rfl rfl (fun c9_ => ?_) (fun c9_ => absurd (by decide) c9_)
    refine pw_blkw hT 6 (pc := 22) (lo := [some (pvR 104), some (pvI n1), some (pvI n2)]) (st := []) (M := pvu M 112 (Int32.toNatClampNeg (M.1 104 0)) n1) rfl ⟨trivial, rfl, trivial, rfl, trivial, ⟨rfl, (zr_in (n := 8) b8_ (by decide) (by decide))⟩, trivial⟩ (fun M10_ e11_ => ?_)
    have o12_ : pvOk M10_ := pvok_u2 e11_ hok rfl hn1
    have f13_ : pvFr fp_X6_append_104_x_x M M10_ := pvfr_u e11_ pvfr_0 rfl
    have e14_ : (M10_.1 104 0) = (M.1 104 0) := (pvu_n e11_ 104 0 (Or.inl (by decide)))
    have b15_ : 0 ≤ Int32.toInt (M10_.1 104 0) ∧ Int32.toInt (M10_.1 104 0) ≤ 7 := (by rw [e14_]; exact b8_)
    refine pw_blkw hT 6 (pc := 32) (lo := [some (pvR 104), some (pvI n1), some (pvI n2)]) (st := []) (M := pvu M10_ 120 (Int32.toNatClampNeg (M10_.1 104 0)) n2) rfl ⟨trivial, rfl, trivial, rfl, trivial, ⟨rfl, (zr_in (n := 8) b15_ (by decide) (by decide))⟩, trivial⟩ (fun M16_ e17_ => ?_)
    have o18_ : pvOk M16_ := pvok_u2 e17_ o12_ rfl hn2
    have f19_ : pvFr fp_X6_append_104_x_x M M16_ := pvfr_u e17_ f13_ rfl
    have e20_ : (M16_.1 104 0) = (M10_.1 104 0) := (pvu_n e17_ 104 0 (Or.inl (by decide)))
    have b21_ : 0 ≤ Int32.toInt (M16_.1 104 0) ∧ Int32.toInt (M16_.1 104 0) ≤ 7 := (by rw [e20_]; exact b15_)
    obtain ⟨q23_, b22_⟩ : (Int32.toInt ((M16_.1 104 0) + 1) = Int32.toInt (M16_.1 104 0) + 1) ∧ (1 ≤ Int32.toInt ((M16_.1 104 0) + 1) ∧ Int32.toInt ((M16_.1 104 0) + 1) ≤ 8) := zadd_k (M16_.1 104 0) 1 1 1 8 b21_ (by decide) (by decide) (by decide) (by decide) (by decide)
    refine pw_blkw hT 6 (pc := 42) (lo := [some (pvR 104), some (pvI n1), some (pvI n2)]) (st := []) (M := pvu M16_ 104 0 ((M16_.1 104 0) + 1)) rfl ⟨trivial, trivial, rfl, trivial, trivial, rfl, trivial⟩ (fun M24_ e25_ => ?_)
    have o26_ : pvOk M24_ := pvok_u2 e25_ o18_ rfl (zr_wide b22_ (by decide) (by decide))
    have f27_ : pvFr fp_X6_append_104_x_x M M24_ := pvfr_u e25_ f19_ rfl
    have e28_ : (M24_.1 104 0) = ((M16_.1 104 0) + 1) := (pvu_s e25_)
    have b29_ : 1 ≤ Int32.toInt (M24_.1 104 0) ∧ Int32.toInt (M24_.1 104 0) ≤ 8 := (by rw [e28_]; exact b22_)
    refine pw_blk hT 2 (S' := (46, [some (pvR 104), some (pvI n1), some (pvI n2)], [pvI (M24_.1 104 0)], M24_)) rfl ⟨trivial, rfl, trivial⟩ ?_
    exact pw_ret hT rfl (r := some (pvI (M24_.1 104 0))) (M' := M24_) ⟨rfl, rfl⟩ ⟨⟨_, rfl, b29_⟩, o26_, f27_⟩
  · refine pw_eqI (if_neg c7_) ?_
    have b30_ : 8 ≤ Int32.toInt (M.1 104 0) ∧ Int32.toInt (M.1 104 0) ≤ 8 := zr_nlt_l 8 c7_ b6_ (show 8 ≤ Int32.toInt (Int32.ofNat 8) ∧ Int32.toInt (Int32.ofNat 8) ≤ 8 from (by decide)) (by decide)
    show PW 151 d (4, [some (pvR 104), some (pvI n1), some (pvI n2)], [pvI 1], M) _
    refine pw_if hT (c := 1 = 0) rfl rfl (fun c31_ => absurd c31_ (by decide)) (fun c31_ => ?_)
    refine pw_blk hT 2 (S' := (11, [some (pvR 104), some (pvI n1), some (pvI n2)], [pvI (M.1 104 0)], M)) rfl ⟨trivial, rfl, trivial⟩ ?_
    exact pw_ret hT rfl (r := some (pvI (M.1 104 0))) (M' := M) ⟨rfl, rfl⟩ ⟨⟨_, rfl, (zr_wide b30_ (by decide) (by decide))⟩, hok, pvfr_0⟩
def fpL_X6_clear_104 : List (Nat × Nat × Nat) := [(0, 104, 1)]
def fp_X6_clear_104 (q k : Nat) : Bool := pvfp fpL_X6_clear_104 q k
set_option maxHeartbeats 4000000 in
set_option maxRecDepth 10000 in
theorem sf_X6_clear_104 (M : pvM) (hok : pvOk M) (d : Nat) : PW 153 d (0, [some (pvR 104)], [], M) (fun r X => (∃ x : Int32, r = some (pvI x) ∧ 0 ≤ Int32.toInt x ∧ Int32.toInt x ≤ 0) ∧ pvOk X ∧ pvFr fp_X6_clear_104 M X) := by
  have hT : pvdom 153 = pvD_153 := rfl
  refine pw_blkw hT 3 (pc := 5) (lo := [some (pvR 104)]) (st := []) (M := pvu M 104 0 0) rfl ⟨trivial, trivial, rfl, trivial⟩ (fun M1_ e2_ => ?_)
  have o3_ : pvOk M1_ := pvok_u2 e2_ hok rfl (zr_wide (show 0 ≤ Int32.toInt 0 ∧ Int32.toInt 0 ≤ 0 from (by decide)) (by decide) (by decide))
  have f4_ : pvFr fp_X6_clear_104 M M1_ := pvfr_u e2_ pvfr_0 rfl
  refine pw_blk hT 1 (S' := (6, [some (pvR 104)], [pvI 0], M1_)) rfl ⟨trivial, trivial⟩ ?_
  exact pw_ret hT rfl (r := some (pvI 0)) (M' := M1_) ⟨rfl, rfl⟩ ⟨⟨_, rfl, (show 0 ≤ Int32.toInt 0 ∧ Int32.toInt 0 ≤ 0 from (by decide))⟩, o3_, f4_⟩
def fpL_X9_appendTold_0_104_x_x : List (Nat × Nat × Nat) := [(0, 104, 1), (0, 112, 0), (0, 120, 0)]
def fp_X9_appendTold_0_104_x_x (q k : Nat) : Bool := pvfp fpL_X9_appendTold_0_104_x_x q k
theorem fp_X9_appendTold_0_104_x_x_fp_X6_append_104_x_x (a b : Nat) (h : fp_X6_append_104_x_x a b = true) : fp_X9_appendTold_0_104_x_x a b = true := pvfp_sub (l1 := fpL_X6_append_104_x_x) (l2 := fpL_X9_appendTold_0_104_x_x) (by decide) a b h
theorem fp_X9_appendTold_0_104_x_x_fp_X6_clear_104 (a b : Nat) (h : fp_X6_clear_104 a b = true) : fp_X9_appendTold_0_104_x_x a b = true := pvfp_sub (l1 := fpL_X6_clear_104) (l2 := fpL_X9_appendTold_0_104_x_x) (by decide) a b h
set_option maxHeartbeats 4000000 in
set_option maxRecDepth 10000 in
theorem sf_X9_appendTold_0_104_x_x (M : pvM) (hok : pvOk M) (n2 : Int32) (n3 : Int32) (d : Nat) : PW 168 d (0, [some (pvR 0), some (pvR 104), some (pvI n2), some (pvI n3)], [], M) (fun r X => (∃ x : Int32, r = some (pvI x) ∧ (-4) ≤ Int32.toInt x ∧ Int32.toInt x ≤ 8) ∧ pvOk X ∧ pvFr fp_X9_appendTold_0_104_x_x M X) := by
  have hT : pvdom 168 = pvD_168 := rfl
  refine pw_blk hT 2 (S' := (2, [some (pvR 0), some (pvR 104), some (pvI n2), some (pvI n3)], [pvI (-1), pvI n2], M)) rfl ⟨trivial, trivial, trivial⟩ ?_
  refine pw_icn hT (c := n2 = (-1)) rfl rfl (fun c1_ => ?_) (fun c1_ => ?_)
  · refine pw_blk hT 3 (S' := (15, [some (pvR 0), some (pvR 104), some (pvI n2), some (pvI n3)], [pvI n2, pvR 8], M)) rfl ⟨trivial, rfl, trivial, trivial⟩ ?_
    refine pw_callT hT (as := [pvR 8, pvI n2]) (lo1 := [some (pvR 8), some (pvI n2)]) (d1 := d) (rest := []) rfl rfl rfl rfl rfl (fun _ => rfl) (Nat.zero_le _) rfl rfl rfl (sf_X7_has_8_x M hok n2 d) ?_
    by_cases c7_ : n2 < 0
    · refine pw_eqI (if_pos c7_) ?_
      have b8_ : (-2147483648) ≤ Int32.toInt n2 ∧ Int32.toInt n2 ≤ (-2) := (by have u0 := (zbnd n2); have u9 := (show _ ∧ _ from ⟨(zi_lt _ _).mp c7_, (show 0 ≤ Int32.toInt 0 ∧ Int32.toInt 0 ≤ 0 from (by decide))⟩); have v1 := (not_congr (zi_eq _ _)).mp c1_; have w1 : ((-1) : Int32).toInt = -1 := (by decide); omega)
      show PW 168 d (18, [some (pvR 0), some (pvR 104), some (pvI n2), some (pvI n3)], [pvI 0], M) _
      refine pw_ifn hT (c := 0 = 0) rfl rfl (fun c9_ => absurd (by decide) c9_) (fun c9_ => ?_)
      refine pw_blk hT 1 (S' := (22, [some (pvR 0), some (pvR 104), some (pvI n2), some (pvI n3)], [pvI (-1)], M)) rfl ⟨trivial, trivial⟩ ?_
      exact pw_ret hT rfl (r := some (pvI (-1))) (M' := M) ⟨rfl, rfl⟩ ⟨⟨_, rfl, (zr_wide (show (-1) ≤ Int32.toInt (-1) ∧ Int32.toInt (-1) ≤ (-1) from (by decide)) (by decide) (by decide))⟩, hok, pvfr_0⟩
    · refine pw_eqI (if_neg c7_) ?_
      have b10_ : 0 ≤ Int32.toInt n2 ∧ Int32.toInt n2 ≤ 2147483647 := zr_nlt_l 0 c7_ (zbnd n2) (show 0 ≤ Int32.toInt 0 ∧ Int32.toInt 0 ≤ 0 from (by decide)) (by decide)
      have b11_ : 0 ≤ Int32.toInt (M.1 8 1) ∧ Int32.toInt (M.1 8 1) ≤ 7 := pvok_r hok 8 1 rfl
      by_cases c12_ : (M.1 8 1) ≤ n2
      · refine pw_eqI (if_pos c12_) ?_
        have d13_ : Int32.toInt (M.1 8 1) ≤ Int32.toInt n2 := (zi_le _ _).mp c12_
        show PW 168 d (18, [some (pvR 0), some (pvR 104), some (pvI n2), some (pvI n3)], [pvI 0], M) _
        refine pw_ifn hT (c := 0 = 0) rfl rfl (fun c14_ => absurd (by decide) c14_) (fun c14_ => ?_)
        refine pw_blk hT 1 (S' := (22, [some (pvR 0), some (pvR 104), some (pvI n2), some (pvI n3)], [pvI (-1)], M)) rfl ⟨trivial, trivial⟩ ?_
        exact pw_ret hT rfl (r := some (pvI (-1))) (M' := M) ⟨rfl, rfl⟩ ⟨⟨_, rfl, (zr_wide (show (-1) ≤ Int32.toInt (-1) ∧ Int32.toInt (-1) ≤ (-1) from (by decide)) (by decide) (by decide))⟩, hok, pvfr_0⟩
      · refine pw_eqI (if_neg c12_) ?_
        have b15_ : 1 ≤ Int32.toInt (M.1 8 1) ∧ Int32.toInt (M.1 8 1) ≤ 7 := zr_nle_l 1 c12_ b11_ b10_ (by decide)
        have b16_ : 0 ≤ Int32.toInt n2 ∧ Int32.toInt n2 ≤ 6 := zr_nle_r 6 c12_ b10_ b15_ (by decide)
        have d17_ : Int32.toInt (M.1 8 1) > Int32.toInt n2 := Int.not_le.mp ((not_congr (zi_le _ _)).mp c12_)
        show PW 168 d (18, [some (pvR 0), some (pvR 104), some (pvI n2), some (pvI n3)], [pvI 1], M) _
        refine pw_ifn hT (c := 1 = 0) rfl rfl (fun c18_ => ?_) (fun c18_ => absurd c18_ (by decide))
        refine pw_blk hT 3 (S' := (28, [some (pvR 0), some (pvR 104), some (pvI n2), some (pvI n3)], [pvI 9999, pvI 0, pvI n3], M)) rfl ⟨trivial, trivial, trivial, trivial⟩ ?_
        refine pw_callT hT (as := [pvI n3, pvI 0, pvI 9999]) (lo1 := [some (pvI n3), some (pvI 0), some (pvI 9999)]) (d1 := d) (rest := []) rfl rfl rfl rfl rfl (fun h => absurd h (by decide)) (Nat.zero_le _) rfl rfl rfl (sf_X9_within_x_x_x M hok n3 0 9999 d) ?_
        by_cases c24_ : n3 < 0
        · refine pw_eqI (if_pos c24_) ?_
          have b25_ : (-2147483648) ≤ Int32.toInt n3 ∧ Int32.toInt n3 ≤ (-1) := zr_lt_l (-1) c24_ (zbnd n3) (show 0 ≤ Int32.toInt 0 ∧ Int32.toInt 0 ≤ 0 from (by decide)) (by decide)
          show PW 168 d (31, [some (pvR 0), some (pvR 104), some (pvI n2), some (pvI n3)], [pvI 0], M) _
          refine pw_ifn hT (c := 0 = 0) rfl rfl (fun c26_ => absurd (by decide) c26_) (fun c26_ => ?_)
          refine pw_blk hT 1 (S' := (36, [some (pvR 0), some (pvR 104), some (pvI n2), some (pvI n3)], [pvI (-2)], M)) rfl ⟨trivial, trivial⟩ ?_
          exact pw_ret hT rfl (r := some (pvI (-2))) (M' := M) ⟨rfl, rfl⟩ ⟨⟨_, rfl, (zr_wide (show (-2) ≤ Int32.toInt (-2) ∧ Int32.toInt (-2) ≤ (-2) from (by decide)) (by decide) (by decide))⟩, hok, pvfr_0⟩
        · refine pw_eqI (if_neg c24_) ?_
          have b27_ : 0 ≤ Int32.toInt n3 ∧ Int32.toInt n3 ≤ 2147483647 := zr_nlt_l 0 c24_ (zbnd n3) (show 0 ≤ Int32.toInt 0 ∧ Int32.toInt 0 ≤ 0 from (by decide)) (by decide)
          by_cases c28_ : 9999 < n3
          · refine pw_eqI (if_pos c28_) ?_
            have b29_ : 10000 ≤ Int32.toInt n3 ∧ Int32.toInt n3 ≤ 2147483647 := zr_lt_r 10000 c28_ b27_ (show 9999 ≤ Int32.toInt 9999 ∧ Int32.toInt 9999 ≤ 9999 from (by decide)) (by decide)
            show PW 168 d (31, [some (pvR 0), some (pvR 104), some (pvI n2), some (pvI n3)], [pvI 0], M) _
            refine pw_ifn hT (c := 0 = 0) rfl rfl (fun c30_ => absurd (by decide) c30_) (fun c30_ => ?_)
            refine pw_blk hT 1 (S' := (36, [some (pvR 0), some (pvR 104), some (pvI n2), some (pvI n3)], [pvI (-2)], M)) rfl ⟨trivial, trivial⟩ ?_
            exact pw_ret hT rfl (r := some (pvI (-2))) (M' := M) ⟨rfl, rfl⟩ ⟨⟨_, rfl, (zr_wide (show (-2) ≤ Int32.toInt (-2) ∧ Int32.toInt (-2) ≤ (-2) from (by decide)) (by decide) (by decide))⟩, hok, pvfr_0⟩
          · refine pw_eqI (if_neg c28_) ?_
            have b31_ : 0 ≤ Int32.toInt n3 ∧ Int32.toInt n3 ≤ 9999 := zr_nlt_r 9999 c28_ b27_ (show 9999 ≤ Int32.toInt 9999 ∧ Int32.toInt 9999 ≤ 9999 from (by decide)) (by decide)
            show PW 168 d (31, [some (pvR 0), some (pvR 104), some (pvI n2), some (pvI n3)], [pvI 1], M) _
            refine pw_ifn hT (c := 1 = 0) rfl rfl (fun c32_ => ?_) (fun c32_ => absurd c32_ (by decide))
            refine pw_blk hT 1 (S' := (38, [some (pvR 0), some (pvR 104), some (pvI n2), some (pvI n3)], [pvR 104], M)) rfl ⟨trivial, trivial⟩ ?_
            refine pw_callT hT (as := [pvR 104]) (lo1 := [some (pvR 104)]) (d1 := d) (rest := []) rfl rfl rfl rfl rfl (fun _ => rfl) (Nat.zero_le _) rfl rfl rfl (sf_X6_isFull_104 M hok d) ?_
            have b38_ : 0 ≤ Int32.toInt (M.1 104 0) ∧ Int32.toInt (M.1 104 0) ≤ 8 := pvok_r hok 104 0 rfl
            by_cases c39_ : (M.1 104 0) < (Int32.ofNat 8)
            · refine pw_eqI (if_pos c39_) ?_
              have b40_ : 0 ≤ Int32.toInt (M.1 104 0) ∧ Int32.toInt (M.1 104 0) ≤ 7 := zr_lt_l 7 c39_ b38_ (show 8 ≤ Int32.toInt (Int32.ofNat 8) ∧ Int32.toInt (Int32.ofNat 8) ≤ 8 from (by decide)) (by decide)
              show PW 168 d (41, [some (pvR 0), some (pvR 104), some (pvI n2), some (pvI n3)], [pvI 0], M) _
              refine pw_if hT (c := 0 = 0) rfl rfl (fun c41_ => ?_) (fun c41_ => absurd (by decide) c41_)
              refine pw_blk hT 3 (S' := (50, [some (pvR 0), some (pvR 104), some (pvI n2), some (pvI n3)], [pvI n3, pvI n2, pvR 104], M)) rfl ⟨trivial, trivial, trivial, trivial⟩ ?_
              refine pw_callG hT (as := [pvR 104, pvI n2, pvI n3]) (lo1 := [some (pvR 104), some (pvI n2), some (pvI n3)]) (d1 := d) (rest := []) rfl rfl rfl rfl rfl (fun _ => rfl) (Nat.zero_le _) rfl rfl rfl (sf_X6_append_104_x_x M hok n2 n3 b16_ b31_ d) (fun x42_ M43_ b44_ o45_ g46_ => ?_)
              have f47_ : pvFr fp_X9_appendTold_0_104_x_x M M43_ := pvfr_t g46_ pvfr_0 fp_X9_appendTold_0_104_x_x_fp_X6_append_104_x_x
              exact pw_ret hT rfl (r := some (pvI x42_)) (M' := M43_) ⟨rfl, rfl⟩ ⟨⟨_, rfl, (zr_wide b44_ (by decide) (by decide))⟩, o45_, f47_⟩
            · refine pw_eqI (if_neg c39_) ?_
              have b48_ : 8 ≤ Int32.toInt (M.1 104 0) ∧ Int32.toInt (M.1 104 0) ≤ 8 := zr_nlt_l 8 c39_ b38_ (show 8 ≤ Int32.toInt (Int32.ofNat 8) ∧ Int32.toInt (Int32.ofNat 8) ≤ 8 from (by decide)) (by decide)
              show PW 168 d (41, [some (pvR 0), some (pvR 104), some (pvI n2), some (pvI n3)], [pvI 1], M) _
              refine pw_if hT (c := 1 = 0) rfl rfl (fun c49_ => absurd c49_ (by decide)) (fun c49_ => ?_)
              refine pw_blk hT 1 (S' := (46, [some (pvR 0), some (pvR 104), some (pvI n2), some (pvI n3)], [pvI (-4)], M)) rfl ⟨trivial, trivial⟩ ?_
              exact pw_ret hT rfl (r := some (pvI (-4))) (M' := M) ⟨rfl, rfl⟩ ⟨⟨_, rfl, (zr_wide (show (-4) ≤ Int32.toInt (-4) ∧ Int32.toInt (-4) ≤ (-4) from (by decide)) (by decide) (by decide))⟩, hok, pvfr_0⟩
  · have b50_ : (-1) ≤ Int32.toInt n2 ∧ Int32.toInt n2 ≤ (-1) := (by have u0 := (zbnd n2); have u1 := (zi_eq _ _).mp c1_; have u2 := (show (-1) ≤ Int32.toInt (-1) ∧ Int32.toInt (-1) ≤ (-1) from (by decide)); omega)
    refine pw_blk hT 1 (S' := (6, [some (pvR 0), some (pvR 104), some (pvI n2), some (pvI n3)], [pvR 104], M)) rfl ⟨trivial, trivial⟩ ?_
    refine pw_callG hT (as := [pvR 104]) (lo1 := [some (pvR 104)]) (d1 := d) (rest := []) rfl rfl rfl rfl rfl (fun _ => rfl) (Nat.zero_le _) rfl rfl rfl (sf_X6_clear_104 M hok d) (fun x51_ M52_ b53_ o54_ g55_ => ?_)
    have f56_ : pvFr fp_X9_appendTold_0_104_x_x M M52_ := pvfr_t g55_ pvfr_0 fp_X9_appendTold_0_104_x_x_fp_X6_clear_104
    exact pw_ret hT rfl (r := some (pvI x51_)) (M' := M52_) ⟨rfl, rfl⟩ ⟨⟨_, rfl, (zr_wide b53_ (by decide) (by decide))⟩, o54_, f56_⟩
def fpL_X9_book_0_x_x : List (Nat × Nat × Nat) := [(0, 104, 1), (0, 112, 0), (0, 120, 0)]
def fp_X9_book_0_x_x (q k : Nat) : Bool := pvfp fpL_X9_book_0_x_x q k
theorem fp_X9_book_0_x_x_fp_X9_appendTold_0_104_x_x (a b : Nat) (h : fp_X9_appendTold_0_104_x_x a b = true) : fp_X9_book_0_x_x a b = true := pvfp_sub (l1 := fpL_X9_appendTold_0_104_x_x) (l2 := fpL_X9_book_0_x_x) (by decide) a b h
set_option maxHeartbeats 4000000 in
set_option maxRecDepth 10000 in
theorem sf_X9_book_0_x_x (M : pvM) (hok : pvOk M) (n1 : Int32) (n2 : Int32) (d : Nat) : PW 171 d (0, [some (pvR 0), some (pvI n1), some (pvI n2)], [], M) (fun r X => (∃ x : Int32, r = some (pvI x) ∧ (-4) ≤ Int32.toInt x ∧ Int32.toInt x ≤ 8) ∧ pvOk X ∧ pvFr fp_X9_book_0_x_x M X) := by
  have hT : pvdom 171 = pvD_171 := rfl
  refine pw_blk hT 6 (S' := (10, [some (pvR 0), some (pvI n1), some (pvI n2)], [pvI n2, pvI n1, pvR 104, pvR 0], M)) rfl ⟨trivial, trivial, rfl, rfl, trivial, trivial, trivial⟩ ?_
  refine pw_callG hT (as := [pvR 0, pvR 104, pvI n1, pvI n2]) (lo1 := [some (pvR 0), some (pvR 104), some (pvI n1), some (pvI n2)]) (d1 := d) (rest := []) rfl rfl rfl rfl rfl (fun _ => rfl) (Nat.zero_le _) rfl rfl rfl (sf_X9_appendTold_0_104_x_x M hok n1 n2 d) (fun x1_ M2_ b3_ o4_ g5_ => ?_)
  have f6_ : pvFr fp_X9_book_0_x_x M M2_ := pvfr_t g5_ pvfr_0 fp_X9_book_0_x_x_fp_X9_appendTold_0_104_x_x
  exact pw_ret hT rfl (r := some (pvI x1_)) (M' := M2_) ⟨rfl, rfl⟩ ⟨⟨_, rfl, b3_⟩, o4_, f6_⟩
set_option maxHeartbeats 4000000 in
set_option maxRecDepth 10000 in
theorem sf_X9_count_0_x (M : pvM) (hok : pvOk M) (n1 : Int32) (d : Nat) : PW 172 d (0, [some (pvR 0), some (pvI n1)], [], M) (fun r X => r = some (pvI ((if n1 = 0 then (M.1 8 1) else (if n1 = 1 then (M.1 0 1) else (if n1 = 2 then (M.1 100 0) else (if n1 = 3 then (M.1 102 0) else (if n1 = 4 then (M.1 104 0) else (if n1 = 5 then (M.1 6 1) else (if n1 = 6 then (M.1 3 1) else (-2)))))))))) ∧ X = M) := by
  have hT : pvdom 172 = pvD_172 := rfl
  refine pw_blk hT 1 (S' := (1, [some (pvR 0), some (pvI n1)], [pvI n1], M)) rfl ⟨trivial, trivial⟩ ?_
  refine pw_sw hT rfl rfl ?_
  refine And.intro (fun c1_ => ?_) (fun c1_ => ?_)
  · show PW 172 d (44, [some (pvR 0), some (pvI n1)], [], M) _
    have b2_ : 0 ≤ Int32.toInt n1 ∧ Int32.toInt n1 ≤ 0 := (by have u0 := (zbnd n1); have u1 := (zi_eq _ _).mp c1_; have u2 := (show 0 ≤ Int32.toInt 0 ∧ Int32.toInt 0 ≤ 0 from (by decide)); omega)
    have b3_ : 0 ≤ Int32.toInt (M.1 8 1) ∧ Int32.toInt (M.1 8 1) ≤ 7 := pvok_r hok 8 1 rfl
    refine pw_blk hT 3 (S' := (51, [some (pvR 0), some (pvI n1)], [pvI (M.1 8 1)], M)) rfl ⟨trivial, rfl, rfl, trivial⟩ ?_
    exact pw_ret hT rfl (r := some (pvI (M.1 8 1))) (M' := M) ⟨rfl, rfl⟩ ⟨(by rw [if_pos c1_]), rfl⟩
  · refine And.intro (fun c4_ => ?_) (fun c4_ => ?_)
    · show PW 172 d (52, [some (pvR 0), some (pvI n1)], [], M) _
      have b5_ : 1 ≤ Int32.toInt n1 ∧ Int32.toInt n1 ≤ 1 := (by have u0 := (zbnd n1); have u1 := (zi_eq _ _).mp c4_; have u2 := (show 1 ≤ Int32.toInt 1 ∧ Int32.toInt 1 ≤ 1 from (by decide)); omega)
      have b6_ : 0 ≤ Int32.toInt (M.1 0 1) ∧ Int32.toInt (M.1 0 1) ≤ 6 := pvok_r hok 0 1 rfl
      refine pw_blk hT 2 (S' := (56, [some (pvR 0), some (pvI n1)], [pvI (M.1 0 1)], M)) rfl ⟨trivial, rfl, trivial⟩ ?_
      exact pw_ret hT rfl (r := some (pvI (M.1 0 1))) (M' := M) ⟨rfl, rfl⟩ ⟨(by rw [if_neg c1_, if_pos c4_]), rfl⟩
    · refine And.intro (fun c7_ => ?_) (fun c7_ => ?_)
      · show PW 172 d (57, [some (pvR 0), some (pvI n1)], [], M) _
        have b8_ : 2 ≤ Int32.toInt n1 ∧ Int32.toInt n1 ≤ 2 := (by have u0 := (zbnd n1); have u1 := (zi_eq _ _).mp c7_; have u2 := (show 2 ≤ Int32.toInt 2 ∧ Int32.toInt 2 ≤ 2 from (by decide)); omega)
        have b9_ : 0 ≤ Int32.toInt (M.1 100 0) ∧ Int32.toInt (M.1 100 0) ≤ 7 := pvok_r hok 100 0 rfl
        refine pw_blk hT 4 (S' := (67, [some (pvR 0), some (pvI n1)], [pvI (M.1 100 0)], M)) rfl ⟨trivial, rfl, rfl, rfl, trivial⟩ ?_
        exact pw_ret hT rfl (r := some (pvI (M.1 100 0))) (M' := M) ⟨rfl, rfl⟩ ⟨(by rw [if_neg c1_, if_neg c4_, if_pos c7_]), rfl⟩
      · refine And.intro (fun c10_ => ?_) (fun c10_ => ?_)
        · show PW 172 d (68, [some (pvR 0), some (pvI n1)], [], M) _
          have b11_ : 3 ≤ Int32.toInt n1 ∧ Int32.toInt n1 ≤ 3 := (by have u0 := (zbnd n1); have u1 := (zi_eq _ _).mp c10_; have u2 := (show 3 ≤ Int32.toInt 3 ∧ Int32.toInt 3 ≤ 3 from (by decide)); omega)
          have b12_ : 0 ≤ Int32.toInt (M.1 102 0) ∧ Int32.toInt (M.1 102 0) ≤ 6 := pvok_r hok 102 0 rfl
          refine pw_blk hT 4 (S' := (78, [some (pvR 0), some (pvI n1)], [pvI (M.1 102 0)], M)) rfl ⟨trivial, rfl, rfl, rfl, trivial⟩ ?_
          exact pw_ret hT rfl (r := some (pvI (M.1 102 0))) (M' := M) ⟨rfl, rfl⟩ ⟨(by rw [if_neg c1_, if_neg c4_, if_neg c7_, if_pos c10_]), rfl⟩
        · refine And.intro (fun c13_ => ?_) (fun c13_ => ?_)
          · show PW 172 d (79, [some (pvR 0), some (pvI n1)], [], M) _
            have b14_ : 4 ≤ Int32.toInt n1 ∧ Int32.toInt n1 ≤ 4 := (by have u0 := (zbnd n1); have u1 := (zi_eq _ _).mp c13_; have u2 := (show 4 ≤ Int32.toInt 4 ∧ Int32.toInt 4 ≤ 4 from (by decide)); omega)
            have b15_ : 0 ≤ Int32.toInt (M.1 104 0) ∧ Int32.toInt (M.1 104 0) ≤ 8 := pvok_r hok 104 0 rfl
            refine pw_blk hT 4 (S' := (89, [some (pvR 0), some (pvI n1)], [pvI (M.1 104 0)], M)) rfl ⟨trivial, rfl, rfl, rfl, trivial⟩ ?_
            exact pw_ret hT rfl (r := some (pvI (M.1 104 0))) (M' := M) ⟨rfl, rfl⟩ ⟨(by rw [if_neg c1_, if_neg c4_, if_neg c7_, if_neg c10_, if_pos c13_]), rfl⟩
          · refine And.intro (fun c16_ => ?_) (fun c16_ => ?_)
            · show PW 172 d (90, [some (pvR 0), some (pvI n1)], [], M) _
              have b17_ : 5 ≤ Int32.toInt n1 ∧ Int32.toInt n1 ≤ 5 := (by have u0 := (zbnd n1); have u1 := (zi_eq _ _).mp c16_; have u2 := (show 5 ≤ Int32.toInt 5 ∧ Int32.toInt 5 ≤ 5 from (by decide)); omega)
              have b18_ : 0 ≤ Int32.toInt (M.1 6 1) ∧ Int32.toInt (M.1 6 1) ≤ 100 := pvok_r hok 6 1 rfl
              refine pw_blk hT 3 (S' := (97, [some (pvR 0), some (pvI n1)], [pvI (M.1 6 1)], M)) rfl ⟨trivial, rfl, rfl, trivial⟩ ?_
              exact pw_ret hT rfl (r := some (pvI (M.1 6 1))) (M' := M) ⟨rfl, rfl⟩ ⟨(by rw [if_neg c1_, if_neg c4_, if_neg c7_, if_neg c10_, if_neg c13_, if_pos c16_]), rfl⟩
            · refine And.intro (fun c19_ => ?_) (fun c19_ => ?_)
              · show PW 172 d (98, [some (pvR 0), some (pvI n1)], [], M) _
                have b20_ : 6 ≤ Int32.toInt n1 ∧ Int32.toInt n1 ≤ 6 := (by have u0 := (zbnd n1); have u1 := (zi_eq _ _).mp c19_; have u2 := (show 6 ≤ Int32.toInt 6 ∧ Int32.toInt 6 ≤ 6 from (by decide)); omega)
                have b21_ : 0 ≤ Int32.toInt (M.1 3 1) ∧ Int32.toInt (M.1 3 1) ≤ 1000000 := pvok_r hok 3 1 rfl
                refine pw_blk hT 3 (S' := (105, [some (pvR 0), some (pvI n1)], [pvI (M.1 3 1)], M)) rfl ⟨trivial, rfl, rfl, trivial⟩ ?_
                exact pw_ret hT rfl (r := some (pvI (M.1 3 1))) (M' := M) ⟨rfl, rfl⟩ ⟨(by rw [if_neg c1_, if_neg c4_, if_neg c7_, if_neg c10_, if_neg c13_, if_neg c16_, if_pos c19_]), rfl⟩
              · show PW 172 d (106, [some (pvR 0), some (pvI n1)], [], M) _
                refine pw_blk hT 1 (S' := (108, [some (pvR 0), some (pvI n1)], [pvI (-2)], M)) rfl ⟨trivial, trivial⟩ ?_
                exact pw_ret hT rfl (r := some (pvI (-2))) (M' := M) ⟨rfl, rfl⟩ ⟨(by rw [if_neg c1_, if_neg c4_, if_neg c7_, if_neg c10_, if_neg c13_, if_neg c16_, if_neg c19_]), rfl⟩
def fpL_X9_feed_0_x : List (Nat × Nat × Nat) := [(0, 6, 2), (0, 7, 0)]
def fp_X9_feed_0_x (q k : Nat) : Bool := pvfp fpL_X9_feed_0_x q k
set_option maxHeartbeats 4000000 in
set_option maxRecDepth 10000 in
theorem sf_X9_feed_0_x (M : pvM) (hok : pvOk M) (n1 : Int32) (d : Nat) : PW 173 d (0, [some (pvR 0), some (pvI n1)], [], M) (fun r X => (∃ x : Int32, r = some (pvI x) ∧ (-4) ≤ Int32.toInt x ∧ Int32.toInt x ≤ 100) ∧ pvOk X ∧ pvFr fp_X9_feed_0_x M X) := by
  have hT : pvdom 173 = pvD_173 := rfl
  refine pw_blk hT 3 (S' := (4, [some (pvR 0), some (pvI n1)], [pvI 127, pvI 0, pvI n1], M)) rfl ⟨trivial, trivial, trivial, trivial⟩ ?_
  refine pw_callT hT (as := [pvI n1, pvI 0, pvI 127]) (lo1 := [some (pvI n1), some (pvI 0), some (pvI 127)]) (d1 := d) (rest := []) rfl rfl rfl rfl rfl (fun h => absurd h (by decide)) (Nat.zero_le _) rfl rfl rfl (sf_X9_within_x_x_x M hok n1 0 127 d) ?_
  by_cases c6_ : n1 < 0
  · refine pw_eqI (if_pos c6_) ?_
    have b7_ : (-2147483648) ≤ Int32.toInt n1 ∧ Int32.toInt n1 ≤ (-1) := zr_lt_l (-1) c6_ (zbnd n1) (show 0 ≤ Int32.toInt 0 ∧ Int32.toInt 0 ≤ 0 from (by decide)) (by decide)
    show PW 173 d (7, [some (pvR 0), some (pvI n1)], [pvI 0], M) _
    refine pw_ifn hT (c := 0 = 0) rfl rfl (fun c8_ => absurd (by decide) c8_) (fun c8_ => ?_)
    refine pw_blk hT 1 (S' := (12, [some (pvR 0), some (pvI n1)], [pvI (-2)], M)) rfl ⟨trivial, trivial⟩ ?_
    exact pw_ret hT rfl (r := some (pvI (-2))) (M' := M) ⟨rfl, rfl⟩ ⟨⟨_, rfl, (zr_wide (show (-2) ≤ Int32.toInt (-2) ∧ Int32.toInt (-2) ≤ (-2) from (by decide)) (by decide) (by decide))⟩, hok, pvfr_0⟩
  · refine pw_eqI (if_neg c6_) ?_
    have b9_ : 0 ≤ Int32.toInt n1 ∧ Int32.toInt n1 ≤ 2147483647 := zr_nlt_l 0 c6_ (zbnd n1) (show 0 ≤ Int32.toInt 0 ∧ Int32.toInt 0 ≤ 0 from (by decide)) (by decide)
    by_cases c10_ : 127 < n1
    · refine pw_eqI (if_pos c10_) ?_
      have b11_ : 128 ≤ Int32.toInt n1 ∧ Int32.toInt n1 ≤ 2147483647 := zr_lt_r 128 c10_ b9_ (show 127 ≤ Int32.toInt 127 ∧ Int32.toInt 127 ≤ 127 from (by decide)) (by decide)
      show PW 173 d (7, [some (pvR 0), some (pvI n1)], [pvI 0], M) _
      refine pw_ifn hT (c := 0 = 0) rfl rfl (fun c12_ => absurd (by decide) c12_) (fun c12_ => ?_)
      refine pw_blk hT 1 (S' := (12, [some (pvR 0), some (pvI n1)], [pvI (-2)], M)) rfl ⟨trivial, trivial⟩ ?_
      exact pw_ret hT rfl (r := some (pvI (-2))) (M' := M) ⟨rfl, rfl⟩ ⟨⟨_, rfl, (zr_wide (show (-2) ≤ Int32.toInt (-2) ∧ Int32.toInt (-2) ≤ (-2) from (by decide)) (by decide) (by decide))⟩, hok, pvfr_0⟩
    · refine pw_eqI (if_neg c10_) ?_
      have b13_ : 0 ≤ Int32.toInt n1 ∧ Int32.toInt n1 ≤ 127 := zr_nlt_r 127 c10_ b9_ (show 127 ≤ Int32.toInt 127 ∧ Int32.toInt 127 ≤ 127 from (by decide)) (by decide)
      show PW 173 d (7, [some (pvR 0), some (pvI n1)], [pvI 1], M) _
      refine pw_ifn hT (c := 1 = 0) rfl rfl (fun c14_ => ?_) (fun c14_ => absurd c14_ (by decide))
      have b15_ : 0 ≤ Int32.toInt (M.1 6 1) ∧ Int32.toInt (M.1 6 1) ≤ 100 := pvok_r hok 6 1 rfl
      refine pw_blk hT 4 (S' := (22, [some (pvR 0), some (pvI n1)], [pvI 100, pvI (M.1 6 1)], M)) rfl ⟨trivial, rfl, rfl, trivial, trivial⟩ ?_
      refine pw_ic hT (c := (M.1 6 1) < 100) rfl rfl (fun c16_ => ?_) (fun c16_ => ?_)
      · have b17_ : 0 ≤ Int32.toInt (M.1 6 1) ∧ Int32.toInt (M.1 6 1) ≤ 99 := zr_lt_l 99 c16_ b15_ (show 100 ≤ Int32.toInt 100 ∧ Int32.toInt 100 ≤ 100 from (by decide)) (by decide)
        refine pw_blkw hT 8 (pc := 44) (lo := [some (pvR 0), some (pvI n1)]) (st := []) (M := pvu M 7 (Int32.toNatClampNeg (M.1 6 1)) n1) rfl ⟨trivial, rfl, rfl, trivial, rfl, rfl, trivial, ⟨rfl, (zr_in (n := 100) b17_ (by decide) (by decide))⟩, trivial⟩ (fun M18_ e19_ => ?_)
        have o20_ : pvOk M18_ := pvok_u2 e19_ hok rfl b13_
        have f21_ : pvFr fp_X9_feed_0_x M M18_ := pvfr_u e19_ pvfr_0 rfl
        have e22_ : (M18_.1 6 1) = (M.1 6 1) := (pvu_n e19_ 6 1 (Or.inl (by decide)))
        have b23_ : 0 ≤ Int32.toInt (M18_.1 6 1) ∧ Int32.toInt (M18_.1 6 1) ≤ 99 := (by rw [e22_]; exact b17_)
        obtain ⟨q25_, b24_⟩ : (Int32.toInt ((M18_.1 6 1) + 1) = Int32.toInt (M18_.1 6 1) + 1) ∧ (1 ≤ Int32.toInt ((M18_.1 6 1) + 1) ∧ Int32.toInt ((M18_.1 6 1) + 1) ≤ 100) := zadd_k (M18_.1 6 1) 1 1 1 100 b23_ (by decide) (by decide) (by decide) (by decide) (by decide)
        refine pw_blkw hT 7 (pc := 57) (lo := [some (pvR 0), some (pvI n1)]) (st := []) (M := pvu M18_ 6 1 ((M18_.1 6 1) + 1)) rfl ⟨trivial, rfl, trivial, rfl, trivial, trivial, rfl, trivial⟩ (fun M26_ e27_ => ?_)
        have o28_ : pvOk M26_ := pvok_u2 e27_ o20_ rfl (zr_wide b24_ (by decide) (by decide))
        have f29_ : pvFr fp_X9_feed_0_x M M26_ := pvfr_u e27_ f21_ rfl
        have e30_ : (M26_.1 6 1) = ((M18_.1 6 1) + 1) := (pvu_s e27_)
        have b31_ : 1 ≤ Int32.toInt (M26_.1 6 1) ∧ Int32.toInt (M26_.1 6 1) ≤ 100 := (by rw [e30_]; exact b24_)
        refine pw_blk hT 3 (S' := (64, [some (pvR 0), some (pvI n1)], [pvI (M26_.1 6 1)], M26_)) rfl ⟨trivial, rfl, rfl, trivial⟩ ?_
        exact pw_ret hT rfl (r := some (pvI (M26_.1 6 1))) (M' := M26_) ⟨rfl, rfl⟩ ⟨⟨_, rfl, (zr_wide b31_ (by decide) (by decide))⟩, o28_, f29_⟩
      · have b32_ : 100 ≤ Int32.toInt (M.1 6 1) ∧ Int32.toInt (M.1 6 1) ≤ 100 := zr_nlt_l 100 c16_ b15_ (show 100 ≤ Int32.toInt 100 ∧ Int32.toInt 100 ≤ 100 from (by decide)) (by decide)
        refine pw_blk hT 1 (S' := (27, [some (pvR 0), some (pvI n1)], [pvI (-4)], M)) rfl ⟨trivial, trivial⟩ ?_
        exact pw_ret hT rfl (r := some (pvI (-4))) (M' := M) ⟨rfl, rfl⟩ ⟨⟨_, rfl, (zr_wide (show (-4) ≤ Int32.toInt (-4) ∧ Int32.toInt (-4) ≤ (-4) from (by decide)) (by decide) (by decide))⟩, hok, pvfr_0⟩
set_option maxHeartbeats 4000000 in
set_option maxRecDepth 10000 in
theorem sf_X1_isAsSeen_5 (M : pvM) (hok : pvOk M) (d : Nat) : PW 114 d (0, [some (pvR 5), none, none], [], M) (fun r X => (∃ x : Int32, r = some (pvI x) ∧ 0 ≤ Int32.toInt x ∧ Int32.toInt x ≤ 1) ∧ X = M) := by
  have hT : pvdom 114 = pvD_114 := rfl
  refine pw_blk hT 2 (S' := (2, [some (pvR 5), some (pvI 0), none], [], M)) rfl ⟨trivial, trivial, trivial⟩ ?_
  have hlz76_ : ∀ (nz76_ : Nat) (i1z76_ : Int32) (v2z76_ : Option pvV), (0 ≤ Int32.toInt i1z76_ ∧ Int32.toInt i1z76_ ≤ 6) → (zhide ((7 - Int32.toInt i1z76_).toNat < nz76_)) → PW 114 d (2, [some (pvR 5), some (pvI i1z76_), v2z76_], [], M) (fun r X => (∃ x : Int32, r = some (pvI x) ∧ 0 ≤ Int32.toInt x ∧ Int32.toInt x ≤ 1) ∧ X = M) := by
    intro nz76_
    induction nz76_ with
    | zero => intro i1z76_ v2z76_ h1z76_ hmz76_; exact absurd (zshow hmz76_) (Nat.not_lt_zero _)
    | succ nz76_ ihz76_ =>
      intro i1z76_ v2z76_ h1z76_ hmz76_
      have b77_ : 0 ≤ Int32.toInt (M.1 102 0) ∧ Int32.toInt (M.1 102 0) ≤ 6 := pvok_r hok 102 0 rfl
      refine pw_blk hT 5 (S' := (13, [some (pvR 5), some (pvI i1z76_), v2z76_], [pvI (M.1 102 0), pvI i1z76_], M)) rfl ⟨trivial, trivial, rfl, rfl, rfl, trivial⟩ ?_
      refine pw_ic hT (c := (M.1 102 0) ≤ i1z76_) rfl rfl (fun c78_ => ?_) (fun c78_ => ?_)
      · have d79_ : Int32.toInt (M.1 102 0) ≤ Int32.toInt i1z76_ := (zi_le _ _).mp c78_
        refine pw_blk hT 1 (S' := (69, [some (pvR 5), some (pvI i1z76_), v2z76_], [pvI 1], M)) rfl ⟨trivial, trivial⟩ ?_
        exact pw_ret hT rfl (r := some (pvI 1)) (M' := M) ⟨Or.inr rfl, rfl, rfl⟩ ⟨⟨_, rfl, (zr_wide (show 1 ≤ Int32.toInt 1 ∧ Int32.toInt 1 ≤ 1 from (by decide)) (by decide) (by decide))⟩, rfl⟩
      · have b80_ : 1 ≤ Int32.toInt (M.1 102 0) ∧ Int32.toInt (M.1 102 0) ≤ 6 := zr_nle_l 1 c78_ b77_ h1z76_ (by decide)
        have b81_ : 0 ≤ Int32.toInt i1z76_ ∧ Int32.toInt i1z76_ ≤ 5 := zr_nle_r 5 c78_ h1z76_ b80_ (by decide)
        have d82_ : Int32.toInt (M.1 102 0) > Int32.toInt i1z76_ := Int.not_le.mp ((not_congr (zi_le _ _)).mp c78_)
        have b83_ : 0 ≤ Int32.toInt (M.1 110 (Int32.toNatClampNeg i1z76_)) ∧ Int32.toInt (M.1 110 (Int32.toNatClampNeg i1z76_)) ≤ 6 := pvok_r hok 110 (Int32.toNatClampNeg i1z76_) rfl
        have b84_ : 0 ≤ Int32.toInt (M.1 8 4) ∧ Int32.toInt (M.1 8 4) ≤ 9999 := pvok_r hok 8 4 rfl
        refine pw_blk hT 11 (S' := (37, [some (pvR 5), some (pvI i1z76_), v2z76_], [pvR 5, pvI (M.1 8 4), pvI (M.1 110 (Int32.toNatClampNeg i1z76_)), pvR 5], M)) rfl ⟨trivial, trivial, rfl, rfl, rfl, trivial, ⟨rfl, (zr_in (n := 6) b81_ (by decide) (by decide))⟩, trivial, rfl, rfl, trivial, trivial⟩ ?_
        refine pw_callGp hT (as := [pvR 5]) (lo1 := [some (pvR 5)]) (d1 := d) (rest := [pvI (M.1 8 4), pvI (M.1 110 (Int32.toNatClampNeg i1z76_)), pvR 5]) rfl rfl rfl rfl rfl (fun _ => rfl) (Nat.zero_le _) rfl rfl rfl (sf_X1_stormEnd_5 M hok d) (fun x85_ b87_ => ?_)
        refine pw_callGp hT (as := [pvR 5, pvI (M.1 110 (Int32.toNatClampNeg i1z76_)), pvI (M.1 8 4), pvI x85_]) (lo1 := [some (pvR 5), some (pvI (M.1 110 (Int32.toNatClampNeg i1z76_))), some (pvI (M.1 8 4)), some (pvI x85_), none, none, none, none]) (d1 := d) (rest := []) rfl rfl rfl rfl rfl (fun _ => rfl) (Nat.zero_le _) rfl rfl rfl (sf_X1_harmOf_5_x_x_x M hok (M.1 110 (Int32.toNatClampNeg i1z76_)) (M.1 8 4) x85_ b83_ (zr_wide b84_ (by decide) (by decide)) (zr_wide b87_ (by decide) (by decide)) d) (fun x90_ b92_ => ?_)
        have b95_ : 0 ≤ Int32.toInt (M.1 118 (Int32.toNatClampNeg i1z76_)) ∧ Int32.toInt (M.1 118 (Int32.toNatClampNeg i1z76_)) ≤ 9999 := pvok_r hok 118 (Int32.toNatClampNeg i1z76_) rfl
        refine pw_blk hT 8 (S' := (57, [some (pvR 5), some (pvI i1z76_), some (pvI x90_)], [pvI (M.1 118 (Int32.toNatClampNeg i1z76_)), pvI x90_], M)) rfl ⟨trivial, trivial, trivial, rfl, rfl, rfl, trivial, ⟨rfl, (zr_in (n := 6) b81_ (by decide) (by decide))⟩, trivial⟩ ?_
        refine pw_ic hT (c := x90_ = (M.1 118 (Int32.toNatClampNeg i1z76_))) rfl rfl (fun c96_ => ?_) (fun c96_ => ?_)
        · have b97_ : 0 ≤ Int32.toInt x90_ ∧ Int32.toInt x90_ ≤ 9999 := (by have u0 := (zbnd x90_); have u1 := (zi_eq _ _).mp c96_; have u2 := b95_; omega)
          have d98_ : Int32.toInt x90_ = Int32.toInt (M.1 118 (Int32.toNatClampNeg i1z76_)) := (zi_eq _ _).mp c96_
          obtain ⟨q100_, b99_⟩ : (Int32.toInt (i1z76_ + 1) = Int32.toInt i1z76_ + 1) ∧ (1 ≤ Int32.toInt (i1z76_ + 1) ∧ Int32.toInt (i1z76_ + 1) ≤ 6) := zadd_k i1z76_ 1 1 1 6 b81_ (by decide) (by decide) (by decide) (by decide) (by decide)
          refine pw_blk hT 2 (S' := (2, [some (pvR 5), some (pvI (i1z76_ + 1)), some (pvI x90_)], [], M)) rfl ⟨trivial, trivial, trivial⟩ ?_
          exact ihz76_ (i1z76_ + 1) (some (pvI x90_)) (zr_wide b99_ (by decide) (by decide)) (zhid (pvms_up (zshow hmz76_) h1z76_ q100_ (by decide) (by decide)))
        · refine pw_blk hT 1 (S' := (61, [some (pvR 5), some (pvI i1z76_), some (pvI x90_)], [pvI 0], M)) rfl ⟨trivial, trivial⟩ ?_
          exact pw_ret hT rfl (r := some (pvI 0)) (M' := M) ⟨Or.inl rfl, rfl, rfl⟩ ⟨⟨_, rfl, (zr_wide (show 0 ≤ Int32.toInt 0 ∧ Int32.toInt 0 ≤ 0 from (by decide)) (by decide) (by decide))⟩, rfl⟩
  exact hlz76_ _ 0 none (zr_wide (show 0 ≤ Int32.toInt 0 ∧ Int32.toInt 0 ≤ 0 from (by decide)) (by decide) (by decide)) (zhid (Nat.lt_succ_self _))
def fpL_X9_from_0 : List (Nat × Nat × Nat) := [(0, 12, 0), (0, 13, 0), (0, 14, 0), (0, 5, 2), (0, 5, 3), (1, 112, 0)]
def fp_X9_from_0 (q k : Nat) : Bool := pvfp fpL_X9_from_0 q k
theorem fp_X9_from_0_fp_X1_beginFromNow_5 (a b : Nat) (h : fp_X1_beginFromNow_5 a b = true) : fp_X9_from_0 a b = true := pvfp_sub (l1 := fpL_X1_beginFromNow_5) (l2 := fpL_X9_from_0) (by decide) a b h
theorem fp_X9_from_0_fp_X1_turnTo_5_x (a b : Nat) (h : fp_X1_turnTo_5_x a b = true) : fp_X9_from_0 a b = true := pvfp_sub (l1 := fpL_X1_turnTo_5_x) (l2 := fpL_X9_from_0) (by decide) a b h
set_option maxHeartbeats 4000000 in
set_option maxRecDepth 10000 in
theorem sf_X9_from_0 (M : pvM) (hok : pvOk M) (d : Nat) : PW 174 d (0, [some (pvR 0), none, none], [], M) (fun r X => (∃ x : Int32, r = some (pvI x) ∧ True) ∧ pvOk X ∧ pvFr fp_X9_from_0 M X) := by
  have hT : pvdom 174 = pvD_174 := rfl
  refine pw_blk hT 2 (S' := (4, [some (pvR 0), none, none], [pvR 5], M)) rfl ⟨trivial, rfl, trivial⟩ ?_
  refine pw_callV hT (as := [pvR 5]) (lo1 := [some (pvR 5)]) (d1 := d) (rest := []) rfl rfl rfl rfl rfl (fun _ => rfl) (Nat.zero_le _) rfl rfl rfl (sf_X1_beginFromNow_5 M hok d) (fun M2_ o4_ g5_ => ?_)
  have f6_ : pvFr fp_X9_from_0 M M2_ := pvfr_t g5_ pvfr_0 fp_X9_from_0_fp_X1_beginFromNow_5
  refine pw_blk hT 4 (S' := (11, [some (pvR 0), some (pvI 0), some (pvI 0)], [], M2_)) rfl ⟨trivial, trivial, trivial, trivial, trivial⟩ ?_
  have hlz93_ : ∀ (nz93_ : Nat) (i1z93_ : Int32) (i2z93_ : Int32) (Mz93_ : pvM), (pvOk Mz93_) → (pvFr fp_X9_from_0 M Mz93_) → (0 ≤ Int32.toInt i2z93_ ∧ Int32.toInt i2z93_ ≤ 4) → (zhide ((5 - Int32.toInt i2z93_).toNat < nz93_)) → PW 174 d (11, [some (pvR 0), some (pvI i1z93_), some (pvI i2z93_)], [], Mz93_) (fun r X => (∃ x : Int32, r = some (pvI x) ∧ True) ∧ pvOk X ∧ pvFr fp_X9_from_0 M X) := by
    intro nz93_
    induction nz93_ with
    | zero => intro i1z93_ i2z93_ Mz93_ oz93_ fz93_ h2z93_ hmz93_; exact absurd (zshow hmz93_) (Nat.not_lt_zero _)
    | succ nz93_ ihz93_ =>
      intro i1z93_ i2z93_ Mz93_ oz93_ fz93_ h2z93_ hmz93_
      refine pw_blk hT 2 (S' := (13, [some (pvR 0), some (pvI i1z93_), some (pvI i2z93_)], [pvI 4, pvI i2z93_], Mz93_)) rfl ⟨trivial, trivial, trivial⟩ ?_
      refine pw_ic hT (c := 4 ≤ i2z93_) rfl rfl (fun c94_ => ?_) (fun c94_ => ?_)
      · have b95_ : 4 ≤ Int32.toInt i2z93_ ∧ Int32.toInt i2z93_ ≤ 4 := zr_le_r 4 c94_ h2z93_ (show 4 ≤ Int32.toInt 4 ∧ Int32.toInt 4 ≤ 4 from (by decide)) (by decide)
        refine pw_blk hT 1 (S' := (47, [some (pvR 0), some (pvI i1z93_), some (pvI i2z93_)], [pvI i1z93_], Mz93_)) rfl ⟨trivial, trivial⟩ ?_
        exact pw_ret hT rfl (r := some (pvI i1z93_)) (M' := Mz93_) ⟨rfl, rfl⟩ ⟨⟨_, rfl, trivial⟩, oz93_, fz93_⟩
      · have b96_ : 0 ≤ Int32.toInt i2z93_ ∧ Int32.toInt i2z93_ ≤ 3 := zr_nle_r 3 c94_ h2z93_ (show 4 ≤ Int32.toInt 4 ∧ Int32.toInt 4 ≤ 4 from (by decide)) (by decide)
        refine pw_blk hT 3 (S' := (21, [some (pvR 0), some (pvI i1z93_), some (pvI i2z93_)], [pvI i2z93_, pvR 5], Mz93_)) rfl ⟨trivial, rfl, trivial, trivial⟩ ?_
        refine pw_callV hT (as := [pvR 5, pvI i2z93_]) (lo1 := [some (pvR 5), some (pvI i2z93_), none]) (d1 := d) (rest := []) rfl rfl rfl rfl rfl (fun _ => rfl) (Nat.zero_le _) rfl rfl rfl (sf_X1_turnTo_5_x Mz93_ oz93_ i2z93_ d) (fun M98_ o100_ g101_ => ?_)
        have f102_ : pvFr fp_X9_from_0 M M98_ := pvfr_t g101_ fz93_ fp_X9_from_0_fp_X1_turnTo_5_x
        refine pw_blk hT 2 (S' := (28, [some (pvR 0), some (pvI i1z93_), some (pvI i2z93_)], [pvR 5], M98_)) rfl ⟨trivial, rfl, trivial⟩ ?_
        refine pw_callGp hT (as := [pvR 5]) (lo1 := [some (pvR 5), none, none]) (d1 := d) (rest := []) rfl rfl rfl rfl rfl (fun _ => rfl) (Nat.zero_le _) rfl rfl rfl (sf_X1_isAsSeen_5 M98_ o100_ d) (fun x103_ b105_ => ?_)
        refine pw_if hT (c := x103_ = 0) rfl rfl (fun c108_ => ?_) (fun c108_ => ?_)
        · have b109_ : 0 ≤ Int32.toInt x103_ ∧ Int32.toInt x103_ ≤ 0 := (by have u0 := b105_; have u1 := (zi_eq _ _).mp c108_; have u2 := (show 0 ≤ Int32.toInt 0 ∧ Int32.toInt 0 ≤ 0 from (by decide)); omega)
          obtain ⟨q111_, b110_⟩ : (Int32.toInt (i2z93_ + 1) = Int32.toInt i2z93_ + 1) ∧ (1 ≤ Int32.toInt (i2z93_ + 1) ∧ Int32.toInt (i2z93_ + 1) ≤ 4) := zadd_k i2z93_ 1 1 1 4 b96_ (by decide) (by decide) (by decide) (by decide) (by decide)
          refine pw_blk hT 2 (S' := (11, [some (pvR 0), some (pvI i1z93_), some (pvI (i2z93_ + 1))], [], M98_)) rfl ⟨trivial, trivial, trivial⟩ ?_
          exact ihz93_ i1z93_ (i2z93_ + 1) M98_ o100_ f102_ (zr_wide b110_ (by decide) (by decide)) (zhid (pvms_up (zshow hmz93_) h2z93_ q111_ (by decide) (by decide)))
        · have b112_ : 1 ≤ Int32.toInt x103_ ∧ Int32.toInt x103_ ≤ 1 := (by have u0 := b105_; have u1 := (not_congr (zi_eq _ _)).mp c108_; have u2 := (show 0 ≤ Int32.toInt 0 ∧ Int32.toInt 0 ≤ 0 from (by decide)); omega)
          obtain ⟨q114_, b113_⟩ : (Int32.toInt (i2z93_ + 1) = Int32.toInt i2z93_ + 1) ∧ (1 ≤ Int32.toInt (i2z93_ + 1) ∧ Int32.toInt (i2z93_ + 1) ≤ 4) := zadd_k i2z93_ 1 1 1 4 b96_ (by decide) (by decide) (by decide) (by decide) (by decide)
          refine pw_blk hT 8 (S' := (11, [some (pvR 0), some (pvI (i1z93_ ||| (1 <<< (i2z93_ &&& 31)))), some (pvI (i2z93_ + 1))], [], M98_)) rfl ⟨trivial, trivial, trivial, trivial, trivial, trivial, trivial, trivial, trivial⟩ ?_
          exact ihz93_ (i1z93_ ||| (1 <<< (i2z93_ &&& 31))) (i2z93_ + 1) M98_ o100_ f102_ (zr_wide b113_ (by decide) (by decide)) (zhid (pvms_up (zshow hmz93_) h2z93_ q114_ (by decide) (by decide)))
  exact hlz93_ _ 0 0 M2_ o4_ f6_ (zr_wide (show 0 ≤ Int32.toInt 0 ∧ Int32.toInt 0 ≤ 0 from (by decide)) (by decide) (by decide)) (zhid (Nat.lt_succ_self _))
def fpL_X2_becomeBare_x : List (Nat × Nat × Nat) := [(1, 2, 1), (1, 2, 2), (1, 2, 3), (1, 2, 6)]
def fp_X2_becomeBare_x (q k : Nat) : Bool := pvfp fpL_X2_becomeBare_x q k
set_option maxHeartbeats 4000000 in
set_option maxRecDepth 10000 in
theorem sf_X2_becomeBare_x (M : pvM) (hok : pvOk M) (q0 : Nat) (hq0 : pvkl q0 = 2) (d : Nat) : PW 125 d (0, [some (pvR q0)], [], M) (fun r X => r = none ∧ pvOk X ∧ pvFr fp_X2_becomeBare_x M X) := by
  have hT : pvdom 125 = pvD_125 := rfl
  refine pw_blkw hT 3 (pc := 5) (lo := [some (pvR q0)]) (st := []) (M := pvu M q0 0 2) rfl ⟨trivial, trivial, hq0, trivial⟩ (fun M1_ e2_ => ?_)
  have o3_ : pvOk M1_ := pvok_u2 e2_ hok ((pvrg_o 0 hq0 (by decide) (by decide)).trans rfl) (zr_wide (show 2 ≤ Int32.toInt 2 ∧ Int32.toInt 2 ≤ 2 from (by decide)) (by decide) (by decide))
  have f4_ : pvFr fp_X2_becomeBare_x M M1_ := pvfr_u e2_ pvfr_0 (pvfp_r (l := fpL_X2_becomeBare_x) (pvowr_2 hq0) (kk := 1) (by decide) (Or.inr rfl))
  refine pw_blkw hT 3 (pc := 11) (lo := [some (pvR q0)]) (st := []) (M := pvu M1_ q0 1 15) rfl ⟨trivial, trivial, hq0, trivial⟩ (fun M5_ e6_ => ?_)
  have o7_ : pvOk M5_ := pvok_u2 e6_ o3_ ((pvrg_o 1 hq0 (by decide) (by decide)).trans rfl) (zr_wide (show 15 ≤ Int32.toInt 15 ∧ Int32.toInt 15 ≤ 15 from (by decide)) (by decide) (by decide))
  have f8_ : pvFr fp_X2_becomeBare_x M M5_ := pvfr_u e6_ f4_ (pvfp_r (l := fpL_X2_becomeBare_x) (pvowr_2 hq0) (kk := 2) (by decide) (Or.inr rfl))
  refine pw_blkw hT 3 (pc := 16) (lo := [some (pvR q0)]) (st := []) (M := pvu M5_ q0 2 0) rfl ⟨trivial, trivial, hq0, trivial⟩ (fun M9_ e10_ => ?_)
  have o11_ : pvOk M9_ := pvok_u2 e10_ o7_ ((pvrg_o 2 hq0 (by decide) (by decide)).trans rfl) (zr_wide (show 0 ≤ Int32.toInt 0 ∧ Int32.toInt 0 ≤ 0 from (by decide)) (by decide) (by decide))
  have f12_ : pvFr fp_X2_becomeBare_x M M9_ := pvfr_u e10_ f8_ (pvfp_r (l := fpL_X2_becomeBare_x) (pvowr_2 hq0) (kk := 3) (by decide) (Or.inr rfl))
  refine pw_blkw hT 3 (pc := 21) (lo := [some (pvR q0)]) (st := []) (M := pvu M9_ q0 5 0) rfl ⟨trivial, trivial, hq0, trivial⟩ (fun M13_ e14_ => ?_)
  have o15_ : pvOk M13_ := pvok_u2 e14_ o11_ ((pvrg_o 5 hq0 (by decide) (by decide)).trans rfl) (zr_wide (show 0 ≤ Int32.toInt 0 ∧ Int32.toInt 0 ≤ 0 from (by decide)) (by decide) (by decide))
  have f16_ : pvFr fp_X2_becomeBare_x M M13_ := pvfr_u e14_ f12_ (pvfp_r (l := fpL_X2_becomeBare_x) (pvowr_2 hq0) (kk := 6) (by decide) (Or.inr rfl))
  exact pw_ret hT rfl (r := none) (M' := M13_) ⟨rfl, rfl⟩ ⟨rfl, o15_, f16_⟩
def fpL_X5_goOn_6 : List (Nat × Nat × Nat) := [(0, 6, 3), (0, 6, 4)]
def fp_X5_goOn_6 (q k : Nat) : Bool := pvfp fpL_X5_goOn_6 q k
set_option maxHeartbeats 4000000 in
set_option maxRecDepth 10000 in
theorem sf_X5_goOn_6 (M : pvM) (hok : pvOk M) (hc6_2 : (-1) ≤ Int32.toInt (M.1 6 2) ∧ Int32.toInt (M.1 6 2) ≤ 99) (d : Nat) : PW 139 d (0, [some (pvR 6)], [], M) (fun r X => r = none ∧ pvOk X ∧ pvFr fp_X5_goOn_6 M X ∧ (Int32.toInt (X.1 6 3) ≤ -1 ∨ Int32.toInt (X.1 6 2) ≤ 99)) := by
  have hT : pvdom 139 = pvD_139 := rfl
  have b1_ : (-1) ≤ Int32.toInt (M.1 6 3) ∧ Int32.toInt (M.1 6 3) ≤ 127 := pvok_r hok 6 3 rfl
  obtain ⟨q3_, b2_⟩ : (Int32.toInt ((M.1 6 2) + 1) = Int32.toInt (M.1 6 2) + 1) ∧ (0 ≤ Int32.toInt ((M.1 6 2) + 1) ∧ Int32.toInt ((M.1 6 2) + 1) ≤ 100) := zadd_k (M.1 6 2) 1 1 0 100 hc6_2 (by decide) (by decide) (by decide) (by decide) (by decide)
  refine pw_blkw hT 6 (pc := 10) (lo := [some (pvR 6)]) (st := []) (M := pvu M 6 2 ((M.1 6 2) + 1)) rfl ⟨trivial, trivial, rfl, trivial, trivial, rfl, trivial⟩ (fun M4_ e5_ => ?_)
  have o6_ : pvOk M4_ := pvok_u2 e5_ hok rfl (zr_wide b2_ (by decide) (by decide))
  have f7_ : pvFr fp_X5_goOn_6 M M4_ := pvfr_u e5_ pvfr_0 rfl
  have e8_ : (M4_.1 6 2) = ((M.1 6 2) + 1) := (pvu_s e5_)
  have b9_ : 0 ≤ Int32.toInt (M4_.1 6 2) ∧ Int32.toInt (M4_.1 6 2) ≤ 100 := (by rw [e8_]; exact b2_)
  have d10_ : Int32.toInt (M4_.1 6 2) = Int32.toInt ((M.1 6 2) + 1) := congrArg Int32.toInt e8_
  refine pw_blk hT 3 (S' := (15, [some (pvR 6)], [pvI (M4_.1 6 2), pvR 6], M4_)) rfl ⟨trivial, trivial, rfl, trivial⟩ ?_
  refine pw_if hT (c := (M4_.1 6 2) < 0) rfl rfl (fun c11_ => absurd c11_ (by have z0 := b9_; have z1 := (show 0 ≤ Int32.toInt 0 ∧ Int32.toInt 0 ≤ 0 from (by decide)); rw [zi_lt]; omega)) (fun c11_ => ?_)
  have b12_ : 0 ≤ Int32.toInt (M4_.1 6 1) ∧ Int32.toInt (M4_.1 6 1) ≤ 100 := pvok_r o6_ 6 1 rfl
  refine pw_blk hT 4 (S' := (26, [some (pvR 6)], [pvI (M4_.1 6 1), pvI (M4_.1 6 2), pvR 6], M4_)) rfl ⟨trivial, rfl, trivial, rfl, trivial⟩ ?_
  refine pw_ic hT (c := (M4_.1 6 1) ≤ (M4_.1 6 2)) rfl rfl (fun c13_ => ?_) (fun c13_ => ?_)
  · have d14_ : Int32.toInt (M4_.1 6 1) ≤ Int32.toInt (M4_.1 6 2) := (zi_le _ _).mp c13_
    refine pw_blkw hT 2 (pc := 54) (lo := [some (pvR 6)]) (st := []) (M := pvu M4_ 6 3 (-1)) rfl ⟨trivial, rfl, trivial⟩ (fun M15_ e16_ => ?_)
    have o17_ : pvOk M15_ := pvok_u2 e16_ o6_ rfl (zr_wide (show (-1) ≤ Int32.toInt (-1) ∧ Int32.toInt (-1) ≤ (-1) from (by decide)) (by decide) (by decide))
    have f18_ : pvFr fp_X5_goOn_6 M M15_ := pvfr_u e16_ f7_ rfl
    have e19_ : (M15_.1 6 2) = (M4_.1 6 2) := (pvu_n e16_ 6 2 (Or.inr (by decide)))
    have b20_ : 0 ≤ Int32.toInt (M15_.1 6 2) ∧ Int32.toInt (M15_.1 6 2) ≤ 100 := (by rw [e19_]; exact b9_)
    have d21_ : Int32.toInt (M15_.1 6 2) = Int32.toInt (M4_.1 6 2) := congrArg Int32.toInt e19_
    have e22_ : (M15_.1 6 3) = (-1) := (pvu_s e16_)
    have b23_ : (-1) ≤ Int32.toInt (M15_.1 6 3) ∧ Int32.toInt (M15_.1 6 3) ≤ (-1) := (by rw [e22_]; exact (show (-1) ≤ Int32.toInt (-1) ∧ Int32.toInt (-1) ≤ (-1) from (by decide)))
    have u24_ : Int32.toInt (-1) = (-1) := by decide
    have d25_ : Int32.toInt (M15_.1 6 3) = Int32.toInt (-1) := congrArg Int32.toInt e22_
    exact pw_ret hT rfl (r := none) (M' := M15_) ⟨rfl, rfl⟩ ⟨rfl, o17_, f18_, (by omega)⟩
  · have b26_ : 1 ≤ Int32.toInt (M4_.1 6 1) ∧ Int32.toInt (M4_.1 6 1) ≤ 100 := zr_nle_l 1 c13_ b12_ b9_ (by decide)
    have b27_ : 0 ≤ Int32.toInt (M4_.1 6 2) ∧ Int32.toInt (M4_.1 6 2) ≤ 99 := zr_nle_r 99 c13_ b9_ b26_ (by decide)
    have d28_ : Int32.toInt (M4_.1 6 1) > Int32.toInt (M4_.1 6 2) := Int.not_le.mp ((not_congr (zi_le _ _)).mp c13_)
    refine pw_blk hT 3 (S' := (35, [some (pvR 6)], [pvI 100, pvI (M4_.1 6 2), pvR 6], M4_)) rfl ⟨trivial, rfl, trivial, trivial⟩ ?_
    refine pw_ic hT (c := 100 ≤ (M4_.1 6 2)) rfl rfl (fun c29_ => absurd c29_ (by have z0 := (show 100 ≤ Int32.toInt 100 ∧ Int32.toInt 100 ≤ 100 from (by decide)); have z1 := b27_; rw [zi_le]; omega)) (fun c29_ => ?_)
    have b30_ : 0 ≤ Int32.toInt (M4_.1 7 (Int32.toNatClampNeg (M4_.1 6 2))) ∧ Int32.toInt (M4_.1 7 (Int32.toNatClampNeg (M4_.1 6 2))) ≤ 127 := pvok_r o6_ 7 (Int32.toNatClampNeg (M4_.1 6 2)) rfl
    refine pw_blkw hT 7 (pc := 54) (lo := [some (pvR 6)]) (st := []) (M := pvu M4_ 6 3 (M4_.1 7 (Int32.toNatClampNeg (M4_.1 6 2)))) rfl ⟨trivial, rfl, trivial, rfl, ⟨rfl, (zr_in (n := 100) b27_ (by decide) (by decide))⟩, trivial, rfl, trivial⟩ (fun M31_ e32_ => ?_)
    have o33_ : pvOk M31_ := pvok_u2 e32_ o6_ rfl (zr_wide b30_ (by decide) (by decide))
    have f34_ : pvFr fp_X5_goOn_6 M M31_ := pvfr_u e32_ f7_ rfl
    have e35_ : (M31_.1 6 2) = (M4_.1 6 2) := (pvu_n e32_ 6 2 (Or.inr (by decide)))
    have b36_ : 0 ≤ Int32.toInt (M31_.1 6 2) ∧ Int32.toInt (M31_.1 6 2) ≤ 99 := (by rw [e35_]; exact b27_)
    have d37_ : Int32.toInt (M31_.1 6 2) = Int32.toInt (M4_.1 6 2) := congrArg Int32.toInt e35_
    have e38_ : (M31_.1 6 3) = (M4_.1 7 (Int32.toNatClampNeg (M4_.1 6 2))) := (pvu_s e32_)
    have b39_ : 0 ≤ Int32.toInt (M31_.1 6 3) ∧ Int32.toInt (M31_.1 6 3) ≤ 127 := (by rw [e38_]; exact b30_)
    have d40_ : Int32.toInt (M31_.1 6 3) = Int32.toInt (M4_.1 7 (Int32.toNatClampNeg (M4_.1 6 2))) := congrArg Int32.toInt e38_
    exact pw_ret hT rfl (r := none) (M' := M31_) ⟨rfl, rfl⟩ ⟨rfl, o33_, f34_, (by omega)⟩
set_option maxHeartbeats 4000000 in
set_option maxRecDepth 10000 in
theorem sf_X5_wordFrom_x (M : pvM) (hok : pvOk M) (n0 : Int32) (d : Nat) : PW 150 d (0, [some (pvI n0)], [], M) (fun r X => (∃ q : Nat, r = some (pvR q) ∧ 1010 ≤ q ∧ q < 1017) ∧ X = M) := by
  have hT : pvdom 150 = pvD_150 := rfl
  refine pw_blk hT 1 (S' := (1, [some (pvI n0)], [pvI n0], M)) rfl ⟨trivial, trivial⟩ ?_
  refine pw_sw hT rfl rfl ?_
  refine And.intro (fun c1_ => ?_) (fun c1_ => ?_)
  · show PW 150 d (47, [some (pvI n0)], [], M) _
    have b2_ : 100 ≤ Int32.toInt n0 ∧ Int32.toInt n0 ≤ 100 := (by have u0 := (zbnd n0); have u1 := (zi_eq _ _).mp c1_; have u2 := (show 100 ≤ Int32.toInt 100 ∧ Int32.toInt 100 ≤ 100 from (by decide)); omega)
    refine pw_blk hT 1 (S' := (49, [some (pvI n0)], [pvR 1011], M)) rfl ⟨(by decide), trivial⟩ ?_
    exact pw_ret hT rfl (r := some (pvR 1011)) (M' := M) ⟨rfl, rfl⟩ ⟨⟨_, rfl, by decide, by decide⟩, rfl⟩
  · refine And.intro (fun c3_ => ?_) (fun c3_ => ?_)
    · show PW 150 d (53, [some (pvI n0)], [], M) _
      have b4_ : 108 ≤ Int32.toInt n0 ∧ Int32.toInt n0 ≤ 108 := (by have u0 := (zbnd n0); have u1 := (zi_eq _ _).mp c3_; have u2 := (show 108 ≤ Int32.toInt 108 ∧ Int32.toInt 108 ≤ 108 from (by decide)); omega)
      refine pw_blk hT 1 (S' := (55, [some (pvI n0)], [pvR 1013], M)) rfl ⟨(by decide), trivial⟩ ?_
      exact pw_ret hT rfl (r := some (pvR 1013)) (M' := M) ⟨rfl, rfl⟩ ⟨⟨_, rfl, by decide, by decide⟩, rfl⟩
    · refine And.intro (fun c5_ => ?_) (fun c5_ => ?_)
      · show PW 150 d (50, [some (pvI n0)], [], M) _
        have b6_ : 115 ≤ Int32.toInt n0 ∧ Int32.toInt n0 ≤ 115 := (by have u0 := (zbnd n0); have u1 := (zi_eq _ _).mp c5_; have u2 := (show 115 ≤ Int32.toInt 115 ∧ Int32.toInt 115 ≤ 115 from (by decide)); omega)
        refine pw_blk hT 1 (S' := (52, [some (pvI n0)], [pvR 1012], M)) rfl ⟨(by decide), trivial⟩ ?_
        exact pw_ret hT rfl (r := some (pvR 1012)) (M' := M) ⟨rfl, rfl⟩ ⟨⟨_, rfl, by decide, by decide⟩, rfl⟩
      · refine And.intro (fun c7_ => ?_) (fun c7_ => ?_)
        · show PW 150 d (44, [some (pvI n0)], [], M) _
          have b8_ : 119 ≤ Int32.toInt n0 ∧ Int32.toInt n0 ≤ 119 := (by have u0 := (zbnd n0); have u1 := (zi_eq _ _).mp c7_; have u2 := (show 119 ≤ Int32.toInt 119 ∧ Int32.toInt 119 ≤ 119 from (by decide)); omega)
          refine pw_blk hT 1 (S' := (46, [some (pvI n0)], [pvR 1010], M)) rfl ⟨(by decide), trivial⟩ ?_
          exact pw_ret hT rfl (r := some (pvR 1010)) (M' := M) ⟨rfl, rfl⟩ ⟨⟨_, rfl, by decide, by decide⟩, rfl⟩
        · show PW 150 d (56, [some (pvI n0)], [], M) _
          refine pw_blk hT 1 (S' := (58, [some (pvI n0)], [pvR 1014], M)) rfl ⟨(by decide), trivial⟩ ?_
          exact pw_ret hT rfl (r := some (pvR 1014)) (M' := M) ⟨rfl, rfl⟩ ⟨⟨_, rfl, by decide, by decide⟩, rfl⟩
def fpL_X5_readSign_6_x : List (Nat × Nat × Nat) := [(0, 6, 3), (0, 6, 4)]
def fp_X5_readSign_6_x (q k : Nat) : Bool := pvfp fpL_X5_readSign_6_x q k
theorem fp_X5_readSign_6_x_fp_X5_goOn_6 (a b : Nat) (h : fp_X5_goOn_6 a b = true) : fp_X5_readSign_6_x a b = true := pvfp_sub (l1 := fpL_X5_goOn_6) (l2 := fpL_X5_readSign_6_x) (by decide) a b h
set_option maxHeartbeats 4000000 in
set_option maxRecDepth 10000 in
theorem sf_X5_readSign_6_x (M : pvM) (hok : pvOk M) (n1 : Int32) (hn1 : 0 ≤ Int32.toInt n1 ∧ Int32.toInt n1 ≤ 127) (hx0 : (Int32.toInt (M.1 6 3) ≤ -1 ∨ Int32.toInt (M.1 6 2) ≤ 99)) (d : Nat) : PW 147 d (0, [some (pvR 6), some (pvI n1)], [], M) (fun r X => (∃ x : Int32, r = some (pvI x) ∧ 0 ≤ Int32.toInt x ∧ Int32.toInt x ≤ 1) ∧ pvOk X ∧ pvFr fp_X5_readSign_6_x M X ∧ (Int32.toInt (X.1 6 3) ≤ -1 ∨ Int32.toInt (X.1 6 2) ≤ 99)) := by
  have hT : pvdom 147 = pvD_147 := rfl
  have b1_ : (-1) ≤ Int32.toInt (M.1 6 2) ∧ Int32.toInt (M.1 6 2) ≤ 100 := pvok_r hok 6 2 rfl
  have b2_ : (-1) ≤ Int32.toInt (M.1 6 3) ∧ Int32.toInt (M.1 6 3) ≤ 127 := pvok_r hok 6 3 rfl
  refine pw_blk hT 3 (S' := (5, [some (pvR 6), some (pvI n1)], [pvI n1, pvI (M.1 6 3)], M)) rfl ⟨trivial, rfl, trivial, trivial⟩ ?_
  refine pw_ic hT (c := (M.1 6 3) = n1) rfl rfl (fun c3_ => ?_) (fun c3_ => ?_)
  · have b4_ : 0 ≤ Int32.toInt (M.1 6 3) ∧ Int32.toInt (M.1 6 3) ≤ 127 := (by have u0 := b2_; have u1 := (zi_eq _ _).mp c3_; have u2 := hn1; omega)
    have d5_ : Int32.toInt (M.1 6 3) = Int32.toInt n1 := (zi_eq _ _).mp c3_
    refine pw_blk hT 1 (S' := (11, [some (pvR 6), some (pvI n1)], [pvR 6], M)) rfl ⟨trivial, trivial⟩ ?_
    refine pw_callVd hT (as := [pvR 6]) (lo1 := [some (pvR 6)]) (d1 := d) (rest := []) rfl rfl rfl rfl rfl (fun _ => rfl) (Nat.zero_le _) rfl rfl rfl (sf_X5_goOn_6 M hok (by have u0 := b1_; omega) d) (fun M8_ o10_ g11_ d6_ => ?_)
    have f12_ : pvFr fp_X5_readSign_6_x M M8_ := pvfr_t g11_ pvfr_0 fp_X5_readSign_6_x_fp_X5_goOn_6
    refine pw_blk hT 1 (S' := (15, [some (pvR 6), some (pvI n1)], [pvI 1], M8_)) rfl ⟨trivial, trivial⟩ ?_
    have b13_ : (-1) ≤ Int32.toInt (M8_.1 6 2) ∧ Int32.toInt (M8_.1 6 2) ≤ 100 := pvok_r o10_ 6 2 rfl
    have b14_ : (-1) ≤ Int32.toInt (M8_.1 6 3) ∧ Int32.toInt (M8_.1 6 3) ≤ 127 := pvok_r o10_ 6 3 rfl
    exact pw_ret hT rfl (r := some (pvI 1)) (M' := M8_) ⟨Or.inr rfl, rfl, rfl⟩ ⟨⟨_, rfl, (zr_wide (show 1 ≤ Int32.toInt 1 ∧ Int32.toInt 1 ≤ 1 from (by decide)) (by decide) (by decide))⟩, o10_, f12_, (by omega)⟩
  · refine pw_blk hT 1 (S' := (9, [some (pvR 6), some (pvI n1)], [pvI 0], M)) rfl ⟨trivial, trivial⟩ ?_
    exact pw_ret hT rfl (r := some (pvI 0)) (M' := M) ⟨Or.inl rfl, rfl, rfl⟩ ⟨⟨_, rfl, (zr_wide (show 0 ≤ Int32.toInt 0 ∧ Int32.toInt 0 ≤ 0 from (by decide)) (by decide) (by decide))⟩, hok, pvfr_0, (by omega)⟩
def fpL_X5_readWord_6_x : List (Nat × Nat × Nat) := [(0, 6, 3), (0, 6, 4)]
def fp_X5_readWord_6_x (q k : Nat) : Bool := pvfp fpL_X5_readWord_6_x q k
theorem fp_X5_readWord_6_x_fp_X5_readSign_6_x (a b : Nat) (h : fp_X5_readSign_6_x a b = true) : fp_X5_readWord_6_x a b = true := pvfp_sub (l1 := fpL_X5_readSign_6_x) (l2 := fpL_X5_readWord_6_x) (by decide) a b h
set_option maxHeartbeats 4000000 in
set_option maxRecDepth 10000 in
theorem sf_X5_readWord_6_x (M : pvM) (hok : pvOk M) (q1 : Nat) (hq1 : 1010 ≤ q1 ∧ q1 < 1017) (hx0 : (Int32.toInt (M.1 6 3) ≤ -1 ∨ Int32.toInt (M.1 6 2) ≤ 99)) (d : Nat) : PW 149 d (0, [some (pvR 6), some (pvR q1), none], [], M) (fun r X => (∃ x : Int32, r = some (pvI x) ∧ 0 ≤ Int32.toInt x ∧ Int32.toInt x ≤ 1) ∧ pvOk X ∧ pvFr fp_X5_readWord_6_x M X ∧ (Int32.toInt (X.1 6 3) ≤ -1 ∨ Int32.toInt (X.1 6 2) ≤ 99)) := by
  have hT : pvdom 149 = pvD_149 := rfl
  have b1_ : (-1) ≤ Int32.toInt (M.1 6 2) ∧ Int32.toInt (M.1 6 2) ≤ 100 := pvok_r hok 6 2 rfl
  have b2_ : (-1) ≤ Int32.toInt (M.1 6 3) ∧ Int32.toInt (M.1 6 3) ≤ 127 := pvok_r hok 6 3 rfl
  refine pw_blk hT 2 (S' := (2, [some (pvR 6), some (pvR q1), some (pvI 0)], [], M)) rfl ⟨trivial, trivial, trivial⟩ ?_
  have hlz103_ : ∀ (nz103_ : Nat) (i2z103_ : Int32) (Mz103_ : pvM), (pvOk Mz103_) → (pvFr fp_X5_readWord_6_x M Mz103_) → (0 ≤ Int32.toInt i2z103_ ∧ Int32.toInt i2z103_ ≤ 6) → ((Int32.toInt (Mz103_.1 6 3) ≤ -1 ∨ Int32.toInt (Mz103_.1 6 2) ≤ 99)) → (zhide ((7 - Int32.toInt i2z103_).toNat < nz103_)) → PW 149 d (2, [some (pvR 6), some (pvR q1), some (pvI i2z103_)], [], Mz103_) (fun r X => (∃ x : Int32, r = some (pvI x) ∧ 0 ≤ Int32.toInt x ∧ Int32.toInt x ≤ 1) ∧ pvOk X ∧ pvFr fp_X5_readWord_6_x M X ∧ (Int32.toInt (X.1 6 3) ≤ -1 ∨ Int32.toInt (X.1 6 2) ≤ 99)) := by
    intro nz103_
    induction nz103_ with
    | zero => intro i2z103_ Mz103_ oz103_ fz103_ h2z103_ j0z103_ hmz103_; exact absurd (zshow hmz103_) (Nat.not_lt_zero _)
    | succ nz103_ ihz103_ =>
      intro i2z103_ Mz103_ oz103_ fz103_ h2z103_ j0z103_ hmz103_
      have b104_ : (-1) ≤ Int32.toInt (Mz103_.1 6 2) ∧ Int32.toInt (Mz103_.1 6 2) ≤ 100 := pvok_r oz103_ 6 2 rfl
      have b105_ : (-1) ≤ Int32.toInt (Mz103_.1 6 3) ∧ Int32.toInt (Mz103_.1 6 3) ≤ 127 := pvok_r oz103_ 6 3 rfl
      refine pw_blk hT 2 (S' := (4, [some (pvR 6), some (pvR q1), some (pvI i2z103_)], [pvR q1, pvI i2z103_], Mz103_)) rfl ⟨trivial, trivial, trivial⟩ ?_
      refine pw_sx hT rfl (S' := (7, [some (pvR 6), some (pvR q1), some (pvI i2z103_)], [pvI (nI (zsl.getD (q1 - 1010) 0)), pvI i2z103_], Mz103_)) (fun F hF => ⟨hq1.1, hq1.2, Nat.le_of_ble_eq_true rfl, hF⟩) ?_
      have b106_ : 0 ≤ Int32.toInt (nI (zsl.getD (q1 - 1010) 0)) ∧ Int32.toInt (nI (zsl.getD (q1 - 1010) 0)) ≤ 6 := (pvsl_r _)
      refine pw_ic hT (c := (nI (zsl.getD (q1 - 1010) 0)) ≤ i2z103_) rfl rfl (fun c107_ => ?_) (fun c107_ => ?_)
      · have d108_ : Int32.toInt (nI (zsl.getD (q1 - 1010) 0)) ≤ Int32.toInt i2z103_ := (zi_le _ _).mp c107_
        refine pw_blk hT 1 (S' := (31, [some (pvR 6), some (pvR q1), some (pvI i2z103_)], [pvI 1], Mz103_)) rfl ⟨trivial, trivial⟩ ?_
        exact pw_ret hT rfl (r := some (pvI 1)) (M' := Mz103_) ⟨Or.inr rfl, rfl, rfl⟩ ⟨⟨_, rfl, (zr_wide (show 1 ≤ Int32.toInt 1 ∧ Int32.toInt 1 ≤ 1 from (by decide)) (by decide) (by decide))⟩, oz103_, fz103_, (by omega)⟩
      · have b109_ : 1 ≤ Int32.toInt (nI (zsl.getD (q1 - 1010) 0)) ∧ Int32.toInt (nI (zsl.getD (q1 - 1010) 0)) ≤ 6 := zr_nle_l 1 c107_ b106_ h2z103_ (by decide)
        have b110_ : 0 ≤ Int32.toInt i2z103_ ∧ Int32.toInt i2z103_ ≤ 5 := zr_nle_r 5 c107_ h2z103_ b109_ (by decide)
        have d111_ : Int32.toInt (nI (zsl.getD (q1 - 1010) 0)) > Int32.toInt i2z103_ := Int.not_le.mp ((not_congr (zi_le _ _)).mp c107_)
        refine pw_blk hT 3 (S' := (13, [some (pvR 6), some (pvR q1), some (pvI i2z103_)], [pvI i2z103_, pvR q1, pvR 6], Mz103_)) rfl ⟨trivial, trivial, trivial, trivial⟩ ?_
        refine pw_sx hT rfl (S' := (16, [some (pvR 6), some (pvR q1), some (pvI i2z103_)], [pvI ((zsb.getD (q1 - 1010) []).getD (Int32.toNatClampNeg i2z103_) 0), pvR 6], Mz103_)) (fun F hF => ⟨hq1.1, hq1.2, Nat.le_of_ble_eq_true rfl, (pvstrin b110_ (Int32.not_le.mp c107_)), hF⟩) ?_
        have b112_ : 0 ≤ Int32.toInt ((zsb.getD (q1 - 1010) []).getD (Int32.toNatClampNeg i2z103_) 0) ∧ Int32.toInt ((zsb.getD (q1 - 1010) []).getD (Int32.toNatClampNeg i2z103_) 0) ≤ 127 := (pvsb_r _ _)
        refine pw_callGd hT (as := [pvR 6, pvI ((zsb.getD (q1 - 1010) []).getD (Int32.toNatClampNeg i2z103_) 0)]) (lo1 := [some (pvR 6), some (pvI ((zsb.getD (q1 - 1010) []).getD (Int32.toNatClampNeg i2z103_) 0))]) (d1 := d) (rest := []) rfl rfl rfl rfl rfl (fun _ => rfl) (Nat.zero_le _) rfl rfl rfl (sf_X5_readSign_6_x Mz103_ oz103_ ((zsb.getD (q1 - 1010) []).getD (Int32.toNatClampNeg i2z103_) 0) b112_ (show (Int32.toInt (Mz103_.1 6 3) ≤ -1 ∨ Int32.toInt (Mz103_.1 6 2) ≤ 99) from (by omega)) d) (fun x114_ M115_ b116_ o117_ g118_ d113_ => ?_)
        have f119_ : pvFr fp_X5_readWord_6_x M M115_ := pvfr_t g118_ fz103_ fp_X5_readWord_6_x_fp_X5_readSign_6_x
        refine pw_ifn hT (c := x114_ = 0) rfl rfl (fun c120_ => ?_) (fun c120_ => ?_)
        · have b121_ : 1 ≤ Int32.toInt x114_ ∧ Int32.toInt x114_ ≤ 1 := (by have u0 := b116_; have u1 := (not_congr (zi_eq _ _)).mp c120_; have u2 := (show 0 ≤ Int32.toInt 0 ∧ Int32.toInt 0 ≤ 0 from (by decide)); omega)
          obtain ⟨q123_, b122_⟩ : (Int32.toInt (i2z103_ + 1) = Int32.toInt i2z103_ + 1) ∧ (1 ≤ Int32.toInt (i2z103_ + 1) ∧ Int32.toInt (i2z103_ + 1) ≤ 6) := zadd_k i2z103_ 1 1 1 6 b110_ (by decide) (by decide) (by decide) (by decide) (by decide)
          refine pw_blk hT 2 (S' := (2, [some (pvR 6), some (pvR q1), some (pvI (i2z103_ + 1))], [], M115_)) rfl ⟨trivial, trivial, trivial⟩ ?_
          have b124_ : (-1) ≤ Int32.toInt (M115_.1 6 2) ∧ Int32.toInt (M115_.1 6 2) ≤ 100 := pvok_r o117_ 6 2 rfl
          have b125_ : (-1) ≤ Int32.toInt (M115_.1 6 3) ∧ Int32.toInt (M115_.1 6 3) ≤ 127 := pvok_r o117_ 6 3 rfl
          have j126_ : (Int32.toInt (M115_.1 6 3) ≤ -1 ∨ Int32.toInt (M115_.1 6 2) ≤ 99) := by omega
          exact ihz103_ (i2z103_ + 1) M115_ o117_ f119_ (zr_wide b122_ (by decide) (by decide)) j126_ (zhid (pvms_up (zshow hmz103_) h2z103_ q123_ (by decide) (by decide)))
        · have b127_ : 0 ≤ Int32.toInt x114_ ∧ Int32.toInt x114_ ≤ 0 := (by have u0 := b116_; have u1 := (zi_eq _ _).mp c120_; have u2 := (show 0 ≤ Int32.toInt 0 ∧ Int32.toInt 0 ≤ 0 from (by decide)); omega)
          refine pw_blk hT 1 (S' := (23, [some (pvR 6), some (pvR q1), some (pvI i2z103_)], [pvI 0], M115_)) rfl ⟨trivial, trivial⟩ ?_
          have b128_ : (-1) ≤ Int32.toInt (M115_.1 6 2) ∧ Int32.toInt (M115_.1 6 2) ≤ 100 := pvok_r o117_ 6 2 rfl
          have b129_ : (-1) ≤ Int32.toInt (M115_.1 6 3) ∧ Int32.toInt (M115_.1 6 3) ≤ 127 := pvok_r o117_ 6 3 rfl
          exact pw_ret hT rfl (r := some (pvI 0)) (M' := M115_) ⟨Or.inl rfl, rfl, rfl⟩ ⟨⟨_, rfl, (zr_wide (show 0 ≤ Int32.toInt 0 ∧ Int32.toInt 0 ≤ 0 from (by decide)) (by decide) (by decide))⟩, o117_, f119_, (by omega)⟩
  have u130_ : Int32.toInt 0 = 0 := by decide
  have j131_ : (Int32.toInt (M.1 6 3) ≤ -1 ∨ Int32.toInt (M.1 6 2) ≤ 99) := by omega
  exact hlz103_ _ 0 M hok pvfr_0 (zr_wide (show 0 ≤ Int32.toInt 0 ∧ Int32.toInt 0 ≤ 0 from (by decide)) (by decide) (by decide)) j131_ (zhid (Nat.lt_succ_self _))
def fpL_X5_readNumber_6 : List (Nat × Nat × Nat) := [(0, 6, 3), (0, 6, 4)]
def fp_X5_readNumber_6 (q k : Nat) : Bool := pvfp fpL_X5_readNumber_6 q k
theorem fp_X5_readNumber_6_fp_X5_goOn_6 (a b : Nat) (h : fp_X5_goOn_6 a b = true) : fp_X5_readNumber_6 a b = true := pvfp_sub (l1 := fpL_X5_goOn_6) (l2 := fpL_X5_readNumber_6) (by decide) a b h
set_option maxHeartbeats 4000000 in
set_option maxRecDepth 10000 in
theorem sf_X5_readNumber_6 (M : pvM) (hok : pvOk M) (hx0 : (Int32.toInt (M.1 6 3) ≤ -1 ∨ Int32.toInt (M.1 6 2) ≤ 99)) (d : Nat) : PW 144 d (0, [some (pvR 6), none], [], M) (fun r X => (∃ x : Int32, r = some (pvI x) ∧ (-1) ≤ Int32.toInt x ∧ Int32.toInt x ≤ 99) ∧ pvOk X ∧ pvFr fp_X5_readNumber_6 M X ∧ (Int32.toInt (X.1 6 3) ≤ -1 ∨ Int32.toInt (X.1 6 2) ≤ 99)) := by
  have hT : pvdom 144 = pvD_144 := rfl
  have b1_ : (-1) ≤ Int32.toInt (M.1 6 2) ∧ Int32.toInt (M.1 6 2) ≤ 100 := pvok_r hok 6 2 rfl
  have b2_ : (-1) ≤ Int32.toInt (M.1 6 3) ∧ Int32.toInt (M.1 6 3) ≤ 127 := pvok_r hok 6 3 rfl
  refine pw_blk hT 3 (S' := (6, [some (pvR 6), none], [pvI 48, pvI (M.1 6 3)], M)) rfl ⟨trivial, rfl, trivial, trivial⟩ ?_
  refine pw_ic hT (c := (M.1 6 3) < 48) rfl rfl (fun c3_ => ?_) (fun c3_ => ?_)
  · have b4_ : (-1) ≤ Int32.toInt (M.1 6 3) ∧ Int32.toInt (M.1 6 3) ≤ 47 := zr_lt_l 47 c3_ b2_ (show 48 ≤ Int32.toInt 48 ∧ Int32.toInt 48 ≤ 48 from (by decide)) (by decide)
    refine pw_blk hT 1 (S' := (19, [some (pvR 6), none], [pvI (-1)], M)) rfl ⟨trivial, trivial⟩ ?_
    exact pw_ret hT rfl (r := some (pvI (-1))) (M' := M) ⟨rfl, rfl⟩ ⟨⟨_, rfl, (zr_wide (show (-1) ≤ Int32.toInt (-1) ∧ Int32.toInt (-1) ≤ (-1) from (by decide)) (by decide) (by decide))⟩, hok, pvfr_0, (by omega)⟩
  · have b5_ : 48 ≤ Int32.toInt (M.1 6 3) ∧ Int32.toInt (M.1 6 3) ≤ 127 := zr_nlt_l 48 c3_ b2_ (show 48 ≤ Int32.toInt 48 ∧ Int32.toInt 48 ≤ 48 from (by decide)) (by decide)
    refine pw_blk hT 3 (S' := (15, [some (pvR 6), none], [pvI 57, pvI (M.1 6 3)], M)) rfl ⟨trivial, rfl, trivial, trivial⟩ ?_
    refine pw_ic hT (c := (M.1 6 3) ≤ 57) rfl rfl (fun c6_ => ?_) (fun c6_ => ?_)
    · have b7_ : 48 ≤ Int32.toInt (M.1 6 3) ∧ Int32.toInt (M.1 6 3) ≤ 57 := zr_le_l 57 c6_ b5_ (show 57 ≤ Int32.toInt 57 ∧ Int32.toInt 57 ≤ 57 from (by decide)) (by decide)
      obtain ⟨q9_, b8_⟩ : (Int32.toInt ((M.1 6 3) - 48) = Int32.toInt (M.1 6 3) - 48) ∧ (0 ≤ Int32.toInt ((M.1 6 3) - 48) ∧ Int32.toInt ((M.1 6 3) - 48) ≤ 9) := zsub_k (M.1 6 3) 48 48 0 9 b7_ (by decide) (by decide) (by decide) (by decide) (by decide)
      refine pw_blk hT 6 (S' := (29, [some (pvR 6), some (pvI ((M.1 6 3) - 48))], [pvR 6], M)) rfl ⟨trivial, rfl, trivial, trivial, trivial, trivial, trivial⟩ ?_
      refine pw_callVd hT (as := [pvR 6]) (lo1 := [some (pvR 6)]) (d1 := d) (rest := []) rfl rfl rfl rfl rfl (fun _ => rfl) (Nat.zero_le _) rfl rfl rfl (sf_X5_goOn_6 M hok (by have u0 := b1_; omega) d) (fun M12_ o14_ g15_ d10_ => ?_)
      have f16_ : pvFr fp_X5_readNumber_6 M M12_ := pvfr_t g15_ pvfr_0 fp_X5_readNumber_6_fp_X5_goOn_6
      have b17_ : (-1) ≤ Int32.toInt (M12_.1 6 3) ∧ Int32.toInt (M12_.1 6 3) ≤ 127 := pvok_r o14_ 6 3 rfl
      refine pw_blk hT 3 (S' := (38, [some (pvR 6), some (pvI ((M.1 6 3) - 48))], [pvI 48, pvI (M12_.1 6 3)], M12_)) rfl ⟨trivial, rfl, trivial, trivial⟩ ?_
      refine pw_ic hT (c := (M12_.1 6 3) < 48) rfl rfl (fun c18_ => ?_) (fun c18_ => ?_)
      · have b19_ : (-1) ≤ Int32.toInt (M12_.1 6 3) ∧ Int32.toInt (M12_.1 6 3) ≤ 47 := zr_lt_l 47 c18_ b17_ (show 48 ≤ Int32.toInt 48 ∧ Int32.toInt 48 ≤ 48 from (by decide)) (by decide)
        refine pw_blk hT 1 (S' := (51, [some (pvR 6), some (pvI ((M.1 6 3) - 48))], [pvI ((M.1 6 3) - 48)], M12_)) rfl ⟨trivial, trivial⟩ ?_
        have b20_ : (-1) ≤ Int32.toInt (M12_.1 6 2) ∧ Int32.toInt (M12_.1 6 2) ≤ 100 := pvok_r o14_ 6 2 rfl
        exact pw_ret hT rfl (r := some (pvI ((M.1 6 3) - 48))) (M' := M12_) ⟨rfl, rfl⟩ ⟨⟨_, rfl, (zr_wide b8_ (by decide) (by decide))⟩, o14_, f16_, (by omega)⟩
      · have b21_ : 48 ≤ Int32.toInt (M12_.1 6 3) ∧ Int32.toInt (M12_.1 6 3) ≤ 127 := zr_nlt_l 48 c18_ b17_ (show 48 ≤ Int32.toInt 48 ∧ Int32.toInt 48 ≤ 48 from (by decide)) (by decide)
        refine pw_blk hT 3 (S' := (47, [some (pvR 6), some (pvI ((M.1 6 3) - 48))], [pvI 57, pvI (M12_.1 6 3)], M12_)) rfl ⟨trivial, rfl, trivial, trivial⟩ ?_
        refine pw_ic hT (c := (M12_.1 6 3) ≤ 57) rfl rfl (fun c22_ => ?_) (fun c22_ => ?_)
        · have b23_ : 48 ≤ Int32.toInt (M12_.1 6 3) ∧ Int32.toInt (M12_.1 6 3) ≤ 57 := zr_le_l 57 c22_ b21_ (show 57 ≤ Int32.toInt 57 ∧ Int32.toInt 57 ≤ 57 from (by decide)) (by decide)
          have q24_ : Int32.toInt (10 * ((M.1 6 3) - 48)) = 10 * Int32.toInt ((M.1 6 3) - 48) := by have u0 : Int32.toInt 10 = 10 := (by decide); have u1 := b8_; have u2 := zmul 10 ((M.1 6 3) - 48) (by rw [u0]; omega) (by rw [u0]; omega); rw [u0] at u2; omega
          have b25_ : 0 ≤ Int32.toInt (10 * ((M.1 6 3) - 48)) ∧ Int32.toInt (10 * ((M.1 6 3) - 48)) ≤ 90 := (by have u1 := b8_; omega)
          obtain ⟨q27_, b26_⟩ : (Int32.toInt ((10 * ((M.1 6 3) - 48)) + (M12_.1 6 3)) = Int32.toInt (10 * ((M.1 6 3) - 48)) + Int32.toInt (M12_.1 6 3)) ∧ (48 ≤ Int32.toInt ((10 * ((M.1 6 3) - 48)) + (M12_.1 6 3)) ∧ Int32.toInt ((10 * ((M.1 6 3) - 48)) + (M12_.1 6 3)) ≤ 147) := zadd_r (10 * ((M.1 6 3) - 48)) (M12_.1 6 3) 48 147 b25_ b23_ (by decide) (by decide) (by decide) (by decide)
          obtain ⟨q29_, b28_⟩ : (Int32.toInt (((10 * ((M.1 6 3) - 48)) + (M12_.1 6 3)) - 48) = Int32.toInt ((10 * ((M.1 6 3) - 48)) + (M12_.1 6 3)) - 48) ∧ (0 ≤ Int32.toInt (((10 * ((M.1 6 3) - 48)) + (M12_.1 6 3)) - 48) ∧ Int32.toInt (((10 * ((M.1 6 3) - 48)) + (M12_.1 6 3)) - 48) ≤ 99) := zsub_k ((10 * ((M.1 6 3) - 48)) + (M12_.1 6 3)) 48 48 0 99 b26_ (by decide) (by decide) (by decide) (by decide) (by decide)
          refine pw_blk hT 10 (S' := (66, [some (pvR 6), some (pvI (((10 * ((M.1 6 3) - 48)) + (M12_.1 6 3)) - 48))], [pvR 6], M12_)) rfl ⟨trivial, trivial, trivial, trivial, rfl, trivial, trivial, trivial, trivial, trivial, trivial⟩ ?_
          have b30_ : (-1) ≤ Int32.toInt (M12_.1 6 2) ∧ Int32.toInt (M12_.1 6 2) ≤ 100 := pvok_r o14_ 6 2 rfl
          refine pw_callVd hT (as := [pvR 6]) (lo1 := [some (pvR 6)]) (d1 := d) (rest := []) rfl rfl rfl rfl rfl (fun _ => rfl) (Nat.zero_le _) rfl rfl rfl (sf_X5_goOn_6 M12_ o14_ (by have u0 := b30_; omega) d) (fun M33_ o35_ g36_ d31_ => ?_)
          have f37_ : pvFr fp_X5_readNumber_6 M M33_ := pvfr_t g36_ f16_ fp_X5_readNumber_6_fp_X5_goOn_6
          refine pw_blk hT 1 (S' := (70, [some (pvR 6), some (pvI (((10 * ((M.1 6 3) - 48)) + (M12_.1 6 3)) - 48))], [pvI (((10 * ((M.1 6 3) - 48)) + (M12_.1 6 3)) - 48)], M33_)) rfl ⟨trivial, trivial⟩ ?_
          have b38_ : (-1) ≤ Int32.toInt (M33_.1 6 2) ∧ Int32.toInt (M33_.1 6 2) ≤ 100 := pvok_r o35_ 6 2 rfl
          have b39_ : (-1) ≤ Int32.toInt (M33_.1 6 3) ∧ Int32.toInt (M33_.1 6 3) ≤ 127 := pvok_r o35_ 6 3 rfl
          exact pw_ret hT rfl (r := some (pvI (((10 * ((M.1 6 3) - 48)) + (M12_.1 6 3)) - 48))) (M' := M33_) ⟨rfl, rfl⟩ ⟨⟨_, rfl, (zr_wide b28_ (by decide) (by decide))⟩, o35_, f37_, (by omega)⟩
        · have b40_ : 58 ≤ Int32.toInt (M12_.1 6 3) ∧ Int32.toInt (M12_.1 6 3) ≤ 127 := zr_nle_l 58 c22_ b21_ (show 57 ≤ Int32.toInt 57 ∧ Int32.toInt 57 ≤ 57 from (by decide)) (by decide)
          refine pw_blk hT 1 (S' := (51, [some (pvR 6), some (pvI ((M.1 6 3) - 48))], [pvI ((M.1 6 3) - 48)], M12_)) rfl ⟨trivial, trivial⟩ ?_
          have b41_ : (-1) ≤ Int32.toInt (M12_.1 6 2) ∧ Int32.toInt (M12_.1 6 2) ≤ 100 := pvok_r o14_ 6 2 rfl
          exact pw_ret hT rfl (r := some (pvI ((M.1 6 3) - 48))) (M' := M12_) ⟨rfl, rfl⟩ ⟨⟨_, rfl, (zr_wide b8_ (by decide) (by decide))⟩, o14_, f16_, (by omega)⟩
    · have b42_ : 58 ≤ Int32.toInt (M.1 6 3) ∧ Int32.toInt (M.1 6 3) ≤ 127 := zr_nle_l 58 c6_ b5_ (show 57 ≤ Int32.toInt 57 ∧ Int32.toInt 57 ≤ 57 from (by decide)) (by decide)
      refine pw_blk hT 1 (S' := (19, [some (pvR 6), none], [pvI (-1)], M)) rfl ⟨trivial, trivial⟩ ?_
      exact pw_ret hT rfl (r := some (pvI (-1))) (M' := M) ⟨rfl, rfl⟩ ⟨⟨_, rfl, (zr_wide (show (-1) ≤ Int32.toInt (-1) ∧ Int32.toInt (-1) ≤ (-1) from (by decide)) (by decide) (by decide))⟩, hok, pvfr_0, (by omega)⟩
def fpL_X5_readOneOf_6_x : List (Nat × Nat × Nat) := [(0, 6, 3), (0, 6, 4)]
def fp_X5_readOneOf_6_x (q k : Nat) : Bool := pvfp fpL_X5_readOneOf_6_x q k
theorem fp_X5_readOneOf_6_x_fp_X5_goOn_6 (a b : Nat) (h : fp_X5_goOn_6 a b = true) : fp_X5_readOneOf_6_x a b = true := pvfp_sub (l1 := fpL_X5_goOn_6) (l2 := fpL_X5_readOneOf_6_x) (by decide) a b h
set_option maxHeartbeats 4000000 in
set_option maxRecDepth 10000 in
theorem sf_X5_readOneOf_6_x (M : pvM) (hok : pvOk M) (q1 : Nat) (hq1 : 1010 ≤ q1 ∧ q1 < 1017) (hx0 : (Int32.toInt (M.1 6 3) ≤ -1 ∨ Int32.toInt (M.1 6 2) ≤ 99)) (d : Nat) : PW 146 d (0, [some (pvR 6), some (pvR q1), none], [], M) (fun r X => (∃ x : Int32, r = some (pvI x) ∧ (-1) ≤ Int32.toInt x ∧ Int32.toInt x ≤ 5) ∧ pvOk X ∧ pvFr fp_X5_readOneOf_6_x M X ∧ (Int32.toInt (X.1 6 3) ≤ -1 ∨ Int32.toInt (X.1 6 2) ≤ 99)) := by
  have hT : pvdom 146 = pvD_146 := rfl
  have b1_ : (-1) ≤ Int32.toInt (M.1 6 2) ∧ Int32.toInt (M.1 6 2) ≤ 100 := pvok_r hok 6 2 rfl
  have b2_ : (-1) ≤ Int32.toInt (M.1 6 3) ∧ Int32.toInt (M.1 6 3) ≤ 127 := pvok_r hok 6 3 rfl
  refine pw_blk hT 3 (S' := (5, [some (pvR 6), some (pvR q1), none], [pvI (-1), pvI (M.1 6 3)], M)) rfl ⟨trivial, rfl, trivial, trivial⟩ ?_
  refine pw_icn hT (c := (M.1 6 3) = (-1)) rfl rfl (fun c3_ => ?_) (fun c3_ => ?_)
  · have b4_ : 0 ≤ Int32.toInt (M.1 6 3) ∧ Int32.toInt (M.1 6 3) ≤ 127 := (by have u0 := b2_; have u1 := (not_congr (zi_eq _ _)).mp c3_; have u2 := (show (-1) ≤ Int32.toInt (-1) ∧ Int32.toInt (-1) ≤ (-1) from (by decide)); omega)
    have b5_ : 0 ≤ Int32.toInt (UInt32.toInt32 (Int32.toUInt32 (M.1 6 3) % 65536)) ∧ Int32.toInt (UInt32.toInt32 (Int32.toUInt32 (M.1 6 3) % 65536)) ≤ 127 := (by rw [pvi2c (zr_wide b4_ (by decide) (by decide))]; exact b4_)
    refine pw_blk hT 4 (S' := (18, [some (pvR 6), some (pvR q1), none], [pvI (UInt32.toInt32 (Int32.toUInt32 (M.1 6 3) % 65536)), pvR q1], M)) rfl ⟨trivial, trivial, rfl, trivial, trivial⟩ ?_
    refine pw_sx hT rfl (S' := (21, [some (pvR 6), some (pvR q1), none], [pvI (pvixF (UInt32.toInt32 (Int32.toUInt32 (M.1 6 3) % 65536)) (zsb.getD (q1 - 1010) []) 0)], M)) (fun F hF => ⟨hq1.1, hq1.2, Nat.le_of_ble_eq_true rfl, (by have u0 := b5_; rw [zi_le]; have u2 : (0 : Int32).toInt = 0 := (by decide); omega), (by have u0 := b5_; rw [zi_lt]; have u2 : (128 : Int32).toInt = 128 := (by decide); omega), hF⟩) ?_
    have b6_ : (-1) ≤ Int32.toInt (pvixF (UInt32.toInt32 (Int32.toUInt32 (M.1 6 3) % 65536)) (zsb.getD (q1 - 1010) []) 0) ∧ Int32.toInt (pvixF (UInt32.toInt32 (Int32.toUInt32 (M.1 6 3) % 65536)) (zsb.getD (q1 - 1010) []) 0) ≤ 5 := (pvix_r _ _)
    refine pw_blk hT 2 (S' := (23, [some (pvR 6), some (pvR q1), some (pvI (pvixF (UInt32.toInt32 (Int32.toUInt32 (M.1 6 3) % 65536)) (zsb.getD (q1 - 1010) []) 0))], [pvI (pvixF (UInt32.toInt32 (Int32.toUInt32 (M.1 6 3) % 65536)) (zsb.getD (q1 - 1010) []) 0)], M)) rfl ⟨trivial, trivial, trivial⟩ ?_
    refine pw_if hT (c := (pvixF (UInt32.toInt32 (Int32.toUInt32 (M.1 6 3) % 65536)) (zsb.getD (q1 - 1010) []) 0) < 0) rfl rfl (fun c7_ => ?_) (fun c7_ => ?_)
    · have b8_ : (-1) ≤ Int32.toInt (pvixF (UInt32.toInt32 (Int32.toUInt32 (M.1 6 3) % 65536)) (zsb.getD (q1 - 1010) []) 0) ∧ Int32.toInt (pvixF (UInt32.toInt32 (Int32.toUInt32 (M.1 6 3) % 65536)) (zsb.getD (q1 - 1010) []) 0) ≤ (-1) := zr_lt_l (-1) c7_ b6_ (show 0 ≤ Int32.toInt 0 ∧ Int32.toInt 0 ≤ 0 from (by decide)) (by decide)
      refine pw_blk hT 1 (S' := (31, [some (pvR 6), some (pvR q1), some (pvI (pvixF (UInt32.toInt32 (Int32.toUInt32 (M.1 6 3) % 65536)) (zsb.getD (q1 - 1010) []) 0))], [pvI (pvixF (UInt32.toInt32 (Int32.toUInt32 (M.1 6 3) % 65536)) (zsb.getD (q1 - 1010) []) 0)], M)) rfl ⟨trivial, trivial⟩ ?_
      exact pw_ret hT rfl (r := some (pvI (pvixF (UInt32.toInt32 (Int32.toUInt32 (M.1 6 3) % 65536)) (zsb.getD (q1 - 1010) []) 0))) (M' := M) ⟨rfl, rfl⟩ ⟨⟨_, rfl, (zr_wide b8_ (by decide) (by decide))⟩, hok, pvfr_0, (by omega)⟩
    · have b9_ : 0 ≤ Int32.toInt (pvixF (UInt32.toInt32 (Int32.toUInt32 (M.1 6 3) % 65536)) (zsb.getD (q1 - 1010) []) 0) ∧ Int32.toInt (pvixF (UInt32.toInt32 (Int32.toUInt32 (M.1 6 3) % 65536)) (zsb.getD (q1 - 1010) []) 0) ≤ 5 := zr_nlt_l 0 c7_ b6_ (show 0 ≤ Int32.toInt 0 ∧ Int32.toInt 0 ≤ 0 from (by decide)) (by decide)
      refine pw_blk hT 1 (S' := (27, [some (pvR 6), some (pvR q1), some (pvI (pvixF (UInt32.toInt32 (Int32.toUInt32 (M.1 6 3) % 65536)) (zsb.getD (q1 - 1010) []) 0))], [pvR 6], M)) rfl ⟨trivial, trivial⟩ ?_
      refine pw_callVd hT (as := [pvR 6]) (lo1 := [some (pvR 6)]) (d1 := d) (rest := []) rfl rfl rfl rfl rfl (fun _ => rfl) (Nat.zero_le _) rfl rfl rfl (sf_X5_goOn_6 M hok (by have u0 := b1_; omega) d) (fun M12_ o14_ g15_ d10_ => ?_)
      have f16_ : pvFr fp_X5_readOneOf_6_x M M12_ := pvfr_t g15_ pvfr_0 fp_X5_readOneOf_6_x_fp_X5_goOn_6
      refine pw_blk hT 1 (S' := (31, [some (pvR 6), some (pvR q1), some (pvI (pvixF (UInt32.toInt32 (Int32.toUInt32 (M.1 6 3) % 65536)) (zsb.getD (q1 - 1010) []) 0))], [pvI (pvixF (UInt32.toInt32 (Int32.toUInt32 (M.1 6 3) % 65536)) (zsb.getD (q1 - 1010) []) 0)], M12_)) rfl ⟨trivial, trivial⟩ ?_
      have b17_ : (-1) ≤ Int32.toInt (M12_.1 6 2) ∧ Int32.toInt (M12_.1 6 2) ≤ 100 := pvok_r o14_ 6 2 rfl
      have b18_ : (-1) ≤ Int32.toInt (M12_.1 6 3) ∧ Int32.toInt (M12_.1 6 3) ≤ 127 := pvok_r o14_ 6 3 rfl
      exact pw_ret hT rfl (r := some (pvI (pvixF (UInt32.toInt32 (Int32.toUInt32 (M.1 6 3) % 65536)) (zsb.getD (q1 - 1010) []) 0))) (M' := M12_) ⟨rfl, rfl⟩ ⟨⟨_, rfl, (zr_wide b9_ (by decide) (by decide))⟩, o14_, f16_, (by omega)⟩
  · have b19_ : (-1) ≤ Int32.toInt (M.1 6 3) ∧ Int32.toInt (M.1 6 3) ≤ (-1) := (by have u0 := b2_; have u1 := (zi_eq _ _).mp c3_; have u2 := (show (-1) ≤ Int32.toInt (-1) ∧ Int32.toInt (-1) ≤ (-1) from (by decide)); omega)
    refine pw_blk hT 4 (S' := (23, [some (pvR 6), some (pvR q1), some (pvI (-1))], [pvI (-1)], M)) rfl ⟨trivial, trivial, trivial, trivial, trivial⟩ ?_
    refine pw_if hT (c := (-1) < 0) rfl rfl (fun c20_ => ?_) (fun c20_ => absurd (by decide) c20_)
    refine pw_blk hT 1 (S' := (31, [some (pvR 6), some (pvR q1), some (pvI (-1))], [pvI (-1)], M)) rfl ⟨trivial, trivial⟩ ?_
    exact pw_ret hT rfl (r := some (pvI (-1))) (M' := M) ⟨rfl, rfl⟩ ⟨⟨_, rfl, (zr_wide (show (-1) ≤ Int32.toInt (-1) ∧ Int32.toInt (-1) ≤ (-1) from (by decide)) (by decide) (by decide))⟩, hok, pvfr_0, (by omega)⟩
def fpL_X2_addStep_x_x : List (Nat × Nat × Nat) := [(1, 111, 0), (1, 2, 6)]
def fp_X2_addStep_x_x (q k : Nat) : Bool := pvfp fpL_X2_addStep_x_x q k
set_option maxHeartbeats 4000000 in
set_option maxRecDepth 10000 in
theorem sf_X2_addStep_x_x (M : pvM) (hok : pvOk M) (q0 : Nat) (n1 : Int32) (hq0 : pvkl q0 = 2) (hn1 : (-3) ≤ Int32.toInt n1 ∧ Int32.toInt n1 ≤ 2099) (d : Nat) : PW 123 d (0, [some (pvR q0), some (pvI n1)], [], M) (fun r X => r = none ∧ pvOk X ∧ pvFr fp_X2_addStep_x_x M X) := by
  have hT : pvdom 123 = pvD_123 := rfl
  have b1_ : 0 ≤ Int32.toInt (M.1 q0 5) ∧ Int32.toInt (M.1 q0 5) ≤ 100 := pvok_r hok q0 5 ((pvrg_o 5 hq0 (by decide) (by decide)).trans rfl)
  have b2_ : 100 ≤ Int32.toInt (Int32.ofNat (pvln (q0 + 27))) ∧ Int32.toInt (Int32.ofNat (pvln (q0 + 27))) ≤ 100 := (by rw [(pvow_2_27 hq0).2.1]; decide)
  refine pw_blk hT 5 (S' := (9, [some (pvR q0), some (pvI n1)], [pvI (Int32.ofNat (pvln (q0 + 27))), pvI (M.1 q0 5)], M)) rfl ⟨trivial, hq0, trivial, hq0, (pvow_2_27 hq0).1, trivial⟩ ?_
  refine pw_ic hT (c := (M.1 q0 5) < (Int32.ofNat (pvln (q0 + 27)))) rfl rfl (fun c3_ => ?_) (fun c3_ => ?_)
  · have b4_ : 0 ≤ Int32.toInt (M.1 q0 5) ∧ Int32.toInt (M.1 q0 5) ≤ 99 := zr_lt_l 99 c3_ b1_ b2_ (by decide)
    have d5_ : Int32.toInt (M.1 q0 5) < Int32.toInt (Int32.ofNat (pvln (q0 + 27))) := (zi_lt _ _).mp c3_
    refine pw_blkw hT 6 (pc := 23) (lo := [some (pvR q0), some (pvI n1)]) (st := []) (M := pvu M (q0 + 27) (Int32.toNatClampNeg (M.1 q0 5)) n1) rfl ⟨trivial, hq0, trivial, hq0, trivial, ⟨(pvow_2_27 hq0).1, (by rw [(pvow_2_27 hq0).2.1]; exact (zr_in (n := 100) b4_ (by decide) (by decide)))⟩, trivial⟩ (fun M6_ e7_ => ?_)
    have o8_ : pvOk M6_ := pvok_u2 e7_ hok ((pvrg_a _ (by rw [(pvow_2_27 hq0).1]; decide)).trans (pvow_2_27 hq0).2.2.2) hn1
    have f9_ : pvFr fp_X2_addStep_x_x M M6_ := pvfr_u e7_ pvfr_0 (pvfp_r (l := fpL_X2_addStep_x_x) (pvow_2_27 hq0).2.2.1 (kk := 0) (by decide) (Or.inl rfl))
    have e10_ : (M6_.1 q0 5) = (M.1 q0 5) := (pvu_n e7_ q0 5 (Or.inl (by omega)))
    have b11_ : 0 ≤ Int32.toInt (M6_.1 q0 5) ∧ Int32.toInt (M6_.1 q0 5) ≤ 99 := (by rw [e10_]; exact b4_)
    obtain ⟨q13_, b12_⟩ : (Int32.toInt ((M6_.1 q0 5) + 1) = Int32.toInt (M6_.1 q0 5) + 1) ∧ (1 ≤ Int32.toInt ((M6_.1 q0 5) + 1) ∧ Int32.toInt ((M6_.1 q0 5) + 1) ≤ 100) := zadd_k (M6_.1 q0 5) 1 1 1 100 b11_ (by decide) (by decide) (by decide) (by decide) (by decide)
    refine pw_blkw hT 6 (pc := 33) (lo := [some (pvR q0), some (pvI n1)]) (st := []) (M := pvu M6_ q0 5 ((M6_.1 q0 5) + 1)) rfl ⟨trivial, trivial, hq0, trivial, trivial, hq0, trivial⟩ (fun M14_ e15_ => ?_)
    have o16_ : pvOk M14_ := pvok_u2 e15_ o8_ ((pvrg_o 5 hq0 (by decide) (by decide)).trans rfl) (zr_wide b12_ (by decide) (by decide))
    have f17_ : pvFr fp_X2_addStep_x_x M M14_ := pvfr_u e15_ f9_ (pvfp_r (l := fpL_X2_addStep_x_x) (pvowr_2 hq0) (kk := 6) (by decide) (Or.inr rfl))
    exact pw_ret hT rfl (r := none) (M' := M14_) ⟨rfl, rfl⟩ ⟨rfl, o16_, f17_⟩
  · have b18_ : 100 ≤ Int32.toInt (M.1 q0 5) ∧ Int32.toInt (M.1 q0 5) ≤ 100 := zr_nlt_l 100 c3_ b1_ b2_ (by decide)
    have d19_ : Int32.toInt (M.1 q0 5) ≥ Int32.toInt (Int32.ofNat (pvln (q0 + 27))) := Int.not_lt.mp ((not_congr (zi_lt _ _)).mp c3_)
    exact pw_ret hT rfl (r := none) (M' := M) ⟨rfl, rfl⟩ ⟨rfl, hok, pvfr_0⟩
def fpL_X2_addTest_x_x_x_x : List (Nat × Nat × Nat) := [(1, 111, 0), (1, 2, 6)]
def fp_X2_addTest_x_x_x_x (q k : Nat) : Bool := pvfp fpL_X2_addTest_x_x_x_x q k
theorem fp_X2_addTest_x_x_x_x_fp_X2_addStep_x_x (a b : Nat) (h : fp_X2_addStep_x_x a b = true) : fp_X2_addTest_x_x_x_x a b = true := pvfp_sub (l1 := fpL_X2_addStep_x_x) (l2 := fpL_X2_addTest_x_x_x_x) (by decide) a b h
set_option maxHeartbeats 4000000 in
set_option maxRecDepth 10000 in
theorem sf_X2_addTest_x_x_x_x (M : pvM) (hok : pvOk M) (q0 : Nat) (n1 : Int32) (n2 : Int32) (n3 : Int32) (hq0 : pvkl q0 = 2) (hn1 : 0 ≤ Int32.toInt n1 ∧ Int32.toInt n1 ≤ 5) (hn2 : 0 ≤ Int32.toInt n2 ∧ Int32.toInt n2 ≤ 5) (hn3 : 0 ≤ Int32.toInt n3 ∧ Int32.toInt n3 ≤ 99) (d : Nat) : PW 124 d (0, [some (pvR q0), some (pvI n1), some (pvI n2), some (pvI n3)], [], M) (fun r X => r = none ∧ pvOk X ∧ pvFr fp_X2_addTest_x_x_x_x M X) := by
  have hT : pvdom 124 = pvD_124 := rfl
  have q1_ : Int32.toInt (n1 * 3) = 3 * Int32.toInt n1 := by have u0 : Int32.toInt 3 = 3 := (by decide); have u1 := hn1; have u2 := zmul n1 3 (by rw [u0]; omega) (by rw [u0]; omega); rw [u0] at u2; omega
  have b2_ : 0 ≤ Int32.toInt (n1 * 3) ∧ Int32.toInt (n1 * 3) ≤ 15 := (by have u1 := hn1; omega)
  obtain ⟨q4_, b3_⟩ : (Int32.toInt ((n1 * 3) + n2) = Int32.toInt (n1 * 3) + Int32.toInt n2) ∧ (0 ≤ Int32.toInt ((n1 * 3) + n2) ∧ Int32.toInt ((n1 * 3) + n2) ≤ 20) := zadd_r (n1 * 3) n2 0 20 b2_ hn2 (by decide) (by decide) (by decide) (by decide)
  have q5_ : Int32.toInt (((n1 * 3) + n2) * 100) = 100 * Int32.toInt ((n1 * 3) + n2) := by have u0 : Int32.toInt 100 = 100 := (by decide); have u1 := b3_; have u2 := zmul ((n1 * 3) + n2) 100 (by rw [u0]; omega) (by rw [u0]; omega); rw [u0] at u2; omega
  have b6_ : 0 ≤ Int32.toInt (((n1 * 3) + n2) * 100) ∧ Int32.toInt (((n1 * 3) + n2) * 100) ≤ 2000 := (by have u1 := b3_; omega)
  obtain ⟨q8_, b7_⟩ : (Int32.toInt ((((n1 * 3) + n2) * 100) + n3) = Int32.toInt (((n1 * 3) + n2) * 100) + Int32.toInt n3) ∧ (0 ≤ Int32.toInt ((((n1 * 3) + n2) * 100) + n3) ∧ Int32.toInt ((((n1 * 3) + n2) * 100) + n3) ≤ 2099) := zadd_r (((n1 * 3) + n2) * 100) n3 0 2099 b6_ hn3 (by decide) (by decide) (by decide) (by decide)
  refine pw_blk hT 10 (S' := (11, [some (pvR q0), some (pvI n1), some (pvI n2), some (pvI n3)], [pvI ((((n1 * 3) + n2) * 100) + n3), pvR q0], M)) rfl ⟨trivial, trivial, trivial, trivial, trivial, trivial, trivial, trivial, trivial, trivial, trivial⟩ ?_
  refine pw_callV hT (as := [pvR q0, pvI ((((n1 * 3) + n2) * 100) + n3)]) (lo1 := [some (pvR q0), some (pvI ((((n1 * 3) + n2) * 100) + n3))]) (d1 := d) (rest := []) rfl rfl rfl rfl rfl (fun _ => hq0) (Nat.zero_le _) rfl rfl rfl (sf_X2_addStep_x_x M hok q0 ((((n1 * 3) + n2) * 100) + n3) hq0 (zr_wide b7_ (by decide) (by decide)) d) (fun M10_ o12_ g13_ => ?_)
  have f14_ : pvFr fp_X2_addTest_x_x_x_x M M10_ := pvfr_t g13_ pvfr_0 fp_X2_addTest_x_x_x_x_fp_X2_addStep_x_x
  exact pw_ret hT rfl (r := none) (M' := M10_) ⟨rfl, rfl⟩ ⟨rfl, o12_, f14_⟩
def fpL_X5_readTest_6 : List (Nat × Nat × Nat) := [(0, 6, 3), (0, 6, 4), (1, 111, 0), (1, 2, 6)]
def fp_X5_readTest_6 (q k : Nat) : Bool := pvfp fpL_X5_readTest_6 q k
theorem fp_X5_readTest_6_fp_X2_addTest_x_x_x_x (a b : Nat) (h : fp_X2_addTest_x_x_x_x a b = true) : fp_X5_readTest_6 a b = true := pvfp_sub (l1 := fpL_X2_addTest_x_x_x_x) (l2 := fpL_X5_readTest_6) (by decide) a b h
theorem fp_X5_readTest_6_fp_X5_readNumber_6 (a b : Nat) (h : fp_X5_readNumber_6 a b = true) : fp_X5_readTest_6 a b = true := pvfp_sub (l1 := fpL_X5_readNumber_6) (l2 := fpL_X5_readTest_6) (by decide) a b h
theorem fp_X5_readTest_6_fp_X5_readOneOf_6_x (a b : Nat) (h : fp_X5_readOneOf_6_x a b = true) : fp_X5_readTest_6 a b = true := pvfp_sub (l1 := fpL_X5_readOneOf_6_x) (l2 := fpL_X5_readTest_6) (by decide) a b h
set_option maxHeartbeats 4000000 in
set_option maxRecDepth 10000 in
theorem sf_X5_readTest_6 (M : pvM) (hok : pvOk M) (hx0 : (Int32.toInt (M.1 6 3) ≤ -1 ∨ Int32.toInt (M.1 6 2) ≤ 99)) (d : Nat) : PW 148 d (0, [some (pvR 6), none, none, none], [], M) (fun r X => (∃ x : Int32, r = some (pvI x) ∧ 0 ≤ Int32.toInt x ∧ Int32.toInt x ≤ 1) ∧ pvOk X ∧ pvFr fp_X5_readTest_6 M X ∧ (Int32.toInt (X.1 6 3) ≤ -1 ∨ Int32.toInt (X.1 6 2) ≤ 99)) := by
  have hT : pvdom 148 = pvD_148 := rfl
  have b1_ : (-1) ≤ Int32.toInt (M.1 6 2) ∧ Int32.toInt (M.1 6 2) ≤ 100 := pvok_r hok 6 2 rfl
  have b2_ : (-1) ≤ Int32.toInt (M.1 6 3) ∧ Int32.toInt (M.1 6 3) ≤ 127 := pvok_r hok 6 3 rfl
  refine pw_blk hT 2 (S' := (3, [some (pvR 6), none, none, none], [pvR 1015, pvR 6], M)) rfl ⟨trivial, (by decide), trivial⟩ ?_
  refine pw_callGd hT (as := [pvR 6, pvR 1015]) (lo1 := [some (pvR 6), some (pvR 1015), none]) (d1 := d) (rest := []) rfl rfl rfl rfl rfl (fun _ => rfl) (Nat.zero_le _) rfl rfl rfl (sf_X5_readOneOf_6_x M hok 1015 ⟨by decide, by decide⟩ (show (Int32.toInt (M.1 6 3) ≤ -1 ∨ Int32.toInt (M.1 6 2) ≤ 99) from (by omega)) d) (fun x4_ M5_ b6_ o7_ g8_ d3_ => ?_)
  have f9_ : pvFr fp_X5_readTest_6 M M5_ := pvfr_t g8_ pvfr_0 fp_X5_readTest_6_fp_X5_readOneOf_6_x
  refine pw_blk hT 2 (S' := (8, [some (pvR 6), some (pvI x4_), none, none], [pvI x4_], M5_)) rfl ⟨trivial, trivial, trivial⟩ ?_
  refine pw_if hT (c := 0 ≤ x4_) rfl rfl (fun c10_ => ?_) (fun c10_ => ?_)
  · have b11_ : 0 ≤ Int32.toInt x4_ ∧ Int32.toInt x4_ ≤ 5 := zr_le_r 0 c10_ b6_ (show 0 ≤ Int32.toInt 0 ∧ Int32.toInt 0 ≤ 0 from (by decide)) (by decide)
    refine pw_blk hT 2 (S' := (16, [some (pvR 6), some (pvI x4_), none, none], [pvR 1016, pvR 6], M5_)) rfl ⟨trivial, (by decide), trivial⟩ ?_
    have b12_ : (-1) ≤ Int32.toInt (M5_.1 6 2) ∧ Int32.toInt (M5_.1 6 2) ≤ 100 := pvok_r o7_ 6 2 rfl
    have b13_ : (-1) ≤ Int32.toInt (M5_.1 6 3) ∧ Int32.toInt (M5_.1 6 3) ≤ 127 := pvok_r o7_ 6 3 rfl
    refine pw_callGd hT (as := [pvR 6, pvR 1016]) (lo1 := [some (pvR 6), some (pvR 1016), none]) (d1 := d) (rest := []) rfl rfl rfl rfl rfl (fun _ => rfl) (Nat.zero_le _) rfl rfl rfl (sf_X5_readOneOf_6_x M5_ o7_ 1016 ⟨by decide, by decide⟩ (show (Int32.toInt (M5_.1 6 3) ≤ -1 ∨ Int32.toInt (M5_.1 6 2) ≤ 99) from (by omega)) d) (fun x15_ M16_ b17_ o18_ g19_ d14_ => ?_)
    have f20_ : pvFr fp_X5_readTest_6 M M16_ := pvfr_t g19_ f9_ fp_X5_readTest_6_fp_X5_readOneOf_6_x
    refine pw_blk hT 2 (S' := (21, [some (pvR 6), some (pvI x4_), some (pvI x15_), none], [pvI x15_], M16_)) rfl ⟨trivial, trivial, trivial⟩ ?_
    refine pw_if hT (c := 0 ≤ x15_) rfl rfl (fun c21_ => ?_) (fun c21_ => ?_)
    · have b22_ : 0 ≤ Int32.toInt x15_ ∧ Int32.toInt x15_ ≤ 5 := zr_le_r 0 c21_ b17_ (show 0 ≤ Int32.toInt 0 ∧ Int32.toInt 0 ≤ 0 from (by decide)) (by decide)
      refine pw_blk hT 1 (S' := (27, [some (pvR 6), some (pvI x4_), some (pvI x15_), none], [pvR 6], M16_)) rfl ⟨trivial, trivial⟩ ?_
      have b23_ : (-1) ≤ Int32.toInt (M16_.1 6 2) ∧ Int32.toInt (M16_.1 6 2) ≤ 100 := pvok_r o18_ 6 2 rfl
      have b24_ : (-1) ≤ Int32.toInt (M16_.1 6 3) ∧ Int32.toInt (M16_.1 6 3) ≤ 127 := pvok_r o18_ 6 3 rfl
      refine pw_callGd hT (as := [pvR 6]) (lo1 := [some (pvR 6), none]) (d1 := d) (rest := []) rfl rfl rfl rfl rfl (fun _ => rfl) (Nat.zero_le _) rfl rfl rfl (sf_X5_readNumber_6 M16_ o18_ (show (Int32.toInt (M16_.1 6 3) ≤ -1 ∨ Int32.toInt (M16_.1 6 2) ≤ 99) from (by omega)) d) (fun x26_ M27_ b28_ o29_ g30_ d25_ => ?_)
      have f31_ : pvFr fp_X5_readTest_6 M M27_ := pvfr_t g30_ f20_ fp_X5_readTest_6_fp_X5_readNumber_6
      refine pw_blk hT 2 (S' := (32, [some (pvR 6), some (pvI x4_), some (pvI x15_), some (pvI x26_)], [pvI x26_], M27_)) rfl ⟨trivial, trivial, trivial⟩ ?_
      refine pw_if hT (c := 0 ≤ x26_) rfl rfl (fun c32_ => ?_) (fun c32_ => ?_)
      · have b33_ : 0 ≤ Int32.toInt x26_ ∧ Int32.toInt x26_ ≤ 99 := zr_le_r 0 c32_ b28_ (show 0 ≤ Int32.toInt 0 ∧ Int32.toInt 0 ≤ 0 from (by decide)) (by decide)
        have b34_ : 15 ≤ Int32.toInt (M27_.1 6 4) ∧ Int32.toInt (M27_.1 6 4) ≤ 23 := pvok_r o29_ 6 4 rfl
        refine pw_blkr hT 2 (pc := 41) (lo := [some (pvR 6), some (pvI x4_), some (pvI x15_), some (pvI x26_)]) (st := []) (M := M27_) (z := (pvhp (M27_.1 6 4))) rfl ⟨trivial, rfl, trivial⟩ (fun q35_ e37_ => ?_)
        have k36_ : pvkl q35_ = 2 := pvhp_k b34_ e37_
        refine pw_blk hT 3 (S' := (44, [some (pvR 6), some (pvI x4_), some (pvI x15_), some (pvI x26_)], [pvI x26_, pvI x15_, pvI x4_, pvR q35_], M27_)) rfl ⟨trivial, trivial, trivial, trivial⟩ ?_
        refine pw_callV hT (as := [pvR q35_, pvI x4_, pvI x15_, pvI x26_]) (lo1 := [some (pvR q35_), some (pvI x4_), some (pvI x15_), some (pvI x26_)]) (d1 := d) (rest := []) rfl rfl rfl rfl rfl (fun _ => k36_) (Nat.zero_le _) rfl rfl rfl (sf_X2_addTest_x_x_x_x M27_ o29_ q35_ x4_ x15_ x26_ k36_ b11_ b22_ b33_ d) (fun M39_ o41_ g42_ => ?_)
        have f43_ : pvFr fp_X5_readTest_6 M M39_ := pvfr_t g42_ f31_ fp_X5_readTest_6_fp_X2_addTest_x_x_x_x
        refine pw_blk hT 1 (S' := (48, [some (pvR 6), some (pvI x4_), some (pvI x15_), some (pvI x26_)], [pvI 1], M39_)) rfl ⟨trivial, trivial⟩ ?_
        have e44_ : (M39_.1 6 2) = (M27_.1 6 2) := (g42_ 6 2 rfl)
        have b45_ : (-1) ≤ Int32.toInt (M39_.1 6 2) ∧ Int32.toInt (M39_.1 6 2) ≤ 100 := pvok_r o41_ 6 2 rfl
        have d46_ : Int32.toInt (M39_.1 6 2) = Int32.toInt (M27_.1 6 2) := congrArg Int32.toInt e44_
        have e47_ : (M39_.1 6 3) = (M27_.1 6 3) := (g42_ 6 3 rfl)
        have b48_ : (-1) ≤ Int32.toInt (M39_.1 6 3) ∧ Int32.toInt (M39_.1 6 3) ≤ 127 := pvok_r o41_ 6 3 rfl
        have d49_ : Int32.toInt (M39_.1 6 3) = Int32.toInt (M27_.1 6 3) := congrArg Int32.toInt e47_
        exact pw_ret hT rfl (r := some (pvI 1)) (M' := M39_) ⟨Or.inr rfl, rfl, rfl⟩ ⟨⟨_, rfl, (zr_wide (show 1 ≤ Int32.toInt 1 ∧ Int32.toInt 1 ≤ 1 from (by decide)) (by decide) (by decide))⟩, o41_, f43_, (by omega)⟩
      · have b50_ : (-1) ≤ Int32.toInt x26_ ∧ Int32.toInt x26_ ≤ (-1) := zr_nle_r (-1) c32_ b28_ (show 0 ≤ Int32.toInt 0 ∧ Int32.toInt 0 ≤ 0 from (by decide)) (by decide)
        refine pw_blk hT 1 (S' := (36, [some (pvR 6), some (pvI x4_), some (pvI x15_), some (pvI x26_)], [pvI 0], M27_)) rfl ⟨trivial, trivial⟩ ?_
        have b51_ : (-1) ≤ Int32.toInt (M27_.1 6 2) ∧ Int32.toInt (M27_.1 6 2) ≤ 100 := pvok_r o29_ 6 2 rfl
        have b52_ : (-1) ≤ Int32.toInt (M27_.1 6 3) ∧ Int32.toInt (M27_.1 6 3) ≤ 127 := pvok_r o29_ 6 3 rfl
        exact pw_ret hT rfl (r := some (pvI 0)) (M' := M27_) ⟨Or.inl rfl, rfl, rfl⟩ ⟨⟨_, rfl, (zr_wide (show 0 ≤ Int32.toInt 0 ∧ Int32.toInt 0 ≤ 0 from (by decide)) (by decide) (by decide))⟩, o29_, f31_, (by omega)⟩
    · have b53_ : (-1) ≤ Int32.toInt x15_ ∧ Int32.toInt x15_ ≤ (-1) := zr_nle_r (-1) c21_ b17_ (show 0 ≤ Int32.toInt 0 ∧ Int32.toInt 0 ≤ 0 from (by decide)) (by decide)
      refine pw_blk hT 1 (S' := (25, [some (pvR 6), some (pvI x4_), some (pvI x15_), none], [pvI 0], M16_)) rfl ⟨trivial, trivial⟩ ?_
      have b54_ : (-1) ≤ Int32.toInt (M16_.1 6 2) ∧ Int32.toInt (M16_.1 6 2) ≤ 100 := pvok_r o18_ 6 2 rfl
      have b55_ : (-1) ≤ Int32.toInt (M16_.1 6 3) ∧ Int32.toInt (M16_.1 6 3) ≤ 127 := pvok_r o18_ 6 3 rfl
      exact pw_ret hT rfl (r := some (pvI 0)) (M' := M16_) ⟨Or.inl rfl, rfl, rfl⟩ ⟨⟨_, rfl, (zr_wide (show 0 ≤ Int32.toInt 0 ∧ Int32.toInt 0 ≤ 0 from (by decide)) (by decide) (by decide))⟩, o18_, f20_, (by omega)⟩
  · have b56_ : (-1) ≤ Int32.toInt x4_ ∧ Int32.toInt x4_ ≤ (-1) := zr_nle_r (-1) c10_ b6_ (show 0 ≤ Int32.toInt 0 ∧ Int32.toInt 0 ≤ 0 from (by decide)) (by decide)
    refine pw_blk hT 1 (S' := (12, [some (pvR 6), some (pvI x4_), none, none], [pvI 0], M5_)) rfl ⟨trivial, trivial⟩ ?_
    have b57_ : (-1) ≤ Int32.toInt (M5_.1 6 2) ∧ Int32.toInt (M5_.1 6 2) ≤ 100 := pvok_r o7_ 6 2 rfl
    have b58_ : (-1) ≤ Int32.toInt (M5_.1 6 3) ∧ Int32.toInt (M5_.1 6 3) ≤ 127 := pvok_r o7_ 6 3 rfl
    exact pw_ret hT rfl (r := some (pvI 0)) (M' := M5_) ⟨Or.inl rfl, rfl, rfl⟩ ⟨⟨_, rfl, (zr_wide (show 0 ≤ Int32.toInt 0 ∧ Int32.toInt 0 ≤ 0 from (by decide)) (by decide) (by decide))⟩, o7_, f9_, (by omega)⟩
