set_option maxHeartbeats 4000000 in
set_option maxRecDepth 10000 in
theorem sf_X6_isFull_104 (M : pvM) (hok : pvOk M) (d : Nat) : PW 154 d (0, [some (pvR 104)], [], M) (fun r X => r = some (pvI ((if (M.1 104 0) < (Int32.ofNat 8) then 0 else 1))) ∧ X = M) := by
  have hT : pvdom 154 = pvD_154 := rfl
  have b1_ : 0 ≤ Int32.toInt (M.1 104 0) ∧ Int32.toInt (M.1 104 0) ≤ 8 := pvok_r hok 104 0 rfl
  refine pw_blk hT 5 (S' := (9, [some (pvR 104)], [pvI (Int32.ofNat 8), pvI (M.1 104 0)], M)) rfl ⟨trivial, rfl, trivial, rfl, rfl, trivial⟩ ?_
  refine pw_ic hT (c := (M.1 104 0) < (Int32.ofNat 8)) rfl rfl (fun c2_ => ?_) (fun c2_ => ?_)
  · have b3_ : 0 ≤ Int32.toInt (M.1 104 0) ∧ Int32.toInt (M.1 104 0) ≤ 7 := zr_lt_l 7 c2_ b1_ (show 8 ≤ Int32.toInt (Int32.ofNat 8) ∧ Int32.toInt (Int32.ofNat 8) ≤ 8 from (by decide)) (by decide)
    refine pw_blk hT 1 (S' := (17, [some (pvR 104)], [pvI 0], M)) rfl ⟨trivial, trivial⟩ ?_
    exact pw_ret hT rfl (r := some (pvI 0)) (M' := M) ⟨Or.inl rfl, rfl, rfl⟩ ⟨(by rw [if_pos c2_]), rfl⟩
  · have b4_ : 8 ≤ Int32.toInt (M.1 104 0) ∧ Int32.toInt (M.1 104 0) ≤ 8 := zr_nlt_l 8 c2_ b1_ (show 8 ≤ Int32.toInt (Int32.ofNat 8) ∧ Int32.toInt (Int32.ofNat 8) ≤ 8 from (by decide)) (by decide)
    refine pw_blk hT 2 (S' := (17, [some (pvR 104)], [pvI 1], M)) rfl ⟨trivial, trivial, trivial⟩ ?_
    exact pw_ret hT rfl (r := some (pvI 1)) (M' := M) ⟨Or.inr rfl, rfl, rfl⟩ ⟨(by rw [if_neg c2_]), rfl⟩
def fpL_X6_append_104_x_x : List (Nat × Nat × Nat) := [(0, 104, 1), (0, 112, 0), (0, 120, 0)]
def fp_X6_append_104_x_x (q k : Nat) : Bool := pvfp fpL_X6_append_104_x_x q k
set_option maxHeartbeats 4000000 in
set_option maxRecDepth 10000 in
theorem sf_X6_append_104_x_x (M : pvM) (hok : pvOk M) (n1 : Int32) (n2 : Int32) (hn1 : 0 ≤ Int32.toInt n1 ∧ Int32.toInt n1 ≤ 6) (hn2 : 0 ≤ Int32.toInt n2 ∧ Int32.toInt n2 ≤ 9999) (d : Nat) : PW 151 d (0, [some (pvR 104), some (pvI n1), some (pvI n2)], [], M) (fun r X => (∃ x : Int32, r = some (pvI x) ∧ 1 ≤ Int32.toInt x ∧ Int32.toInt x ≤ 8) ∧ pvOk X ∧ pvFr fp_X6_append_104_x_x M X) := by
  have hT : pvdom 151 = pvD_151 := rfl
  refine pw_blk hT 1 (S' := (1, [some (pvR 104), some (pvI n1), some (pvI n2)], [pvR 104], M)) rfl ⟨trivial, trivial⟩ ?_
  refine pw_callT hT (as := [pvR 104]) (lo1 := [some (pvR 104)]) (d1 := d) (rest := []) rfl rfl rfl rfl rfl (fun _ => rfl) (Nat.zero_le _) rfl rfl rfl (sf_X6_isFull_104 M hok d) ?_
  have b6_ : 0 ≤ Int32.toInt (M.1 104 0) ∧ Int32.toInt (M.1 104 0) ≤ 8 := pvok_r hok 104 0 rfl
  by_cases c7_ : (M.1 104 0) < (Int32.ofNat 8)
  · refine pw_eqI (if_pos c7_) ?_
    have b8_ : 0 ≤ Int32.toInt (M.1 104 0) ∧ Int32.toInt (M.1 104 0) ≤ 7 := zr_lt_l 7 c7_ b6_ (show 8 ≤ Int32.toInt (Int32.ofNat 8) ∧ Int32.toInt (Int32.ofNat 8) ≤ 8 from (by decide)) (by decide)
    show PW 151 d (4, [some (pvR 104), some (pvI n1), some (pvI n2)], [pvI 0], M) _
    refine pw_if hT (c := 0 = 0) rfl rfl (fun c9_ => ?_) (fun c9_ => absurd (by decide) c9_)
    refine pw_blkw hT 6 (pc := 22) (lo := [some (pvR 104), some (pvI n1), some (pvI n2)]) (st := []) (M := pvu M 112 (Int32.toNatClampNeg (M.1 104 0)) n1) rfl ⟨trivial, rfl, trivial, rfl, trivial, ⟨rfl, (zr_in (n := 8) b8_ (by decide) (by decide))⟩, trivial⟩ (fun M10_ e11_ => ?_)
    have o12_ : pvOk M10_ := pvok_u2 e11_ hok rfl hn1
    have f13_ : pvFr fp_X6_append_104_x_x M M10_ := pvfr_u e11_ pvfr_0 rfl
    have e14_ : (M10_.1 104 0) = (M.1 104 0) := (pvu_n e11_ 104 0 (Or.inl (by decide)))
    have b15_ : 0 ≤ Int32.toInt (M10_.1 104 0) ∧ Int32.toInt (M10_.1 104 0) ≤ 7 := (by rw [e14_]; exact b8_)
    refine pw_blkw hT 6 (pc := 32) (lo := [some (pvR 104), some (pvI n1), some (pvI n2)]) (st := []) (M := pvu M10_ 120 (Int32.toNatClampNeg (M10_.1 104 0)) n2) rfl ⟨trivial, rfl, trivial, rfl, trivial, ⟨rfl, (zr_in (n := 8) b15_ (by decide) (by decide))⟩, trivial⟩ (fun M16_ e17_ => ?_)
    have o18_ : pvOk M16_ := pvok_u2 e17_ o12_ rfl hn2
    have f19_ : pvFr fp_X6_append_104_x_x M M16_ := pvfr_u e17_ f13_ rfl
    have e20_ : (M16_.1 104 0) = (M10_.1 104 0) := (pvu_n e17_ 104 0 (Or.inl (by decide)))
    have b21_ : 0 ≤ Int32.toInt (M16_.1 104 0) ∧ Int32.toInt (M16_.1 104 0) ≤ 7 := (by rw [e20_]; exact b15_)
    obtain ⟨q23_, b22_⟩ : (Int32.toInt ((M16_.1 104 0) + 1) = Int32.toInt (M16_.1 104 0) + 1) ∧ (1 ≤ Int32.toInt ((M16_.1 104 0) + 1) ∧ Int32.toInt ((M16_.1 104 0) + 1) ≤ 8) := zadd_k (M16_.1 104 0) 1 1 1 8 b21_ (by decide) (by decide) (by decide) (by decide) (by decide)
    refine pw_blkw hT 6 (pc := 42) (lo := [some (pvR 104), some (pvI n1), some (pvI n2)]) (st := []) (M := pvu M16_ 104 0 ((M16_.1 104 0) + 1)) rfl ⟨trivial, trivial, rfl, trivial, trivial, rfl, trivial⟩ (fun M24_ e25_ => ?_)
    have o26_ : pvOk M24_ := pvok_u2 e25_ o18_ rfl (zr_wide b22_ (by decide) (by decide))
    have f27_ : pvFr fp_X6_append_104_x_x M M24_ := pvfr_u e25_ f19_ rfl
    have e28_ : (M24_.1 104 0) = ((M16_.1 104 0) + 1) := (pvu_s e25_)
    have b29_ : 1 ≤ Int32.toInt (M24_.1 104 0) ∧ Int32.toInt (M24_.1 104 0) ≤ 8 := (by rw [e28_]; exact b22_)
    refine pw_blk hT 2 (S' := (46, [some (pvR 104), some (pvI n1), some (pvI n2)], [pvI (M24_.1 104 0)], M24_)) rfl ⟨trivial, rfl, trivial⟩ ?_
    exact pw_ret hT rfl (r := some (pvI (M24_.1 104 0))) (M' := M24_) ⟨rfl, rfl⟩ ⟨⟨_, rfl, b29_⟩, o26_, f27_⟩
  · refine pw_eqI (if_neg c7_) ?_
    have b30_ : 8 ≤ Int32.toInt (M.1 104 0) ∧ Int32.toInt (M.1 104 0) ≤ 8 := zr_nlt_l 8 c7_ b6_ (show 8 ≤ Int32.toInt (Int32.ofNat 8) ∧ Int32.toInt (Int32.ofNat 8) ≤ 8 from (by decide)) (by decide)
    show PW 151 d (4, [some (pvR 104), some (pvI n1), some (pvI n2)], [pvI 1], M) _
    refine pw_if hT (c := 1 = 0) rfl rfl (fun c31_ => absurd c31_ (by decide)) (fun c31_ => ?_)
    refine pw_blk hT 2 (S' := (11, [some (pvR 104), some (pvI n1), some (pvI n2)], [pvI (M.1 104 0)], M)) rfl ⟨trivial, rfl, trivial⟩ ?_
    exact pw_ret hT rfl (r := some (pvI (M.1 104 0))) (M' := M) ⟨rfl, rfl⟩ ⟨⟨_, rfl, (zr_wide b30_ (by decide) (by decide))⟩, hok, pvfr_0⟩
def fpL_X6_clear_104 : List (Nat × Nat × Nat) := [(0, 104, 1)]
def fp_X6_clear_104 (q k : Nat) : Bool := pvfp fpL_X6_clear_104 q k
set_option maxHeartbeats 4000000 in
set_option maxRecDepth 10000 in
theorem sf_X6_clear_104 (M : pvM) (hok : pvOk M) (d : Nat) : PW 153 d (0, [some (pvR 104)], [], M) (fun r X => (∃ x : Int32, r = some (pvI x) ∧ 0 ≤ Int32.toInt x ∧ Int32.toInt x ≤ 0) ∧ pvOk X ∧ pvFr fp_X6_clear_104 M X) := by
  have hT : pvdom 153 = pvD_153 := rfl
  refine pw_blkw hT 3 (pc := 5) (lo := [some (pvR 104)]) (st := []) (M := pvu M 104 0 0) rfl ⟨trivial, trivial, rfl, trivial⟩ (fun M1_ e2_ => ?_)
  have o3_ : pvOk M1_ := pvok_u2 e2_ hok rfl (zr_wide (show 0 ≤ Int32.toInt 0 ∧ Int32.toInt 0 ≤ 0 from (by decide)) (by decide) (by decide))
  have f4_ : pvFr fp_X6_clear_104 M M1_ := pvfr_u e2_ pvfr_0 rfl
  refine pw_blk hT 1 (S' := (6, [some (pvR 104)], [pvI 0], M1_)) rfl ⟨trivial, trivial⟩ ?_
  exact pw_ret hT rfl (r := some (pvI 0)) (M' := M1_) ⟨rfl, rfl⟩ ⟨⟨_, rfl, (show 0 ≤ Int32.toInt 0 ∧ Int32.toInt 0 ≤ 0 from (by decide))⟩, o3_, f4_⟩
def fpL_X9_appendTold_0_104_x_x : List (Nat × Nat × Nat) := [(0, 104, 1), (0, 112, 0), (0, 120, 0)]
def fp_X9_appendTold_0_104_x_x (q k : Nat) : Bool := pvfp fpL_X9_appendTold_0_104_x_x q k
theorem fp_X9_appendTold_0_104_x_x_fp_X6_append_104_x_x (a b : Nat) (h : fp_X6_append_104_x_x a b = true) : fp_X9_appendTold_0_104_x_x a b = true := pvfp_sub (l1 := fpL_X6_append_104_x_x) (l2 := fpL_X9_appendTold_0_104_x_x) (by decide) a b h
theorem fp_X9_appendTold_0_104_x_x_fp_X6_clear_104 (a b : Nat) (h : fp_X6_clear_104 a b = true) : fp_X9_appendTold_0_104_x_x a b = true := pvfp_sub (l1 := fpL_X6_clear_104) (l2 := fpL_X9_appendTold_0_104_x_x) (by decide) a b h
set_option maxHeartbeats 4000000 in
set_option maxRecDepth 10000 in
theorem sf_X9_appendTold_0_104_x_x (M : pvM) (hok : pvOk M) (n2 : Int32) (n3 : Int32) (d : Nat) : PW 168 d (0, [some (pvR 0), some (pvR 104), some (pvI n2), some (pvI n3)], [], M) (fun r X => (∃ x : Int32, r = some (pvI x) ∧ (-4) ≤ Int32.toInt x ∧ Int32.toInt x ≤ 8) ∧ pvOk X ∧ pvFr fp_X9_appendTold_0_104_x_x M X) := by
  have hT : pvdom 168 = pvD_168 := rfl
  refine pw_blk hT 2 (S' := (2, [some (pvR 0), some (pvR 104), some (pvI n2), some (pvI n3)], [pvI (-1), pvI n2], M)) rfl ⟨trivial, trivial, trivial⟩ ?_
  refine pw_icn hT (c := n2 = (-1)) rfl rfl (fun c1_ => ?_) (fun c1_ => ?_)
  · refine pw_blk hT 3 (S' := (15, [some (pvR 0), some (pvR 104), some (pvI n2), some (pvI n3)], [pvI n2, pvR 8], M)) rfl ⟨trivial, rfl, trivial, trivial⟩ ?_
    refine pw_callT hT (as := [pvR 8, pvI n2]) (lo1 := [some (pvR 8), some (pvI n2)]) (d1 := d) (rest := []) rfl rfl rfl rfl rfl (fun _ => rfl) (Nat.zero_le _) rfl rfl rfl (sf_X7_has_8_x M hok n2 d) ?_
    by_cases c7_ : n2 < 0
    · refine pw_eqI (if_pos c7_) ?_
      have b8_ : (-2147483648) ≤ Int32.toInt n2 ∧ Int32.toInt n2 ≤ (-2) := (by have u0 := (zbnd n2); have u9 := (show _ ∧ _ from ⟨(zi_lt _ _).mp c7_, (show 0 ≤ Int32.toInt 0 ∧ Int32.toInt 0 ≤ 0 from (by decide))⟩); have v1 := (not_congr (zi_eq _ _)).mp c1_; have w1 : ((-1) : Int32).toInt = -1 := (by decide); omega)
      show PW 168 d (18, [some (pvR 0), some (pvR 104), some (pvI n2), some (pvI n3)], [pvI 0], M) _
      refine pw_ifn hT (c := 0 = 0) rfl rfl (fun c9_ => absurd (by decide) c9_) (fun c9_ => ?_)
      refine pw_blk hT 1 (S' := (22, [some (pvR 0), some (pvR 104), some (pvI n2), some (pvI n3)], [pvI (-1)], M)) rfl ⟨trivial, trivial⟩ ?_
      exact pw_ret hT rfl (r := some (pvI (-1))) (M' := M) ⟨rfl, rfl⟩ ⟨⟨_, rfl, (zr_wide (show (-1) ≤ Int32.toInt (-1) ∧ Int32.toInt (-1) ≤ (-1) from (by decide)) (by decide) (by decide))⟩, hok, pvfr_0⟩
    · refine pw_eqI (if_neg c7_) ?_
      have b10_ : 0 ≤ Int32.toInt n2 ∧ Int32.toInt n2 ≤ 2147483647 := zr_nlt_l 0 c7_ (zbnd n2) (show 0 ≤ Int32.toInt 0 ∧ Int32.toInt 0 ≤ 0 from (by decide)) (by decide)
      have b11_ : 0 ≤ Int32.toInt (M.1 8 1) ∧ Int32.toInt (M.1 8 1) ≤ 7 := pvok_r hok 8 1 rfl
      by_cases c12_ : (M.1 8 1) ≤ n2
      · refine pw_eqI (if_pos c12_) ?_
        have d13_ : Int32.toInt (M.1 8 1) ≤ Int32.toInt n2 := (zi_le _ _).mp c12_
        show PW 168 d (18, [some (pvR 0), some (pvR 104), some (pvI n2), some (pvI n3)], [pvI 0], M) _
        refine pw_ifn hT (c := 0 = 0) rfl rfl (fun c14_ => absurd (by decide) c14_) (fun c14_ => ?_)
        refine pw_blk hT 1 (S' := (22, [some (pvR 0), some (pvR 104), some (pvI n2), some (pvI n3)], [pvI (-1)], M)) rfl ⟨trivial, trivial⟩ ?_
        exact pw_ret hT rfl (r := some (pvI (-1))) (M' := M) ⟨rfl, rfl⟩ ⟨⟨_, rfl, (zr_wide (show (-1) ≤ Int32.toInt (-1) ∧ Int32.toInt (-1) ≤ (-1) from (by decide)) (by decide) (by decide))⟩, hok, pvfr_0⟩
      · refine pw_eqI (if_neg c12_) ?_
        have b15_ : 1 ≤ Int32.toInt (M.1 8 1) ∧ Int32.toInt (M.1 8 1) ≤ 7 := zr_nle_l 1 c12_ b11_ b10_ (by decide)
        have b16_ : 0 ≤ Int32.toInt n2 ∧ Int32.toInt n2 ≤ 6 := zr_nle_r 6 c12_ b10_ b15_ (by decide)
        have d17_ : Int32.toInt (M.1 8 1) > Int32.toInt n2 := Int.not_le.mp ((not_congr (zi_le _ _)).mp c12_)
        show PW 168 d (18, [some (pvR 0), some (pvR 104), some (pvI n2), some (pvI n3)], [pvI 1], M) _
        refine pw_ifn hT (c := 1 = 0) rfl rfl (fun c18_ => ?_) (fun c18_ => absurd c18_ (by decide))
        refine pw_blk hT 3 (S' := (28, [some (pvR 0), some (pvR 104), some (pvI n2), some (pvI n3)], [pvI 9999, pvI 0, pvI n3], M)) rfl ⟨trivial, trivial, trivial, trivial⟩ ?_
        refine pw_callT hT (as := [pvI n3, pvI 0, pvI 9999]) (lo1 := [some (pvI n3), some (pvI 0), some (pvI 9999)]) (d1 := d) (rest := []) rfl rfl rfl rfl rfl (fun h => absurd h (by decide)) (Nat.zero_le _) rfl rfl rfl (sf_X9_within_x_x_x M hok n3 0 9999 d) ?_
        by_cases c24_ : n3 < 0
        · refine pw_eqI (if_pos c24_) ?_
          have b25_ : (-2147483648) ≤ Int32.toInt n3 ∧ Int32.toInt n3 ≤ (-1) := zr_lt_l (-1) c24_ (zbnd n3) (show 0 ≤ Int32.toInt 0 ∧ Int32.toInt 0 ≤ 0 from (by decide)) (by decide)
          show PW 168 d (31, [some (pvR 0), some (pvR 104), some (pvI n2), some (pvI n3)], [pvI 0], M) _
          refine pw_ifn hT (c := 0 = 0) rfl rfl (fun c26_ => absurd (by decide) c26_) (fun c26_ => ?_)
          refine pw_blk hT 1 (S' := (36, [some (pvR 0), some (pvR 104), some (pvI n2), some (pvI n3)], [pvI (-2)], M)) rfl ⟨trivial, trivial⟩ ?_
          exact pw_ret hT rfl (r := some (pvI (-2))) (M' := M) ⟨rfl, rfl⟩ ⟨⟨_, rfl, (zr_wide (show (-2) ≤ Int32.toInt (-2) ∧ Int32.toInt (-2) ≤ (-2) from (by decide)) (by decide) (by decide))⟩, hok, pvfr_0⟩
        · refine pw_eqI (if_neg c24_) ?_
          have b27_ : 0 ≤ Int32.toInt n3 ∧ Int32.toInt n3 ≤ 2147483647 := zr_nlt_l 0 c24_ (zbnd n3) (show 0 ≤ Int32.toInt 0 ∧ Int32.toInt 0 ≤ 0 from (by decide)) (by decide)
          by_cases c28_ : 9999 < n3
          · refine pw_eqI (if_pos c28_) ?_
            have b29_ : 10000 ≤ Int32.toInt n3 ∧ Int32.toInt n3 ≤ 2147483647 := zr_lt_r 10000 c28_ b27_ (show 9999 ≤ Int32.toInt 9999 ∧ Int32.toInt 9999 ≤ 9999 from (by decide)) (by decide)
            show PW 168 d (31, [some (pvR 0), some (pvR 104), some (pvI n2), some (pvI n3)], [pvI 0], M) _
            refine pw_ifn hT (c := 0 = 0) rfl rfl (fun c30_ => absurd (by decide) c30_) (fun c30_ => ?_)
            refine pw_blk hT 1 (S' := (36, [some (pvR 0), some (pvR 104), some (pvI n2), some (pvI n3)], [pvI (-2)], M)) rfl ⟨trivial, trivial⟩ ?_
            exact pw_ret hT rfl (r := some (pvI (-2))) (M' := M) ⟨rfl, rfl⟩ ⟨⟨_, rfl, (zr_wide (show (-2) ≤ Int32.toInt (-2) ∧ Int32.toInt (-2) ≤ (-2) from (by decide)) (by decide) (by decide))⟩, hok, pvfr_0⟩
          · refine pw_eqI (if_neg c28_) ?_
            have b31_ : 0 ≤ Int32.toInt n3 ∧ Int32.toInt n3 ≤ 9999 := zr_nlt_r 9999 c28_ b27_ (show 9999 ≤ Int32.toInt 9999 ∧ Int32.toInt 9999 ≤ 9999 from (by decide)) (by decide)
            show PW 168 d (31, [some (pvR 0), some (pvR 104), some (pvI n2), some (pvI n3)], [pvI 1], M) _
            refine pw_ifn hT (c := 1 = 0) rfl rfl (fun c32_ => ?_) (fun c32_ => absurd c32_ (by decide))
            refine pw_blk hT 1 (S' := (38, [some (pvR 0), some (pvR 104), some (pvI n2), some (pvI n3)], [pvR 104], M)) rfl ⟨trivial, trivial⟩ ?_
            refine pw_callT hT (as := [pvR 104]) (lo1 := [some (pvR 104)]) (d1 := d) (rest := []) rfl rfl rfl rfl rfl (fun _ => rfl) (Nat.zero_le _) rfl rfl rfl (sf_X6_isFull_104 M hok d) ?_
            have b38_ : 0 ≤ Int32.toInt (M.1 104 0) ∧ Int32.toInt (M.1 104 0) ≤ 8 := pvok_r hok 104 0 rfl
            by_cases c39_ : (M.1 104 0) < (Int32.ofNat 8)
            · refine pw_eqI (if_pos c39_) ?_
              have b40_ : 0 ≤ Int32.toInt (M.1 104 0) ∧ Int32.toInt (M.1 104 0) ≤ 7 := zr_lt_l 7 c39_ b38_ (show 8 ≤ Int32.toInt (Int32.ofNat 8) ∧ Int32.toInt (Int32.ofNat 8) ≤ 8 from (by decide)) (by decide)
              show PW 168 d (41, [some (pvR 0), some (pvR 104), some (pvI n2), some (pvI n3)], [pvI 0], M) _
              refine pw_if hT (c := 0 = 0) rfl rfl (fun c41_ => ?_) (fun c41_ => absurd (by decide) c41_)
              refine pw_blk hT 3 (S' := (50, [some (pvR 0), some (pvR 104), some (pvI n2), some (pvI n3)], [pvI n3, pvI n2, pvR 104], M)) rfl ⟨trivial, trivial, trivial, trivial⟩ ?_
              refine pw_callG hT (as := [pvR 104, pvI n2, pvI n3]) (lo1 := [some (pvR 104), some (pvI n2), some (pvI n3)]) (d1 := d) (rest := []) rfl rfl rfl rfl rfl (fun _ => rfl) (Nat.zero_le _) rfl rfl rfl (sf_X6_append_104_x_x M hok n2 n3 b16_ b31_ d) (fun x42_ M43_ b44_ o45_ g46_ => ?_)
              have f47_ : pvFr fp_X9_appendTold_0_104_x_x M M43_ := pvfr_t g46_ pvfr_0 fp_X9_appendTold_0_104_x_x_fp_X6_append_104_x_x
              exact pw_ret hT rfl (r := some (pvI x42_)) (M' := M43_) ⟨rfl, rfl⟩ ⟨⟨_, rfl, (zr_wide b44_ (by decide) (by decide))⟩, o45_, f47_⟩
            · refine pw_eqI (if_neg c39_) ?_
              have b48_ : 8 ≤ Int32.toInt (M.1 104 0) ∧ Int32.toInt (M.1 104 0) ≤ 8 := zr_nlt_l 8 c39_ b38_ (show 8 ≤ Int32.toInt (Int32.ofNat 8) ∧ Int32.toInt (Int32.ofNat 8) ≤ 8 from (by decide)) (by decide)
              show PW 168 d (41, [some (pvR 0), some (pvR 104), some (pvI n2), some (pvI n3)], [pvI 1], M) _
              refine pw_if hT (c := 1 = 0) rfl rfl (fun c49_ => absurd c49_ (by decide)) (fun c49_ => ?_)
              refine pw_blk hT 1 (S' := (46, [some (pvR 0), some (pvR 104), some (pvI n2), some (pvI n3)], [pvI (-4)], M)) rfl ⟨trivial, trivial⟩ ?_
              exact pw_ret hT rfl (r := some (pvI (-4))) (M' := M) ⟨rfl, rfl⟩ ⟨⟨_, rfl, (zr_wide (show (-4) ≤ Int32.toInt (-4) ∧ Int32.toInt (-4) ≤ (-4) from (by decide)) (by decide) (by decide))⟩, hok, pvfr_0⟩
  · have b50_ : (-1) ≤ Int32.toInt n2 ∧ Int32.toInt n2 ≤ (-1) := (by have u0 := (zbnd n2); have u1 := (zi_eq _ _).mp c1_; have u2 := (show (-1) ≤ Int32.toInt (-1) ∧ Int32.toInt (-1) ≤ (-1) from (by decide)); omega)
    refine pw_blk hT 1 (S' := (6, [some (pvR 0), some (pvR 104), some (pvI n2), some (pvI n3)], [pvR 104], M)) rfl ⟨trivial, trivial⟩ ?_
    refine pw_callG hT (as := [pvR 104]) (lo1 := [some (pvR 104)]) (d1 := d) (rest := []) rfl rfl rfl rfl rfl (fun _ => rfl) (Nat.zero_le _) rfl rfl rfl (sf_X6_clear_104 M hok d) (fun x51_ M52_ b53_ o54_ g55_ => ?_)
    have f56_ : pvFr fp_X9_appendTold_0_104_x_x M M52_ := pvfr_t g55_ pvfr_0 fp_X9_appendTold_0_104_x_x_fp_X6_clear_104
    exact pw_ret hT rfl (r := some (pvI x51_)) (M' := M52_) ⟨rfl, rfl⟩ ⟨⟨_, rfl, (zr_wide b53_ (by decide) (by decide))⟩, o54_, f56_⟩
def fpL_X9_book_0_x_x : List (Nat × Nat × Nat) := [(0, 104, 1), (0, 112, 0), (0, 120, 0)]
def fp_X9_book_0_x_x (q k : Nat) : Bool := pvfp fpL_X9_book_0_x_x q k
theorem fp_X9_book_0_x_x_fp_X9_appendTold_0_104_x_x (a b : Nat) (h : fp_X9_appendTold_0_104_x_x a b = true) : fp_X9_book_0_x_x a b = true := pvfp_sub (l1 := fpL_X9_appendTold_0_104_x_x) (l2 := fpL_X9_book_0_x_x) (by decide) a b h
set_option maxHeartbeats 4000000 in
set_option maxRecDepth 10000 in
theorem sf_X9_book_0_x_x (M : pvM) (hok : pvOk M) (n1 : Int32) (n2 : Int32) (d : Nat) : PW 171 d (0, [some (pvR 0), some (pvI n1), some (pvI n2)], [], M) (fun r X => (∃ x : Int32, r = some (pvI x) ∧ (-4) ≤ Int32.toInt x ∧ Int32.toInt x ≤ 8) ∧ pvOk X ∧ pvFr fp_X9_book_0_x_x M X) := by
  have hT : pvdom 171 = pvD_171 := rfl
  refine pw_blk hT 6 (S' := (10, [some (pvR 0), some (pvI n1), some (pvI n2)], [pvI n2, pvI n1, pvR 104, pvR 0], M)) rfl ⟨trivial, trivial, rfl, rfl, trivial, trivial, trivial⟩ ?_
  refine pw_callG hT (as := [pvR 0, pvR 104, pvI n1, pvI n2]) (lo1 := [some (pvR 0), some (pvR 104), some (pvI n1), some (pvI n2)]) (d1 := d) (rest := []) rfl rfl rfl rfl rfl (fun _ => rfl) (Nat.zero_le _) rfl rfl rfl (sf_X9_appendTold_0_104_x_x M hok n1 n2 d) (fun x1_ M2_ b3_ o4_ g5_ => ?_)
  have f6_ : pvFr fp_X9_book_0_x_x M M2_ := pvfr_t g5_ pvfr_0 fp_X9_book_0_x_x_fp_X9_appendTold_0_104_x_x
  exact pw_ret hT rfl (r := some (pvI x1_)) (M' := M2_) ⟨rfl, rfl⟩ ⟨⟨_, rfl, b3_⟩, o4_, f6_⟩
set_option maxHeartbeats 4000000 in
set_option maxRecDepth 10000 in
theorem sf_X9_count_0_x (M : pvM) (hok : pvOk M) (n1 : Int32) (d : Nat) : PW 172 d (0, [some (pvR 0), some (pvI n1)], [], M) (fun r X => r = some (pvI ((if n1 = 0 then (M.1 8 1) else (if n1 = 1 then (M.1 0 1) else (if n1 = 2 then (M.1 100 0) else (if n1 = 3 then (M.1 102 0) else (if n1 = 4 then (M.1 104 0) else (if n1 = 5 then (M.1 6 1) else (if n1 = 6 then (M.1 3 1) else (-2)))))))))) ∧ X = M) := by
  have hT : pvdom 172 = pvD_172 := rfl
  refine pw_blk hT 1 (S' := (1, [some (pvR 0), some (pvI n1)], [pvI n1], M)) rfl ⟨trivial, trivial⟩ ?_
  refine pw_sw hT rfl rfl ?_
  refine And.intro (fun c1_ => ?_) (fun c1_ => ?_)
  · show PW 172 d (44, [some (pvR 0), some (pvI n1)], [], M) _
    have b2_ : 0 ≤ Int32.toInt n1 ∧ Int32.toInt n1 ≤ 0 := (by have u0 := (zbnd n1); have u1 := (zi_eq _ _).mp c1_; have u2 := (show 0 ≤ Int32.toInt 0 ∧ Int32.toInt 0 ≤ 0 from (by decide)); omega)
    have b3_ : 0 ≤ Int32.toInt (M.1 8 1) ∧ Int32.toInt (M.1 8 1) ≤ 7 := pvok_r hok 8 1 rfl
    refine pw_blk hT 3 (S' := (51, [some (pvR 0), some (pvI n1)], [pvI (M.1 8 1)], M)) rfl ⟨trivial, rfl, rfl, trivial⟩ ?_
    exact pw_ret hT rfl (r := some (pvI (M.1 8 1))) (M' := M) ⟨rfl, rfl⟩ ⟨(by rw [if_pos c1_]), rfl⟩
  · refine And.intro (fun c4_ => ?_) (fun c4_ => ?_)
    · show PW 172 d (52, [some (pvR 0), some (pvI n1)], [], M) _
      have b5_ : 1 ≤ Int32.toInt n1 ∧ Int32.toInt n1 ≤ 1 := (by have u0 := (zbnd n1); have u1 := (zi_eq _ _).mp c4_; have u2 := (show 1 ≤ Int32.toInt 1 ∧ Int32.toInt 1 ≤ 1 from (by decide)); omega)
      have b6_ : 0 ≤ Int32.toInt (M.1 0 1) ∧ Int32.toInt (M.1 0 1) ≤ 6 := pvok_r hok 0 1 rfl
      refine pw_blk hT 2 (S' := (56, [some (pvR 0), some (pvI n1)], [pvI (M.1 0 1)], M)) rfl ⟨trivial, rfl, trivial⟩ ?_
      exact pw_ret hT rfl (r := some (pvI (M.1 0 1))) (M' := M) ⟨rfl, rfl⟩ ⟨(by rw [if_neg c1_, if_pos c4_]), rfl⟩
    · refine And.intro (fun c7_ => ?_) (fun c7_ => ?_)
      · show PW 172 d (57, [some (pvR 0), some (pvI n1)], [], M) _
        have b8_ : 2 ≤ Int32.toInt n1 ∧ Int32.toInt n1 ≤ 2 := (by have u0 := (zbnd n1); have u1 := (zi_eq _ _).mp c7_; have u2 := (show 2 ≤ Int32.toInt 2 ∧ Int32.toInt 2 ≤ 2 from (by decide)); omega)
        have b9_ : 0 ≤ Int32.toInt (M.1 100 0) ∧ Int32.toInt (M.1 100 0) ≤ 7 := pvok_r hok 100 0 rfl
        refine pw_blk hT 4 (S' := (67, [some (pvR 0), some (pvI n1)], [pvI (M.1 100 0)], M)) rfl ⟨trivial, rfl, rfl, rfl, trivial⟩ ?_
        exact pw_ret hT rfl (r := some (pvI (M.1 100 0))) (M' := M) ⟨rfl, rfl⟩ ⟨(by rw [if_neg c1_, if_neg c4_, if_pos c7_]), rfl⟩
      · refine And.intro (fun c10_ => ?_) (fun c10_ => ?_)
        · show PW 172 d (68, [some (pvR 0), some (pvI n1)], [], M) _
          have b11_ : 3 ≤ Int32.toInt n1 ∧ Int32.toInt n1 ≤ 3 := (by have u0 := (zbnd n1); have u1 := (zi_eq _ _).mp c10_; have u2 := (show 3 ≤ Int32.toInt 3 ∧ Int32.toInt 3 ≤ 3 from (by decide)); omega)
          have b12_ : 0 ≤ Int32.toInt (M.1 102 0) ∧ Int32.toInt (M.1 102 0) ≤ 6 := pvok_r hok 102 0 rfl
          refine pw_blk hT 4 (S' := (78, [some (pvR 0), some (pvI n1)], [pvI (M.1 102 0)], M)) rfl ⟨trivial, rfl, rfl, rfl, trivial⟩ ?_
          exact pw_ret hT rfl (r := some (pvI (M.1 102 0))) (M' := M) ⟨rfl, rfl⟩ ⟨(by rw [if_neg c1_, if_neg c4_, if_neg c7_, if_pos c10_]), rfl⟩
        · refine And.intro (fun c13_ => ?_) (fun c13_ => ?_)
          · show PW 172 d (79, [some (pvR 0), some (pvI n1)], [], M) _
            have b14_ : 4 ≤ Int32.toInt n1 ∧ Int32.toInt n1 ≤ 4 := (by have u0 := (zbnd n1); have u1 := (zi_eq _ _).mp c13_; have u2 := (show 4 ≤ Int32.toInt 4 ∧ Int32.toInt 4 ≤ 4 from (by decide)); omega)
            have b15_ : 0 ≤ Int32.toInt (M.1 104 0) ∧ Int32.toInt (M.1 104 0) ≤ 8 := pvok_r hok 104 0 rfl
            refine pw_blk hT 4 (S' := (89, [some (pvR 0), some (pvI n1)], [pvI (M.1 104 0)], M)) rfl ⟨trivial, rfl, rfl, rfl, trivial⟩ ?_
            exact pw_ret hT rfl (r := some (pvI (M.1 104 0))) (M' := M) ⟨rfl, rfl⟩ ⟨(by rw [if_neg c1_, if_neg c4_, if_neg c7_, if_neg c10_, if_pos c13_]), rfl⟩
          · refine And.intro (fun c16_ => ?_) (fun c16_ => ?_)
            · show PW 172 d (90, [some (pvR 0), some (pvI n1)], [], M) _
              have b17_ : 5 ≤ Int32.toInt n1 ∧ Int32.toInt n1 ≤ 5 := (by have u0 := (zbnd n1); have u1 := (zi_eq _ _).mp c16_; have u2 := (show 5 ≤ Int32.toInt 5 ∧ Int32.toInt 5 ≤ 5 from (by decide)); omega)
              have b18_ : 0 ≤ Int32.toInt (M.1 6 1) ∧ Int32.toInt (M.1 6 1) ≤ 100 := pvok_r hok 6 1 rfl
              refine pw_blk hT 3 (S' := (97, [some (pvR 0), some (pvI n1)], [pvI (M.1 6 1)], M)) rfl ⟨trivial, rfl, rfl, trivial⟩ ?_
              exact pw_ret hT rfl (r := some (pvI (M.1 6 1))) (M' := M) ⟨rfl, rfl⟩ ⟨(by rw [if_neg c1_, if_neg c4_, if_neg c7_, if_neg c10_, if_neg c13_, if_pos c16_]), rfl⟩
            · refine And.intro (fun c19_ => ?_) (fun c19_ => ?_)
              · show PW 172 d (98, [some (pvR 0), some (pvI n1)], [], M) _
                have b20_ : 6 ≤ Int32.toInt n1 ∧ Int32.toInt n1 ≤ 6 := (by have u0 := (zbnd n1); have u1 := (zi_eq _ _).mp c19_; have u2 := (show 6 ≤ Int32.toInt 6 ∧ Int32.toInt 6 ≤ 6 from (by decide)); omega)
                have b21_ : 0 ≤ Int32.toInt (M.1 3 1) ∧ Int32.toInt (M.1 3 1) ≤ 1000000 := pvok_r hok 3 1 rfl
                refine pw_blk hT 3 (S' := (105, [some (pvR 0), some (pvI n1)], [pvI (M.1 3 1)], M)) rfl ⟨trivial, rfl, rfl, trivial⟩ ?_
                exact pw_ret hT rfl (r := some (pvI (M.1 3 1))) (M' := M) ⟨rfl, rfl⟩ ⟨(by rw [if_neg c1_, if_neg c4_, if_neg c7_, if_neg c10_, if_neg c13_, if_neg c16_, if_pos c19_]), rfl⟩
              · show PW 172 d (106, [some (pvR 0), some (pvI n1)], [], M) _
                refine pw_blk hT 1 (S' := (108, [some (pvR 0), some (pvI n1)], [pvI (-2)], M)) rfl ⟨trivial, trivial⟩ ?_
                exact pw_ret hT rfl (r := some (pvI (-2))) (M' := M) ⟨rfl, rfl⟩ ⟨(by rw [if_neg c1_, if_neg c4_, if_neg c7_, if_neg c10_, if_neg c13_, if_neg c16_, if_neg c19_]), rfl⟩
def fpL_X9_feed_0_x : List (Nat × Nat × Nat) := [(0, 6, 2), (0, 7, 0)]
def fp_X9_feed_0_x (q k : Nat) : Bool := pvfp fpL_X9_feed_0_x q k
set_option maxHeartbeats 4000000 in
set_option maxRecDepth 10000 in
theorem sf_X9_feed_0_x (M : pvM) (hok : pvOk M) (n1 : Int32) (d : Nat) : PW 173 d (0, [some (pvR 0), some (pvI n1)], [], M) (fun r X => (∃ x : Int32, r = some (pvI x) ∧ (-4) ≤ Int32.toInt x ∧ Int32.toInt x ≤ 100) ∧ pvOk X ∧ pvFr fp_X9_feed_0_x M X) := by
  have hT : pvdom 173 = pvD_173 := rfl
  refine pw_blk hT 3 (S' := (4, [some (pvR 0), some (pvI n1)], [pvI 127, pvI 0, pvI n1], M)) rfl ⟨trivial, trivial, trivial, trivial⟩ ?_
  refine pw_callT hT (as := [pvI n1, pvI 0, pvI 127]) (lo1 := [some (pvI n1), some (pvI 0), some (pvI 127)]) (d1 := d) (rest := []) rfl rfl rfl rfl rfl (fun h => absurd h (by decide)) (Nat.zero_le _) rfl rfl rfl (sf_X9_within_x_x_x M hok n1 0 127 d) ?_
  by_cases c6_ : n1 < 0
  · refine pw_eqI (if_pos c6_) ?_
    have b7_ : (-2147483648) ≤ Int32.toInt n1 ∧ Int32.toInt n1 ≤ (-1) := zr_lt_l (-1) c6_ (zbnd n1) (show 0 ≤ Int32.toInt 0 ∧ Int32.toInt 0 ≤ 0 from (by decide)) (by decide)
    show PW 173 d (7, [some (pvR 0), some (pvI n1)], [pvI 0], M) _
    refine pw_ifn hT (c := 0 = 0) rfl rfl (fun c8_ => absurd (by decide) c8_) (fun c8_ => ?_)
    refine pw_blk hT 1 (S' := (12, [some (pvR 0), some (pvI n1)], [pvI (-2)], M)) rfl ⟨trivial, trivial⟩ ?_
    exact pw_ret hT rfl (r := some (pvI (-2))) (M' := M) ⟨rfl, rfl⟩ ⟨⟨_, rfl, (zr_wide (show (-2) ≤ Int32.toInt (-2) ∧ Int32.toInt (-2) ≤ (-2) from (by decide)) (by decide) (by decide))⟩, hok, pvfr_0⟩
  · refine pw_eqI (if_neg c6_) ?_
    have b9_ : 0 ≤ Int32.toInt n1 ∧ Int32.toInt n1 ≤ 2147483647 := zr_nlt_l 0 c6_ (zbnd n1) (show 0 ≤ Int32.toInt 0 ∧ Int32.toInt 0 ≤ 0 from (by decide)) (by decide)
    by_cases c10_ : 127 < n1
    · refine pw_eqI (if_pos c10_) ?_
      have b11_ : 128 ≤ Int32.toInt n1 ∧ Int32.toInt n1 ≤ 2147483647 := zr_lt_r 128 c10_ b9_ (show 127 ≤ Int32.toInt 127 ∧ Int32.toInt 127 ≤ 127 from (by decide)) (by decide)
      show PW 173 d (7, [some (pvR 0), some (pvI n1)], [pvI 0], M) _
      refine pw_ifn hT (c := 0 = 0) rfl rfl (fun c12_ => absurd (by decide) c12_) (fun c12_ => ?_)
      refine pw_blk hT 1 (S' := (12, [some (pvR 0), some (pvI n1)], [pvI (-2)], M)) rfl ⟨trivial, trivial⟩ ?_
      exact pw_ret hT rfl (r := some (pvI (-2))) (M' := M) ⟨rfl, rfl⟩ ⟨⟨_, rfl, (zr_wide (show (-2) ≤ Int32.toInt (-2) ∧ Int32.toInt (-2) ≤ (-2) from (by decide)) (by decide) (by decide))⟩, hok, pvfr_0⟩
    · refine pw_eqI (if_neg c10_) ?_
      have b13_ : 0 ≤ Int32.toInt n1 ∧ Int32.toInt n1 ≤ 127 := zr_nlt_r 127 c10_ b9_ (show 127 ≤ Int32.toInt 127 ∧ Int32.toInt 127 ≤ 127 from (by decide)) (by decide)
      show PW 173 d (7, [some (pvR 0), some (pvI n1)], [pvI 1], M) _
      refine pw_ifn hT (c := 1 = 0) rfl rfl (fun c14_ => ?_) (fun c14_ => absurd c14_ (by decide))
      have b15_ : 0 ≤ Int32.toInt (M.1 6 1) ∧ Int32.toInt (M.1 6 1) ≤ 100 := pvok_r hok 6 1 rfl
      refine pw_blk hT 4 (S' := (22, [some (pvR 0), some (pvI n1)], [pvI 100, pvI (M.1 6 1)], M)) rfl ⟨trivial, rfl, rfl, trivial, trivial⟩ ?_
      refine pw_ic hT (c := (M.1 6 1) < 100) rfl rfl (fun c16_ => ?_) (fun c16_ => ?_)
      · have b17_ : 0 ≤ Int32.toInt (M.1 6 1) ∧ Int32.toInt (M.1 6 1) ≤ 99 := zr_lt_l 99 c16_ b15_ (show 100 ≤ Int32.toInt 100 ∧ Int32.toInt 100 ≤ 100 from (by decide)) (by decide)
        refine pw_blkw hT 8 (pc := 44) (lo := [some (pvR 0), some (pvI n1)]) (st := []) (M := pvu M 7 (Int32.toNatClampNeg (M.1 6 1)) n1) rfl ⟨trivial, rfl, rfl, trivial, rfl, rfl, trivial, ⟨rfl, (zr_in (n := 100) b17_ (by decide) (by decide))⟩, trivial⟩ (fun M18_ e19_ => ?_)
        have o20_ : pvOk M18_ := pvok_u2 e19_ hok rfl b13_
        have f21_ : pvFr fp_X9_feed_0_x M M18_ := pvfr_u e19_ pvfr_0 rfl
        have e22_ : (M18_.1 6 1) = (M.1 6 1) := (pvu_n e19_ 6 1 (Or.inl (by decide)))
        have b23_ : 0 ≤ Int32.toInt (M18_.1 6 1) ∧ Int32.toInt (M18_.1 6 1) ≤ 99 := (by rw [e22_]; exact b17_)
        obtain ⟨q25_, b24_⟩ : (Int32.toInt ((M18_.1 6 1) + 1) = Int32.toInt (M18_.1 6 1) + 1) ∧ (1 ≤ Int32.toInt ((M18_.1 6 1) + 1) ∧ Int32.toInt ((M18_.1 6 1) + 1) ≤ 100) := zadd_k (M18_.1 6 1) 1 1 1 100 b23_ (by decide) (by decide) (by decide) (by decide) (by decide)
        refine pw_blkw hT 7 (pc := 57) (lo := [some (pvR 0), some (pvI n1)]) (st := []) (M := pvu M18_ 6 1 ((M18_.1 6 1) + 1)) rfl ⟨trivial, rfl, trivial, rfl, trivial, trivial, rfl, trivial⟩ (fun M26_ e27_ => ?_)
        have o28_ : pvOk M26_ := pvok_u2 e27_ o20_ rfl (zr_wide b24_ (by decide) (by decide))
        have f29_ : pvFr fp_X9_feed_0_x M M26_ := pvfr_u e27_ f21_ rfl
        have e30_ : (M26_.1 6 1) = ((M18_.1 6 1) + 1) := (pvu_s e27_)
        have b31_ : 1 ≤ Int32.toInt (M26_.1 6 1) ∧ Int32.toInt (M26_.1 6 1) ≤ 100 := (by rw [e30_]; exact b24_)
        refine pw_blk hT 3 (S' := (64, [some (pvR 0), some (pvI n1)], [pvI (M26_.1 6 1)], M26_)) rfl ⟨trivial, rfl, rfl, trivial⟩ ?_
        exact pw_ret hT rfl (r := some (pvI (M26_.1 6 1))) (M' := M26_) ⟨rfl, rfl⟩ ⟨⟨_, rfl, (zr_wide b31_ (by decide) (by decide))⟩, o28_, f29_⟩
      · have b32_ : 100 ≤ Int32.toInt (M.1 6 1) ∧ Int32.toInt (M.1 6 1) ≤ 100 := zr_nlt_l 100 c16_ b15_ (show 100 ≤ Int32.toInt 100 ∧ Int32.toInt 100 ≤ 100 from (by decide)) (by decide)
        refine pw_blk hT 1 (S' := (27, [some (pvR 0), some (pvI n1)], [pvI (-4)], M)) rfl ⟨trivial, trivial⟩ ?_
        exact pw_ret hT rfl (r := some (pvI (-4))) (M' := M) ⟨rfl, rfl⟩ ⟨⟨_, rfl, (zr_wide (show (-4) ≤ Int32.toInt (-4) ∧ Int32.toInt (-4) ≤ (-4) from (by decide)) (by decide) (by decide))⟩, hok, pvfr_0⟩
set_option maxHeartbeats 4000000 in
set_option maxRecDepth 10000 in
theorem sf_X1_isAsSeen_5 (M : pvM) (hok : pvOk M) (d : Nat) : PW 114 d (0, [some (pvR 5), none, none], [], M) (fun r X => (∃ x : Int32, r = some (pvI x) ∧ 0 ≤ Int32.toInt x ∧ Int32.toInt x ≤ 1) ∧ X = M) := by
  have hT : pvdom 114 = pvD_114 := rfl
  refine pw_blk hT 2 (S' := (2, [some (pvR 5), some (pvI 0), none], [], M)) rfl ⟨trivial, trivial, trivial⟩ ?_
  have hlz76_ : ∀ (nz76_ : Nat) (i1z76_ : Int32) (v2z76_ : Option pvV), (0 ≤ Int32.toInt i1z76_ ∧ Int32.toInt i1z76_ ≤ 6) → (zhide ((7 - Int32.toInt i1z76_).toNat < nz76_)) → PW 114 d (2, [some (pvR 5), some (pvI i1z76_), v2z76_], [], M) (fun r X => (∃ x : Int32, r = some (pvI x) ∧ 0 ≤ Int32.toInt x ∧ Int32.toInt x ≤ 1) ∧ X = M) := by
    intro nz76_
    induction nz76_ with
    | zero => intro i1z76_ v2z76_ h1z76_ hmz76_; exact absurd (zshow hmz76_) (Nat.not_lt_zero _)
    | succ nz76_ ihz76_ =>
      intro i1z76_ v2z76_ h1z76_ hmz76_
      have b77_ : 0 ≤ Int32.toInt (M.1 102 0) ∧ Int32.toInt (M.1 102 0) ≤ 6 := pvok_r hok 102 0 rfl
      refine pw_blk hT 5 (S' := (13, [some (pvR 5), some (pvI i1z76_), v2z76_], [pvI (M.1 102 0), pvI i1z76_], M)) rfl ⟨trivial, trivial, rfl, rfl, rfl, trivial⟩ ?_
      refine pw_ic hT (c := (M.1 102 0) ≤ i1z76_) rfl rfl (fun c78_ => ?_) (fun c78_ => ?_)
      · have d79_ : Int32.toInt (M.1 102 0) ≤ Int32.toInt i1z76_ := (zi_le _ _).mp c78_
        refine pw_blk hT 1 (S' := (69, [some (pvR 5), some (pvI i1z76_), v2z76_], [pvI 1], M)) rfl ⟨trivial, trivial⟩ ?_
        exact pw_ret hT rfl (r := some (pvI 1)) (M' := M) ⟨Or.inr rfl, rfl, rfl⟩ ⟨⟨_, rfl, (zr_wide (show 1 ≤ Int32.toInt 1 ∧ Int32.toInt 1 ≤ 1 from (by decide)) (by decide) (by decide))⟩, rfl⟩
      · have b80_ : 1 ≤ Int32.toInt (M.1 102 0) ∧ Int32.toInt (M.1 102 0) ≤ 6 := zr_nle_l 1 c78_ b77_ h1z76_ (by decide)
        have b81_ : 0 ≤ Int32.toInt i1z76_ ∧ Int32.toInt i1z76_ ≤ 5 := zr_nle_r 5 c78_ h1z76_ b80_ (by decide)
        have d82_ : Int32.toInt (M.1 102 0) > Int32.toInt i1z76_ := Int.not_le.mp ((not_congr (zi_le _ _)).mp c78_)
        have b83_ : 0 ≤ Int32.toInt (M.1 110 (Int32.toNatClampNeg i1z76_)) ∧ Int32.toInt (M.1 110 (Int32.toNatClampNeg i1z76_)) ≤ 6 := pvok_r hok 110 (Int32.toNatClampNeg i1z76_) rfl
        have b84_ : 0 ≤ Int32.toInt (M.1 8 4) ∧ Int32.toInt (M.1 8 4) ≤ 9999 := pvok_r hok 8 4 rfl
        refine pw_blk hT 11 (S' := (37, [some (pvR 5), some (pvI i1z76_), v2z76_], [pvR 5, pvI (M.1 8 4), pvI (M.1 110 (Int32.toNatClampNeg i1z76_)), pvR 5], M)) rfl ⟨trivial, trivial, rfl, rfl, rfl, trivial, ⟨rfl, (zr_in (n := 6) b81_ (by decide) (by decide))⟩, trivial, rfl, rfl, trivial, trivial⟩ ?_
        refine pw_callGp hT (as := [pvR 5]) (lo1 := [some (pvR 5)]) (d1 := d) (rest := [pvI (M.1 8 4), pvI (M.1 110 (Int32.toNatClampNeg i1z76_)), pvR 5]) rfl rfl rfl rfl rfl (fun _ => rfl) (Nat.zero_le _) rfl rfl rfl (sf_X1_stormEnd_5 M hok d) (fun x85_ b87_ => ?_)
        refine pw_callGp hT (as := [pvR 5, pvI (M.1 110 (Int32.toNatClampNeg i1z76_)), pvI (M.1 8 4), pvI x85_]) (lo1 := [some (pvR 5), some (pvI (M.1 110 (Int32.toNatClampNeg i1z76_))), some (pvI (M.1 8 4)), some (pvI x85_), none, none, none, none]) (d1 := d) (rest := []) rfl rfl rfl rfl rfl (fun _ => rfl) (Nat.zero_le _) rfl rfl rfl (sf_X1_harmOf_5_x_x_x M hok (M.1 110 (Int32.toNatClampNeg i1z76_)) (M.1 8 4) x85_ b83_ (zr_wide b84_ (by decide) (by decide)) (zr_wide b87_ (by decide) (by decide)) d) (fun x90_ b92_ => ?_)
        have b95_ : 0 ≤ Int32.toInt (M.1 118 (Int32.toNatClampNeg i1z76_)) ∧ Int32.toInt (M.1 118 (Int32.toNatClampNeg i1z76_)) ≤ 9999 := pvok_r hok 118 (Int32.toNatClampNeg i1z76_) rfl
        refine pw_blk hT 8 (S' := (57, [some (pvR 5), some (pvI i1z76_), some (pvI x90_)], [pvI (M.1 118 (Int32.toNatClampNeg i1z76_)), pvI x90_], M)) rfl ⟨trivial, trivial, trivial, rfl, rfl, rfl, trivial, ⟨rfl, (zr_in (n := 6) b81_ (by decide) (by decide))⟩, trivial⟩ ?_
        refine pw_ic hT (c := x90_ = (M.1 118 (Int32.toNatClampNeg i1z76_))) rfl rfl (fun c96_ => ?_) (fun c96_ => ?_)
        · have b97_ : 0 ≤ Int32.toInt x90_ ∧ Int32.toInt x90_ ≤ 9999 := (by have u0 := (zbnd x90_); have u1 := (zi_eq _ _).mp c96_; have u2 := b95_; omega)
          have d98_ : Int32.toInt x90_ = Int32.toInt (M.1 118 (Int32.toNatClampNeg i1z76_)) := (zi_eq _ _).mp c96_
          obtain ⟨q100_, b99_⟩ : (Int32.toInt (i1z76_ + 1) = Int32.toInt i1z76_ + 1) ∧ (1 ≤ Int32.toInt (i1z76_ + 1) ∧ Int32.toInt (i1z76_ + 1) ≤ 6) := zadd_k i1z76_ 1 1 1 6 b81_ (by decide) (by decide) (by decide) (by decide) (by decide)
          refine pw_blk hT 2 (S' := (2, [some (pvR 5), some (pvI (i1z76_ + 1)), some (pvI x90_)], [], M)) rfl ⟨trivial, trivial, trivial⟩ ?_
          exact ihz76_ (i1z76_ + 1) (some (pvI x90_)) (zr_wide b99_ (by decide) (by decide)) (zhid (pvms_up (zshow hmz76_) h1z76_ q100_ (by decide) (by decide)))
        · refine pw_blk hT 1 (S' := (61, [some (pvR 5), some (pvI i1z76_), some (pvI x90_)], [pvI 0], M)) rfl ⟨trivial, trivial⟩ ?_
          exact pw_ret hT rfl (r := some (pvI 0)) (M' := M) ⟨Or.inl rfl, rfl, rfl⟩ ⟨⟨_, rfl, (zr_wide (show 0 ≤ Int32.toInt 0 ∧ Int32.toInt 0 ≤ 0 from (by decide)) (by decide) (by decide))⟩, rfl⟩
  exact hlz76_ _ 0 none (zr_wide (show 0 ≤ Int32.toInt 0 ∧ Int32.toInt 0 ≤ 0 from (by decide)) (by decide) (by decide)) (zhid (Nat.lt_succ_self _))
def fpL_X9_from_0 : List (Nat × Nat × Nat) := [(0, 12, 0), (0, 13, 0), (0, 14, 0), (0, 5, 2), (0, 5, 3), (1, 112, 0)]
def fp_X9_from_0 (q k : Nat) : Bool := pvfp fpL_X9_from_0 q k
theorem fp_X9_from_0_fp_X1_beginFromNow_5 (a b : Nat) (h : fp_X1_beginFromNow_5 a b = true) : fp_X9_from_0 a b = true := pvfp_sub (l1 := fpL_X1_beginFromNow_5) (l2 := fpL_X9_from_0) (by decide) a b h
theorem fp_X9_from_0_fp_X1_turnTo_5_x (a b : Nat) (h : fp_X1_turnTo_5_x a b = true) : fp_X9_from_0 a b = true := pvfp_sub (l1 := fpL_X1_turnTo_5_x) (l2 := fpL_X9_from_0) (by decide) a b h
set_option maxHeartbeats 4000000 in
set_option maxRecDepth 10000 in
theorem sf_X9_from_0 (M : pvM) (hok : pvOk M) (d : Nat) : PW 174 d (0, [some (pvR 0), none, none], [], M) (fun r X => (∃ x : Int32, r = some (pvI x) ∧ True) ∧ pvOk X ∧ pvFr fp_X9_from_0 M X) := by
  have hT : pvdom 174 = pvD_174 := rfl
  refine pw_blk hT 2 (S' := (4, [some (pvR 0), none, none], [pvR 5], M)) rfl ⟨trivial, rfl, trivial⟩ ?_
  refine pw_callV hT (as := [pvR 5]) (lo1 := [some (pvR 5)]) (d1 := d) (rest := []) rfl rfl rfl rfl rfl (fun _ => rfl) (Nat.zero_le _) rfl rfl rfl (sf_X1_beginFromNow_5 M hok d) (fun M2_ o4_ g5_ => ?_)
  have f6_ : pvFr fp_X9_from_0 M M2_ := pvfr_t g5_ pvfr_0 fp_X9_from_0_fp_X1_beginFromNow_5
  refine pw_blk hT 4 (S' := (11, [some (pvR 0), some (pvI 0), some (pvI 0)], [], M2_)) rfl ⟨trivial, trivial, trivial, trivial, trivial⟩ ?_
  have hlz93_ : ∀ (nz93_ : Nat) (i1z93_ : Int32) (i2z93_ : Int32) (Mz93_ : pvM), (pvOk Mz93_) → (pvFr fp_X9_from_0 M Mz93_) → (0 ≤ Int32.toInt i2z93_ ∧ Int32.toInt i2z93_ ≤ 4) → (zhide ((5 - Int32.toInt i2z93_).toNat < nz93_)) → PW 174 d (11, [some (pvR 0), some (pvI i1z93_), some (pvI i2z93_)], [], Mz93_) (fun r X => (∃ x : Int32, r = some (pvI x) ∧ True) ∧ pvOk X ∧ pvFr fp_X9_from_0 M X) := by
    intro nz93_
    induction nz93_ with
    | zero => intro i1z93_ i2z93_ Mz93_ oz93_ fz93_ h2z93_ hmz93_; exact absurd (zshow hmz93_) (Nat.not_lt_zero _)
    | succ nz93_ ihz93_ =>
      intro i1z93_ i2z93_ Mz93_ oz93_ fz93_ h2z93_ hmz93_
      refine pw_blk hT 2 (S' := (13, [some (pvR 0), some (pvI i1z93_), some (pvI i2z93_)], [pvI 4, pvI i2z93_], Mz93_)) rfl ⟨trivial, trivial, trivial⟩ ?_
      refine pw_ic hT (c := 4 ≤ i2z93_) rfl rfl (fun c94_ => ?_) (fun c94_ => ?_)
      · have b95_ : 4 ≤ Int32.toInt i2z93_ ∧ Int32.toInt i2z93_ ≤ 4 := zr_le_r 4 c94_ h2z93_ (show 4 ≤ Int32.toInt 4 ∧ Int32.toInt 4 ≤ 4 from (by decide)) (by decide)
        refine pw_blk hT 1 (S' := (47, [some (pvR 0), some (pvI i1z93_), some (pvI i2z93_)], [pvI i1z93_], Mz93_)) rfl ⟨trivial, trivial⟩ ?_
        exact pw_ret hT rfl (r := some (pvI i1z93_)) (M' := Mz93_) ⟨rfl, rfl⟩ ⟨⟨_, rfl, trivial⟩, oz93_, fz93_⟩
      · have b96_ : 0 ≤ Int32.toInt i2z93_ ∧ Int32.toInt i2z93_ ≤ 3 := zr_nle_r 3 c94_ h2z93_ (show 4 ≤ Int32.toInt 4 ∧ Int32.toInt 4 ≤ 4 from (by decide)) (by decide)
        refine pw_blk hT 3 (S' := (21, [some (pvR 0), some (pvI i1z93_), some (pvI i2z93_)], [pvI i2z93_, pvR 5], Mz93_)) rfl ⟨trivial, rfl, trivial, trivial⟩ ?_
        refine pw_callV hT (as := [pvR 5, pvI i2z93_]) (lo1 := [some (pvR 5), some (pvI i2z93_), none]) (d1 := d) (rest := []) rfl rfl rfl rfl rfl (fun _ => rfl) (Nat.zero_le _) rfl rfl rfl (sf_X1_turnTo_5_x Mz93_ oz93_ i2z93_ d) (fun M98_ o100_ g101_ => ?_)
        have f102_ : pvFr fp_X9_from_0 M M98_ := pvfr_t g101_ fz93_ fp_X9_from_0_fp_X1_turnTo_5_x
        refine pw_blk hT 2 (S' := (28, [some (pvR 0), some (pvI i1z93_), some (pvI i2z93_)], [pvR 5], M98_)) rfl ⟨trivial, rfl, trivial⟩ ?_
        refine pw_callGp hT (as := [pvR 5]) (lo1 := [some (pvR 5), none, none]) (d1 := d) (rest := []) rfl rfl rfl rfl rfl (fun _ => rfl) (Nat.zero_le _) rfl rfl rfl (sf_X1_isAsSeen_5 M98_ o100_ d) (fun x103_ b105_ => ?_)
        refine pw_if hT (c := x103_ = 0) rfl rfl (fun c108_ => ?_) (fun c108_ => ?_)
        · have b109_ : 0 ≤ Int32.toInt x103_ ∧ Int32.toInt x103_ ≤ 0 := (by have u0 := b105_; have u1 := (zi_eq _ _).mp c108_; have u2 := (show 0 ≤ Int32.toInt 0 ∧ Int32.toInt 0 ≤ 0 from (by decide)); omega)
          obtain ⟨q111_, b110_⟩ : (Int32.toInt (i2z93_ + 1) = Int32.toInt i2z93_ + 1) ∧ (1 ≤ Int32.toInt (i2z93_ + 1) ∧ Int32.toInt (i2z93_ + 1) ≤ 4) := zadd_k i2z93_ 1 1 1 4 b96_ (by decide) (by decide) (by decide) (by decide) (by decide)
          refine pw_blk hT 2 (S' := (11, [some (pvR 0), some (pvI i1z93_), some (pvI (i2z93_ + 1))], [], M98_)) rfl ⟨trivial, trivial, trivial⟩ ?_
          exact ihz93_ i1z93_ (i2z93_ + 1) M98_ o100_ f102_ (zr_wide b110_ (by decide) (by decide)) (zhid (pvms_up (zshow hmz93_) h2z93_ q111_ (by decide) (by decide)))
        · have b112_ : 1 ≤ Int32.toInt x103_ ∧ Int32.toInt x103_ ≤ 1 := (by have u0 := b105_; have u1 := (not_congr (zi_eq _ _)).mp c108_; have u2 := (show 0 ≤ Int32.toInt 0 ∧ Int32.toInt 0 ≤ 0 from (by decide)); omega)
          obtain ⟨q114_, b113_⟩ : (Int32.toInt (i2z93_ + 1) = Int32.toInt i2z93_ + 1) ∧ (1 ≤ Int32.toInt (i2z93_ + 1) ∧ Int32.toInt (i2z93_ + 1) ≤ 4) := zadd_k i2z93_ 1 1 1 4 b96_ (by decide) (by decide) (by decide) (by decide) (by decide)
          refine pw_blk hT 8 (S' := (11, [some (pvR 0), some (pvI (i1z93_ ||| (1 <<< (i2z93_ &&& 31)))), some (pvI (i2z93_ + 1))], [], M98_)) rfl ⟨trivial, trivial, trivial, trivial, trivial, trivial, trivial, trivial, trivial⟩ ?_
          exact ihz93_ (i1z93_ ||| (1 <<< (i2z93_ &&& 31))) (i2z93_ + 1) M98_ o100_ f102_ (zr_wide b113_ (by decide) (by decide)) (zhid (pvms_up (zshow hmz93_) h2z93_ q114_ (by decide) (by decide)))
  exact hlz93_ _ 0 0 M2_ o4_ f6_ (zr_wide (show 0 ≤ Int32.toInt 0 ∧ Int32.toInt 0 ≤ 0 from (by decide)) (by decide) (by decide)) (zhid (Nat.lt_succ_self _))
def fpL_X5_readInto_6_x : List (Nat × Nat × Nat) := [(0, 6, 3), (0, 6, 4), (0, 6, 5), (1, 109, 0), (1, 110, 0), (1, 111, 0), (1, 112, 0), (1, 2, 0)]
def fp_X5_readInto_6_x (q k : Nat) : Bool := pvfp fpL_X5_readInto_6_x q k
theorem sf_X5_readInto_6_x (M : pvM) (hok : pvOk M) (q1 : Nat) (hq1 : pvkl q1 = 2) (d : Nat) : PW 143 d (0, [some (pvR 6), some (pvR q1), none], [], M) (fun r X => (∃ x : Int32, r = some (pvI x) ∧ 0 ≤ Int32.toInt x ∧ Int32.toInt x ≤ 1) ∧ pvOk X ∧ pvFr fp_X5_readInto_6_x M X) := sorry
def fpL_X1_forget_5 : List (Nat × Nat × Nat) := [(0, 14, 0)]
def fp_X1_forget_5 (q k : Nat) : Bool := pvfp fpL_X1_forget_5 q k
set_option maxHeartbeats 4000000 in
set_option maxRecDepth 10000 in
theorem sf_X1_forget_5 (M : pvM) (hok : pvOk M) (d : Nat) : PW 108 d (0, [some (pvR 5), none], [], M) (fun r X => r = none ∧ pvOk X ∧ pvFr fp_X1_forget_5 M X) := by
  have hT : pvdom 108 = pvD_108 := rfl
  refine pw_blk hT 2 (S' := (2, [some (pvR 5), some (pvI 0)], [], M)) rfl ⟨trivial, trivial, trivial⟩ ?_
  have hlz39_ : ∀ (nz39_ : Nat) (i1z39_ : Int32) (Mz39_ : pvM), (pvOk Mz39_) → (pvFr fp_X1_forget_5 M Mz39_) → (0 ≤ Int32.toInt i1z39_ ∧ Int32.toInt i1z39_ ≤ 4) → (zhide ((5 - Int32.toInt i1z39_).toNat < nz39_)) → PW 108 d (2, [some (pvR 5), some (pvI i1z39_)], [], Mz39_) (fun r X => r = none ∧ pvOk X ∧ pvFr fp_X1_forget_5 M X) := by
    intro nz39_
    induction nz39_ with
    | zero => intro i1z39_ Mz39_ oz39_ fz39_ h1z39_ hmz39_; exact absurd (zshow hmz39_) (Nat.not_lt_zero _)
    | succ nz39_ ihz39_ =>
      intro i1z39_ Mz39_ oz39_ fz39_ h1z39_ hmz39_
      refine pw_blk hT 2 (S' := (4, [some (pvR 5), some (pvI i1z39_)], [pvI 4, pvI i1z39_], Mz39_)) rfl ⟨trivial, trivial, trivial⟩ ?_
      refine pw_ic hT (c := 4 ≤ i1z39_) rfl rfl (fun c40_ => ?_) (fun c40_ => ?_)
      · have b41_ : 4 ≤ Int32.toInt i1z39_ ∧ Int32.toInt i1z39_ ≤ 4 := zr_le_r 4 c40_ h1z39_ (show 4 ≤ Int32.toInt 4 ∧ Int32.toInt 4 ≤ 4 from (by decide)) (by decide)
        exact pw_ret hT rfl (r := none) (M' := Mz39_) ⟨rfl, rfl⟩ ⟨rfl, oz39_, fz39_⟩
      · have b42_ : 0 ≤ Int32.toInt i1z39_ ∧ Int32.toInt i1z39_ ≤ 3 := zr_nle_r 3 c40_ h1z39_ (show 4 ≤ Int32.toInt 4 ∧ Int32.toInt 4 ≤ 4 from (by decide)) (by decide)
        refine pw_blkw hT 5 (pc := 14) (lo := [some (pvR 5), some (pvI i1z39_)]) (st := []) (M := pvu Mz39_ 14 (Int32.toNatClampNeg i1z39_) (vp_nar .boolean 0)) rfl ⟨trivial, rfl, trivial, trivial, ⟨rfl, (zr_in (n := 4) b42_ (by decide) (by decide))⟩, trivial⟩ (fun M43_ e44_ => ?_)
        have o45_ : pvOk M43_ := pvok_u2 e44_ oz39_ rfl (zboolr 0)
        have f46_ : pvFr fp_X1_forget_5 M M43_ := pvfr_u e44_ fz39_ rfl
        obtain ⟨q48_, b47_⟩ : (Int32.toInt (i1z39_ + 1) = Int32.toInt i1z39_ + 1) ∧ (1 ≤ Int32.toInt (i1z39_ + 1) ∧ Int32.toInt (i1z39_ + 1) ≤ 4) := zadd_k i1z39_ 1 1 1 4 b42_ (by decide) (by decide) (by decide) (by decide) (by decide)
        refine pw_blk hT 2 (S' := (2, [some (pvR 5), some (pvI (i1z39_ + 1))], [], M43_)) rfl ⟨trivial, trivial, trivial⟩ ?_
        exact ihz39_ (i1z39_ + 1) M43_ o45_ f46_ (zr_wide b47_ (by decide) (by decide)) (zhid (pvms_up (zshow hmz39_) h1z39_ q48_ (by decide) (by decide)))
  exact hlz39_ _ 0 M hok pvfr_0 (zr_wide (show 0 ≤ Int32.toInt 0 ∧ Int32.toInt 0 ≤ 0 from (by decide)) (by decide) (by decide)) (zhid (Nat.lt_succ_self _))
def fpL_X9_house_0 : List (Nat × Nat × Nat) := [(0, 0, 2), (0, 14, 0), (0, 6, 2), (0, 6, 3), (0, 6, 4), (0, 6, 5), (0, 8, 9), (1, 109, 0), (1, 110, 0), (1, 111, 0), (1, 112, 0), (1, 2, 0)]
def fp_X9_house_0 (q k : Nat) : Bool := pvfp fpL_X9_house_0 q k
theorem fp_X9_house_0_fp_X1_forget_5 (a b : Nat) (h : fp_X1_forget_5 a b = true) : fp_X9_house_0 a b = true := pvfp_sub (l1 := fpL_X1_forget_5) (l2 := fpL_X9_house_0) (by decide) a b h
theorem fp_X9_house_0_fp_X5_readInto_6_x (a b : Nat) (h : fp_X5_readInto_6_x a b = true) : fp_X9_house_0 a b = true := pvfp_sub (l1 := fpL_X5_readInto_6_x) (l2 := fpL_X9_house_0) (by decide) a b h
set_option maxHeartbeats 4000000 in
set_option maxRecDepth 10000 in
theorem sf_X9_house_0 (M : pvM) (hok : pvOk M) (d : Nat) : PW 177 d (0, [some (pvR 0), none, none], [], M) (fun r X => (∃ x : Int32, r = some (pvI x) ∧ (-110) ≤ Int32.toInt x ∧ Int32.toInt x ≤ 5) ∧ pvOk X ∧ pvFr fp_X9_house_0 M X) := by
  have hT : pvdom 177 = pvD_177 := rfl
  have b1_ : 0 ≤ Int32.toInt (M.1 0 1) ∧ Int32.toInt (M.1 0 1) ≤ 6 := pvok_r hok 0 1 rfl
  refine pw_blk hT 3 (S' := (6, [some (pvR 0), none, none], [pvI 6, pvI (M.1 0 1)], M)) rfl ⟨trivial, rfl, trivial, trivial⟩ ?_
  refine pw_ic hT (c := (M.1 0 1) < 6) rfl rfl (fun c2_ => ?_) (fun c2_ => ?_)
  · have b3_ : 0 ≤ Int32.toInt (M.1 0 1) ∧ Int32.toInt (M.1 0 1) ≤ 5 := zr_lt_l 5 c2_ b1_ (show 6 ≤ Int32.toInt 6 ∧ Int32.toInt 6 ≤ 6 from (by decide)) (by decide)
    refine pw_blkr hT 7 (pc := 25) (lo := [some (pvR 0), none, none]) (st := [pvR 6]) (M := M) (z := (pvbs 1 + Int32.toNatClampNeg (M.1 0 1))) rfl ⟨trivial, rfl, trivial, rfl, trivial, rfl, ⟨rfl, (zr_in (n := 6) b3_ (by decide) (by decide))⟩, trivial⟩ (fun q4_ e6_ => ?_)
    have k5_ : pvkl q4_ = 2 := pvel_1 (zr_in (n := 6) b3_ (by decide) (by decide)) e6_
    refine pw_callG hT (as := [pvR 6, pvR q4_]) (lo1 := [some (pvR 6), some (pvR q4_), none]) (d1 := d) (rest := []) rfl rfl rfl rfl rfl (fun _ => rfl) (Nat.zero_le _) rfl rfl rfl (sf_X5_readInto_6_x M hok q4_ k5_ d) (fun x7_ M8_ b9_ o10_ g11_ => ?_)
    have f12_ : pvFr fp_X9_house_0 M M8_ := pvfr_t g11_ pvfr_0 fp_X9_house_0_fp_X5_readInto_6_x
    refine pw_blkw hT 5 (pc := 37) (lo := [some (pvR 0), some (pvI x7_), none]) (st := []) (M := pvu M8_ 6 1 0) rfl ⟨trivial, trivial, rfl, trivial, rfl, trivial⟩ (fun M13_ e14_ => ?_)
    have o15_ : pvOk M13_ := pvok_u2 e14_ o10_ rfl (zr_wide (show 0 ≤ Int32.toInt 0 ∧ Int32.toInt 0 ≤ 0 from (by decide)) (by decide) (by decide))
    have f16_ : pvFr fp_X9_house_0 M M13_ := pvfr_u e14_ f12_ rfl
    refine pw_blk hT 1 (S' := (38, [some (pvR 0), some (pvI x7_), none], [pvI x7_], M13_)) rfl ⟨trivial, trivial⟩ ?_
    refine pw_ifn hT (c := x7_ = 0) rfl rfl (fun c17_ => ?_) (fun c17_ => ?_)
    · have b18_ : 1 ≤ Int32.toInt x7_ ∧ Int32.toInt x7_ ≤ 1 := (by have u0 := b9_; have u1 := (not_congr (zi_eq _ _)).mp c17_; have u2 := (show 0 ≤ Int32.toInt 0 ∧ Int32.toInt 0 ≤ 0 from (by decide)); omega)
      have e19_ : (M13_.1 0 1) = (M.1 0 1) := ((pvu_n e14_ 0 1 (Or.inl (by decide))).trans (g11_ 0 1 rfl))
      have b20_ : 0 ≤ Int32.toInt (M13_.1 0 1) ∧ Int32.toInt (M13_.1 0 1) ≤ 5 := (by rw [e19_]; exact b3_)
      obtain ⟨q22_, b21_⟩ : (Int32.toInt ((M13_.1 0 1) + 1) = Int32.toInt (M13_.1 0 1) + 1) ∧ (1 ≤ Int32.toInt ((M13_.1 0 1) + 1) ∧ Int32.toInt ((M13_.1 0 1) + 1) ≤ 6) := zadd_k (M13_.1 0 1) 1 1 1 6 b20_ (by decide) (by decide) (by decide) (by decide) (by decide)
      refine pw_blkw hT 7 (pc := 63) (lo := [some (pvR 0), some (pvI x7_), none]) (st := [pvI (M13_.1 0 1)]) (M := pvu M13_ 0 1 ((M13_.1 0 1) + 1)) rfl ⟨trivial, trivial, rfl, trivial, trivial, trivial, rfl, trivial⟩ (fun M23_ e24_ => ?_)
      have o25_ : pvOk M23_ := pvok_u2 e24_ o15_ rfl (zr_wide b21_ (by decide) (by decide))
      have f26_ : pvFr fp_X9_house_0 M M23_ := pvfr_u e24_ f16_ rfl
      refine pw_blkr hT 7 (pc := 74) (lo := [some (pvR 0), some (pvI x7_), some (pvI (M13_.1 0 1))]) (st := [pvR 8]) (M := M23_) (z := (pvbs 1 + Int32.toNatClampNeg (M13_.1 0 1))) rfl ⟨trivial, trivial, rfl, trivial, rfl, trivial, ⟨rfl, (zr_in (n := 6) b20_ (by decide) (by decide))⟩, trivial⟩ (fun q27_ e29_ => ?_)
      have k28_ : pvkl q27_ = 2 := pvel_1 (zr_in (n := 6) b20_ (by decide) (by decide)) e29_
      refine pw_blkw hT 1 (pc := 77) (lo := [some (pvR 0), some (pvI x7_), some (pvI (M13_.1 0 1))]) (st := []) (M := pvu M23_ 8 8 (nI q27_)) rfl ⟨⟨rfl, k28_⟩, trivial⟩ (fun M30_ e31_ => ?_)
      have o32_ : pvOk M30_ := pvok_u2 e31_ o25_ rfl (pvhp_r k28_)
      have f33_ : pvFr fp_X9_house_0 M M30_ := pvfr_u e31_ f26_ rfl
      refine pw_blk hT 2 (S' := (81, [some (pvR 0), some (pvI x7_), some (pvI (M13_.1 0 1))], [pvR 5], M30_)) rfl ⟨trivial, rfl, trivial⟩ ?_
      refine pw_callV hT (as := [pvR 5]) (lo1 := [some (pvR 5), none]) (d1 := d) (rest := []) rfl rfl rfl rfl rfl (fun _ => rfl) (Nat.zero_le _) rfl rfl rfl (sf_X1_forget_5 M30_ o32_ d) (fun M35_ o37_ g38_ => ?_)
      have f39_ : pvFr fp_X9_house_0 M M35_ := pvfr_t g38_ f33_ fp_X9_house_0_fp_X1_forget_5
      refine pw_blk hT 1 (S' := (85, [some (pvR 0), some (pvI x7_), some (pvI (M13_.1 0 1))], [pvI (M13_.1 0 1)], M35_)) rfl ⟨trivial, trivial⟩ ?_
      exact pw_ret hT rfl (r := some (pvI (M13_.1 0 1))) (M' := M35_) ⟨rfl, rfl⟩ ⟨⟨_, rfl, (zr_wide b20_ (by decide) (by decide))⟩, o37_, f39_⟩
    · have b40_ : 0 ≤ Int32.toInt x7_ ∧ Int32.toInt x7_ ≤ 0 := (by have u0 := b9_; have u1 := (zi_eq _ _).mp c17_; have u2 := (show 0 ≤ Int32.toInt 0 ∧ Int32.toInt 0 ≤ 0 from (by decide)); omega)
      have b41_ : (-1) ≤ Int32.toInt (M13_.1 6 2) ∧ Int32.toInt (M13_.1 6 2) ≤ 100 := pvok_r o15_ 6 2 rfl
      obtain ⟨q43_, b42_⟩ : (Int32.toInt ((-10) - (M13_.1 6 2)) = (-10) - Int32.toInt (M13_.1 6 2)) ∧ ((-110) ≤ Int32.toInt ((-10) - (M13_.1 6 2)) ∧ Int32.toInt ((-10) - (M13_.1 6 2)) ≤ (-9)) := zsub_q (-10) (M13_.1 6 2) (-10) (-110) (-9) b41_ (by decide) (by decide) (by decide) (by decide) (by decide)
      refine pw_blk hT 5 (S' := (51, [some (pvR 0), some (pvI x7_), none], [pvI ((-10) - (M13_.1 6 2))], M13_)) rfl ⟨trivial, trivial, rfl, rfl, trivial, trivial⟩ ?_
      exact pw_ret hT rfl (r := some (pvI ((-10) - (M13_.1 6 2)))) (M' := M13_) ⟨rfl, rfl⟩ ⟨⟨_, rfl, (zr_wide b42_ (by decide) (by decide))⟩, o15_, f16_⟩
  · have b44_ : 6 ≤ Int32.toInt (M.1 0 1) ∧ Int32.toInt (M.1 0 1) ≤ 6 := zr_nlt_l 6 c2_ b1_ (show 6 ≤ Int32.toInt 6 ∧ Int32.toInt 6 ≤ 6 from (by decide)) (by decide)
    refine pw_blk hT 1 (S' := (11, [some (pvR 0), none, none], [pvI (-4)], M)) rfl ⟨trivial, trivial⟩ ?_
    exact pw_ret hT rfl (r := some (pvI (-4))) (M' := M) ⟨rfl, rfl⟩ ⟨⟨_, rfl, (zr_wide (show (-4) ≤ Int32.toInt (-4) ∧ Int32.toInt (-4) ≤ (-4) from (by decide)) (by decide) (by decide))⟩, hok, pvfr_0⟩
def fpL_X6_clear_101 : List (Nat × Nat × Nat) := [(0, 101, 1)]
def fp_X6_clear_101 (q k : Nat) : Bool := pvfp fpL_X6_clear_101 q k
set_option maxHeartbeats 4000000 in
set_option maxRecDepth 10000 in
theorem sf_X6_clear_101 (M : pvM) (hok : pvOk M) (d : Nat) : PW 153 d (0, [some (pvR 101)], [], M) (fun r X => (∃ x : Int32, r = some (pvI x) ∧ 0 ≤ Int32.toInt x ∧ Int32.toInt x ≤ 0) ∧ pvOk X ∧ pvFr fp_X6_clear_101 M X) := by
  have hT : pvdom 153 = pvD_153 := rfl
  refine pw_blkw hT 3 (pc := 5) (lo := [some (pvR 101)]) (st := []) (M := pvu M 101 0 0) rfl ⟨trivial, trivial, rfl, trivial⟩ (fun M1_ e2_ => ?_)
  have o3_ : pvOk M1_ := pvok_u2 e2_ hok rfl (zr_wide (show 0 ≤ Int32.toInt 0 ∧ Int32.toInt 0 ≤ 0 from (by decide)) (by decide) (by decide))
  have f4_ : pvFr fp_X6_clear_101 M M1_ := pvfr_u e2_ pvfr_0 rfl
  refine pw_blk hT 1 (S' := (6, [some (pvR 101)], [pvI 0], M1_)) rfl ⟨trivial, trivial⟩ ?_
  exact pw_ret hT rfl (r := some (pvI 0)) (M' := M1_) ⟨rfl, rfl⟩ ⟨⟨_, rfl, (show 0 ≤ Int32.toInt 0 ∧ Int32.toInt 0 ≤ 0 from (by decide))⟩, o3_, f4_⟩
set_option maxHeartbeats 4000000 in
set_option maxRecDepth 10000 in
theorem sf_X6_isFull_101 (M : pvM) (hok : pvOk M) (d : Nat) : PW 154 d (0, [some (pvR 101)], [], M) (fun r X => r = some (pvI ((if (M.1 101 0) < (Int32.ofNat 7) then 0 else 1))) ∧ X = M) := by
  have hT : pvdom 154 = pvD_154 := rfl
  have b1_ : 0 ≤ Int32.toInt (M.1 101 0) ∧ Int32.toInt (M.1 101 0) ≤ 7 := pvok_r hok 101 0 rfl
  refine pw_blk hT 5 (S' := (9, [some (pvR 101)], [pvI (Int32.ofNat 7), pvI (M.1 101 0)], M)) rfl ⟨trivial, rfl, trivial, rfl, rfl, trivial⟩ ?_
  refine pw_ic hT (c := (M.1 101 0) < (Int32.ofNat 7)) rfl rfl (fun c2_ => ?_) (fun c2_ => ?_)
  · have b3_ : 0 ≤ Int32.toInt (M.1 101 0) ∧ Int32.toInt (M.1 101 0) ≤ 6 := zr_lt_l 6 c2_ b1_ (show 7 ≤ Int32.toInt (Int32.ofNat 7) ∧ Int32.toInt (Int32.ofNat 7) ≤ 7 from (by decide)) (by decide)
    refine pw_blk hT 1 (S' := (17, [some (pvR 101)], [pvI 0], M)) rfl ⟨trivial, trivial⟩ ?_
    exact pw_ret hT rfl (r := some (pvI 0)) (M' := M) ⟨Or.inl rfl, rfl, rfl⟩ ⟨(by rw [if_pos c2_]), rfl⟩
  · have b4_ : 7 ≤ Int32.toInt (M.1 101 0) ∧ Int32.toInt (M.1 101 0) ≤ 7 := zr_nlt_l 7 c2_ b1_ (show 7 ≤ Int32.toInt (Int32.ofNat 7) ∧ Int32.toInt (Int32.ofNat 7) ≤ 7 from (by decide)) (by decide)
    refine pw_blk hT 2 (S' := (17, [some (pvR 101)], [pvI 1], M)) rfl ⟨trivial, trivial, trivial⟩ ?_
    exact pw_ret hT rfl (r := some (pvI 1)) (M' := M) ⟨Or.inr rfl, rfl, rfl⟩ ⟨(by rw [if_neg c2_]), rfl⟩
def fpL_X6_append_101_x_x : List (Nat × Nat × Nat) := [(0, 101, 1), (0, 109, 0), (0, 117, 0)]
def fp_X6_append_101_x_x (q k : Nat) : Bool := pvfp fpL_X6_append_101_x_x q k
set_option maxHeartbeats 4000000 in
set_option maxRecDepth 10000 in
theorem sf_X6_append_101_x_x (M : pvM) (hok : pvOk M) (n1 : Int32) (n2 : Int32) (hn1 : 0 ≤ Int32.toInt n1 ∧ Int32.toInt n1 ≤ 6) (hn2 : 0 ≤ Int32.toInt n2 ∧ Int32.toInt n2 ≤ 9999) (d : Nat) : PW 151 d (0, [some (pvR 101), some (pvI n1), some (pvI n2)], [], M) (fun r X => (∃ x : Int32, r = some (pvI x) ∧ 1 ≤ Int32.toInt x ∧ Int32.toInt x ≤ 7) ∧ pvOk X ∧ pvFr fp_X6_append_101_x_x M X) := by
  have hT : pvdom 151 = pvD_151 := rfl
  refine pw_blk hT 1 (S' := (1, [some (pvR 101), some (pvI n1), some (pvI n2)], [pvR 101], M)) rfl ⟨trivial, trivial⟩ ?_
  refine pw_callT hT (as := [pvR 101]) (lo1 := [some (pvR 101)]) (d1 := d) (rest := []) rfl rfl rfl rfl rfl (fun _ => rfl) (Nat.zero_le _) rfl rfl rfl (sf_X6_isFull_101 M hok d) ?_
  have b6_ : 0 ≤ Int32.toInt (M.1 101 0) ∧ Int32.toInt (M.1 101 0) ≤ 7 := pvok_r hok 101 0 rfl
  by_cases c7_ : (M.1 101 0) < (Int32.ofNat 7)
  · refine pw_eqI (if_pos c7_) ?_
    have b8_ : 0 ≤ Int32.toInt (M.1 101 0) ∧ Int32.toInt (M.1 101 0) ≤ 6 := zr_lt_l 6 c7_ b6_ (show 7 ≤ Int32.toInt (Int32.ofNat 7) ∧ Int32.toInt (Int32.ofNat 7) ≤ 7 from (by decide)) (by decide)
    show PW 151 d (4, [some (pvR 101), some (pvI n1), some (pvI n2)], [pvI 0], M) _
    refine pw_if hT (c := 0 = 0) rfl rfl (fun c9_ => ?_) (fun c9_ => absurd (by decide) c9_)
    refine pw_blkw hT 6 (pc := 22) (lo := [some (pvR 101), some (pvI n1), some (pvI n2)]) (st := []) (M := pvu M 109 (Int32.toNatClampNeg (M.1 101 0)) n1) rfl ⟨trivial, rfl, trivial, rfl, trivial, ⟨rfl, (zr_in (n := 7) b8_ (by decide) (by decide))⟩, trivial⟩ (fun M10_ e11_ => ?_)
    have o12_ : pvOk M10_ := pvok_u2 e11_ hok rfl hn1
    have f13_ : pvFr fp_X6_append_101_x_x M M10_ := pvfr_u e11_ pvfr_0 rfl
    have e14_ : (M10_.1 101 0) = (M.1 101 0) := (pvu_n e11_ 101 0 (Or.inl (by decide)))
    have b15_ : 0 ≤ Int32.toInt (M10_.1 101 0) ∧ Int32.toInt (M10_.1 101 0) ≤ 6 := (by rw [e14_]; exact b8_)
    refine pw_blkw hT 6 (pc := 32) (lo := [some (pvR 101), some (pvI n1), some (pvI n2)]) (st := []) (M := pvu M10_ 117 (Int32.toNatClampNeg (M10_.1 101 0)) n2) rfl ⟨trivial, rfl, trivial, rfl, trivial, ⟨rfl, (zr_in (n := 7) b15_ (by decide) (by decide))⟩, trivial⟩ (fun M16_ e17_ => ?_)
    have o18_ : pvOk M16_ := pvok_u2 e17_ o12_ rfl hn2
    have f19_ : pvFr fp_X6_append_101_x_x M M16_ := pvfr_u e17_ f13_ rfl
    have e20_ : (M16_.1 101 0) = (M10_.1 101 0) := (pvu_n e17_ 101 0 (Or.inl (by decide)))
    have b21_ : 0 ≤ Int32.toInt (M16_.1 101 0) ∧ Int32.toInt (M16_.1 101 0) ≤ 6 := (by rw [e20_]; exact b15_)
    obtain ⟨q23_, b22_⟩ : (Int32.toInt ((M16_.1 101 0) + 1) = Int32.toInt (M16_.1 101 0) + 1) ∧ (1 ≤ Int32.toInt ((M16_.1 101 0) + 1) ∧ Int32.toInt ((M16_.1 101 0) + 1) ≤ 7) := zadd_k (M16_.1 101 0) 1 1 1 7 b21_ (by decide) (by decide) (by decide) (by decide) (by decide)
    refine pw_blkw hT 6 (pc := 42) (lo := [some (pvR 101), some (pvI n1), some (pvI n2)]) (st := []) (M := pvu M16_ 101 0 ((M16_.1 101 0) + 1)) rfl ⟨trivial, trivial, rfl, trivial, trivial, rfl, trivial⟩ (fun M24_ e25_ => ?_)
    have o26_ : pvOk M24_ := pvok_u2 e25_ o18_ rfl (zr_wide b22_ (by decide) (by decide))
    have f27_ : pvFr fp_X6_append_101_x_x M M24_ := pvfr_u e25_ f19_ rfl
    have e28_ : (M24_.1 101 0) = ((M16_.1 101 0) + 1) := (pvu_s e25_)
    have b29_ : 1 ≤ Int32.toInt (M24_.1 101 0) ∧ Int32.toInt (M24_.1 101 0) ≤ 7 := (by rw [e28_]; exact b22_)
    refine pw_blk hT 2 (S' := (46, [some (pvR 101), some (pvI n1), some (pvI n2)], [pvI (M24_.1 101 0)], M24_)) rfl ⟨trivial, rfl, trivial⟩ ?_
    exact pw_ret hT rfl (r := some (pvI (M24_.1 101 0))) (M' := M24_) ⟨rfl, rfl⟩ ⟨⟨_, rfl, b29_⟩, o26_, f27_⟩
  · refine pw_eqI (if_neg c7_) ?_
    have b30_ : 7 ≤ Int32.toInt (M.1 101 0) ∧ Int32.toInt (M.1 101 0) ≤ 7 := zr_nlt_l 7 c7_ b6_ (show 7 ≤ Int32.toInt (Int32.ofNat 7) ∧ Int32.toInt (Int32.ofNat 7) ≤ 7 from (by decide)) (by decide)
    show PW 151 d (4, [some (pvR 101), some (pvI n1), some (pvI n2)], [pvI 1], M) _
    refine pw_if hT (c := 1 = 0) rfl rfl (fun c31_ => absurd c31_ (by decide)) (fun c31_ => ?_)
    refine pw_blk hT 2 (S' := (11, [some (pvR 101), some (pvI n1), some (pvI n2)], [pvI (M.1 101 0)], M)) rfl ⟨trivial, rfl, trivial⟩ ?_
    exact pw_ret hT rfl (r := some (pvI (M.1 101 0))) (M' := M) ⟨rfl, rfl⟩ ⟨⟨_, rfl, (zr_wide b30_ (by decide) (by decide))⟩, hok, pvfr_0⟩
def fpL_X6_becomeAs_101_100 : List (Nat × Nat × Nat) := [(0, 101, 1), (0, 109, 0), (0, 117, 0)]
def fp_X6_becomeAs_101_100 (q k : Nat) : Bool := pvfp fpL_X6_becomeAs_101_100 q k
theorem fp_X6_becomeAs_101_100_fp_X6_append_101_x_x (a b : Nat) (h : fp_X6_append_101_x_x a b = true) : fp_X6_becomeAs_101_100 a b = true := pvfp_sub (l1 := fpL_X6_append_101_x_x) (l2 := fpL_X6_becomeAs_101_100) (by decide) a b h
theorem fp_X6_becomeAs_101_100_fp_X6_clear_101 (a b : Nat) (h : fp_X6_clear_101 a b = true) : fp_X6_becomeAs_101_100 a b = true := pvfp_sub (l1 := fpL_X6_clear_101) (l2 := fpL_X6_becomeAs_101_100) (by decide) a b h
set_option maxHeartbeats 4000000 in
set_option maxRecDepth 10000 in
theorem sf_X6_becomeAs_101_100 (M : pvM) (hok : pvOk M) (d : Nat) : PW 152 d (0, [some (pvR 101), some (pvR 100), none], [], M) (fun r X => r = none ∧ pvOk X ∧ pvFr fp_X6_becomeAs_101_100 M X) := by
  have hT : pvdom 152 = pvD_152 := rfl
  refine pw_blk hT 1 (S' := (1, [some (pvR 101), some (pvR 100), none], [pvR 101], M)) rfl ⟨trivial, trivial⟩ ?_
  refine pw_callG hT (as := [pvR 101]) (lo1 := [some (pvR 101)]) (d1 := d) (rest := []) rfl rfl rfl rfl rfl (fun _ => rfl) (Nat.zero_le _) rfl rfl rfl (sf_X6_clear_101 M hok d) (fun x1_ M2_ b3_ o4_ g5_ => ?_)
  have f6_ : pvFr fp_X6_becomeAs_101_100 M M2_ := pvfr_t g5_ pvfr_0 fp_X6_becomeAs_101_100_fp_X6_clear_101
  refine pw_blk hT 3 (S' := (7, [some (pvR 101), some (pvR 100), some (pvI 0)], [], M2_)) rfl ⟨trivial, trivial, trivial, trivial⟩ ?_
  have hlz75_ : ∀ (nz75_ : Nat) (i2z75_ : Int32) (Mz75_ : pvM), (pvOk Mz75_) → (pvFr fp_X6_becomeAs_101_100 M Mz75_) → (0 ≤ Int32.toInt i2z75_ ∧ Int32.toInt i2z75_ ≤ 7) → (zhide ((8 - Int32.toInt i2z75_).toNat < nz75_)) → PW 152 d (7, [some (pvR 101), some (pvR 100), some (pvI i2z75_)], [], Mz75_) (fun r X => r = none ∧ pvOk X ∧ pvFr fp_X6_becomeAs_101_100 M X) := by
    intro nz75_
    induction nz75_ with
    | zero => intro i2z75_ Mz75_ oz75_ fz75_ h2z75_ hmz75_; exact absurd (zshow hmz75_) (Nat.not_lt_zero _)
    | succ nz75_ ihz75_ =>
      intro i2z75_ Mz75_ oz75_ fz75_ h2z75_ hmz75_
      have b76_ : 0 ≤ Int32.toInt (Mz75_.1 100 0) ∧ Int32.toInt (Mz75_.1 100 0) ≤ 7 := pvok_r oz75_ 100 0 rfl
      refine pw_blk hT 3 (S' := (12, [some (pvR 101), some (pvR 100), some (pvI i2z75_)], [pvI (Mz75_.1 100 0), pvI i2z75_], Mz75_)) rfl ⟨trivial, trivial, rfl, trivial⟩ ?_
      refine pw_ic hT (c := (Mz75_.1 100 0) ≤ i2z75_) rfl rfl (fun c77_ => ?_) (fun c77_ => ?_)
      · have d78_ : Int32.toInt (Mz75_.1 100 0) ≤ Int32.toInt i2z75_ := (zi_le _ _).mp c77_
        exact pw_ret hT rfl (r := none) (M' := Mz75_) ⟨rfl, rfl⟩ ⟨rfl, oz75_, fz75_⟩
      · have b79_ : 1 ≤ Int32.toInt (Mz75_.1 100 0) ∧ Int32.toInt (Mz75_.1 100 0) ≤ 7 := zr_nle_l 1 c77_ b76_ h2z75_ (by decide)
        have b80_ : 0 ≤ Int32.toInt i2z75_ ∧ Int32.toInt i2z75_ ≤ 6 := zr_nle_r 6 c77_ h2z75_ b79_ (by decide)
        have d81_ : Int32.toInt (Mz75_.1 100 0) > Int32.toInt i2z75_ := Int.not_le.mp ((not_congr (zi_le _ _)).mp c77_)
        have b82_ : 0 ≤ Int32.toInt (Mz75_.1 108 (Int32.toNatClampNeg i2z75_)) ∧ Int32.toInt (Mz75_.1 108 (Int32.toNatClampNeg i2z75_)) ≤ 6 := pvok_r oz75_ 108 (Int32.toNatClampNeg i2z75_) rfl
        have b83_ : 0 ≤ Int32.toInt (Mz75_.1 116 (Int32.toNatClampNeg i2z75_)) ∧ Int32.toInt (Mz75_.1 116 (Int32.toNatClampNeg i2z75_)) ≤ 9999 := pvok_r oz75_ 116 (Int32.toNatClampNeg i2z75_) rfl
        refine pw_blk hT 9 (S' := (28, [some (pvR 101), some (pvR 100), some (pvI i2z75_)], [pvI (Mz75_.1 116 (Int32.toNatClampNeg i2z75_)), pvI (Mz75_.1 108 (Int32.toNatClampNeg i2z75_)), pvR 101], Mz75_)) rfl ⟨trivial, trivial, rfl, trivial, ⟨rfl, (zr_in (n := 7) b80_ (by decide) (by decide))⟩, trivial, rfl, trivial, ⟨rfl, (zr_in (n := 7) b80_ (by decide) (by decide))⟩, trivial⟩ ?_
        refine pw_callG hT (as := [pvR 101, pvI (Mz75_.1 108 (Int32.toNatClampNeg i2z75_)), pvI (Mz75_.1 116 (Int32.toNatClampNeg i2z75_))]) (lo1 := [some (pvR 101), some (pvI (Mz75_.1 108 (Int32.toNatClampNeg i2z75_))), some (pvI (Mz75_.1 116 (Int32.toNatClampNeg i2z75_)))]) (d1 := d) (rest := []) rfl rfl rfl rfl rfl (fun _ => rfl) (Nat.zero_le _) rfl rfl rfl (sf_X6_append_101_x_x Mz75_ oz75_ (Mz75_.1 108 (Int32.toNatClampNeg i2z75_)) (Mz75_.1 116 (Int32.toNatClampNeg i2z75_)) b82_ b83_ d) (fun x84_ M85_ b86_ o87_ g88_ => ?_)
        have f89_ : pvFr fp_X6_becomeAs_101_100 M M85_ := pvfr_t g88_ fz75_ fp_X6_becomeAs_101_100_fp_X6_append_101_x_x
        obtain ⟨q91_, b90_⟩ : (Int32.toInt (i2z75_ + 1) = Int32.toInt i2z75_ + 1) ∧ (1 ≤ Int32.toInt (i2z75_ + 1) ∧ Int32.toInt (i2z75_ + 1) ≤ 7) := zadd_k i2z75_ 1 1 1 7 b80_ (by decide) (by decide) (by decide) (by decide) (by decide)
        refine pw_blk hT 3 (S' := (7, [some (pvR 101), some (pvR 100), some (pvI (i2z75_ + 1))], [], M85_)) rfl ⟨trivial, trivial, trivial, trivial⟩ ?_
        exact ihz75_ (i2z75_ + 1) M85_ o87_ f89_ (zr_wide b90_ (by decide) (by decide)) (zhid (pvms_up (zshow hmz75_) h2z75_ q91_ (by decide) (by decide)))
  exact hlz75_ _ 0 M2_ o4_ f6_ (zr_wide (show 0 ≤ Int32.toInt 0 ∧ Int32.toInt 0 ≤ 0 from (by decide)) (by decide) (by decide)) (zhid (Nat.lt_succ_self _))
def fpL_X6_clear_103 : List (Nat × Nat × Nat) := [(0, 103, 1)]
def fp_X6_clear_103 (q k : Nat) : Bool := pvfp fpL_X6_clear_103 q k
set_option maxHeartbeats 4000000 in
set_option maxRecDepth 10000 in
theorem sf_X6_clear_103 (M : pvM) (hok : pvOk M) (d : Nat) : PW 153 d (0, [some (pvR 103)], [], M) (fun r X => (∃ x : Int32, r = some (pvI x) ∧ 0 ≤ Int32.toInt x ∧ Int32.toInt x ≤ 0) ∧ pvOk X ∧ pvFr fp_X6_clear_103 M X) := by
  have hT : pvdom 153 = pvD_153 := rfl
  refine pw_blkw hT 3 (pc := 5) (lo := [some (pvR 103)]) (st := []) (M := pvu M 103 0 0) rfl ⟨trivial, trivial, rfl, trivial⟩ (fun M1_ e2_ => ?_)
  have o3_ : pvOk M1_ := pvok_u2 e2_ hok rfl (zr_wide (show 0 ≤ Int32.toInt 0 ∧ Int32.toInt 0 ≤ 0 from (by decide)) (by decide) (by decide))
  have f4_ : pvFr fp_X6_clear_103 M M1_ := pvfr_u e2_ pvfr_0 rfl
  refine pw_blk hT 1 (S' := (6, [some (pvR 103)], [pvI 0], M1_)) rfl ⟨trivial, trivial⟩ ?_
  exact pw_ret hT rfl (r := some (pvI 0)) (M' := M1_) ⟨rfl, rfl⟩ ⟨⟨_, rfl, (show 0 ≤ Int32.toInt 0 ∧ Int32.toInt 0 ≤ 0 from (by decide))⟩, o3_, f4_⟩
set_option maxHeartbeats 4000000 in
set_option maxRecDepth 10000 in
theorem sf_X6_isFull_103 (M : pvM) (hok : pvOk M) (d : Nat) : PW 154 d (0, [some (pvR 103)], [], M) (fun r X => r = some (pvI ((if (M.1 103 0) < (Int32.ofNat 6) then 0 else 1))) ∧ X = M) := by
  have hT : pvdom 154 = pvD_154 := rfl
  have b1_ : 0 ≤ Int32.toInt (M.1 103 0) ∧ Int32.toInt (M.1 103 0) ≤ 6 := pvok_r hok 103 0 rfl
  refine pw_blk hT 5 (S' := (9, [some (pvR 103)], [pvI (Int32.ofNat 6), pvI (M.1 103 0)], M)) rfl ⟨trivial, rfl, trivial, rfl, rfl, trivial⟩ ?_
  refine pw_ic hT (c := (M.1 103 0) < (Int32.ofNat 6)) rfl rfl (fun c2_ => ?_) (fun c2_ => ?_)
  · have b3_ : 0 ≤ Int32.toInt (M.1 103 0) ∧ Int32.toInt (M.1 103 0) ≤ 5 := zr_lt_l 5 c2_ b1_ (show 6 ≤ Int32.toInt (Int32.ofNat 6) ∧ Int32.toInt (Int32.ofNat 6) ≤ 6 from (by decide)) (by decide)
    refine pw_blk hT 1 (S' := (17, [some (pvR 103)], [pvI 0], M)) rfl ⟨trivial, trivial⟩ ?_
    exact pw_ret hT rfl (r := some (pvI 0)) (M' := M) ⟨Or.inl rfl, rfl, rfl⟩ ⟨(by rw [if_pos c2_]), rfl⟩
  · have b4_ : 6 ≤ Int32.toInt (M.1 103 0) ∧ Int32.toInt (M.1 103 0) ≤ 6 := zr_nlt_l 6 c2_ b1_ (show 6 ≤ Int32.toInt (Int32.ofNat 6) ∧ Int32.toInt (Int32.ofNat 6) ≤ 6 from (by decide)) (by decide)
    refine pw_blk hT 2 (S' := (17, [some (pvR 103)], [pvI 1], M)) rfl ⟨trivial, trivial, trivial⟩ ?_
    exact pw_ret hT rfl (r := some (pvI 1)) (M' := M) ⟨Or.inr rfl, rfl, rfl⟩ ⟨(by rw [if_neg c2_]), rfl⟩
def fpL_X6_append_103_x_x : List (Nat × Nat × Nat) := [(0, 103, 1), (0, 111, 0), (0, 119, 0)]
def fp_X6_append_103_x_x (q k : Nat) : Bool := pvfp fpL_X6_append_103_x_x q k
set_option maxHeartbeats 4000000 in
set_option maxRecDepth 10000 in
theorem sf_X6_append_103_x_x (M : pvM) (hok : pvOk M) (n1 : Int32) (n2 : Int32) (hn1 : 0 ≤ Int32.toInt n1 ∧ Int32.toInt n1 ≤ 6) (hn2 : 0 ≤ Int32.toInt n2 ∧ Int32.toInt n2 ≤ 9999) (d : Nat) : PW 151 d (0, [some (pvR 103), some (pvI n1), some (pvI n2)], [], M) (fun r X => (∃ x : Int32, r = some (pvI x) ∧ 1 ≤ Int32.toInt x ∧ Int32.toInt x ≤ 6) ∧ pvOk X ∧ pvFr fp_X6_append_103_x_x M X) := by
  have hT : pvdom 151 = pvD_151 := rfl
  refine pw_blk hT 1 (S' := (1, [some (pvR 103), some (pvI n1), some (pvI n2)], [pvR 103], M)) rfl ⟨trivial, trivial⟩ ?_
  refine pw_callT hT (as := [pvR 103]) (lo1 := [some (pvR 103)]) (d1 := d) (rest := []) rfl rfl rfl rfl rfl (fun _ => rfl) (Nat.zero_le _) rfl rfl rfl (sf_X6_isFull_103 M hok d) ?_
  have b6_ : 0 ≤ Int32.toInt (M.1 103 0) ∧ Int32.toInt (M.1 103 0) ≤ 6 := pvok_r hok 103 0 rfl
  by_cases c7_ : (M.1 103 0) < (Int32.ofNat 6)
  · refine pw_eqI (if_pos c7_) ?_
    have b8_ : 0 ≤ Int32.toInt (M.1 103 0) ∧ Int32.toInt (M.1 103 0) ≤ 5 := zr_lt_l 5 c7_ b6_ (show 6 ≤ Int32.toInt (Int32.ofNat 6) ∧ Int32.toInt (Int32.ofNat 6) ≤ 6 from (by decide)) (by decide)
    show PW 151 d (4, [some (pvR 103), some (pvI n1), some (pvI n2)], [pvI 0], M) _
    refine pw_if hT (c := 0 = 0) rfl rfl (fun c9_ => ?_) (fun c9_ => absurd (by decide) c9_)
    refine pw_blkw hT 6 (pc := 22) (lo := [some (pvR 103), some (pvI n1), some (pvI n2)]) (st := []) (M := pvu M 111 (Int32.toNatClampNeg (M.1 103 0)) n1) rfl ⟨trivial, rfl, trivial, rfl, trivial, ⟨rfl, (zr_in (n := 6) b8_ (by decide) (by decide))⟩, trivial⟩ (fun M10_ e11_ => ?_)
    have o12_ : pvOk M10_ := pvok_u2 e11_ hok rfl hn1
    have f13_ : pvFr fp_X6_append_103_x_x M M10_ := pvfr_u e11_ pvfr_0 rfl
    have e14_ : (M10_.1 103 0) = (M.1 103 0) := (pvu_n e11_ 103 0 (Or.inl (by decide)))
    have b15_ : 0 ≤ Int32.toInt (M10_.1 103 0) ∧ Int32.toInt (M10_.1 103 0) ≤ 5 := (by rw [e14_]; exact b8_)
    refine pw_blkw hT 6 (pc := 32) (lo := [some (pvR 103), some (pvI n1), some (pvI n2)]) (st := []) (M := pvu M10_ 119 (Int32.toNatClampNeg (M10_.1 103 0)) n2) rfl ⟨trivial, rfl, trivial, rfl, trivial, ⟨rfl, (zr_in (n := 6) b15_ (by decide) (by decide))⟩, trivial⟩ (fun M16_ e17_ => ?_)
    have o18_ : pvOk M16_ := pvok_u2 e17_ o12_ rfl hn2
    have f19_ : pvFr fp_X6_append_103_x_x M M16_ := pvfr_u e17_ f13_ rfl
    have e20_ : (M16_.1 103 0) = (M10_.1 103 0) := (pvu_n e17_ 103 0 (Or.inl (by decide)))
    have b21_ : 0 ≤ Int32.toInt (M16_.1 103 0) ∧ Int32.toInt (M16_.1 103 0) ≤ 5 := (by rw [e20_]; exact b15_)
    obtain ⟨q23_, b22_⟩ : (Int32.toInt ((M16_.1 103 0) + 1) = Int32.toInt (M16_.1 103 0) + 1) ∧ (1 ≤ Int32.toInt ((M16_.1 103 0) + 1) ∧ Int32.toInt ((M16_.1 103 0) + 1) ≤ 6) := zadd_k (M16_.1 103 0) 1 1 1 6 b21_ (by decide) (by decide) (by decide) (by decide) (by decide)
    refine pw_blkw hT 6 (pc := 42) (lo := [some (pvR 103), some (pvI n1), some (pvI n2)]) (st := []) (M := pvu M16_ 103 0 ((M16_.1 103 0) + 1)) rfl ⟨trivial, trivial, rfl, trivial, trivial, rfl, trivial⟩ (fun M24_ e25_ => ?_)
    have o26_ : pvOk M24_ := pvok_u2 e25_ o18_ rfl (zr_wide b22_ (by decide) (by decide))
    have f27_ : pvFr fp_X6_append_103_x_x M M24_ := pvfr_u e25_ f19_ rfl
    have e28_ : (M24_.1 103 0) = ((M16_.1 103 0) + 1) := (pvu_s e25_)
    have b29_ : 1 ≤ Int32.toInt (M24_.1 103 0) ∧ Int32.toInt (M24_.1 103 0) ≤ 6 := (by rw [e28_]; exact b22_)
    refine pw_blk hT 2 (S' := (46, [some (pvR 103), some (pvI n1), some (pvI n2)], [pvI (M24_.1 103 0)], M24_)) rfl ⟨trivial, rfl, trivial⟩ ?_
    exact pw_ret hT rfl (r := some (pvI (M24_.1 103 0))) (M' := M24_) ⟨rfl, rfl⟩ ⟨⟨_, rfl, b29_⟩, o26_, f27_⟩
  · refine pw_eqI (if_neg c7_) ?_
    have b30_ : 6 ≤ Int32.toInt (M.1 103 0) ∧ Int32.toInt (M.1 103 0) ≤ 6 := zr_nlt_l 6 c7_ b6_ (show 6 ≤ Int32.toInt (Int32.ofNat 6) ∧ Int32.toInt (Int32.ofNat 6) ≤ 6 from (by decide)) (by decide)
    show PW 151 d (4, [some (pvR 103), some (pvI n1), some (pvI n2)], [pvI 1], M) _
    refine pw_if hT (c := 1 = 0) rfl rfl (fun c31_ => absurd c31_ (by decide)) (fun c31_ => ?_)
    refine pw_blk hT 2 (S' := (11, [some (pvR 103), some (pvI n1), some (pvI n2)], [pvI (M.1 103 0)], M)) rfl ⟨trivial, rfl, trivial⟩ ?_
    exact pw_ret hT rfl (r := some (pvI (M.1 103 0))) (M' := M) ⟨rfl, rfl⟩ ⟨⟨_, rfl, (zr_wide b30_ (by decide) (by decide))⟩, hok, pvfr_0⟩
def fpL_X6_becomeAs_103_102 : List (Nat × Nat × Nat) := [(0, 103, 1), (0, 111, 0), (0, 119, 0)]
def fp_X6_becomeAs_103_102 (q k : Nat) : Bool := pvfp fpL_X6_becomeAs_103_102 q k
theorem fp_X6_becomeAs_103_102_fp_X6_append_103_x_x (a b : Nat) (h : fp_X6_append_103_x_x a b = true) : fp_X6_becomeAs_103_102 a b = true := pvfp_sub (l1 := fpL_X6_append_103_x_x) (l2 := fpL_X6_becomeAs_103_102) (by decide) a b h
theorem fp_X6_becomeAs_103_102_fp_X6_clear_103 (a b : Nat) (h : fp_X6_clear_103 a b = true) : fp_X6_becomeAs_103_102 a b = true := pvfp_sub (l1 := fpL_X6_clear_103) (l2 := fpL_X6_becomeAs_103_102) (by decide) a b h
set_option maxHeartbeats 4000000 in
set_option maxRecDepth 10000 in
theorem sf_X6_becomeAs_103_102 (M : pvM) (hok : pvOk M) (d : Nat) : PW 152 d (0, [some (pvR 103), some (pvR 102), none], [], M) (fun r X => r = none ∧ pvOk X ∧ pvFr fp_X6_becomeAs_103_102 M X) := by
  have hT : pvdom 152 = pvD_152 := rfl
  refine pw_blk hT 1 (S' := (1, [some (pvR 103), some (pvR 102), none], [pvR 103], M)) rfl ⟨trivial, trivial⟩ ?_
  refine pw_callG hT (as := [pvR 103]) (lo1 := [some (pvR 103)]) (d1 := d) (rest := []) rfl rfl rfl rfl rfl (fun _ => rfl) (Nat.zero_le _) rfl rfl rfl (sf_X6_clear_103 M hok d) (fun x1_ M2_ b3_ o4_ g5_ => ?_)
  have f6_ : pvFr fp_X6_becomeAs_103_102 M M2_ := pvfr_t g5_ pvfr_0 fp_X6_becomeAs_103_102_fp_X6_clear_103
  refine pw_blk hT 3 (S' := (7, [some (pvR 103), some (pvR 102), some (pvI 0)], [], M2_)) rfl ⟨trivial, trivial, trivial, trivial⟩ ?_
  have hlz75_ : ∀ (nz75_ : Nat) (i2z75_ : Int32) (Mz75_ : pvM), (pvOk Mz75_) → (pvFr fp_X6_becomeAs_103_102 M Mz75_) → (0 ≤ Int32.toInt i2z75_ ∧ Int32.toInt i2z75_ ≤ 6) → (zhide ((7 - Int32.toInt i2z75_).toNat < nz75_)) → PW 152 d (7, [some (pvR 103), some (pvR 102), some (pvI i2z75_)], [], Mz75_) (fun r X => r = none ∧ pvOk X ∧ pvFr fp_X6_becomeAs_103_102 M X) := by
    intro nz75_
    induction nz75_ with
    | zero => intro i2z75_ Mz75_ oz75_ fz75_ h2z75_ hmz75_; exact absurd (zshow hmz75_) (Nat.not_lt_zero _)
    | succ nz75_ ihz75_ =>
      intro i2z75_ Mz75_ oz75_ fz75_ h2z75_ hmz75_
      have b76_ : 0 ≤ Int32.toInt (Mz75_.1 102 0) ∧ Int32.toInt (Mz75_.1 102 0) ≤ 6 := pvok_r oz75_ 102 0 rfl
      refine pw_blk hT 3 (S' := (12, [some (pvR 103), some (pvR 102), some (pvI i2z75_)], [pvI (Mz75_.1 102 0), pvI i2z75_], Mz75_)) rfl ⟨trivial, trivial, rfl, trivial⟩ ?_
      refine pw_ic hT (c := (Mz75_.1 102 0) ≤ i2z75_) rfl rfl (fun c77_ => ?_) (fun c77_ => ?_)
      · have d78_ : Int32.toInt (Mz75_.1 102 0) ≤ Int32.toInt i2z75_ := (zi_le _ _).mp c77_
        exact pw_ret hT rfl (r := none) (M' := Mz75_) ⟨rfl, rfl⟩ ⟨rfl, oz75_, fz75_⟩
      · have b79_ : 1 ≤ Int32.toInt (Mz75_.1 102 0) ∧ Int32.toInt (Mz75_.1 102 0) ≤ 6 := zr_nle_l 1 c77_ b76_ h2z75_ (by decide)
        have b80_ : 0 ≤ Int32.toInt i2z75_ ∧ Int32.toInt i2z75_ ≤ 5 := zr_nle_r 5 c77_ h2z75_ b79_ (by decide)
        have d81_ : Int32.toInt (Mz75_.1 102 0) > Int32.toInt i2z75_ := Int.not_le.mp ((not_congr (zi_le _ _)).mp c77_)
        have b82_ : 0 ≤ Int32.toInt (Mz75_.1 110 (Int32.toNatClampNeg i2z75_)) ∧ Int32.toInt (Mz75_.1 110 (Int32.toNatClampNeg i2z75_)) ≤ 6 := pvok_r oz75_ 110 (Int32.toNatClampNeg i2z75_) rfl
        have b83_ : 0 ≤ Int32.toInt (Mz75_.1 118 (Int32.toNatClampNeg i2z75_)) ∧ Int32.toInt (Mz75_.1 118 (Int32.toNatClampNeg i2z75_)) ≤ 9999 := pvok_r oz75_ 118 (Int32.toNatClampNeg i2z75_) rfl
        refine pw_blk hT 9 (S' := (28, [some (pvR 103), some (pvR 102), some (pvI i2z75_)], [pvI (Mz75_.1 118 (Int32.toNatClampNeg i2z75_)), pvI (Mz75_.1 110 (Int32.toNatClampNeg i2z75_)), pvR 103], Mz75_)) rfl ⟨trivial, trivial, rfl, trivial, ⟨rfl, (zr_in (n := 6) b80_ (by decide) (by decide))⟩, trivial, rfl, trivial, ⟨rfl, (zr_in (n := 6) b80_ (by decide) (by decide))⟩, trivial⟩ ?_
        refine pw_callG hT (as := [pvR 103, pvI (Mz75_.1 110 (Int32.toNatClampNeg i2z75_)), pvI (Mz75_.1 118 (Int32.toNatClampNeg i2z75_))]) (lo1 := [some (pvR 103), some (pvI (Mz75_.1 110 (Int32.toNatClampNeg i2z75_))), some (pvI (Mz75_.1 118 (Int32.toNatClampNeg i2z75_)))]) (d1 := d) (rest := []) rfl rfl rfl rfl rfl (fun _ => rfl) (Nat.zero_le _) rfl rfl rfl (sf_X6_append_103_x_x Mz75_ oz75_ (Mz75_.1 110 (Int32.toNatClampNeg i2z75_)) (Mz75_.1 118 (Int32.toNatClampNeg i2z75_)) b82_ b83_ d) (fun x84_ M85_ b86_ o87_ g88_ => ?_)
        have f89_ : pvFr fp_X6_becomeAs_103_102 M M85_ := pvfr_t g88_ fz75_ fp_X6_becomeAs_103_102_fp_X6_append_103_x_x
        obtain ⟨q91_, b90_⟩ : (Int32.toInt (i2z75_ + 1) = Int32.toInt i2z75_ + 1) ∧ (1 ≤ Int32.toInt (i2z75_ + 1) ∧ Int32.toInt (i2z75_ + 1) ≤ 6) := zadd_k i2z75_ 1 1 1 6 b80_ (by decide) (by decide) (by decide) (by decide) (by decide)
        refine pw_blk hT 3 (S' := (7, [some (pvR 103), some (pvR 102), some (pvI (i2z75_ + 1))], [], M85_)) rfl ⟨trivial, trivial, trivial, trivial⟩ ?_
        exact ihz75_ (i2z75_ + 1) M85_ o87_ f89_ (zr_wide b90_ (by decide) (by decide)) (zhid (pvms_up (zshow hmz75_) h2z75_ q91_ (by decide) (by decide)))
  exact hlz75_ _ 0 M2_ o4_ f6_ (zr_wide (show 0 ≤ Int32.toInt 0 ∧ Int32.toInt 0 ≤ 0 from (by decide)) (by decide) (by decide)) (zhid (Nat.lt_succ_self _))
def fpL_X6_clear_105 : List (Nat × Nat × Nat) := [(0, 105, 1)]
def fp_X6_clear_105 (q k : Nat) : Bool := pvfp fpL_X6_clear_105 q k
set_option maxHeartbeats 4000000 in
set_option maxRecDepth 10000 in
theorem sf_X6_clear_105 (M : pvM) (hok : pvOk M) (d : Nat) : PW 153 d (0, [some (pvR 105)], [], M) (fun r X => (∃ x : Int32, r = some (pvI x) ∧ 0 ≤ Int32.toInt x ∧ Int32.toInt x ≤ 0) ∧ pvOk X ∧ pvFr fp_X6_clear_105 M X) := by
  have hT : pvdom 153 = pvD_153 := rfl
  refine pw_blkw hT 3 (pc := 5) (lo := [some (pvR 105)]) (st := []) (M := pvu M 105 0 0) rfl ⟨trivial, trivial, rfl, trivial⟩ (fun M1_ e2_ => ?_)
  have o3_ : pvOk M1_ := pvok_u2 e2_ hok rfl (zr_wide (show 0 ≤ Int32.toInt 0 ∧ Int32.toInt 0 ≤ 0 from (by decide)) (by decide) (by decide))
  have f4_ : pvFr fp_X6_clear_105 M M1_ := pvfr_u e2_ pvfr_0 rfl
  refine pw_blk hT 1 (S' := (6, [some (pvR 105)], [pvI 0], M1_)) rfl ⟨trivial, trivial⟩ ?_
  exact pw_ret hT rfl (r := some (pvI 0)) (M' := M1_) ⟨rfl, rfl⟩ ⟨⟨_, rfl, (show 0 ≤ Int32.toInt 0 ∧ Int32.toInt 0 ≤ 0 from (by decide))⟩, o3_, f4_⟩
set_option maxHeartbeats 4000000 in
set_option maxRecDepth 10000 in
theorem sf_X6_isFull_105 (M : pvM) (hok : pvOk M) (d : Nat) : PW 154 d (0, [some (pvR 105)], [], M) (fun r X => r = some (pvI ((if (M.1 105 0) < (Int32.ofNat 8) then 0 else 1))) ∧ X = M) := by
  have hT : pvdom 154 = pvD_154 := rfl
  have b1_ : 0 ≤ Int32.toInt (M.1 105 0) ∧ Int32.toInt (M.1 105 0) ≤ 8 := pvok_r hok 105 0 rfl
  refine pw_blk hT 5 (S' := (9, [some (pvR 105)], [pvI (Int32.ofNat 8), pvI (M.1 105 0)], M)) rfl ⟨trivial, rfl, trivial, rfl, rfl, trivial⟩ ?_
  refine pw_ic hT (c := (M.1 105 0) < (Int32.ofNat 8)) rfl rfl (fun c2_ => ?_) (fun c2_ => ?_)
  · have b3_ : 0 ≤ Int32.toInt (M.1 105 0) ∧ Int32.toInt (M.1 105 0) ≤ 7 := zr_lt_l 7 c2_ b1_ (show 8 ≤ Int32.toInt (Int32.ofNat 8) ∧ Int32.toInt (Int32.ofNat 8) ≤ 8 from (by decide)) (by decide)
    refine pw_blk hT 1 (S' := (17, [some (pvR 105)], [pvI 0], M)) rfl ⟨trivial, trivial⟩ ?_
    exact pw_ret hT rfl (r := some (pvI 0)) (M' := M) ⟨Or.inl rfl, rfl, rfl⟩ ⟨(by rw [if_pos c2_]), rfl⟩
  · have b4_ : 8 ≤ Int32.toInt (M.1 105 0) ∧ Int32.toInt (M.1 105 0) ≤ 8 := zr_nlt_l 8 c2_ b1_ (show 8 ≤ Int32.toInt (Int32.ofNat 8) ∧ Int32.toInt (Int32.ofNat 8) ≤ 8 from (by decide)) (by decide)
    refine pw_blk hT 2 (S' := (17, [some (pvR 105)], [pvI 1], M)) rfl ⟨trivial, trivial, trivial⟩ ?_
    exact pw_ret hT rfl (r := some (pvI 1)) (M' := M) ⟨Or.inr rfl, rfl, rfl⟩ ⟨(by rw [if_neg c2_]), rfl⟩
def fpL_X6_append_105_x_x : List (Nat × Nat × Nat) := [(0, 105, 1), (0, 113, 0), (0, 121, 0)]
def fp_X6_append_105_x_x (q k : Nat) : Bool := pvfp fpL_X6_append_105_x_x q k
set_option maxHeartbeats 4000000 in
set_option maxRecDepth 10000 in
theorem sf_X6_append_105_x_x (M : pvM) (hok : pvOk M) (n1 : Int32) (n2 : Int32) (hn1 : 0 ≤ Int32.toInt n1 ∧ Int32.toInt n1 ≤ 6) (hn2 : 0 ≤ Int32.toInt n2 ∧ Int32.toInt n2 ≤ 9999) (d : Nat) : PW 151 d (0, [some (pvR 105), some (pvI n1), some (pvI n2)], [], M) (fun r X => (∃ x : Int32, r = some (pvI x) ∧ 1 ≤ Int32.toInt x ∧ Int32.toInt x ≤ 8) ∧ pvOk X ∧ pvFr fp_X6_append_105_x_x M X) := by
  have hT : pvdom 151 = pvD_151 := rfl
  refine pw_blk hT 1 (S' := (1, [some (pvR 105), some (pvI n1), some (pvI n2)], [pvR 105], M)) rfl ⟨trivial, trivial⟩ ?_
  refine pw_callT hT (as := [pvR 105]) (lo1 := [some (pvR 105)]) (d1 := d) (rest := []) rfl rfl rfl rfl rfl (fun _ => rfl) (Nat.zero_le _) rfl rfl rfl (sf_X6_isFull_105 M hok d) ?_
  have b6_ : 0 ≤ Int32.toInt (M.1 105 0) ∧ Int32.toInt (M.1 105 0) ≤ 8 := pvok_r hok 105 0 rfl
  by_cases c7_ : (M.1 105 0) < (Int32.ofNat 8)
  · refine pw_eqI (if_pos c7_) ?_
    have b8_ : 0 ≤ Int32.toInt (M.1 105 0) ∧ Int32.toInt (M.1 105 0) ≤ 7 := zr_lt_l 7 c7_ b6_ (show 8 ≤ Int32.toInt (Int32.ofNat 8) ∧ Int32.toInt (Int32.ofNat 8) ≤ 8 from (by decide)) (by decide)
    show PW 151 d (4, [some (pvR 105), some (pvI n1), some (pvI n2)], [pvI 0], M) _
    refine pw_if hT (c := 0 = 0) rfl rfl (fun c9_ => ?_) (fun c9_ => absurd (by decide) c9_)
    refine pw_blkw hT 6 (pc := 22) (lo := [some (pvR 105), some (pvI n1), some (pvI n2)]) (st := []) (M := pvu M 113 (Int32.toNatClampNeg (M.1 105 0)) n1) rfl ⟨trivial, rfl, trivial, rfl, trivial, ⟨rfl, (zr_in (n := 8) b8_ (by decide) (by decide))⟩, trivial⟩ (fun M10_ e11_ => ?_)
    have o12_ : pvOk M10_ := pvok_u2 e11_ hok rfl hn1
    have f13_ : pvFr fp_X6_append_105_x_x M M10_ := pvfr_u e11_ pvfr_0 rfl
    have e14_ : (M10_.1 105 0) = (M.1 105 0) := (pvu_n e11_ 105 0 (Or.inl (by decide)))
    have b15_ : 0 ≤ Int32.toInt (M10_.1 105 0) ∧ Int32.toInt (M10_.1 105 0) ≤ 7 := (by rw [e14_]; exact b8_)
    refine pw_blkw hT 6 (pc := 32) (lo := [some (pvR 105), some (pvI n1), some (pvI n2)]) (st := []) (M := pvu M10_ 121 (Int32.toNatClampNeg (M10_.1 105 0)) n2) rfl ⟨trivial, rfl, trivial, rfl, trivial, ⟨rfl, (zr_in (n := 8) b15_ (by decide) (by decide))⟩, trivial⟩ (fun M16_ e17_ => ?_)
    have o18_ : pvOk M16_ := pvok_u2 e17_ o12_ rfl hn2
    have f19_ : pvFr fp_X6_append_105_x_x M M16_ := pvfr_u e17_ f13_ rfl
    have e20_ : (M16_.1 105 0) = (M10_.1 105 0) := (pvu_n e17_ 105 0 (Or.inl (by decide)))
    have b21_ : 0 ≤ Int32.toInt (M16_.1 105 0) ∧ Int32.toInt (M16_.1 105 0) ≤ 7 := (by rw [e20_]; exact b15_)
    obtain ⟨q23_, b22_⟩ : (Int32.toInt ((M16_.1 105 0) + 1) = Int32.toInt (M16_.1 105 0) + 1) ∧ (1 ≤ Int32.toInt ((M16_.1 105 0) + 1) ∧ Int32.toInt ((M16_.1 105 0) + 1) ≤ 8) := zadd_k (M16_.1 105 0) 1 1 1 8 b21_ (by decide) (by decide) (by decide) (by decide) (by decide)
    refine pw_blkw hT 6 (pc := 42) (lo := [some (pvR 105), some (pvI n1), some (pvI n2)]) (st := []) (M := pvu M16_ 105 0 ((M16_.1 105 0) + 1)) rfl ⟨trivial, trivial, rfl, trivial, trivial, rfl, trivial⟩ (fun M24_ e25_ => ?_)
    have o26_ : pvOk M24_ := pvok_u2 e25_ o18_ rfl (zr_wide b22_ (by decide) (by decide))
    have f27_ : pvFr fp_X6_append_105_x_x M M24_ := pvfr_u e25_ f19_ rfl
    have e28_ : (M24_.1 105 0) = ((M16_.1 105 0) + 1) := (pvu_s e25_)
    have b29_ : 1 ≤ Int32.toInt (M24_.1 105 0) ∧ Int32.toInt (M24_.1 105 0) ≤ 8 := (by rw [e28_]; exact b22_)
    refine pw_blk hT 2 (S' := (46, [some (pvR 105), some (pvI n1), some (pvI n2)], [pvI (M24_.1 105 0)], M24_)) rfl ⟨trivial, rfl, trivial⟩ ?_
    exact pw_ret hT rfl (r := some (pvI (M24_.1 105 0))) (M' := M24_) ⟨rfl, rfl⟩ ⟨⟨_, rfl, b29_⟩, o26_, f27_⟩
  · refine pw_eqI (if_neg c7_) ?_
    have b30_ : 8 ≤ Int32.toInt (M.1 105 0) ∧ Int32.toInt (M.1 105 0) ≤ 8 := zr_nlt_l 8 c7_ b6_ (show 8 ≤ Int32.toInt (Int32.ofNat 8) ∧ Int32.toInt (Int32.ofNat 8) ≤ 8 from (by decide)) (by decide)
    show PW 151 d (4, [some (pvR 105), some (pvI n1), some (pvI n2)], [pvI 1], M) _
    refine pw_if hT (c := 1 = 0) rfl rfl (fun c31_ => absurd c31_ (by decide)) (fun c31_ => ?_)
    refine pw_blk hT 2 (S' := (11, [some (pvR 105), some (pvI n1), some (pvI n2)], [pvI (M.1 105 0)], M)) rfl ⟨trivial, rfl, trivial⟩ ?_
    exact pw_ret hT rfl (r := some (pvI (M.1 105 0))) (M' := M) ⟨rfl, rfl⟩ ⟨⟨_, rfl, (zr_wide b30_ (by decide) (by decide))⟩, hok, pvfr_0⟩
def fpL_X6_becomeAs_105_104 : List (Nat × Nat × Nat) := [(0, 105, 1), (0, 113, 0), (0, 121, 0)]
def fp_X6_becomeAs_105_104 (q k : Nat) : Bool := pvfp fpL_X6_becomeAs_105_104 q k
theorem fp_X6_becomeAs_105_104_fp_X6_append_105_x_x (a b : Nat) (h : fp_X6_append_105_x_x a b = true) : fp_X6_becomeAs_105_104 a b = true := pvfp_sub (l1 := fpL_X6_append_105_x_x) (l2 := fpL_X6_becomeAs_105_104) (by decide) a b h
theorem fp_X6_becomeAs_105_104_fp_X6_clear_105 (a b : Nat) (h : fp_X6_clear_105 a b = true) : fp_X6_becomeAs_105_104 a b = true := pvfp_sub (l1 := fpL_X6_clear_105) (l2 := fpL_X6_becomeAs_105_104) (by decide) a b h
set_option maxHeartbeats 4000000 in
set_option maxRecDepth 10000 in
theorem sf_X6_becomeAs_105_104 (M : pvM) (hok : pvOk M) (d : Nat) : PW 152 d (0, [some (pvR 105), some (pvR 104), none], [], M) (fun r X => r = none ∧ pvOk X ∧ pvFr fp_X6_becomeAs_105_104 M X) := by
  have hT : pvdom 152 = pvD_152 := rfl
  refine pw_blk hT 1 (S' := (1, [some (pvR 105), some (pvR 104), none], [pvR 105], M)) rfl ⟨trivial, trivial⟩ ?_
  refine pw_callG hT (as := [pvR 105]) (lo1 := [some (pvR 105)]) (d1 := d) (rest := []) rfl rfl rfl rfl rfl (fun _ => rfl) (Nat.zero_le _) rfl rfl rfl (sf_X6_clear_105 M hok d) (fun x1_ M2_ b3_ o4_ g5_ => ?_)
  have f6_ : pvFr fp_X6_becomeAs_105_104 M M2_ := pvfr_t g5_ pvfr_0 fp_X6_becomeAs_105_104_fp_X6_clear_105
  refine pw_blk hT 3 (S' := (7, [some (pvR 105), some (pvR 104), some (pvI 0)], [], M2_)) rfl ⟨trivial, trivial, trivial, trivial⟩ ?_
  have hlz75_ : ∀ (nz75_ : Nat) (i2z75_ : Int32) (Mz75_ : pvM), (pvOk Mz75_) → (pvFr fp_X6_becomeAs_105_104 M Mz75_) → (0 ≤ Int32.toInt i2z75_ ∧ Int32.toInt i2z75_ ≤ 8) → (zhide ((9 - Int32.toInt i2z75_).toNat < nz75_)) → PW 152 d (7, [some (pvR 105), some (pvR 104), some (pvI i2z75_)], [], Mz75_) (fun r X => r = none ∧ pvOk X ∧ pvFr fp_X6_becomeAs_105_104 M X) := by
    intro nz75_
    induction nz75_ with
    | zero => intro i2z75_ Mz75_ oz75_ fz75_ h2z75_ hmz75_; exact absurd (zshow hmz75_) (Nat.not_lt_zero _)
    | succ nz75_ ihz75_ =>
      intro i2z75_ Mz75_ oz75_ fz75_ h2z75_ hmz75_
      have b76_ : 0 ≤ Int32.toInt (Mz75_.1 104 0) ∧ Int32.toInt (Mz75_.1 104 0) ≤ 8 := pvok_r oz75_ 104 0 rfl
      refine pw_blk hT 3 (S' := (12, [some (pvR 105), some (pvR 104), some (pvI i2z75_)], [pvI (Mz75_.1 104 0), pvI i2z75_], Mz75_)) rfl ⟨trivial, trivial, rfl, trivial⟩ ?_
      refine pw_ic hT (c := (Mz75_.1 104 0) ≤ i2z75_) rfl rfl (fun c77_ => ?_) (fun c77_ => ?_)
      · have d78_ : Int32.toInt (Mz75_.1 104 0) ≤ Int32.toInt i2z75_ := (zi_le _ _).mp c77_
        exact pw_ret hT rfl (r := none) (M' := Mz75_) ⟨rfl, rfl⟩ ⟨rfl, oz75_, fz75_⟩
      · have b79_ : 1 ≤ Int32.toInt (Mz75_.1 104 0) ∧ Int32.toInt (Mz75_.1 104 0) ≤ 8 := zr_nle_l 1 c77_ b76_ h2z75_ (by decide)
        have b80_ : 0 ≤ Int32.toInt i2z75_ ∧ Int32.toInt i2z75_ ≤ 7 := zr_nle_r 7 c77_ h2z75_ b79_ (by decide)
        have d81_ : Int32.toInt (Mz75_.1 104 0) > Int32.toInt i2z75_ := Int.not_le.mp ((not_congr (zi_le _ _)).mp c77_)
        have b82_ : 0 ≤ Int32.toInt (Mz75_.1 112 (Int32.toNatClampNeg i2z75_)) ∧ Int32.toInt (Mz75_.1 112 (Int32.toNatClampNeg i2z75_)) ≤ 6 := pvok_r oz75_ 112 (Int32.toNatClampNeg i2z75_) rfl
        have b83_ : 0 ≤ Int32.toInt (Mz75_.1 120 (Int32.toNatClampNeg i2z75_)) ∧ Int32.toInt (Mz75_.1 120 (Int32.toNatClampNeg i2z75_)) ≤ 9999 := pvok_r oz75_ 120 (Int32.toNatClampNeg i2z75_) rfl
        refine pw_blk hT 9 (S' := (28, [some (pvR 105), some (pvR 104), some (pvI i2z75_)], [pvI (Mz75_.1 120 (Int32.toNatClampNeg i2z75_)), pvI (Mz75_.1 112 (Int32.toNatClampNeg i2z75_)), pvR 105], Mz75_)) rfl ⟨trivial, trivial, rfl, trivial, ⟨rfl, (zr_in (n := 8) b80_ (by decide) (by decide))⟩, trivial, rfl, trivial, ⟨rfl, (zr_in (n := 8) b80_ (by decide) (by decide))⟩, trivial⟩ ?_
        refine pw_callG hT (as := [pvR 105, pvI (Mz75_.1 112 (Int32.toNatClampNeg i2z75_)), pvI (Mz75_.1 120 (Int32.toNatClampNeg i2z75_))]) (lo1 := [some (pvR 105), some (pvI (Mz75_.1 112 (Int32.toNatClampNeg i2z75_))), some (pvI (Mz75_.1 120 (Int32.toNatClampNeg i2z75_)))]) (d1 := d) (rest := []) rfl rfl rfl rfl rfl (fun _ => rfl) (Nat.zero_le _) rfl rfl rfl (sf_X6_append_105_x_x Mz75_ oz75_ (Mz75_.1 112 (Int32.toNatClampNeg i2z75_)) (Mz75_.1 120 (Int32.toNatClampNeg i2z75_)) b82_ b83_ d) (fun x84_ M85_ b86_ o87_ g88_ => ?_)
        have f89_ : pvFr fp_X6_becomeAs_105_104 M M85_ := pvfr_t g88_ fz75_ fp_X6_becomeAs_105_104_fp_X6_append_105_x_x
        obtain ⟨q91_, b90_⟩ : (Int32.toInt (i2z75_ + 1) = Int32.toInt i2z75_ + 1) ∧ (1 ≤ Int32.toInt (i2z75_ + 1) ∧ Int32.toInt (i2z75_ + 1) ≤ 8) := zadd_k i2z75_ 1 1 1 8 b80_ (by decide) (by decide) (by decide) (by decide) (by decide)
        refine pw_blk hT 3 (S' := (7, [some (pvR 105), some (pvR 104), some (pvI (i2z75_ + 1))], [], M85_)) rfl ⟨trivial, trivial, trivial, trivial⟩ ?_
        exact ihz75_ (i2z75_ + 1) M85_ o87_ f89_ (zr_wide b90_ (by decide) (by decide)) (zhid (pvms_up (zshow hmz75_) h2z75_ q91_ (by decide) (by decide)))
  exact hlz75_ _ 0 M2_ o4_ f6_ (zr_wide (show 0 ≤ Int32.toInt 0 ∧ Int32.toInt 0 ≤ 0 from (by decide)) (by decide) (by decide)) (zhid (Nat.lt_succ_self _))
def fpL_X4_becomeNew_x_x_x_x_x_x : List (Nat × Nat × Nat) := [(1, 113, 0), (1, 3, 1), (1, 3, 2), (1, 3, 3), (1, 3, 4), (1, 3, 5), (1, 3, 6)]
def fp_X4_becomeNew_x_x_x_x_x_x (q k : Nat) : Bool := pvfp fpL_X4_becomeNew_x_x_x_x_x_x q k
set_option maxHeartbeats 4000000 in
set_option maxRecDepth 10000 in
theorem sf_X4_becomeNew_x_x_x_x_x_x (M : pvM) (hok : pvOk M) (q0 : Nat) (n1 : Int32) (n2 : Int32) (n3 : Int32) (n4 : Int32) (n5 : Int32) (hq0 : pvkl q0 = 3) (hn1 : 0 ≤ Int32.toInt n1 ∧ Int32.toInt n1 ≤ 6) (hn2 : 0 ≤ Int32.toInt n2 ∧ Int32.toInt n2 ≤ 9) (hn3 : 0 ≤ Int32.toInt n3 ∧ Int32.toInt n3 ≤ 3) (hn4 : 0 ≤ Int32.toInt n4 ∧ Int32.toInt n4 ≤ 4) (hn5 : 0 ≤ Int32.toInt n5 ∧ Int32.toInt n5 ≤ 9) (d : Nat) : PW 134 d (0, [some (pvR q0), some (pvI n1), some (pvI n2), some (pvI n3), some (pvI n4), some (pvI n5), none], [], M) (fun r X => r = none ∧ pvOk X ∧ pvFr fp_X4_becomeNew_x_x_x_x_x_x M X) := by
  have hT : pvdom 134 = pvD_134 := rfl
  refine pw_blkw hT 3 (pc := 5) (lo := [some (pvR q0), some (pvI n1), some (pvI n2), some (pvI n3), some (pvI n4), some (pvI n5), none]) (st := []) (M := pvu M q0 0 n1) rfl ⟨trivial, trivial, hq0, trivial⟩ (fun M1_ e2_ => ?_)
  have o3_ : pvOk M1_ := pvok_u2 e2_ hok ((pvrg_o 0 hq0 (by decide) (by decide)).trans rfl) hn1
  have f4_ : pvFr fp_X4_becomeNew_x_x_x_x_x_x M M1_ := pvfr_u e2_ pvfr_0 (pvfp_r (l := fpL_X4_becomeNew_x_x_x_x_x_x) (pvowr_3 hq0) (kk := 1) (by decide) (Or.inr rfl))
  refine pw_blkw hT 3 (pc := 10) (lo := [some (pvR q0), some (pvI n1), some (pvI n2), some (pvI n3), some (pvI n4), some (pvI n5), none]) (st := []) (M := pvu M1_ q0 1 n2) rfl ⟨trivial, trivial, hq0, trivial⟩ (fun M5_ e6_ => ?_)
  have o7_ : pvOk M5_ := pvok_u2 e6_ o3_ ((pvrg_o 1 hq0 (by decide) (by decide)).trans rfl) hn2
  have f8_ : pvFr fp_X4_becomeNew_x_x_x_x_x_x M M5_ := pvfr_u e6_ f4_ (pvfp_r (l := fpL_X4_becomeNew_x_x_x_x_x_x) (pvowr_3 hq0) (kk := 2) (by decide) (Or.inr rfl))
  refine pw_blkw hT 3 (pc := 15) (lo := [some (pvR q0), some (pvI n1), some (pvI n2), some (pvI n3), some (pvI n4), some (pvI n5), none]) (st := []) (M := pvu M5_ q0 2 n3) rfl ⟨trivial, trivial, hq0, trivial⟩ (fun M9_ e10_ => ?_)
  have o11_ : pvOk M9_ := pvok_u2 e10_ o7_ ((pvrg_o 2 hq0 (by decide) (by decide)).trans rfl) hn3
  have f12_ : pvFr fp_X4_becomeNew_x_x_x_x_x_x M M9_ := pvfr_u e10_ f8_ (pvfp_r (l := fpL_X4_becomeNew_x_x_x_x_x_x) (pvowr_3 hq0) (kk := 3) (by decide) (Or.inr rfl))
  refine pw_blkw hT 3 (pc := 21) (lo := [some (pvR q0), some (pvI n1), some (pvI n2), some (pvI n3), some (pvI n4), some (pvI n5), none]) (st := []) (M := pvu M9_ q0 3 n4) rfl ⟨trivial, trivial, hq0, trivial⟩ (fun M13_ e14_ => ?_)
  have o15_ : pvOk M13_ := pvok_u2 e14_ o11_ ((pvrg_o 3 hq0 (by decide) (by decide)).trans rfl) hn4
  have f16_ : pvFr fp_X4_becomeNew_x_x_x_x_x_x M M13_ := pvfr_u e14_ f12_ (pvfp_r (l := fpL_X4_becomeNew_x_x_x_x_x_x) (pvowr_3 hq0) (kk := 4) (by decide) (Or.inr rfl))
  refine pw_blkw hT 3 (pc := 27) (lo := [some (pvR q0), some (pvI n1), some (pvI n2), some (pvI n3), some (pvI n4), some (pvI n5), none]) (st := []) (M := pvu M13_ q0 4 n5) rfl ⟨trivial, trivial, hq0, trivial⟩ (fun M17_ e18_ => ?_)
  have o19_ : pvOk M17_ := pvok_u2 e18_ o15_ ((pvrg_o 4 hq0 (by decide) (by decide)).trans rfl) hn5
  have f20_ : pvFr fp_X4_becomeNew_x_x_x_x_x_x M M17_ := pvfr_u e18_ f16_ (pvfp_r (l := fpL_X4_becomeNew_x_x_x_x_x_x) (pvowr_3 hq0) (kk := 5) (by decide) (Or.inr rfl))
  refine pw_blkw hT 3 (pc := 32) (lo := [some (pvR q0), some (pvI n1), some (pvI n2), some (pvI n3), some (pvI n4), some (pvI n5), none]) (st := []) (M := pvu M17_ q0 5 0) rfl ⟨trivial, trivial, ⟨hq0, Or.inl rfl⟩, trivial⟩ (fun M21_ e22_ => ?_)
  have o23_ : pvOk M21_ := pvok_u2 e22_ o19_ ((pvrg_o 5 hq0 (by decide) (by decide)).trans rfl) (zr_wide (show 0 ≤ Int32.toInt 0 ∧ Int32.toInt 0 ≤ 0 from (by decide)) (by decide) (by decide))
  have f24_ : pvFr fp_X4_becomeNew_x_x_x_x_x_x M M21_ := pvfr_u e22_ f20_ (pvfp_r (l := fpL_X4_becomeNew_x_x_x_x_x_x) (pvowr_3 hq0) (kk := 6) (by decide) (Or.inr rfl))
  refine pw_blk hT 2 (S' := (35, [some (pvR q0), some (pvI n1), some (pvI n2), some (pvI n3), some (pvI n4), some (pvI n5), some (pvI 0)], [], M21_)) rfl ⟨trivial, trivial, trivial⟩ ?_
  have hlz63_ : ∀ (nz63_ : Nat) (i6z63_ : Int32) (Mz63_ : pvM), (pvOk Mz63_) → (pvFr fp_X4_becomeNew_x_x_x_x_x_x M Mz63_) → (0 ≤ Int32.toInt i6z63_ ∧ Int32.toInt i6z63_ ≤ 4) → (zhide ((5 - Int32.toInt i6z63_).toNat < nz63_)) → PW 134 d (35, [some (pvR q0), some (pvI n1), some (pvI n2), some (pvI n3), some (pvI n4), some (pvI n5), some (pvI i6z63_)], [], Mz63_) (fun r X => r = none ∧ pvOk X ∧ pvFr fp_X4_becomeNew_x_x_x_x_x_x M X) := by
    intro nz63_
    induction nz63_ with
    | zero => intro i6z63_ Mz63_ oz63_ fz63_ h6z63_ hmz63_; exact absurd (zshow hmz63_) (Nat.not_lt_zero _)
    | succ nz63_ ihz63_ =>
      intro i6z63_ Mz63_ oz63_ fz63_ h6z63_ hmz63_
      refine pw_blk hT 2 (S' := (38, [some (pvR q0), some (pvI n1), some (pvI n2), some (pvI n3), some (pvI n4), some (pvI n5), some (pvI i6z63_)], [pvI 4, pvI i6z63_], Mz63_)) rfl ⟨trivial, trivial, trivial⟩ ?_
      refine pw_ic hT (c := 4 ≤ i6z63_) rfl rfl (fun c64_ => ?_) (fun c64_ => ?_)
      · have b65_ : 4 ≤ Int32.toInt i6z63_ ∧ Int32.toInt i6z63_ ≤ 4 := zr_le_r 4 c64_ h6z63_ (show 4 ≤ Int32.toInt 4 ∧ Int32.toInt 4 ≤ 4 from (by decide)) (by decide)
        exact pw_ret hT rfl (r := none) (M' := Mz63_) ⟨rfl, rfl⟩ ⟨rfl, oz63_, fz63_⟩
      · have b66_ : 0 ≤ Int32.toInt i6z63_ ∧ Int32.toInt i6z63_ ≤ 3 := zr_nle_r 3 c64_ h6z63_ (show 4 ≤ Int32.toInt 4 ∧ Int32.toInt 4 ≤ 4 from (by decide)) (by decide)
        refine pw_blkw hT 5 (pc := 49) (lo := [some (pvR q0), some (pvI n1), some (pvI n2), some (pvI n3), some (pvI n4), some (pvI n5), some (pvI i6z63_)]) (st := []) (M := pvu Mz63_ (q0 + 7) (Int32.toNatClampNeg i6z63_) 0) rfl ⟨trivial, hq0, trivial, trivial, ⟨(pvow_3_7 hq0).1, (by rw [(pvow_3_7 hq0).2.1]; exact (zr_in (n := 4) b66_ (by decide) (by decide)))⟩, trivial⟩ (fun M67_ e68_ => ?_)
        have o69_ : pvOk M67_ := pvok_u2 e68_ oz63_ ((pvrg_a _ (by rw [(pvow_3_7 hq0).1]; decide)).trans (pvow_3_7 hq0).2.2.2) (zr_wide (show 0 ≤ Int32.toInt 0 ∧ Int32.toInt 0 ≤ 0 from (by decide)) (by decide) (by decide))
        have f70_ : pvFr fp_X4_becomeNew_x_x_x_x_x_x M M67_ := pvfr_u e68_ fz63_ (pvfp_r (l := fpL_X4_becomeNew_x_x_x_x_x_x) (pvow_3_7 hq0).2.2.1 (kk := 0) (by decide) (Or.inl rfl))
        obtain ⟨q72_, b71_⟩ : (Int32.toInt (i6z63_ + 1) = Int32.toInt i6z63_ + 1) ∧ (1 ≤ Int32.toInt (i6z63_ + 1) ∧ Int32.toInt (i6z63_ + 1) ≤ 4) := zadd_k i6z63_ 1 1 1 4 b66_ (by decide) (by decide) (by decide) (by decide) (by decide)
        refine pw_blk hT 2 (S' := (35, [some (pvR q0), some (pvI n1), some (pvI n2), some (pvI n3), some (pvI n4), some (pvI n5), some (pvI (i6z63_ + 1))], [], M67_)) rfl ⟨trivial, trivial, trivial⟩ ?_
        exact ihz63_ (i6z63_ + 1) M67_ o69_ f70_ (zr_wide b71_ (by decide) (by decide)) (zhid (pvms_up (zshow hmz63_) h6z63_ q72_ (by decide) (by decide)))
  exact hlz63_ _ 0 M21_ o23_ f24_ (zr_wide (show 0 ≤ Int32.toInt 0 ∧ Int32.toInt 0 ≤ 0 from (by decide)) (by decide) (by decide)) (zhid (Nat.lt_succ_self _))
