def fpL_X10_pass_124_x : List (Nat × Nat × Nat) := [(0, 124, 2), (0, 124, 3), (0, 124, 33), (0, 141, 0), (0, 142, 0), (0, 143, 0)]
def fp_X10_pass_124_x (q k : Nat) : Bool := pvfp fpL_X10_pass_124_x q k
theorem fp_X10_pass_124_x_fp_X10_goMinutes_124_x (a b : Nat) (h : fp_X10_goMinutes_124_x a b = true) : fp_X10_pass_124_x a b = true := pvfp_sub (l1 := fpL_X10_goMinutes_124_x) (l2 := fpL_X10_pass_124_x) (by decide) a b h
set_option maxHeartbeats 4000000 in
set_option maxRecDepth 10000 in
theorem sf_X10_pass_124_x (M : pvM) (hok : pvOk M) (n1 : Int32) (hz : pvWF M) (d : Nat) : PW 63 d (0, [some (pvR 124), some (pvI n1)], [], M) (fun r X => (∃ x : Int32, r = some (pvI x) ∧ (-3) ≤ Int32.toInt x ∧ Int32.toInt x ≤ 9000000) ∧ pvOk X ∧ pvFr fp_X10_pass_124_x M X) := by
  have hT : pvdom 63 = pvD_63 := rfl
  refine pw_blk hT 4 (S' := (5, [some (pvR 124), some (pvI n1)], [pvI 99, pvI 0, pvI n1, pvR 124], M)) rfl ⟨trivial, trivial, trivial, trivial, trivial⟩ ?_
  refine pw_callT hT (as := [pvR 124, pvI n1, pvI 0, pvI 99]) (lo1 := [some (pvR 124), some (pvI n1), some (pvI 0), some (pvI 99)]) (d1 := d) (rest := []) rfl rfl rfl rfl rfl (fun _ => rfl) (Nat.zero_le _) rfl rfl rfl (sf_X10_in_124_x_x_x M hok n1 0 99 d) ?_
  by_cases c6_ : n1 < 0
  · refine pw_eqI (if_pos c6_) ?_
    have b7_ : (-2147483648) ≤ Int32.toInt n1 ∧ Int32.toInt n1 ≤ (-1) := zr_lt_l (-1) c6_ (zbnd n1) (show 0 ≤ Int32.toInt 0 ∧ Int32.toInt 0 ≤ 0 from (by decide)) (by decide)
    show PW 63 d (8, [some (pvR 124), some (pvI n1)], [pvI 0], M) _
    refine pw_ifn hT (c := 0 = 0) rfl rfl (fun c8_ => absurd (by decide) c8_) (fun c8_ => ?_)
    refine pw_blk hT 1 (S' := (13, [some (pvR 124), some (pvI n1)], [pvI (-2)], M)) rfl ⟨trivial, trivial⟩ ?_
    exact pw_ret hT rfl (r := some (pvI (-2))) (M' := M) ⟨rfl, rfl⟩ ⟨⟨_, rfl, (zr_wide (show (-2) ≤ Int32.toInt (-2) ∧ Int32.toInt (-2) ≤ (-2) from (by decide)) (by decide) (by decide))⟩, hok, pvfr_0⟩
  · refine pw_eqI (if_neg c6_) ?_
    have b9_ : 0 ≤ Int32.toInt n1 ∧ Int32.toInt n1 ≤ 2147483647 := zr_nlt_l 0 c6_ (zbnd n1) (show 0 ≤ Int32.toInt 0 ∧ Int32.toInt 0 ≤ 0 from (by decide)) (by decide)
    by_cases c10_ : 99 < n1
    · refine pw_eqI (if_pos c10_) ?_
      have b11_ : 100 ≤ Int32.toInt n1 ∧ Int32.toInt n1 ≤ 2147483647 := zr_lt_r 100 c10_ b9_ (show 99 ≤ Int32.toInt 99 ∧ Int32.toInt 99 ≤ 99 from (by decide)) (by decide)
      show PW 63 d (8, [some (pvR 124), some (pvI n1)], [pvI 0], M) _
      refine pw_ifn hT (c := 0 = 0) rfl rfl (fun c12_ => absurd (by decide) c12_) (fun c12_ => ?_)
      refine pw_blk hT 1 (S' := (13, [some (pvR 124), some (pvI n1)], [pvI (-2)], M)) rfl ⟨trivial, trivial⟩ ?_
      exact pw_ret hT rfl (r := some (pvI (-2))) (M' := M) ⟨rfl, rfl⟩ ⟨⟨_, rfl, (zr_wide (show (-2) ≤ Int32.toInt (-2) ∧ Int32.toInt (-2) ≤ (-2) from (by decide)) (by decide) (by decide))⟩, hok, pvfr_0⟩
    · refine pw_eqI (if_neg c10_) ?_
      have b13_ : 0 ≤ Int32.toInt n1 ∧ Int32.toInt n1 ≤ 99 := zr_nlt_r 99 c10_ b9_ (show 99 ≤ Int32.toInt 99 ∧ Int32.toInt 99 ≤ 99 from (by decide)) (by decide)
      show PW 63 d (8, [some (pvR 124), some (pvI n1)], [pvI 1], M) _
      refine pw_ifn hT (c := 1 = 0) rfl rfl (fun c14_ => ?_) (fun c14_ => absurd c14_ (by decide))
      have b15_ : 0 ≤ Int32.toInt (M.1 124 1) ∧ Int32.toInt (M.1 124 1) ≤ 9999 := pvok_r hok 124 1 rfl
      obtain ⟨q17_, b16_⟩ : (Int32.toInt ((M.1 124 1) + n1) = Int32.toInt (M.1 124 1) + Int32.toInt n1) ∧ (0 ≤ Int32.toInt ((M.1 124 1) + n1) ∧ Int32.toInt ((M.1 124 1) + n1) ≤ 10098) := zadd_r (M.1 124 1) n1 0 10098 b15_ b13_ (by decide) (by decide) (by decide) (by decide)
      refine pw_blk hT 5 (S' := (23, [some (pvR 124), some (pvI n1)], [pvI 9999, pvI ((M.1 124 1) + n1)], M)) rfl ⟨trivial, rfl, trivial, trivial, trivial, trivial⟩ ?_
      refine pw_ic hT (c := ((M.1 124 1) + n1) ≤ 9999) rfl rfl (fun c18_ => ?_) (fun c18_ => ?_)
      · have b19_ : 0 ≤ Int32.toInt ((M.1 124 1) + n1) ∧ Int32.toInt ((M.1 124 1) + n1) ≤ 9999 := zr_le_l 9999 c18_ b16_ (show 9999 ≤ Int32.toInt 9999 ∧ Int32.toInt 9999 ≤ 9999 from (by decide)) (by decide)
        refine pw_blk hT 2 (S' := (33, [some (pvR 124), some (pvI n1)], [pvI n1, pvR 124], M)) rfl ⟨trivial, trivial, trivial⟩ ?_
        refine pw_callG hT (as := [pvR 124, pvI n1]) (lo1 := [some (pvR 124), some (pvI n1), none]) (d1 := d) (rest := []) rfl rfl rfl rfl rfl (fun _ => rfl) (Nat.zero_le _) rfl rfl rfl (sf_X10_goMinutes_124_x M hok n1 (zr_wide b13_ (by decide) (by decide)) hz (show Int32.toInt (M.1 124 1) + Int32.toInt n1 ≤ 9999 from (by omega)) d) (fun x20_ M21_ b22_ o23_ g24_ => ?_)
        have f25_ : pvFr fp_X10_pass_124_x M M21_ := pvfr_t g24_ pvfr_0 fp_X10_pass_124_x_fp_X10_goMinutes_124_x
        exact pw_ret hT rfl (r := some (pvI x20_)) (M' := M21_) ⟨rfl, rfl⟩ ⟨⟨_, rfl, (zr_wide b22_ (by decide) (by decide))⟩, o23_, f25_⟩
      · have b26_ : 10000 ≤ Int32.toInt ((M.1 124 1) + n1) ∧ Int32.toInt ((M.1 124 1) + n1) ≤ 10098 := zr_nle_l 10000 c18_ b16_ (show 9999 ≤ Int32.toInt 9999 ∧ Int32.toInt 9999 ≤ 9999 from (by decide)) (by decide)
        refine pw_blk hT 2 (S' := (36, [some (pvR 124), some (pvI n1)], [pvI (-3)], M)) rfl ⟨trivial, trivial, trivial⟩ ?_
        exact pw_ret hT rfl (r := some (pvI (-3))) (M' := M) ⟨rfl, rfl⟩ ⟨⟨_, rfl, (zr_wide (show (-3) ≤ Int32.toInt (-3) ∧ Int32.toInt (-3) ≤ (-3) from (by decide)) (by decide) (by decide))⟩, hok, pvfr_0⟩
def fpL_X10_put_124_x_x : List (Nat × Nat × Nat) := [(0, 131, 0)]
def fp_X10_put_124_x_x (q k : Nat) : Bool := pvfp fpL_X10_put_124_x_x q k
set_option maxHeartbeats 4000000 in
set_option maxRecDepth 10000 in
theorem sf_X10_put_124_x_x (M : pvM) (hok : pvOk M) (n1 : Int32) (n2 : Int32) (hn2 : 0 ≤ Int32.toInt n2 ∧ Int32.toInt n2 ≤ 1) (d : Nat) : PW 66 d (0, [some (pvR 124), some (pvI n1), some (pvI n2), none], [], M) (fun r X => (∃ x : Int32, r = some (pvI x) ∧ (-1) ≤ Int32.toInt x ∧ Int32.toInt x ≤ 1) ∧ pvOk X ∧ pvFr fp_X10_put_124_x_x M X) := by
  have hT : pvdom 66 = pvD_66 := rfl
  refine pw_blk hT 2 (S' := (2, [some (pvR 124), some (pvI n1), some (pvI n2), none], [pvI n1, pvR 124], M)) rfl ⟨trivial, trivial, trivial⟩ ?_
  refine pw_callT hT (as := [pvR 124, pvI n1]) (lo1 := [some (pvR 124), some (pvI n1)]) (d1 := d) (rest := []) rfl rfl rfl rfl rfl (fun _ => rfl) (Nat.zero_le _) rfl rfl rfl (sf_X10_isWindow_124_x M hok n1 d) ?_
  by_cases c6_ : n1 < 0
  · refine pw_eqI (if_pos c6_) ?_
    have b7_ : (-2147483648) ≤ Int32.toInt n1 ∧ Int32.toInt n1 ≤ (-1) := zr_lt_l (-1) c6_ (zbnd n1) (show 0 ≤ Int32.toInt 0 ∧ Int32.toInt 0 ≤ 0 from (by decide)) (by decide)
    show PW 66 d (5, [some (pvR 124), some (pvI n1), some (pvI n2), none], [pvI 0], M) _
    refine pw_ifn hT (c := 0 = 0) rfl rfl (fun c8_ => absurd (by decide) c8_) (fun c8_ => ?_)
    refine pw_blk hT 1 (S' := (9, [some (pvR 124), some (pvI n1), some (pvI n2), none], [pvI (-1)], M)) rfl ⟨trivial, trivial⟩ ?_
    exact pw_ret hT rfl (r := some (pvI (-1))) (M' := M) ⟨rfl, rfl⟩ ⟨⟨_, rfl, (zr_wide (show (-1) ≤ Int32.toInt (-1) ∧ Int32.toInt (-1) ≤ (-1) from (by decide)) (by decide) (by decide))⟩, hok, pvfr_0⟩
  · refine pw_eqI (if_neg c6_) ?_
    have b9_ : 0 ≤ Int32.toInt n1 ∧ Int32.toInt n1 ≤ 2147483647 := zr_nlt_l 0 c6_ (zbnd n1) (show 0 ≤ Int32.toInt 0 ∧ Int32.toInt 0 ≤ 0 from (by decide)) (by decide)
    have b10_ : 0 ≤ Int32.toInt (M.1 124 0) ∧ Int32.toInt (M.1 124 0) ≤ 7 := pvok_r hok 124 0 rfl
    obtain ⟨q12_, b11_⟩ : (Int32.toInt ((M.1 124 0) - 1) = Int32.toInt (M.1 124 0) - 1) ∧ ((-1) ≤ Int32.toInt ((M.1 124 0) - 1) ∧ Int32.toInt ((M.1 124 0) - 1) ≤ 6) := zsub_k (M.1 124 0) 1 1 (-1) 6 b10_ (by decide) (by decide) (by decide) (by decide) (by decide)
    by_cases c13_ : ((M.1 124 0) - 1) < n1
    · refine pw_eqI (if_pos c13_) ?_
      have d14_ : Int32.toInt ((M.1 124 0) - 1) < Int32.toInt n1 := (zi_lt _ _).mp c13_
      show PW 66 d (5, [some (pvR 124), some (pvI n1), some (pvI n2), none], [pvI 0], M) _
      refine pw_ifn hT (c := 0 = 0) rfl rfl (fun c15_ => absurd (by decide) c15_) (fun c15_ => ?_)
      refine pw_blk hT 1 (S' := (9, [some (pvR 124), some (pvI n1), some (pvI n2), none], [pvI (-1)], M)) rfl ⟨trivial, trivial⟩ ?_
      exact pw_ret hT rfl (r := some (pvI (-1))) (M' := M) ⟨rfl, rfl⟩ ⟨⟨_, rfl, (zr_wide (show (-1) ≤ Int32.toInt (-1) ∧ Int32.toInt (-1) ≤ (-1) from (by decide)) (by decide) (by decide))⟩, hok, pvfr_0⟩
    · refine pw_eqI (if_neg c13_) ?_
      have b16_ : 0 ≤ Int32.toInt ((M.1 124 0) - 1) ∧ Int32.toInt ((M.1 124 0) - 1) ≤ 6 := zr_nlt_l 0 c13_ b11_ b9_ (by decide)
      have b17_ : 0 ≤ Int32.toInt n1 ∧ Int32.toInt n1 ≤ 6 := zr_nlt_r 6 c13_ b9_ b16_ (by decide)
      have d18_ : Int32.toInt ((M.1 124 0) - 1) ≥ Int32.toInt n1 := Int.not_lt.mp ((not_congr (zi_lt _ _)).mp c13_)
      show PW 66 d (5, [some (pvR 124), some (pvI n1), some (pvI n2), none], [pvI 1], M) _
      refine pw_ifn hT (c := 1 = 0) rfl rfl (fun c19_ => ?_) (fun c19_ => absurd c19_ (by decide))
      have b20_ : 0 ≤ Int32.toInt (M.1 131 (Int32.toNatClampNeg n1)) ∧ Int32.toInt (M.1 131 (Int32.toNatClampNeg n1)) ≤ 1 := pvok_r hok 131 (Int32.toNatClampNeg n1) rfl
      refine pw_blk hT 4 (S' := (16, [some (pvR 124), some (pvI n1), some (pvI n2), none], [pvI (M.1 131 (Int32.toNatClampNeg n1))], M)) rfl ⟨trivial, rfl, trivial, ⟨rfl, (zr_in (n := 7) b17_ (by decide) (by decide))⟩, trivial⟩ ?_
      refine pw_if hT (c := (M.1 131 (Int32.toNatClampNeg n1)) = 0) rfl rfl (fun c21_ => ?_) (fun c21_ => ?_)
      · have b22_ : 0 ≤ Int32.toInt (M.1 131 (Int32.toNatClampNeg n1)) ∧ Int32.toInt (M.1 131 (Int32.toNatClampNeg n1)) ≤ 0 := (by have u0 := b20_; have u1 := (zi_eq _ _).mp c21_; have u2 := (show 0 ≤ Int32.toInt 0 ∧ Int32.toInt 0 ≤ 0 from (by decide)); omega)
        refine pw_blkw hT 7 (pc := 32) (lo := [some (pvR 124), some (pvI n1), some (pvI n2), some (pvI 0)]) (st := []) (M := pvu M 131 (Int32.toNatClampNeg n1) (vp_nar .boolean n2)) rfl ⟨trivial, trivial, trivial, rfl, trivial, trivial, ⟨rfl, (zr_in (n := 7) b17_ (by decide) (by decide))⟩, trivial⟩ (fun M23_ e24_ => ?_)
        have o25_ : pvOk M23_ := pvok_u2 e24_ hok rfl (zboolr n2)
        have f26_ : pvFr fp_X10_put_124_x_x M M23_ := pvfr_u e24_ pvfr_0 rfl
        refine pw_blk hT 1 (S' := (33, [some (pvR 124), some (pvI n1), some (pvI n2), some (pvI 0)], [pvI 0], M23_)) rfl ⟨trivial, trivial⟩ ?_
        exact pw_ret hT rfl (r := some (pvI 0)) (M' := M23_) ⟨rfl, rfl⟩ ⟨⟨_, rfl, (zr_wide (show 0 ≤ Int32.toInt 0 ∧ Int32.toInt 0 ≤ 0 from (by decide)) (by decide) (by decide))⟩, o25_, f26_⟩
      · have b27_ : 1 ≤ Int32.toInt (M.1 131 (Int32.toNatClampNeg n1)) ∧ Int32.toInt (M.1 131 (Int32.toNatClampNeg n1)) ≤ 1 := (by have u0 := b20_; have u1 := (not_congr (zi_eq _ _)).mp c21_; have u2 := (show 0 ≤ Int32.toInt 0 ∧ Int32.toInt 0 ≤ 0 from (by decide)); omega)
        refine pw_blkw hT 8 (pc := 32) (lo := [some (pvR 124), some (pvI n1), some (pvI n2), some (pvI 1)]) (st := []) (M := pvu M 131 (Int32.toNatClampNeg n1) (vp_nar .boolean n2)) rfl ⟨trivial, trivial, trivial, trivial, rfl, trivial, trivial, ⟨rfl, (zr_in (n := 7) b17_ (by decide) (by decide))⟩, trivial⟩ (fun M28_ e29_ => ?_)
        have o30_ : pvOk M28_ := pvok_u2 e29_ hok rfl (zboolr n2)
        have f31_ : pvFr fp_X10_put_124_x_x M M28_ := pvfr_u e29_ pvfr_0 rfl
        refine pw_blk hT 1 (S' := (33, [some (pvR 124), some (pvI n1), some (pvI n2), some (pvI 1)], [pvI 1], M28_)) rfl ⟨trivial, trivial⟩ ?_
        exact pw_ret hT rfl (r := some (pvI 1)) (M' := M28_) ⟨rfl, rfl⟩ ⟨⟨_, rfl, (zr_wide (show 1 ≤ Int32.toInt 1 ∧ Int32.toInt 1 ≤ 1 from (by decide)) (by decide) (by decide))⟩, o30_, f31_⟩
set_option maxHeartbeats 4000000 in
set_option maxRecDepth 10000 in
theorem sf_X10_read_124_x_x (M : pvM) (hok : pvOk M) (n1 : Int32) (n2 : Int32) (d : Nat) : PW 68 d (0, [some (pvR 124), some (pvI n1), some (pvI n2)], [], M) (fun r X => (∃ x : Int64, r = some (pvJ x)) ∧ X = M) := by
  have hT : pvdom 68 = pvD_68 := rfl
  refine pw_blk hT 2 (S' := (2, [some (pvR 124), some (pvI n1), some (pvI n2)], [pvI n1, pvR 124], M)) rfl ⟨trivial, trivial, trivial⟩ ?_
  refine pw_callT hT (as := [pvR 124, pvI n1]) (lo1 := [some (pvR 124), some (pvI n1)]) (d1 := d) (rest := []) rfl rfl rfl rfl rfl (fun _ => rfl) (Nat.zero_le _) rfl rfl rfl (sf_X10_isTape_124_x M hok n1 d) ?_
  by_cases c6_ : n1 < 0
  · refine pw_eqI (if_pos c6_) ?_
    have b7_ : (-2147483648) ≤ Int32.toInt n1 ∧ Int32.toInt n1 ≤ (-1) := zr_lt_l (-1) c6_ (zbnd n1) (show 0 ≤ Int32.toInt 0 ∧ Int32.toInt 0 ≤ 0 from (by decide)) (by decide)
    show PW 68 d (5, [some (pvR 124), some (pvI n1), some (pvI n2)], [pvI 0], M) _
    refine pw_if hT (c := 0 = 0) rfl rfl (fun c8_ => ?_) (fun c8_ => absurd (by decide) c8_)
    refine pw_blk hT 2 (S' := (51, [some (pvR 124), some (pvI n1), some (pvI n2)], [pvJ (-9223372036854775808)], M)) rfl ⟨trivial, trivial, trivial⟩ ?_
    exact pw_ret hT rfl (r := some (pvJ (-9223372036854775808))) (M' := M) ⟨rfl, rfl⟩ ⟨⟨_, rfl⟩, rfl⟩
  · refine pw_eqI (if_neg c6_) ?_
    have b9_ : 0 ≤ Int32.toInt n1 ∧ Int32.toInt n1 ≤ 2147483647 := zr_nlt_l 0 c6_ (zbnd n1) (show 0 ≤ Int32.toInt 0 ∧ Int32.toInt 0 ≤ 0 from (by decide)) (by decide)
    by_cases c10_ : 5 < n1
    · refine pw_eqI (if_pos c10_) ?_
      have b11_ : 6 ≤ Int32.toInt n1 ∧ Int32.toInt n1 ≤ 2147483647 := zr_lt_r 6 c10_ b9_ (show 5 ≤ Int32.toInt 5 ∧ Int32.toInt 5 ≤ 5 from (by decide)) (by decide)
      show PW 68 d (5, [some (pvR 124), some (pvI n1), some (pvI n2)], [pvI 0], M) _
      refine pw_if hT (c := 0 = 0) rfl rfl (fun c12_ => ?_) (fun c12_ => absurd (by decide) c12_)
      refine pw_blk hT 2 (S' := (51, [some (pvR 124), some (pvI n1), some (pvI n2)], [pvJ (-9223372036854775808)], M)) rfl ⟨trivial, trivial, trivial⟩ ?_
      exact pw_ret hT rfl (r := some (pvJ (-9223372036854775808))) (M' := M) ⟨rfl, rfl⟩ ⟨⟨_, rfl⟩, rfl⟩
    · refine pw_eqI (if_neg c10_) ?_
      have b13_ : 0 ≤ Int32.toInt n1 ∧ Int32.toInt n1 ≤ 5 := zr_nlt_r 5 c10_ b9_ (show 5 ≤ Int32.toInt 5 ∧ Int32.toInt 5 ≤ 5 from (by decide)) (by decide)
      show PW 68 d (5, [some (pvR 124), some (pvI n1), some (pvI n2)], [pvI 1], M) _
      refine pw_if hT (c := 1 = 0) rfl rfl (fun c14_ => absurd c14_ (by decide)) (fun c14_ => ?_)
      have b15_ : (-1) ≤ Int32.toInt (M.1 164 (Int32.toNatClampNeg n1)) ∧ Int32.toInt (M.1 164 (Int32.toNatClampNeg n1)) ≤ 4 := pvok_r hok 164 (Int32.toNatClampNeg n1) rfl
      refine pw_blk hT 4 (S' := (14, [some (pvR 124), some (pvI n1), some (pvI n2)], [pvI (M.1 164 (Int32.toNatClampNeg n1))], M)) rfl ⟨trivial, rfl, trivial, ⟨rfl, (zr_in (n := 6) b13_ (by decide) (by decide))⟩, trivial⟩ ?_
      refine pw_if hT (c := (M.1 164 (Int32.toNatClampNeg n1)) < 0) rfl rfl (fun c16_ => ?_) (fun c16_ => ?_)
      · have b17_ : (-1) ≤ Int32.toInt (M.1 164 (Int32.toNatClampNeg n1)) ∧ Int32.toInt (M.1 164 (Int32.toNatClampNeg n1)) ≤ (-1) := zr_lt_l (-1) c16_ b15_ (show 0 ≤ Int32.toInt 0 ∧ Int32.toInt 0 ≤ 0 from (by decide)) (by decide)
        refine pw_blk hT 2 (S' := (51, [some (pvR 124), some (pvI n1), some (pvI n2)], [pvJ (-9223372036854775808)], M)) rfl ⟨trivial, trivial, trivial⟩ ?_
        exact pw_ret hT rfl (r := some (pvJ (-9223372036854775808))) (M' := M) ⟨rfl, rfl⟩ ⟨⟨_, rfl⟩, rfl⟩
      · have b18_ : 0 ≤ Int32.toInt (M.1 164 (Int32.toNatClampNeg n1)) ∧ Int32.toInt (M.1 164 (Int32.toNatClampNeg n1)) ≤ 4 := zr_nlt_l 0 c16_ b15_ (show 0 ≤ Int32.toInt 0 ∧ Int32.toInt 0 ≤ 0 from (by decide)) (by decide)
        have b19_ : 0 ≤ Int32.toInt (M.1 165 (Int32.toNatClampNeg n1)) ∧ Int32.toInt (M.1 165 (Int32.toNatClampNeg n1)) ≤ 60 := pvok_r hok 165 (Int32.toNatClampNeg n1) rfl
        obtain ⟨q21_, b20_⟩ : (Int32.toInt ((M.1 165 (Int32.toNatClampNeg n1)) - 1) = Int32.toInt (M.1 165 (Int32.toNatClampNeg n1)) - 1) ∧ ((-1) ≤ Int32.toInt ((M.1 165 (Int32.toNatClampNeg n1)) - 1) ∧ Int32.toInt ((M.1 165 (Int32.toNatClampNeg n1)) - 1) ≤ 59) := zsub_k (M.1 165 (Int32.toNatClampNeg n1)) 1 1 (-1) 59 b19_ (by decide) (by decide) (by decide) (by decide) (by decide)
        refine pw_blk hT 9 (S' := (28, [some (pvR 124), some (pvI n1), some (pvI n2)], [pvI ((M.1 165 (Int32.toNatClampNeg n1)) - 1), pvI 0, pvI n2, pvR 124], M)) rfl ⟨trivial, trivial, trivial, trivial, rfl, trivial, ⟨rfl, (zr_in (n := 6) b13_ (by decide) (by decide))⟩, trivial, trivial, trivial⟩ ?_
        refine pw_callT hT (as := [pvR 124, pvI n2, pvI 0, pvI ((M.1 165 (Int32.toNatClampNeg n1)) - 1)]) (lo1 := [some (pvR 124), some (pvI n2), some (pvI 0), some (pvI ((M.1 165 (Int32.toNatClampNeg n1)) - 1))]) (d1 := d) (rest := []) rfl rfl rfl rfl rfl (fun _ => rfl) (Nat.zero_le _) rfl rfl rfl (sf_X10_in_124_x_x_x M hok n2 0 ((M.1 165 (Int32.toNatClampNeg n1)) - 1) d) ?_
        by_cases c27_ : n2 < 0
        · refine pw_eqI (if_pos c27_) ?_
          have b28_ : (-2147483648) ≤ Int32.toInt n2 ∧ Int32.toInt n2 ≤ (-1) := zr_lt_l (-1) c27_ (zbnd n2) (show 0 ≤ Int32.toInt 0 ∧ Int32.toInt 0 ≤ 0 from (by decide)) (by decide)
          show PW 68 d (31, [some (pvR 124), some (pvI n1), some (pvI n2)], [pvI 0], M) _
          refine pw_ifn hT (c := 0 = 0) rfl rfl (fun c29_ => absurd (by decide) c29_) (fun c29_ => ?_)
          refine pw_blk hT 2 (S' := (51, [some (pvR 124), some (pvI n1), some (pvI n2)], [pvJ (-9223372036854775808)], M)) rfl ⟨trivial, trivial, trivial⟩ ?_
          exact pw_ret hT rfl (r := some (pvJ (-9223372036854775808))) (M' := M) ⟨rfl, rfl⟩ ⟨⟨_, rfl⟩, rfl⟩
        · refine pw_eqI (if_neg c27_) ?_
          have b30_ : 0 ≤ Int32.toInt n2 ∧ Int32.toInt n2 ≤ 2147483647 := zr_nlt_l 0 c27_ (zbnd n2) (show 0 ≤ Int32.toInt 0 ∧ Int32.toInt 0 ≤ 0 from (by decide)) (by decide)
          by_cases c31_ : ((M.1 165 (Int32.toNatClampNeg n1)) - 1) < n2
          · refine pw_eqI (if_pos c31_) ?_
            have d32_ : Int32.toInt ((M.1 165 (Int32.toNatClampNeg n1)) - 1) < Int32.toInt n2 := (zi_lt _ _).mp c31_
            show PW 68 d (31, [some (pvR 124), some (pvI n1), some (pvI n2)], [pvI 0], M) _
            refine pw_ifn hT (c := 0 = 0) rfl rfl (fun c33_ => absurd (by decide) c33_) (fun c33_ => ?_)
            refine pw_blk hT 2 (S' := (51, [some (pvR 124), some (pvI n1), some (pvI n2)], [pvJ (-9223372036854775808)], M)) rfl ⟨trivial, trivial, trivial⟩ ?_
            exact pw_ret hT rfl (r := some (pvJ (-9223372036854775808))) (M' := M) ⟨rfl, rfl⟩ ⟨⟨_, rfl⟩, rfl⟩
          · refine pw_eqI (if_neg c31_) ?_
            have b34_ : 0 ≤ Int32.toInt ((M.1 165 (Int32.toNatClampNeg n1)) - 1) ∧ Int32.toInt ((M.1 165 (Int32.toNatClampNeg n1)) - 1) ≤ 59 := zr_nlt_l 0 c31_ b20_ b30_ (by decide)
            have b35_ : 0 ≤ Int32.toInt n2 ∧ Int32.toInt n2 ≤ 59 := zr_nlt_r 59 c31_ b30_ b34_ (by decide)
            have d36_ : Int32.toInt ((M.1 165 (Int32.toNatClampNeg n1)) - 1) ≥ Int32.toInt n2 := Int.not_lt.mp ((not_congr (zi_lt _ _)).mp c31_)
            show PW 68 d (31, [some (pvR 124), some (pvI n1), some (pvI n2)], [pvI 1], M) _
            refine pw_ifn hT (c := 1 = 0) rfl rfl (fun c37_ => ?_) (fun c37_ => absurd c37_ (by decide))
            have q38_ : Int32.toInt (60 * n1) = 60 * Int32.toInt n1 := by have u0 : Int32.toInt 60 = 60 := (by decide); have u1 := b13_; have u2 := zmul 60 n1 (by rw [u0]; omega) (by rw [u0]; omega); rw [u0] at u2; omega
            have b39_ : 0 ≤ Int32.toInt (60 * n1) ∧ Int32.toInt (60 * n1) ≤ 300 := (by have u1 := b13_; omega)
            obtain ⟨q41_, b40_⟩ : (Int32.toInt ((60 * n1) + n2) = Int32.toInt (60 * n1) + Int32.toInt n2) ∧ (0 ≤ Int32.toInt ((60 * n1) + n2) ∧ Int32.toInt ((60 * n1) + n2) ≤ 359) := zadd_r (60 * n1) n2 0 359 b39_ b35_ (by decide) (by decide) (by decide) (by decide)
            refine pw_blk hT 8 (S' := (51, [some (pvR 124), some (pvI n1), some (pvI n2)], [pvJ (M.2 166 (Int32.toNatClampNeg ((60 * n1) + n2)))], M)) rfl ⟨trivial, rfl, trivial, trivial, trivial, trivial, trivial, ⟨rfl, (zr_in (n := 360) b40_ (by decide) (by decide))⟩, trivial⟩ ?_
            exact pw_ret hT rfl (r := some (pvJ (M.2 166 (Int32.toNatClampNeg ((60 * n1) + n2))))) (M' := M) ⟨rfl, rfl⟩ ⟨⟨_, rfl⟩, rfl⟩
def fpL_X10_round_124_x : List (Nat × Nat × Nat) := [(0, 124, 33), (0, 124, 36), (0, 141, 0), (0, 142, 0), (0, 143, 0), (0, 144, 0)]
def fp_X10_round_124_x (q k : Nat) : Bool := pvfp fpL_X10_round_124_x q k
theorem fp_X10_round_124_x_fp_X10_costOfRound_124_x (a b : Nat) (h : fp_X10_costOfRound_124_x a b = true) : fp_X10_round_124_x a b = true := pvfp_sub (l1 := fpL_X10_costOfRound_124_x) (l2 := fpL_X10_round_124_x) (by decide) a b h
theorem fp_X10_round_124_x_fp_X10_goes_124_x_x_x (a b : Nat) (h : fp_X10_goes_124_x_x_x a b = true) : fp_X10_round_124_x a b = true := pvfp_sub (l1 := fpL_X10_goes_124_x_x_x) (l2 := fpL_X10_round_124_x) (by decide) a b h
theorem fp_X10_round_124_x_fp_X10_layOpen_124 (a b : Nat) (h : fp_X10_layOpen_124 a b = true) : fp_X10_round_124_x a b = true := pvfp_sub (l1 := fpL_X10_layOpen_124) (l2 := fpL_X10_round_124_x) (by decide) a b h
theorem fp_X10_round_124_x_fp_X10_layRound_124 (a b : Nat) (h : fp_X10_layRound_124 a b = true) : fp_X10_round_124_x a b = true := pvfp_sub (l1 := fpL_X10_layRound_124) (l2 := fpL_X10_round_124_x) (by decide) a b h
set_option maxHeartbeats 4000000 in
set_option maxRecDepth 10000 in
theorem sf_X10_round_124_x (M : pvM) (hok : pvOk M) (n1 : Int32) (hz : pvWF M) (d : Nat) : PW 69 d (0, [some (pvR 124), some (pvI n1), none, none, none], [], M) (fun r X => (∃ x : Int32, r = some (pvI x) ∧ True) ∧ pvOk X ∧ pvFr fp_X10_round_124_x M X) := by
  have hT : pvdom 69 = pvD_69 := rfl
  refine pw_blk hT 4 (S' := (4, [some (pvR 124), some (pvI n1), none, none, none], [pvI 2, pvI 0, pvI n1, pvR 124], M)) rfl ⟨trivial, trivial, trivial, trivial, trivial⟩ ?_
  refine pw_callT hT (as := [pvR 124, pvI n1, pvI 0, pvI 2]) (lo1 := [some (pvR 124), some (pvI n1), some (pvI 0), some (pvI 2)]) (d1 := d) (rest := []) rfl rfl rfl rfl rfl (fun _ => rfl) (Nat.zero_le _) rfl rfl rfl (sf_X10_in_124_x_x_x M hok n1 0 2 d) ?_
  by_cases c6_ : n1 < 0
  · refine pw_eqI (if_pos c6_) ?_
    have b7_ : (-2147483648) ≤ Int32.toInt n1 ∧ Int32.toInt n1 ≤ (-1) := zr_lt_l (-1) c6_ (zbnd n1) (show 0 ≤ Int32.toInt 0 ∧ Int32.toInt 0 ≤ 0 from (by decide)) (by decide)
    show PW 69 d (7, [some (pvR 124), some (pvI n1), none, none, none], [pvI 0], M) _
    refine pw_ifn hT (c := 0 = 0) rfl rfl (fun c8_ => absurd (by decide) c8_) (fun c8_ => ?_)
    refine pw_blk hT 1 (S' := (11, [some (pvR 124), some (pvI n1), none, none, none], [pvI (-1)], M)) rfl ⟨trivial, trivial⟩ ?_
    exact pw_ret hT rfl (r := some (pvI (-1))) (M' := M) ⟨rfl, rfl⟩ ⟨⟨_, rfl, trivial⟩, hok, pvfr_0⟩
  · refine pw_eqI (if_neg c6_) ?_
    have b9_ : 0 ≤ Int32.toInt n1 ∧ Int32.toInt n1 ≤ 2147483647 := zr_nlt_l 0 c6_ (zbnd n1) (show 0 ≤ Int32.toInt 0 ∧ Int32.toInt 0 ≤ 0 from (by decide)) (by decide)
    by_cases c10_ : 2 < n1
    · refine pw_eqI (if_pos c10_) ?_
      have b11_ : 3 ≤ Int32.toInt n1 ∧ Int32.toInt n1 ≤ 2147483647 := zr_lt_r 3 c10_ b9_ (show 2 ≤ Int32.toInt 2 ∧ Int32.toInt 2 ≤ 2 from (by decide)) (by decide)
      show PW 69 d (7, [some (pvR 124), some (pvI n1), none, none, none], [pvI 0], M) _
      refine pw_ifn hT (c := 0 = 0) rfl rfl (fun c12_ => absurd (by decide) c12_) (fun c12_ => ?_)
      refine pw_blk hT 1 (S' := (11, [some (pvR 124), some (pvI n1), none, none, none], [pvI (-1)], M)) rfl ⟨trivial, trivial⟩ ?_
      exact pw_ret hT rfl (r := some (pvI (-1))) (M' := M) ⟨rfl, rfl⟩ ⟨⟨_, rfl, trivial⟩, hok, pvfr_0⟩
    · refine pw_eqI (if_neg c10_) ?_
      have b13_ : 0 ≤ Int32.toInt n1 ∧ Int32.toInt n1 ≤ 2 := zr_nlt_r 2 c10_ b9_ (show 2 ≤ Int32.toInt 2 ∧ Int32.toInt 2 ≤ 2 from (by decide)) (by decide)
      show PW 69 d (7, [some (pvR 124), some (pvI n1), none, none, none], [pvI 1], M) _
      refine pw_ifn hT (c := 1 = 0) rfl rfl (fun c14_ => ?_) (fun c14_ => absurd c14_ (by decide))
      refine pw_blk hT 1 (S' := (13, [some (pvR 124), some (pvI n1), none, none, none], [pvI n1], M)) rfl ⟨trivial, trivial⟩ ?_
      refine pw_ifn hT (c := n1 = 0) rfl rfl (fun c15_ => ?_) (fun c15_ => ?_)
      · have b16_ : 1 ≤ Int32.toInt n1 ∧ Int32.toInt n1 ≤ 2 := (by have u0 := b13_; have u1 := (not_congr (zi_eq _ _)).mp c15_; have u2 := (show 0 ≤ Int32.toInt 0 ∧ Int32.toInt 0 ≤ 0 from (by decide)); omega)
        refine pw_blk hT 1 (S' := (23, [some (pvR 124), some (pvI n1), none, none, none], [pvR 124], M)) rfl ⟨trivial, trivial⟩ ?_
        refine pw_callV hT (as := [pvR 124]) (lo1 := [some (pvR 124), none]) (d1 := d) (rest := []) rfl rfl rfl rfl rfl (fun _ => rfl) (Nat.zero_le _) rfl rfl rfl (sf_X10_layRound_124 M hok d) (fun M18_ o20_ g21_ => ?_)
        have f22_ : pvFr fp_X10_round_124_x M M18_ := pvfr_t g21_ pvfr_0 fp_X10_round_124_x_fp_X10_layRound_124
        refine pw_blk hT 1 (S' := (27, [some (pvR 124), some (pvI n1), none, none, none], [pvR 124], M18_)) rfl ⟨trivial, trivial⟩ ?_
        refine pw_callV hT (as := [pvR 124]) (lo1 := [some (pvR 124), none]) (d1 := d) (rest := []) rfl rfl rfl rfl rfl (fun _ => rfl) (Nat.zero_le _) rfl rfl rfl (sf_X10_layOpen_124 M18_ o20_ d) (fun M24_ o26_ g27_ => ?_)
        have f28_ : pvFr fp_X10_round_124_x M M24_ := pvfr_t g27_ f22_ fp_X10_round_124_x_fp_X10_layOpen_124
        have b29_ : 0 ≤ Int32.toInt (M24_.1 124 35) ∧ Int32.toInt (M24_.1 124 35) ≤ 7 := pvok_r o26_ 124 35 rfl
        have b30_ : 0 ≤ Int32.toInt (M24_.1 124 1) ∧ Int32.toInt (M24_.1 124 1) ≤ 9999 := pvok_r o26_ 124 1 rfl
        refine pw_blk hT 6 (S' := (40, [some (pvR 124), some (pvI n1), none, none, none], [pvI (M24_.1 124 1), pvI (M24_.1 124 35), pvI 0, pvR 124], M24_)) rfl ⟨trivial, trivial, trivial, rfl, trivial, rfl, trivial⟩ ?_
        refine pw_callG hT (as := [pvR 124, pvI 0, pvI (M24_.1 124 35), pvI (M24_.1 124 1)]) (lo1 := [some (pvR 124), some (pvI 0), some (pvI (M24_.1 124 35)), some (pvI (M24_.1 124 1)), none, none, none, none, none]) (d1 := d) (rest := []) rfl rfl rfl rfl rfl (fun _ => rfl) (Nat.zero_le _) rfl rfl rfl (sf_X10_goes_124_x_x_x M24_ o26_ 0 (M24_.1 124 35) (M24_.1 124 1) (zr_wide (show 0 ≤ Int32.toInt 0 ∧ Int32.toInt 0 ≤ 0 from (by decide)) (by decide) (by decide)) b29_ (zr_wide b30_ (by decide) (by decide)) d) (fun x31_ M32_ b33_ o34_ g35_ => ?_)
        have f36_ : pvFr fp_X10_round_124_x M M32_ := pvfr_t g35_ f28_ fp_X10_round_124_x_fp_X10_goes_124_x_x_x
        refine pw_blk hT 3 (S' := (46, [some (pvR 124), some (pvI n1), some (pvI x31_), none, none], [pvI 1, pvI n1], M32_)) rfl ⟨trivial, trivial, trivial, trivial⟩ ?_
        refine pw_icn hT (c := n1 = 1) rfl rfl (fun c37_ => ?_) (fun c37_ => ?_)
        · have b38_ : 2 ≤ Int32.toInt n1 ∧ Int32.toInt n1 ≤ 2 := (by have u0 := b16_; have u1 := (not_congr (zi_eq _ _)).mp c37_; have u2 := (show 1 ≤ Int32.toInt 1 ∧ Int32.toInt 1 ≤ 1 from (by decide)); omega)
          refine pw_blk hT 4 (S' := (56, [some (pvR 124), some (pvI n1), some (pvI x31_), some (pvI 0), some (pvI 0)], [], M32_)) rfl ⟨trivial, trivial, trivial, trivial, trivial⟩ ?_
          have hlz104_ : ∀ (nz104_ : Nat) (i3z104_ : Int32) (i4z104_ : Int32), (0 ≤ Int32.toInt i4z104_ ∧ Int32.toInt i4z104_ ≤ 7) → (zhide ((8 - Int32.toInt i4z104_).toNat < nz104_)) → PW 69 d (56, [some (pvR 124), some (pvI n1), some (pvI x31_), some (pvI i3z104_), some (pvI i4z104_)], [], M32_) (fun r X => (∃ x : Int32, r = some (pvI x) ∧ True) ∧ pvOk X ∧ pvFr fp_X10_round_124_x M X) := by
            intro nz104_
            induction nz104_ with
            | zero => intro i3z104_ i4z104_ h4z104_ hmz104_; exact absurd (zshow hmz104_) (Nat.not_lt_zero _)
            | succ nz104_ ihz104_ =>
              intro i3z104_ i4z104_ h4z104_ hmz104_
              have b105_ : 0 ≤ Int32.toInt (M32_.1 124 37) ∧ Int32.toInt (M32_.1 124 37) ≤ 7 := pvok_r o34_ 124 37 rfl
              refine pw_blk hT 3 (S' := (62, [some (pvR 124), some (pvI n1), some (pvI x31_), some (pvI i3z104_), some (pvI i4z104_)], [pvI (M32_.1 124 37), pvI i4z104_], M32_)) rfl ⟨trivial, trivial, rfl, trivial⟩ ?_
              refine pw_ic hT (c := (M32_.1 124 37) ≤ i4z104_) rfl rfl (fun c106_ => ?_) (fun c106_ => ?_)
              · have d107_ : Int32.toInt (M32_.1 124 37) ≤ Int32.toInt i4z104_ := (zi_le _ _).mp c106_
                refine pw_blk hT 1 (S' := (99, [some (pvR 124), some (pvI n1), some (pvI x31_), some (pvI i3z104_), some (pvI i4z104_)], [pvI i3z104_], M32_)) rfl ⟨trivial, trivial⟩ ?_
                exact pw_ret hT rfl (r := some (pvI i3z104_)) (M' := M32_) ⟨rfl, rfl⟩ ⟨⟨_, rfl, trivial⟩, o34_, f36_⟩
              · have b108_ : 1 ≤ Int32.toInt (M32_.1 124 37) ∧ Int32.toInt (M32_.1 124 37) ≤ 7 := zr_nle_l 1 c106_ b105_ h4z104_ (by decide)
                have b109_ : 0 ≤ Int32.toInt i4z104_ ∧ Int32.toInt i4z104_ ≤ 6 := zr_nle_r 6 c106_ h4z104_ b108_ (by decide)
                have d110_ : Int32.toInt (M32_.1 124 37) > Int32.toInt i4z104_ := Int.not_le.mp ((not_congr (zi_le _ _)).mp c106_)
                have b111_ : 0 ≤ Int32.toInt (M32_.1 145 (Int32.toNatClampNeg i4z104_)) ∧ Int32.toInt (M32_.1 145 (Int32.toNatClampNeg i4z104_)) ≤ 6 := pvok_r o34_ 145 (Int32.toNatClampNeg i4z104_) rfl
                have b112_ : (-1) ≤ Int32.toInt (M32_.1 143 (Int32.toNatClampNeg (M32_.1 145 (Int32.toNatClampNeg i4z104_)))) ∧ Int32.toInt (M32_.1 143 (Int32.toNatClampNeg (M32_.1 145 (Int32.toNatClampNeg i4z104_)))) ≤ 99999 := pvok_r o34_ 143 (Int32.toNatClampNeg (M32_.1 145 (Int32.toNatClampNeg i4z104_))) rfl
                have b113_ : 0 ≤ Int32.toInt (M32_.1 124 3) ∧ Int32.toInt (M32_.1 124 3) ≤ 108 := pvok_r o34_ 124 3 rfl
                refine pw_blk hT 10 (S' := (82, [some (pvR 124), some (pvI n1), some (pvI x31_), some (pvI i3z104_), some (pvI i4z104_)], [pvI (M32_.1 124 3), pvI (M32_.1 143 (Int32.toNatClampNeg (M32_.1 145 (Int32.toNatClampNeg i4z104_)))), pvI i3z104_], M32_)) rfl ⟨trivial, trivial, rfl, trivial, rfl, trivial, ⟨rfl, (zr_in (n := 7) b109_ (by decide) (by decide))⟩, ⟨rfl, (zr_in (n := 7) b111_ (by decide) (by decide))⟩, trivial, rfl, trivial⟩ ?_
                refine pw_ic hT (c := (M32_.1 124 3) < (M32_.1 143 (Int32.toNatClampNeg (M32_.1 145 (Int32.toNatClampNeg i4z104_))))) rfl rfl (fun c114_ => ?_) (fun c114_ => ?_)
                · have b115_ : 1 ≤ Int32.toInt (M32_.1 143 (Int32.toNatClampNeg (M32_.1 145 (Int32.toNatClampNeg i4z104_)))) ∧ Int32.toInt (M32_.1 143 (Int32.toNatClampNeg (M32_.1 145 (Int32.toNatClampNeg i4z104_)))) ≤ 99999 := zr_lt_r 1 c114_ b112_ b113_ (by decide)
                  have d116_ : Int32.toInt (M32_.1 124 3) < Int32.toInt (M32_.1 143 (Int32.toNatClampNeg (M32_.1 145 (Int32.toNatClampNeg i4z104_)))) := (zi_lt _ _).mp c114_
                  obtain ⟨q118_, b117_⟩ : (Int32.toInt (i3z104_ + 0) = Int32.toInt i3z104_ + 0) ∧ ((-2147483648) ≤ Int32.toInt (i3z104_ + 0) ∧ Int32.toInt (i3z104_ + 0) ≤ 2147483647) := zadd_k i3z104_ 0 0 (-2147483648) 2147483647 (zbnd i3z104_) (by decide) (by decide) (by decide) (by decide) (by decide)
                  obtain ⟨q120_, b119_⟩ : (Int32.toInt (i4z104_ + 1) = Int32.toInt i4z104_ + 1) ∧ (1 ≤ Int32.toInt (i4z104_ + 1) ∧ Int32.toInt (i4z104_ + 1) ≤ 7) := zadd_k i4z104_ 1 1 1 7 b109_ (by decide) (by decide) (by decide) (by decide) (by decide)
                  refine pw_blk hT 5 (S' := (56, [some (pvR 124), some (pvI n1), some (pvI x31_), some (pvI (i3z104_ + 0)), some (pvI (i4z104_ + 1))], [], M32_)) rfl ⟨trivial, trivial, trivial, trivial, trivial, trivial⟩ ?_
                  exact ihz104_ (i3z104_ + 0) (i4z104_ + 1) (zr_wide b119_ (by decide) (by decide)) (zhid (pvms_up (zshow hmz104_) h4z104_ q120_ (by decide) (by decide)))
                · have b121_ : (-1) ≤ Int32.toInt (M32_.1 143 (Int32.toNatClampNeg (M32_.1 145 (Int32.toNatClampNeg i4z104_)))) ∧ Int32.toInt (M32_.1 143 (Int32.toNatClampNeg (M32_.1 145 (Int32.toNatClampNeg i4z104_)))) ≤ 108 := zr_nlt_r 108 c114_ b112_ b113_ (by decide)
                  have d122_ : Int32.toInt (M32_.1 124 3) ≥ Int32.toInt (M32_.1 143 (Int32.toNatClampNeg (M32_.1 145 (Int32.toNatClampNeg i4z104_)))) := Int.not_lt.mp ((not_congr (zi_lt _ _)).mp c114_)
                  obtain ⟨q124_, b123_⟩ : (Int32.toInt (i4z104_ + 1) = Int32.toInt i4z104_ + 1) ∧ (1 ≤ Int32.toInt (i4z104_ + 1) ∧ Int32.toInt (i4z104_ + 1) ≤ 7) := zadd_k i4z104_ 1 1 1 7 b109_ (by decide) (by decide) (by decide) (by decide) (by decide)
                  refine pw_blk hT 6 (S' := (56, [some (pvR 124), some (pvI n1), some (pvI x31_), some (pvI (i3z104_ + 1)), some (pvI (i4z104_ + 1))], [], M32_)) rfl ⟨trivial, trivial, trivial, trivial, trivial, trivial, trivial⟩ ?_
                  exact ihz104_ (i3z104_ + 1) (i4z104_ + 1) (zr_wide b123_ (by decide) (by decide)) (zhid (pvms_up (zshow hmz104_) h4z104_ q124_ (by decide) (by decide)))
          exact hlz104_ _ 0 0 (zr_wide (show 0 ≤ Int32.toInt 0 ∧ Int32.toInt 0 ≤ 0 from (by decide)) (by decide) (by decide)) (zhid (Nat.lt_succ_self _))
        · have b125_ : 1 ≤ Int32.toInt n1 ∧ Int32.toInt n1 ≤ 1 := (by have u0 := b16_; have u1 := (zi_eq _ _).mp c37_; have u2 := (show 1 ≤ Int32.toInt 1 ∧ Int32.toInt 1 ≤ 1 from (by decide)); omega)
          refine pw_blk hT 1 (S' := (50, [some (pvR 124), some (pvI n1), some (pvI x31_), none, none], [pvI x31_], M32_)) rfl ⟨trivial, trivial⟩ ?_
          exact pw_ret hT rfl (r := some (pvI x31_)) (M' := M32_) ⟨rfl, rfl⟩ ⟨⟨_, rfl, trivial⟩, o34_, f36_⟩
      · have b126_ : 0 ≤ Int32.toInt n1 ∧ Int32.toInt n1 ≤ 0 := (by have u0 := b13_; have u1 := (zi_eq _ _).mp c15_; have u2 := (show 0 ≤ Int32.toInt 0 ∧ Int32.toInt 0 ≤ 0 from (by decide)); omega)
        refine pw_blk hT 2 (S' := (18, [some (pvR 124), some (pvI n1), none, none, none], [pvI 0, pvR 124], M)) rfl ⟨trivial, trivial, trivial⟩ ?_
        have u127_ : Int32.toInt 0 = 0 := by decide
        refine pw_callG hT (as := [pvR 124, pvI 0]) (lo1 := [some (pvR 124), some (pvI 0)]) (d1 := d) (rest := []) rfl rfl rfl rfl rfl (fun _ => rfl) (Nat.zero_le _) rfl rfl rfl (sf_X10_costOfRound_124_x M hok 0 (zr_wide (show 0 ≤ Int32.toInt 0 ∧ Int32.toInt 0 ≤ 0 from (by decide)) (by decide) (by decide)) hz d) (fun x128_ M129_ b130_ o131_ g132_ => ?_)
        have f133_ : pvFr fp_X10_round_124_x M M129_ := pvfr_t g132_ pvfr_0 fp_X10_round_124_x_fp_X10_costOfRound_124_x
        exact pw_ret hT rfl (r := some (pvI x128_)) (M' := M129_) ⟨rfl, rfl⟩ ⟨⟨_, rfl, trivial⟩, o131_, f133_⟩
def fpL_X10_row_124_x_x_x : List (Nat × Nat × Nat) := [(0, 130, 0)]
def fp_X10_row_124_x_x_x (q k : Nat) : Bool := pvfp fpL_X10_row_124_x_x_x q k
set_option maxHeartbeats 4000000 in
set_option maxRecDepth 10000 in
theorem sf_X10_row_124_x_x_x (M : pvM) (hok : pvOk M) (n1 : Int32) (n2 : Int32) (n3 : Int32) (d : Nat) : PW 70 d (0, [some (pvR 124), some (pvI n1), some (pvI n2), some (pvI n3), none], [], M) (fun r X => (∃ x : Int32, r = some (pvI x) ∧ (-3) ≤ Int32.toInt x ∧ Int32.toInt x ≤ 9) ∧ pvOk X ∧ pvFr fp_X10_row_124_x_x_x M X) := by
  have hT : pvdom 70 = pvD_70 := rfl
  refine pw_blk hT 2 (S' := (2, [some (pvR 124), some (pvI n1), some (pvI n2), some (pvI n3), none], [pvI n1, pvR 124], M)) rfl ⟨trivial, trivial, trivial⟩ ?_
  refine pw_callT hT (as := [pvR 124, pvI n1]) (lo1 := [some (pvR 124), some (pvI n1)]) (d1 := d) (rest := []) rfl rfl rfl rfl rfl (fun _ => rfl) (Nat.zero_le _) rfl rfl rfl (sf_X10_isWindow_124_x M hok n1 d) ?_
  by_cases c6_ : n1 < 0
  · refine pw_eqI (if_pos c6_) ?_
    have b7_ : (-2147483648) ≤ Int32.toInt n1 ∧ Int32.toInt n1 ≤ (-1) := zr_lt_l (-1) c6_ (zbnd n1) (show 0 ≤ Int32.toInt 0 ∧ Int32.toInt 0 ≤ 0 from (by decide)) (by decide)
    show PW 70 d (5, [some (pvR 124), some (pvI n1), some (pvI n2), some (pvI n3), none], [pvI 0], M) _
    refine pw_if hT (c := 0 = 0) rfl rfl (fun c8_ => ?_) (fun c8_ => absurd (by decide) c8_)
    refine pw_blk hT 1 (S' := (19, [some (pvR 124), some (pvI n1), some (pvI n2), some (pvI n3), none], [pvI (-1)], M)) rfl ⟨trivial, trivial⟩ ?_
    exact pw_ret hT rfl (r := some (pvI (-1))) (M' := M) ⟨rfl, rfl⟩ ⟨⟨_, rfl, (zr_wide (show (-1) ≤ Int32.toInt (-1) ∧ Int32.toInt (-1) ≤ (-1) from (by decide)) (by decide) (by decide))⟩, hok, pvfr_0⟩
  · refine pw_eqI (if_neg c6_) ?_
    have b9_ : 0 ≤ Int32.toInt n1 ∧ Int32.toInt n1 ≤ 2147483647 := zr_nlt_l 0 c6_ (zbnd n1) (show 0 ≤ Int32.toInt 0 ∧ Int32.toInt 0 ≤ 0 from (by decide)) (by decide)
    have b10_ : 0 ≤ Int32.toInt (M.1 124 0) ∧ Int32.toInt (M.1 124 0) ≤ 7 := pvok_r hok 124 0 rfl
    obtain ⟨q12_, b11_⟩ : (Int32.toInt ((M.1 124 0) - 1) = Int32.toInt (M.1 124 0) - 1) ∧ ((-1) ≤ Int32.toInt ((M.1 124 0) - 1) ∧ Int32.toInt ((M.1 124 0) - 1) ≤ 6) := zsub_k (M.1 124 0) 1 1 (-1) 6 b10_ (by decide) (by decide) (by decide) (by decide) (by decide)
    by_cases c13_ : ((M.1 124 0) - 1) < n1
    · refine pw_eqI (if_pos c13_) ?_
      have d14_ : Int32.toInt ((M.1 124 0) - 1) < Int32.toInt n1 := (zi_lt _ _).mp c13_
      show PW 70 d (5, [some (pvR 124), some (pvI n1), some (pvI n2), some (pvI n3), none], [pvI 0], M) _
      refine pw_if hT (c := 0 = 0) rfl rfl (fun c15_ => ?_) (fun c15_ => absurd (by decide) c15_)
      refine pw_blk hT 1 (S' := (19, [some (pvR 124), some (pvI n1), some (pvI n2), some (pvI n3), none], [pvI (-1)], M)) rfl ⟨trivial, trivial⟩ ?_
      exact pw_ret hT rfl (r := some (pvI (-1))) (M' := M) ⟨rfl, rfl⟩ ⟨⟨_, rfl, (zr_wide (show (-1) ≤ Int32.toInt (-1) ∧ Int32.toInt (-1) ≤ (-1) from (by decide)) (by decide) (by decide))⟩, hok, pvfr_0⟩
    · refine pw_eqI (if_neg c13_) ?_
      have b16_ : 0 ≤ Int32.toInt ((M.1 124 0) - 1) ∧ Int32.toInt ((M.1 124 0) - 1) ≤ 6 := zr_nlt_l 0 c13_ b11_ b9_ (by decide)
      have b17_ : 0 ≤ Int32.toInt n1 ∧ Int32.toInt n1 ≤ 6 := zr_nlt_r 6 c13_ b9_ b16_ (by decide)
      have d18_ : Int32.toInt ((M.1 124 0) - 1) ≥ Int32.toInt n1 := Int.not_lt.mp ((not_congr (zi_lt _ _)).mp c13_)
      show PW 70 d (5, [some (pvR 124), some (pvI n1), some (pvI n2), some (pvI n3), none], [pvI 1], M) _
      refine pw_if hT (c := 1 = 0) rfl rfl (fun c19_ => absurd c19_ (by decide)) (fun c19_ => ?_)
      refine pw_blk hT 4 (S' := (12, [some (pvR 124), some (pvI n1), some (pvI n2), some (pvI n3), none], [pvI 3, pvI 0, pvI n2, pvR 124], M)) rfl ⟨trivial, trivial, trivial, trivial, trivial⟩ ?_
      refine pw_callT hT (as := [pvR 124, pvI n2, pvI 0, pvI 3]) (lo1 := [some (pvR 124), some (pvI n2), some (pvI 0), some (pvI 3)]) (d1 := d) (rest := []) rfl rfl rfl rfl rfl (fun _ => rfl) (Nat.zero_le _) rfl rfl rfl (sf_X10_in_124_x_x_x M hok n2 0 3 d) ?_
      by_cases c25_ : n2 < 0
      · refine pw_eqI (if_pos c25_) ?_
        have b26_ : (-2147483648) ≤ Int32.toInt n2 ∧ Int32.toInt n2 ≤ (-1) := zr_lt_l (-1) c25_ (zbnd n2) (show 0 ≤ Int32.toInt 0 ∧ Int32.toInt 0 ≤ 0 from (by decide)) (by decide)
        show PW 70 d (15, [some (pvR 124), some (pvI n1), some (pvI n2), some (pvI n3), none], [pvI 0], M) _
        refine pw_ifn hT (c := 0 = 0) rfl rfl (fun c27_ => absurd (by decide) c27_) (fun c27_ => ?_)
        refine pw_blk hT 1 (S' := (19, [some (pvR 124), some (pvI n1), some (pvI n2), some (pvI n3), none], [pvI (-1)], M)) rfl ⟨trivial, trivial⟩ ?_
        exact pw_ret hT rfl (r := some (pvI (-1))) (M' := M) ⟨rfl, rfl⟩ ⟨⟨_, rfl, (zr_wide (show (-1) ≤ Int32.toInt (-1) ∧ Int32.toInt (-1) ≤ (-1) from (by decide)) (by decide) (by decide))⟩, hok, pvfr_0⟩
      · refine pw_eqI (if_neg c25_) ?_
        have b28_ : 0 ≤ Int32.toInt n2 ∧ Int32.toInt n2 ≤ 2147483647 := zr_nlt_l 0 c25_ (zbnd n2) (show 0 ≤ Int32.toInt 0 ∧ Int32.toInt 0 ≤ 0 from (by decide)) (by decide)
        by_cases c29_ : 3 < n2
        · refine pw_eqI (if_pos c29_) ?_
          have b30_ : 4 ≤ Int32.toInt n2 ∧ Int32.toInt n2 ≤ 2147483647 := zr_lt_r 4 c29_ b28_ (show 3 ≤ Int32.toInt 3 ∧ Int32.toInt 3 ≤ 3 from (by decide)) (by decide)
          show PW 70 d (15, [some (pvR 124), some (pvI n1), some (pvI n2), some (pvI n3), none], [pvI 0], M) _
          refine pw_ifn hT (c := 0 = 0) rfl rfl (fun c31_ => absurd (by decide) c31_) (fun c31_ => ?_)
          refine pw_blk hT 1 (S' := (19, [some (pvR 124), some (pvI n1), some (pvI n2), some (pvI n3), none], [pvI (-1)], M)) rfl ⟨trivial, trivial⟩ ?_
          exact pw_ret hT rfl (r := some (pvI (-1))) (M' := M) ⟨rfl, rfl⟩ ⟨⟨_, rfl, (zr_wide (show (-1) ≤ Int32.toInt (-1) ∧ Int32.toInt (-1) ≤ (-1) from (by decide)) (by decide) (by decide))⟩, hok, pvfr_0⟩
        · refine pw_eqI (if_neg c29_) ?_
          have b32_ : 0 ≤ Int32.toInt n2 ∧ Int32.toInt n2 ≤ 3 := zr_nlt_r 3 c29_ b28_ (show 3 ≤ Int32.toInt 3 ∧ Int32.toInt 3 ≤ 3 from (by decide)) (by decide)
          show PW 70 d (15, [some (pvR 124), some (pvI n1), some (pvI n2), some (pvI n3), none], [pvI 1], M) _
          refine pw_ifn hT (c := 1 = 0) rfl rfl (fun c33_ => ?_) (fun c33_ => absurd c33_ (by decide))
          refine pw_blk hT 4 (S' := (25, [some (pvR 124), some (pvI n1), some (pvI n2), some (pvI n3), none], [pvI 9, pvI 0, pvI n3, pvR 124], M)) rfl ⟨trivial, trivial, trivial, trivial, trivial⟩ ?_
          refine pw_callT hT (as := [pvR 124, pvI n3, pvI 0, pvI 9]) (lo1 := [some (pvR 124), some (pvI n3), some (pvI 0), some (pvI 9)]) (d1 := d) (rest := []) rfl rfl rfl rfl rfl (fun _ => rfl) (Nat.zero_le _) rfl rfl rfl (sf_X10_in_124_x_x_x M hok n3 0 9 d) ?_
          by_cases c39_ : n3 < 0
          · refine pw_eqI (if_pos c39_) ?_
            have b40_ : (-2147483648) ≤ Int32.toInt n3 ∧ Int32.toInt n3 ≤ (-1) := zr_lt_l (-1) c39_ (zbnd n3) (show 0 ≤ Int32.toInt 0 ∧ Int32.toInt 0 ≤ 0 from (by decide)) (by decide)
            show PW 70 d (28, [some (pvR 124), some (pvI n1), some (pvI n2), some (pvI n3), none], [pvI 0], M) _
            refine pw_ifn hT (c := 0 = 0) rfl rfl (fun c41_ => absurd (by decide) c41_) (fun c41_ => ?_)
            refine pw_blk hT 1 (S' := (33, [some (pvR 124), some (pvI n1), some (pvI n2), some (pvI n3), none], [pvI (-2)], M)) rfl ⟨trivial, trivial⟩ ?_
            exact pw_ret hT rfl (r := some (pvI (-2))) (M' := M) ⟨rfl, rfl⟩ ⟨⟨_, rfl, (zr_wide (show (-2) ≤ Int32.toInt (-2) ∧ Int32.toInt (-2) ≤ (-2) from (by decide)) (by decide) (by decide))⟩, hok, pvfr_0⟩
          · refine pw_eqI (if_neg c39_) ?_
            have b42_ : 0 ≤ Int32.toInt n3 ∧ Int32.toInt n3 ≤ 2147483647 := zr_nlt_l 0 c39_ (zbnd n3) (show 0 ≤ Int32.toInt 0 ∧ Int32.toInt 0 ≤ 0 from (by decide)) (by decide)
            by_cases c43_ : 9 < n3
            · refine pw_eqI (if_pos c43_) ?_
              have b44_ : 10 ≤ Int32.toInt n3 ∧ Int32.toInt n3 ≤ 2147483647 := zr_lt_r 10 c43_ b42_ (show 9 ≤ Int32.toInt 9 ∧ Int32.toInt 9 ≤ 9 from (by decide)) (by decide)
              show PW 70 d (28, [some (pvR 124), some (pvI n1), some (pvI n2), some (pvI n3), none], [pvI 0], M) _
              refine pw_ifn hT (c := 0 = 0) rfl rfl (fun c45_ => absurd (by decide) c45_) (fun c45_ => ?_)
              refine pw_blk hT 1 (S' := (33, [some (pvR 124), some (pvI n1), some (pvI n2), some (pvI n3), none], [pvI (-2)], M)) rfl ⟨trivial, trivial⟩ ?_
              exact pw_ret hT rfl (r := some (pvI (-2))) (M' := M) ⟨rfl, rfl⟩ ⟨⟨_, rfl, (zr_wide (show (-2) ≤ Int32.toInt (-2) ∧ Int32.toInt (-2) ≤ (-2) from (by decide)) (by decide) (by decide))⟩, hok, pvfr_0⟩
            · refine pw_eqI (if_neg c43_) ?_
              have b46_ : 0 ≤ Int32.toInt n3 ∧ Int32.toInt n3 ≤ 9 := zr_nlt_r 9 c43_ b42_ (show 9 ≤ Int32.toInt 9 ∧ Int32.toInt 9 ≤ 9 from (by decide)) (by decide)
              show PW 70 d (28, [some (pvR 124), some (pvI n1), some (pvI n2), some (pvI n3), none], [pvI 1], M) _
              refine pw_ifn hT (c := 1 = 0) rfl rfl (fun c47_ => ?_) (fun c47_ => absurd c47_ (by decide))
              have b48_ : 0 ≤ Int32.toInt (M.1 125 (Int32.toNatClampNeg n1)) ∧ Int32.toInt (M.1 125 (Int32.toNatClampNeg n1)) ≤ 6 := pvok_r hok 125 (Int32.toNatClampNeg n1) rfl
              refine pw_blk hT 5 (S' := (42, [some (pvR 124), some (pvI n1), some (pvI n2), some (pvI n3), none], [pvI 6, pvI (M.1 125 (Int32.toNatClampNeg n1))], M)) rfl ⟨trivial, rfl, trivial, ⟨rfl, (zr_in (n := 7) b17_ (by decide) (by decide))⟩, trivial, trivial⟩ ?_
              refine pw_ic hT (c := (M.1 125 (Int32.toNatClampNeg n1)) = 6) rfl rfl (fun c49_ => ?_) (fun c49_ => ?_)
              · have b50_ : 6 ≤ Int32.toInt (M.1 125 (Int32.toNatClampNeg n1)) ∧ Int32.toInt (M.1 125 (Int32.toNatClampNeg n1)) ≤ 6 := (by have u0 := b48_; have u1 := (zi_eq _ _).mp c49_; have u2 := (show 6 ≤ Int32.toInt 6 ∧ Int32.toInt 6 ≤ 6 from (by decide)); omega)
                have q51_ : Int32.toInt (4 * n1) = 4 * Int32.toInt n1 := by have u0 : Int32.toInt 4 = 4 := (by decide); have u1 := b17_; have u2 := zmul 4 n1 (by rw [u0]; omega) (by rw [u0]; omega); rw [u0] at u2; omega
                have b52_ : 0 ≤ Int32.toInt (4 * n1) ∧ Int32.toInt (4 * n1) ≤ 24 := (by have u1 := b17_; omega)
                obtain ⟨q54_, b53_⟩ : (Int32.toInt ((4 * n1) + n2) = Int32.toInt (4 * n1) + Int32.toInt n2) ∧ (0 ≤ Int32.toInt ((4 * n1) + n2) ∧ Int32.toInt ((4 * n1) + n2) ≤ 27) := zadd_r (4 * n1) n2 0 27 b52_ b32_ (by decide) (by decide) (by decide) (by decide)
                have b55_ : 0 ≤ Int32.toInt (M.1 130 (Int32.toNatClampNeg ((4 * n1) + n2))) ∧ Int32.toInt (M.1 130 (Int32.toNatClampNeg ((4 * n1) + n2))) ≤ 9 := pvok_r hok 130 (Int32.toNatClampNeg ((4 * n1) + n2)) rfl
                refine pw_blkw hT 18 (pc := 71) (lo := [some (pvR 124), some (pvI n1), some (pvI n2), some (pvI n3), some (pvI (M.1 130 (Int32.toNatClampNeg ((4 * n1) + n2))))]) (st := []) (M := pvu M 130 (Int32.toNatClampNeg ((4 * n1) + n2)) n3) rfl ⟨trivial, rfl, trivial, trivial, trivial, trivial, trivial, ⟨rfl, (zr_in (n := 28) b53_ (by decide) (by decide))⟩, trivial, trivial, rfl, trivial, trivial, trivial, trivial, trivial, trivial, ⟨rfl, (zr_in (n := 28) b53_ (by decide) (by decide))⟩, trivial⟩ (fun M56_ e57_ => ?_)
                have o58_ : pvOk M56_ := pvok_u2 e57_ hok rfl b46_
                have f59_ : pvFr fp_X10_row_124_x_x_x M M56_ := pvfr_u e57_ pvfr_0 rfl
                refine pw_blk hT 1 (S' := (73, [some (pvR 124), some (pvI n1), some (pvI n2), some (pvI n3), some (pvI (M.1 130 (Int32.toNatClampNeg ((4 * n1) + n2))))], [pvI (M.1 130 (Int32.toNatClampNeg ((4 * n1) + n2)))], M56_)) rfl ⟨trivial, trivial⟩ ?_
                exact pw_ret hT rfl (r := some (pvI (M.1 130 (Int32.toNatClampNeg ((4 * n1) + n2))))) (M' := M56_) ⟨rfl, rfl⟩ ⟨⟨_, rfl, (zr_wide b55_ (by decide) (by decide))⟩, o58_, f59_⟩
              · have b60_ : 0 ≤ Int32.toInt (M.1 125 (Int32.toNatClampNeg n1)) ∧ Int32.toInt (M.1 125 (Int32.toNatClampNeg n1)) ≤ 5 := (by have u0 := b48_; have u1 := (not_congr (zi_eq _ _)).mp c49_; have u2 := (show 6 ≤ Int32.toInt 6 ∧ Int32.toInt 6 ≤ 6 from (by decide)); omega)
                refine pw_blk hT 1 (S' := (47, [some (pvR 124), some (pvI n1), some (pvI n2), some (pvI n3), none], [pvI (-3)], M)) rfl ⟨trivial, trivial⟩ ?_
                exact pw_ret hT rfl (r := some (pvI (-3))) (M' := M) ⟨rfl, rfl⟩ ⟨⟨_, rfl, (zr_wide (show (-3) ≤ Int32.toInt (-3) ∧ Int32.toInt (-3) ≤ (-3) from (by decide)) (by decide) (by decide))⟩, hok, pvfr_0⟩
def fpL_X10_see_124_x_x : List (Nat × Nat × Nat) := [(0, 124, 41), (0, 147, 0), (0, 148, 0)]
def fp_X10_see_124_x_x (q k : Nat) : Bool := pvfp fpL_X10_see_124_x_x q k
set_option maxHeartbeats 4000000 in
set_option maxRecDepth 10000 in
theorem sf_X10_see_124_x_x (M : pvM) (hok : pvOk M) (n1 : Int32) (n2 : Int32) (d : Nat) : PW 71 d (0, [some (pvR 124), some (pvI n1), some (pvI n2)], [], M) (fun r X => (∃ x : Int32, r = some (pvI x) ∧ (-4) ≤ Int32.toInt x ∧ Int32.toInt x ≤ 6) ∧ pvOk X ∧ pvFr fp_X10_see_124_x_x M X) := by
  have hT : pvdom 71 = pvD_71 := rfl
  refine pw_blk hT 2 (S' := (2, [some (pvR 124), some (pvI n1), some (pvI n2)], [pvI (-1), pvI n1], M)) rfl ⟨trivial, trivial, trivial⟩ ?_
  refine pw_icn hT (c := n1 = (-1)) rfl rfl (fun c1_ => ?_) (fun c1_ => ?_)
  · refine pw_blk hT 2 (S' := (14, [some (pvR 124), some (pvI n1), some (pvI n2)], [pvI n1, pvR 124], M)) rfl ⟨trivial, trivial, trivial⟩ ?_
    refine pw_callT hT (as := [pvR 124, pvI n1]) (lo1 := [some (pvR 124), some (pvI n1)]) (d1 := d) (rest := []) rfl rfl rfl rfl rfl (fun _ => rfl) (Nat.zero_le _) rfl rfl rfl (sf_X10_isWindow_124_x M hok n1 d) ?_
    by_cases c7_ : n1 < 0
    · refine pw_eqI (if_pos c7_) ?_
      have b8_ : (-2147483648) ≤ Int32.toInt n1 ∧ Int32.toInt n1 ≤ (-2) := (by have u0 := (zbnd n1); have u9 := (show _ ∧ _ from ⟨(zi_lt _ _).mp c7_, (show 0 ≤ Int32.toInt 0 ∧ Int32.toInt 0 ≤ 0 from (by decide))⟩); have v1 := (not_congr (zi_eq _ _)).mp c1_; have w1 : ((-1) : Int32).toInt = -1 := (by decide); omega)
      show PW 71 d (17, [some (pvR 124), some (pvI n1), some (pvI n2)], [pvI 0], M) _
      refine pw_ifn hT (c := 0 = 0) rfl rfl (fun c9_ => absurd (by decide) c9_) (fun c9_ => ?_)
      refine pw_blk hT 1 (S' := (21, [some (pvR 124), some (pvI n1), some (pvI n2)], [pvI (-1)], M)) rfl ⟨trivial, trivial⟩ ?_
      exact pw_ret hT rfl (r := some (pvI (-1))) (M' := M) ⟨rfl, rfl⟩ ⟨⟨_, rfl, (zr_wide (show (-1) ≤ Int32.toInt (-1) ∧ Int32.toInt (-1) ≤ (-1) from (by decide)) (by decide) (by decide))⟩, hok, pvfr_0⟩
    · refine pw_eqI (if_neg c7_) ?_
      have b10_ : 0 ≤ Int32.toInt n1 ∧ Int32.toInt n1 ≤ 2147483647 := zr_nlt_l 0 c7_ (zbnd n1) (show 0 ≤ Int32.toInt 0 ∧ Int32.toInt 0 ≤ 0 from (by decide)) (by decide)
      have b11_ : 0 ≤ Int32.toInt (M.1 124 0) ∧ Int32.toInt (M.1 124 0) ≤ 7 := pvok_r hok 124 0 rfl
      obtain ⟨q13_, b12_⟩ : (Int32.toInt ((M.1 124 0) - 1) = Int32.toInt (M.1 124 0) - 1) ∧ ((-1) ≤ Int32.toInt ((M.1 124 0) - 1) ∧ Int32.toInt ((M.1 124 0) - 1) ≤ 6) := zsub_k (M.1 124 0) 1 1 (-1) 6 b11_ (by decide) (by decide) (by decide) (by decide) (by decide)
      by_cases c14_ : ((M.1 124 0) - 1) < n1
      · refine pw_eqI (if_pos c14_) ?_
        have d15_ : Int32.toInt ((M.1 124 0) - 1) < Int32.toInt n1 := (zi_lt _ _).mp c14_
        show PW 71 d (17, [some (pvR 124), some (pvI n1), some (pvI n2)], [pvI 0], M) _
        refine pw_ifn hT (c := 0 = 0) rfl rfl (fun c16_ => absurd (by decide) c16_) (fun c16_ => ?_)
        refine pw_blk hT 1 (S' := (21, [some (pvR 124), some (pvI n1), some (pvI n2)], [pvI (-1)], M)) rfl ⟨trivial, trivial⟩ ?_
        exact pw_ret hT rfl (r := some (pvI (-1))) (M' := M) ⟨rfl, rfl⟩ ⟨⟨_, rfl, (zr_wide (show (-1) ≤ Int32.toInt (-1) ∧ Int32.toInt (-1) ≤ (-1) from (by decide)) (by decide) (by decide))⟩, hok, pvfr_0⟩
      · refine pw_eqI (if_neg c14_) ?_
        have b17_ : 0 ≤ Int32.toInt ((M.1 124 0) - 1) ∧ Int32.toInt ((M.1 124 0) - 1) ≤ 6 := zr_nlt_l 0 c14_ b12_ b10_ (by decide)
        have b18_ : 0 ≤ Int32.toInt n1 ∧ Int32.toInt n1 ≤ 6 := zr_nlt_r 6 c14_ b10_ b17_ (by decide)
        have d19_ : Int32.toInt ((M.1 124 0) - 1) ≥ Int32.toInt n1 := Int.not_lt.mp ((not_congr (zi_lt _ _)).mp c14_)
        show PW 71 d (17, [some (pvR 124), some (pvI n1), some (pvI n2)], [pvI 1], M) _
        refine pw_ifn hT (c := 1 = 0) rfl rfl (fun c20_ => ?_) (fun c20_ => absurd c20_ (by decide))
        refine pw_blk hT 4 (S' := (28, [some (pvR 124), some (pvI n1), some (pvI n2)], [pvI 9999, pvI 0, pvI n2, pvR 124], M)) rfl ⟨trivial, trivial, trivial, trivial, trivial⟩ ?_
        refine pw_callT hT (as := [pvR 124, pvI n2, pvI 0, pvI 9999]) (lo1 := [some (pvR 124), some (pvI n2), some (pvI 0), some (pvI 9999)]) (d1 := d) (rest := []) rfl rfl rfl rfl rfl (fun _ => rfl) (Nat.zero_le _) rfl rfl rfl (sf_X10_in_124_x_x_x M hok n2 0 9999 d) ?_
        by_cases c26_ : n2 < 0
        · refine pw_eqI (if_pos c26_) ?_
          have b27_ : (-2147483648) ≤ Int32.toInt n2 ∧ Int32.toInt n2 ≤ (-1) := zr_lt_l (-1) c26_ (zbnd n2) (show 0 ≤ Int32.toInt 0 ∧ Int32.toInt 0 ≤ 0 from (by decide)) (by decide)
          show PW 71 d (31, [some (pvR 124), some (pvI n1), some (pvI n2)], [pvI 0], M) _
          refine pw_ifn hT (c := 0 = 0) rfl rfl (fun c28_ => absurd (by decide) c28_) (fun c28_ => ?_)
          refine pw_blk hT 1 (S' := (36, [some (pvR 124), some (pvI n1), some (pvI n2)], [pvI (-2)], M)) rfl ⟨trivial, trivial⟩ ?_
          exact pw_ret hT rfl (r := some (pvI (-2))) (M' := M) ⟨rfl, rfl⟩ ⟨⟨_, rfl, (zr_wide (show (-2) ≤ Int32.toInt (-2) ∧ Int32.toInt (-2) ≤ (-2) from (by decide)) (by decide) (by decide))⟩, hok, pvfr_0⟩
        · refine pw_eqI (if_neg c26_) ?_
          have b29_ : 0 ≤ Int32.toInt n2 ∧ Int32.toInt n2 ≤ 2147483647 := zr_nlt_l 0 c26_ (zbnd n2) (show 0 ≤ Int32.toInt 0 ∧ Int32.toInt 0 ≤ 0 from (by decide)) (by decide)
          by_cases c30_ : 9999 < n2
          · refine pw_eqI (if_pos c30_) ?_
            have b31_ : 10000 ≤ Int32.toInt n2 ∧ Int32.toInt n2 ≤ 2147483647 := zr_lt_r 10000 c30_ b29_ (show 9999 ≤ Int32.toInt 9999 ∧ Int32.toInt 9999 ≤ 9999 from (by decide)) (by decide)
            show PW 71 d (31, [some (pvR 124), some (pvI n1), some (pvI n2)], [pvI 0], M) _
            refine pw_ifn hT (c := 0 = 0) rfl rfl (fun c32_ => absurd (by decide) c32_) (fun c32_ => ?_)
            refine pw_blk hT 1 (S' := (36, [some (pvR 124), some (pvI n1), some (pvI n2)], [pvI (-2)], M)) rfl ⟨trivial, trivial⟩ ?_
            exact pw_ret hT rfl (r := some (pvI (-2))) (M' := M) ⟨rfl, rfl⟩ ⟨⟨_, rfl, (zr_wide (show (-2) ≤ Int32.toInt (-2) ∧ Int32.toInt (-2) ≤ (-2) from (by decide)) (by decide) (by decide))⟩, hok, pvfr_0⟩
          · refine pw_eqI (if_neg c30_) ?_
            have b33_ : 0 ≤ Int32.toInt n2 ∧ Int32.toInt n2 ≤ 9999 := zr_nlt_r 9999 c30_ b29_ (show 9999 ≤ Int32.toInt 9999 ∧ Int32.toInt 9999 ≤ 9999 from (by decide)) (by decide)
            show PW 71 d (31, [some (pvR 124), some (pvI n1), some (pvI n2)], [pvI 1], M) _
            refine pw_ifn hT (c := 1 = 0) rfl rfl (fun c34_ => ?_) (fun c34_ => absurd c34_ (by decide))
            have b35_ : 0 ≤ Int32.toInt (M.1 124 40) ∧ Int32.toInt (M.1 124 40) ≤ 6 := pvok_r hok 124 40 rfl
            refine pw_blk hT 3 (S' := (43, [some (pvR 124), some (pvI n1), some (pvI n2)], [pvI 6, pvI (M.1 124 40)], M)) rfl ⟨trivial, rfl, trivial, trivial⟩ ?_
            refine pw_icn hT (c := (M.1 124 40) = 6) rfl rfl (fun c36_ => ?_) (fun c36_ => ?_)
            · have b37_ : 0 ≤ Int32.toInt (M.1 124 40) ∧ Int32.toInt (M.1 124 40) ≤ 5 := (by have u0 := b35_; have u1 := (not_congr (zi_eq _ _)).mp c36_; have u2 := (show 6 ≤ Int32.toInt 6 ∧ Int32.toInt 6 ≤ 6 from (by decide)); omega)
              refine pw_blkw hT 6 (pc := 59) (lo := [some (pvR 124), some (pvI n1), some (pvI n2)]) (st := []) (M := pvu M 147 (Int32.toNatClampNeg (M.1 124 40)) n1) rfl ⟨trivial, rfl, trivial, rfl, trivial, ⟨rfl, (zr_in (n := 6) b37_ (by decide) (by decide))⟩, trivial⟩ (fun M38_ e39_ => ?_)
              have o40_ : pvOk M38_ := pvok_u2 e39_ hok rfl b18_
              have f41_ : pvFr fp_X10_see_124_x_x M M38_ := pvfr_u e39_ pvfr_0 rfl
              have e42_ : (M38_.1 124 40) = (M.1 124 40) := (pvu_n e39_ 124 40 (Or.inl (by decide)))
              have b43_ : 0 ≤ Int32.toInt (M38_.1 124 40) ∧ Int32.toInt (M38_.1 124 40) ≤ 5 := (by rw [e42_]; exact b37_)
              refine pw_blkw hT 6 (pc := 69) (lo := [some (pvR 124), some (pvI n1), some (pvI n2)]) (st := []) (M := pvu M38_ 148 (Int32.toNatClampNeg (M38_.1 124 40)) n2) rfl ⟨trivial, rfl, trivial, rfl, trivial, ⟨rfl, (zr_in (n := 6) b43_ (by decide) (by decide))⟩, trivial⟩ (fun M44_ e45_ => ?_)
              have o46_ : pvOk M44_ := pvok_u2 e45_ o40_ rfl b33_
              have f47_ : pvFr fp_X10_see_124_x_x M M44_ := pvfr_u e45_ f41_ rfl
              have e48_ : (M44_.1 124 40) = (M38_.1 124 40) := (pvu_n e45_ 124 40 (Or.inl (by decide)))
              have b49_ : 0 ≤ Int32.toInt (M44_.1 124 40) ∧ Int32.toInt (M44_.1 124 40) ≤ 5 := (by rw [e48_]; exact b43_)
              obtain ⟨q51_, b50_⟩ : (Int32.toInt ((M44_.1 124 40) + 1) = Int32.toInt (M44_.1 124 40) + 1) ∧ (1 ≤ Int32.toInt ((M44_.1 124 40) + 1) ∧ Int32.toInt ((M44_.1 124 40) + 1) ≤ 6) := zadd_k (M44_.1 124 40) 1 1 1 6 b49_ (by decide) (by decide) (by decide) (by decide) (by decide)
              refine pw_blkw hT 6 (pc := 79) (lo := [some (pvR 124), some (pvI n1), some (pvI n2)]) (st := []) (M := pvu M44_ 124 40 ((M44_.1 124 40) + 1)) rfl ⟨trivial, trivial, rfl, trivial, trivial, rfl, trivial⟩ (fun M52_ e53_ => ?_)
              have o54_ : pvOk M52_ := pvok_u2 e53_ o46_ rfl (zr_wide b50_ (by decide) (by decide))
              have f55_ : pvFr fp_X10_see_124_x_x M M52_ := pvfr_u e53_ f47_ rfl
              have e56_ : (M52_.1 124 40) = ((M44_.1 124 40) + 1) := (pvu_s e53_)
              have b57_ : 1 ≤ Int32.toInt (M52_.1 124 40) ∧ Int32.toInt (M52_.1 124 40) ≤ 6 := (by rw [e56_]; exact b50_)
              refine pw_blk hT 2 (S' := (83, [some (pvR 124), some (pvI n1), some (pvI n2)], [pvI (M52_.1 124 40)], M52_)) rfl ⟨trivial, rfl, trivial⟩ ?_
              exact pw_ret hT rfl (r := some (pvI (M52_.1 124 40))) (M' := M52_) ⟨rfl, rfl⟩ ⟨⟨_, rfl, (zr_wide b57_ (by decide) (by decide))⟩, o54_, f55_⟩
            · have b58_ : 6 ≤ Int32.toInt (M.1 124 40) ∧ Int32.toInt (M.1 124 40) ≤ 6 := (by have u0 := b35_; have u1 := (zi_eq _ _).mp c36_; have u2 := (show 6 ≤ Int32.toInt 6 ∧ Int32.toInt 6 ≤ 6 from (by decide)); omega)
              refine pw_blk hT 1 (S' := (48, [some (pvR 124), some (pvI n1), some (pvI n2)], [pvI (-4)], M)) rfl ⟨trivial, trivial⟩ ?_
              exact pw_ret hT rfl (r := some (pvI (-4))) (M' := M) ⟨rfl, rfl⟩ ⟨⟨_, rfl, (zr_wide (show (-4) ≤ Int32.toInt (-4) ∧ Int32.toInt (-4) ≤ (-4) from (by decide)) (by decide) (by decide))⟩, hok, pvfr_0⟩
  · have b59_ : (-1) ≤ Int32.toInt n1 ∧ Int32.toInt n1 ≤ (-1) := (by have u0 := (zbnd n1); have u1 := (zi_eq _ _).mp c1_; have u2 := (show (-1) ≤ Int32.toInt (-1) ∧ Int32.toInt (-1) ≤ (-1) from (by decide)); omega)
    refine pw_blkw hT 3 (pc := 10) (lo := [some (pvR 124), some (pvI n1), some (pvI n2)]) (st := []) (M := pvu M 124 40 0) rfl ⟨trivial, trivial, rfl, trivial⟩ (fun M60_ e61_ => ?_)
    have o62_ : pvOk M60_ := pvok_u2 e61_ hok rfl (zr_wide (show 0 ≤ Int32.toInt 0 ∧ Int32.toInt 0 ≤ 0 from (by decide)) (by decide) (by decide))
    have f63_ : pvFr fp_X10_see_124_x_x M M60_ := pvfr_u e61_ pvfr_0 rfl
    refine pw_blk hT 1 (S' := (11, [some (pvR 124), some (pvI n1), some (pvI n2)], [pvI 0], M60_)) rfl ⟨trivial, trivial⟩ ?_
    exact pw_ret hT rfl (r := some (pvI 0)) (M' := M60_) ⟨rfl, rfl⟩ ⟨⟨_, rfl, (zr_wide (show 0 ≤ Int32.toInt 0 ∧ Int32.toInt 0 ≤ 0 from (by decide)) (by decide) (by decide))⟩, o62_, f63_⟩
def fpL_X10_shift_124_x_x_x_x_x : List (Nat × Nat × Nat) := []
def fp_X10_shift_124_x_x_x_x_x (q k : Nat) : Bool := pvfp fpL_X10_shift_124_x_x_x_x_x q k
set_option maxHeartbeats 4000000 in
set_option maxRecDepth 10000 in
theorem sf_X10_shift_124_x_x_x_x_x (M : pvM) (hok : pvOk M) (n1 : Int32) (n2 : Int32) (n3 : Int32) (n4 : Int32) (n5 : Int32) (d : Nat) : PW 73 d (0, [some (pvR 124), some (pvI n1), some (pvI n2), some (pvI n3), some (pvI n4), some (pvI n5), none], [], M) (fun r X => (∃ x : Int32, r = some (pvI x) ∧ (-13) ≤ Int32.toInt x ∧ Int32.toInt x ≤ 60) ∧ pvOk X ∧ pvFr fp_X10_shift_124_x_x_x_x_x M X) := by
  have hT : pvdom 73 = pvD_73 := rfl
  refine pw_blk hT 2 (S' := (2, [some (pvR 124), some (pvI n1), some (pvI n2), some (pvI n3), some (pvI n4), some (pvI n5), none], [pvI n1, pvR 124], M)) rfl ⟨trivial, trivial, trivial⟩ ?_
  refine pw_callT hT (as := [pvR 124, pvI n1]) (lo1 := [some (pvR 124), some (pvI n1)]) (d1 := d) (rest := []) rfl rfl rfl rfl rfl (fun _ => rfl) (Nat.zero_le _) rfl rfl rfl (sf_X10_isTape_124_x M hok n1 d) ?_
  by_cases c6_ : n1 < 0
  · refine pw_eqI (if_pos c6_) ?_
    have b7_ : (-2147483648) ≤ Int32.toInt n1 ∧ Int32.toInt n1 ≤ (-1) := zr_lt_l (-1) c6_ (zbnd n1) (show 0 ≤ Int32.toInt 0 ∧ Int32.toInt 0 ≤ 0 from (by decide)) (by decide)
    show PW 73 d (5, [some (pvR 124), some (pvI n1), some (pvI n2), some (pvI n3), some (pvI n4), some (pvI n5), none], [pvI 0], M) _
    refine pw_if hT (c := 0 = 0) rfl rfl (fun c8_ => ?_) (fun c8_ => absurd (by decide) c8_)
    refine pw_blk hT 1 (S' := (17, [some (pvR 124), some (pvI n1), some (pvI n2), some (pvI n3), some (pvI n4), some (pvI n5), none], [pvI (-1)], M)) rfl ⟨trivial, trivial⟩ ?_
    exact pw_ret hT rfl (r := some (pvI (-1))) (M' := M) ⟨rfl, rfl⟩ ⟨⟨_, rfl, (zr_wide (show (-1) ≤ Int32.toInt (-1) ∧ Int32.toInt (-1) ≤ (-1) from (by decide)) (by decide) (by decide))⟩, hok, pvfr_0⟩
  · refine pw_eqI (if_neg c6_) ?_
    have b9_ : 0 ≤ Int32.toInt n1 ∧ Int32.toInt n1 ≤ 2147483647 := zr_nlt_l 0 c6_ (zbnd n1) (show 0 ≤ Int32.toInt 0 ∧ Int32.toInt 0 ≤ 0 from (by decide)) (by decide)
    by_cases c10_ : 5 < n1
    · refine pw_eqI (if_pos c10_) ?_
      have b11_ : 6 ≤ Int32.toInt n1 ∧ Int32.toInt n1 ≤ 2147483647 := zr_lt_r 6 c10_ b9_ (show 5 ≤ Int32.toInt 5 ∧ Int32.toInt 5 ≤ 5 from (by decide)) (by decide)
      show PW 73 d (5, [some (pvR 124), some (pvI n1), some (pvI n2), some (pvI n3), some (pvI n4), some (pvI n5), none], [pvI 0], M) _
      refine pw_if hT (c := 0 = 0) rfl rfl (fun c12_ => ?_) (fun c12_ => absurd (by decide) c12_)
      refine pw_blk hT 1 (S' := (17, [some (pvR 124), some (pvI n1), some (pvI n2), some (pvI n3), some (pvI n4), some (pvI n5), none], [pvI (-1)], M)) rfl ⟨trivial, trivial⟩ ?_
      exact pw_ret hT rfl (r := some (pvI (-1))) (M' := M) ⟨rfl, rfl⟩ ⟨⟨_, rfl, (zr_wide (show (-1) ≤ Int32.toInt (-1) ∧ Int32.toInt (-1) ≤ (-1) from (by decide)) (by decide) (by decide))⟩, hok, pvfr_0⟩
    · refine pw_eqI (if_neg c10_) ?_
      have b13_ : 0 ≤ Int32.toInt n1 ∧ Int32.toInt n1 ≤ 5 := zr_nlt_r 5 c10_ b9_ (show 5 ≤ Int32.toInt 5 ∧ Int32.toInt 5 ≤ 5 from (by decide)) (by decide)
      show PW 73 d (5, [some (pvR 124), some (pvI n1), some (pvI n2), some (pvI n3), some (pvI n4), some (pvI n5), none], [pvI 1], M) _
      refine pw_if hT (c := 1 = 0) rfl rfl (fun c14_ => absurd c14_ (by decide)) (fun c14_ => ?_)
      refine pw_blk hT 2 (S' := (10, [some (pvR 124), some (pvI n1), some (pvI n2), some (pvI n3), some (pvI n4), some (pvI n5), none], [pvI n3, pvR 124], M)) rfl ⟨trivial, trivial, trivial⟩ ?_
      refine pw_callT hT (as := [pvR 124, pvI n3]) (lo1 := [some (pvR 124), some (pvI n3)]) (d1 := d) (rest := []) rfl rfl rfl rfl rfl (fun _ => rfl) (Nat.zero_le _) rfl rfl rfl (sf_X10_isTape_124_x M hok n3 d) ?_
      by_cases c20_ : n3 < 0
      · refine pw_eqI (if_pos c20_) ?_
        have b21_ : (-2147483648) ≤ Int32.toInt n3 ∧ Int32.toInt n3 ≤ (-1) := zr_lt_l (-1) c20_ (zbnd n3) (show 0 ≤ Int32.toInt 0 ∧ Int32.toInt 0 ≤ 0 from (by decide)) (by decide)
        show PW 73 d (13, [some (pvR 124), some (pvI n1), some (pvI n2), some (pvI n3), some (pvI n4), some (pvI n5), none], [pvI 0], M) _
        refine pw_ifn hT (c := 0 = 0) rfl rfl (fun c22_ => absurd (by decide) c22_) (fun c22_ => ?_)
        refine pw_blk hT 1 (S' := (17, [some (pvR 124), some (pvI n1), some (pvI n2), some (pvI n3), some (pvI n4), some (pvI n5), none], [pvI (-1)], M)) rfl ⟨trivial, trivial⟩ ?_
        exact pw_ret hT rfl (r := some (pvI (-1))) (M' := M) ⟨rfl, rfl⟩ ⟨⟨_, rfl, (zr_wide (show (-1) ≤ Int32.toInt (-1) ∧ Int32.toInt (-1) ≤ (-1) from (by decide)) (by decide) (by decide))⟩, hok, pvfr_0⟩
      · refine pw_eqI (if_neg c20_) ?_
        have b23_ : 0 ≤ Int32.toInt n3 ∧ Int32.toInt n3 ≤ 2147483647 := zr_nlt_l 0 c20_ (zbnd n3) (show 0 ≤ Int32.toInt 0 ∧ Int32.toInt 0 ≤ 0 from (by decide)) (by decide)
        by_cases c24_ : 5 < n3
        · refine pw_eqI (if_pos c24_) ?_
          have b25_ : 6 ≤ Int32.toInt n3 ∧ Int32.toInt n3 ≤ 2147483647 := zr_lt_r 6 c24_ b23_ (show 5 ≤ Int32.toInt 5 ∧ Int32.toInt 5 ≤ 5 from (by decide)) (by decide)
          show PW 73 d (13, [some (pvR 124), some (pvI n1), some (pvI n2), some (pvI n3), some (pvI n4), some (pvI n5), none], [pvI 0], M) _
          refine pw_ifn hT (c := 0 = 0) rfl rfl (fun c26_ => absurd (by decide) c26_) (fun c26_ => ?_)
          refine pw_blk hT 1 (S' := (17, [some (pvR 124), some (pvI n1), some (pvI n2), some (pvI n3), some (pvI n4), some (pvI n5), none], [pvI (-1)], M)) rfl ⟨trivial, trivial⟩ ?_
          exact pw_ret hT rfl (r := some (pvI (-1))) (M' := M) ⟨rfl, rfl⟩ ⟨⟨_, rfl, (zr_wide (show (-1) ≤ Int32.toInt (-1) ∧ Int32.toInt (-1) ≤ (-1) from (by decide)) (by decide) (by decide))⟩, hok, pvfr_0⟩
        · refine pw_eqI (if_neg c24_) ?_
          have b27_ : 0 ≤ Int32.toInt n3 ∧ Int32.toInt n3 ≤ 5 := zr_nlt_r 5 c24_ b23_ (show 5 ≤ Int32.toInt 5 ∧ Int32.toInt 5 ≤ 5 from (by decide)) (by decide)
          show PW 73 d (13, [some (pvR 124), some (pvI n1), some (pvI n2), some (pvI n3), some (pvI n4), some (pvI n5), none], [pvI 1], M) _
          refine pw_ifn hT (c := 1 = 0) rfl rfl (fun c28_ => ?_) (fun c28_ => absurd c28_ (by decide))
          have b29_ : (-1) ≤ Int32.toInt (M.1 164 (Int32.toNatClampNeg n1)) ∧ Int32.toInt (M.1 164 (Int32.toNatClampNeg n1)) ≤ 4 := pvok_r hok 164 (Int32.toNatClampNeg n1) rfl
          refine pw_blk hT 4 (S' := (24, [some (pvR 124), some (pvI n1), some (pvI n2), some (pvI n3), some (pvI n4), some (pvI n5), none], [pvI (M.1 164 (Int32.toNatClampNeg n1))], M)) rfl ⟨trivial, rfl, trivial, ⟨rfl, (zr_in (n := 6) b13_ (by decide) (by decide))⟩, trivial⟩ ?_
          refine pw_if hT (c := (M.1 164 (Int32.toNatClampNeg n1)) < 0) rfl rfl (fun c30_ => ?_) (fun c30_ => ?_)
          · have b31_ : (-1) ≤ Int32.toInt (M.1 164 (Int32.toNatClampNeg n1)) ∧ Int32.toInt (M.1 164 (Int32.toNatClampNeg n1)) ≤ (-1) := zr_lt_l (-1) c30_ b29_ (show 0 ≤ Int32.toInt 0 ∧ Int32.toInt 0 ≤ 0 from (by decide)) (by decide)
            refine pw_blk hT 1 (S' := (38, [some (pvR 124), some (pvI n1), some (pvI n2), some (pvI n3), some (pvI n4), some (pvI n5), none], [pvI (-11)], M)) rfl ⟨trivial, trivial⟩ ?_
            exact pw_ret hT rfl (r := some (pvI (-11))) (M' := M) ⟨rfl, rfl⟩ ⟨⟨_, rfl, (zr_wide (show (-11) ≤ Int32.toInt (-11) ∧ Int32.toInt (-11) ≤ (-11) from (by decide)) (by decide) (by decide))⟩, hok, pvfr_0⟩
          · have b32_ : 0 ≤ Int32.toInt (M.1 164 (Int32.toNatClampNeg n1)) ∧ Int32.toInt (M.1 164 (Int32.toNatClampNeg n1)) ≤ 4 := zr_nlt_l 0 c30_ b29_ (show 0 ≤ Int32.toInt 0 ∧ Int32.toInt 0 ≤ 0 from (by decide)) (by decide)
            have b33_ : (-1) ≤ Int32.toInt (M.1 164 (Int32.toNatClampNeg n3)) ∧ Int32.toInt (M.1 164 (Int32.toNatClampNeg n3)) ≤ 4 := pvok_r hok 164 (Int32.toNatClampNeg n3) rfl
            refine pw_blk hT 4 (S' := (33, [some (pvR 124), some (pvI n1), some (pvI n2), some (pvI n3), some (pvI n4), some (pvI n5), none], [pvI (M.1 164 (Int32.toNatClampNeg n3))], M)) rfl ⟨trivial, rfl, trivial, ⟨rfl, (zr_in (n := 6) b27_ (by decide) (by decide))⟩, trivial⟩ ?_
            refine pw_if hT (c := 0 ≤ (M.1 164 (Int32.toNatClampNeg n3))) rfl rfl (fun c34_ => ?_) (fun c34_ => ?_)
            · have b35_ : 0 ≤ Int32.toInt (M.1 164 (Int32.toNatClampNeg n3)) ∧ Int32.toInt (M.1 164 (Int32.toNatClampNeg n3)) ≤ 4 := zr_le_r 0 c34_ b33_ (show 0 ≤ Int32.toInt 0 ∧ Int32.toInt 0 ≤ 0 from (by decide)) (by decide)
              refine pw_blk hT 8 (S' := (51, [some (pvR 124), some (pvI n1), some (pvI n2), some (pvI n3), some (pvI n4), some (pvI n5), none], [pvI (M.1 164 (Int32.toNatClampNeg n3)), pvI (M.1 164 (Int32.toNatClampNeg n1))], M)) rfl ⟨trivial, rfl, trivial, ⟨rfl, (zr_in (n := 6) b13_ (by decide) (by decide))⟩, trivial, rfl, trivial, ⟨rfl, (zr_in (n := 6) b27_ (by decide) (by decide))⟩, trivial⟩ ?_
              refine pw_ic hT (c := (M.1 164 (Int32.toNatClampNeg n1)) = (M.1 164 (Int32.toNatClampNeg n3))) rfl rfl (fun c36_ => ?_) (fun c36_ => ?_)
              · have d37_ : Int32.toInt (M.1 164 (Int32.toNatClampNeg n1)) = Int32.toInt (M.1 164 (Int32.toNatClampNeg n3)) := (zi_eq _ _).mp c36_
                refine pw_blk hT 1 (S' := (59, [some (pvR 124), some (pvI n1), some (pvI n2), some (pvI n3), some (pvI n4), some (pvI n5), none], [pvI n5], M)) rfl ⟨trivial, trivial⟩ ?_
                refine pw_if hT (c := n5 < 0) rfl rfl (fun c38_ => ?_) (fun c38_ => ?_)
                · have b39_ : (-2147483648) ≤ Int32.toInt n5 ∧ Int32.toInt n5 ≤ (-1) := zr_lt_l (-1) c38_ (zbnd n5) (show 0 ≤ Int32.toInt 0 ∧ Int32.toInt 0 ≤ 0 from (by decide)) (by decide)
                  refine pw_blk hT 1 (S' := (100, [some (pvR 124), some (pvI n1), some (pvI n2), some (pvI n3), some (pvI n4), some (pvI n5), none], [pvI (-13)], M)) rfl ⟨trivial, trivial⟩ ?_
                  exact pw_ret hT rfl (r := some (pvI (-13))) (M' := M) ⟨rfl, rfl⟩ ⟨⟨_, rfl, (zr_wide (show (-13) ≤ Int32.toInt (-13) ∧ Int32.toInt (-13) ≤ (-13) from (by decide)) (by decide) (by decide))⟩, hok, pvfr_0⟩
                · have b40_ : 0 ≤ Int32.toInt n5 ∧ Int32.toInt n5 ≤ 2147483647 := zr_nlt_l 0 c38_ (zbnd n5) (show 0 ≤ Int32.toInt 0 ∧ Int32.toInt 0 ≤ 0 from (by decide)) (by decide)
                  refine pw_blk hT 1 (S' := (63, [some (pvR 124), some (pvI n1), some (pvI n2), some (pvI n3), some (pvI n4), some (pvI n5), none], [pvI n2], M)) rfl ⟨trivial, trivial⟩ ?_
                  refine pw_if hT (c := n2 < 0) rfl rfl (fun c41_ => ?_) (fun c41_ => ?_)
                  · have b42_ : (-2147483648) ≤ Int32.toInt n2 ∧ Int32.toInt n2 ≤ (-1) := zr_lt_l (-1) c41_ (zbnd n2) (show 0 ≤ Int32.toInt 0 ∧ Int32.toInt 0 ≤ 0 from (by decide)) (by decide)
                    refine pw_blk hT 1 (S' := (100, [some (pvR 124), some (pvI n1), some (pvI n2), some (pvI n3), some (pvI n4), some (pvI n5), none], [pvI (-13)], M)) rfl ⟨trivial, trivial⟩ ?_
                    exact pw_ret hT rfl (r := some (pvI (-13))) (M' := M) ⟨rfl, rfl⟩ ⟨⟨_, rfl, (zr_wide (show (-13) ≤ Int32.toInt (-13) ∧ Int32.toInt (-13) ≤ (-13) from (by decide)) (by decide) (by decide))⟩, hok, pvfr_0⟩
                  · have b43_ : 0 ≤ Int32.toInt n2 ∧ Int32.toInt n2 ≤ 2147483647 := zr_nlt_l 0 c41_ (zbnd n2) (show 0 ≤ Int32.toInt 0 ∧ Int32.toInt 0 ≤ 0 from (by decide)) (by decide)
                    refine pw_blk hT 1 (S' := (68, [some (pvR 124), some (pvI n1), some (pvI n2), some (pvI n3), some (pvI n4), some (pvI n5), none], [pvI n4], M)) rfl ⟨trivial, trivial⟩ ?_
                    refine pw_if hT (c := n4 < 0) rfl rfl (fun c44_ => ?_) (fun c44_ => ?_)
                    · have b45_ : (-2147483648) ≤ Int32.toInt n4 ∧ Int32.toInt n4 ≤ (-1) := zr_lt_l (-1) c44_ (zbnd n4) (show 0 ≤ Int32.toInt 0 ∧ Int32.toInt 0 ≤ 0 from (by decide)) (by decide)
                      refine pw_blk hT 1 (S' := (100, [some (pvR 124), some (pvI n1), some (pvI n2), some (pvI n3), some (pvI n4), some (pvI n5), none], [pvI (-13)], M)) rfl ⟨trivial, trivial⟩ ?_
                      exact pw_ret hT rfl (r := some (pvI (-13))) (M' := M) ⟨rfl, rfl⟩ ⟨⟨_, rfl, (zr_wide (show (-13) ≤ Int32.toInt (-13) ∧ Int32.toInt (-13) ≤ (-13) from (by decide)) (by decide) (by decide))⟩, hok, pvfr_0⟩
                    · have b46_ : 0 ≤ Int32.toInt n4 ∧ Int32.toInt n4 ≤ 2147483647 := zr_nlt_l 0 c44_ (zbnd n4) (show 0 ≤ Int32.toInt 0 ∧ Int32.toInt 0 ≤ 0 from (by decide)) (by decide)
                      have b47_ : 0 ≤ Int32.toInt (M.1 165 (Int32.toNatClampNeg n1)) ∧ Int32.toInt (M.1 165 (Int32.toNatClampNeg n1)) ≤ 60 := pvok_r hok 165 (Int32.toNatClampNeg n1) rfl
                      obtain ⟨q49_, b48_⟩ : (Int32.toInt ((M.1 165 (Int32.toNatClampNeg n1)) - n5) = Int32.toInt (M.1 165 (Int32.toNatClampNeg n1)) - Int32.toInt n5) ∧ ((-2147483647) ≤ Int32.toInt ((M.1 165 (Int32.toNatClampNeg n1)) - n5) ∧ Int32.toInt ((M.1 165 (Int32.toNatClampNeg n1)) - n5) ≤ 60) := zsub_r (M.1 165 (Int32.toNatClampNeg n1)) n5 (-2147483647) 60 b47_ b40_ (by decide) (by decide) (by decide) (by decide)
                      refine pw_blk hT 7 (S' := (81, [some (pvR 124), some (pvI n1), some (pvI n2), some (pvI n3), some (pvI n4), some (pvI n5), none], [pvI ((M.1 165 (Int32.toNatClampNeg n1)) - n5), pvI n2], M)) rfl ⟨trivial, trivial, rfl, trivial, ⟨rfl, (zr_in (n := 6) b13_ (by decide) (by decide))⟩, trivial, trivial, trivial⟩ ?_
                      refine pw_ic hT (c := ((M.1 165 (Int32.toNatClampNeg n1)) - n5) < n2) rfl rfl (fun c50_ => ?_) (fun c50_ => ?_)
                      · have d51_ : Int32.toInt ((M.1 165 (Int32.toNatClampNeg n1)) - n5) < Int32.toInt n2 := (zi_lt _ _).mp c50_
                        refine pw_blk hT 1 (S' := (100, [some (pvR 124), some (pvI n1), some (pvI n2), some (pvI n3), some (pvI n4), some (pvI n5), none], [pvI (-13)], M)) rfl ⟨trivial, trivial⟩ ?_
                        exact pw_ret hT rfl (r := some (pvI (-13))) (M' := M) ⟨rfl, rfl⟩ ⟨⟨_, rfl, (zr_wide (show (-13) ≤ Int32.toInt (-13) ∧ Int32.toInt (-13) ≤ (-13) from (by decide)) (by decide) (by decide))⟩, hok, pvfr_0⟩
                      · have b52_ : 0 ≤ Int32.toInt ((M.1 165 (Int32.toNatClampNeg n1)) - n5) ∧ Int32.toInt ((M.1 165 (Int32.toNatClampNeg n1)) - n5) ≤ 60 := zr_nlt_l 0 c50_ b48_ b43_ (by decide)
                        have b53_ : 0 ≤ Int32.toInt n2 ∧ Int32.toInt n2 ≤ 60 := zr_nlt_r 60 c50_ b43_ b52_ (by decide)
                        have d54_ : Int32.toInt ((M.1 165 (Int32.toNatClampNeg n1)) - n5) ≥ Int32.toInt n2 := Int.not_lt.mp ((not_congr (zi_lt _ _)).mp c50_)
                        have b55_ : 0 ≤ Int32.toInt (M.1 165 (Int32.toNatClampNeg n3)) ∧ Int32.toInt (M.1 165 (Int32.toNatClampNeg n3)) ≤ 60 := pvok_r hok 165 (Int32.toNatClampNeg n3) rfl
                        obtain ⟨q57_, b56_⟩ : (Int32.toInt ((M.1 165 (Int32.toNatClampNeg n3)) - n5) = Int32.toInt (M.1 165 (Int32.toNatClampNeg n3)) - Int32.toInt n5) ∧ ((-2147483647) ≤ Int32.toInt ((M.1 165 (Int32.toNatClampNeg n3)) - n5) ∧ Int32.toInt ((M.1 165 (Int32.toNatClampNeg n3)) - n5) ≤ 60) := zsub_r (M.1 165 (Int32.toNatClampNeg n3)) n5 (-2147483647) 60 b55_ b40_ (by decide) (by decide) (by decide) (by decide)
                        refine pw_blk hT 7 (S' := (95, [some (pvR 124), some (pvI n1), some (pvI n2), some (pvI n3), some (pvI n4), some (pvI n5), none], [pvI ((M.1 165 (Int32.toNatClampNeg n3)) - n5), pvI n4], M)) rfl ⟨trivial, trivial, rfl, trivial, ⟨rfl, (zr_in (n := 6) b27_ (by decide) (by decide))⟩, trivial, trivial, trivial⟩ ?_
                        refine pw_ic hT (c := n4 ≤ ((M.1 165 (Int32.toNatClampNeg n3)) - n5)) rfl rfl (fun c58_ => ?_) (fun c58_ => ?_)
                        · have b59_ : 0 ≤ Int32.toInt n4 ∧ Int32.toInt n4 ≤ 60 := zr_le_l 60 c58_ b46_ b56_ (by decide)
                          have b60_ : 0 ≤ Int32.toInt ((M.1 165 (Int32.toNatClampNeg n3)) - n5) ∧ Int32.toInt ((M.1 165 (Int32.toNatClampNeg n3)) - n5) ≤ 60 := zr_le_r 0 c58_ b56_ b59_ (by decide)
                          have d61_ : Int32.toInt n4 ≤ Int32.toInt ((M.1 165 (Int32.toNatClampNeg n3)) - n5) := (zi_le _ _).mp c58_
                          have b62_ : 0 ≤ Int32.toInt n5 ∧ Int32.toInt n5 ≤ 60 := (by omega)
                          refine pw_blk hT 2 (S' := (104, [some (pvR 124), some (pvI n1), some (pvI n2), some (pvI n3), some (pvI n4), some (pvI n5), some (pvI 0)], [], M)) rfl ⟨trivial, trivial, trivial⟩ ?_
                          have hlz323_ : ∀ (nz323_ : Nat) (i6z323_ : Int32) (Mz323_ : pvM), (pvOk Mz323_) → (pvFr fp_X10_shift_124_x_x_x_x_x M Mz323_) → (0 ≤ Int32.toInt i6z323_ ∧ Int32.toInt i6z323_ ≤ 60) → (zhide ((61 - Int32.toInt i6z323_).toNat < nz323_)) → PW 73 d (104, [some (pvR 124), some (pvI n1), some (pvI n2), some (pvI n3), some (pvI n4), some (pvI n5), some (pvI i6z323_)], [], Mz323_) (fun r X => (∃ x : Int32, r = some (pvI x) ∧ (-13) ≤ Int32.toInt x ∧ Int32.toInt x ≤ 60) ∧ pvOk X ∧ pvFr fp_X10_shift_124_x_x_x_x_x M X) := by
                            intro nz323_
                            induction nz323_ with
                            | zero => intro i6z323_ Mz323_ oz323_ fz323_ h6z323_ hmz323_; exact absurd (zshow hmz323_) (Nat.not_lt_zero _)
                            | succ nz323_ ihz323_ =>
                              intro i6z323_ Mz323_ oz323_ fz323_ h6z323_ hmz323_
                              refine pw_blk hT 2 (S' := (108, [some (pvR 124), some (pvI n1), some (pvI n2), some (pvI n3), some (pvI n4), some (pvI n5), some (pvI i6z323_)], [pvI n5, pvI i6z323_], Mz323_)) rfl ⟨trivial, trivial, trivial⟩ ?_
                              refine pw_ic hT (c := n5 ≤ i6z323_) rfl rfl (fun c324_ => ?_) (fun c324_ => ?_)
                              · have d325_ : Int32.toInt n5 ≤ Int32.toInt i6z323_ := (zi_le _ _).mp c324_
                                refine pw_blk hT 2 (S' := (141, [some (pvR 124), some (pvI n1), some (pvI n2), some (pvI n3), some (pvI n4), some (pvI n5), some (pvI 0)], [], Mz323_)) rfl ⟨trivial, trivial, trivial⟩ ?_
                                have hlz398_ : ∀ (nz398_ : Nat) (i6z398_ : Int32) (Mz398_ : pvM), (pvOk Mz398_) → (pvFr fp_X10_shift_124_x_x_x_x_x M Mz398_) → (0 ≤ Int32.toInt i6z398_ ∧ Int32.toInt i6z398_ ≤ 60) → (zhide ((61 - Int32.toInt i6z398_).toNat < nz398_)) → PW 73 d (141, [some (pvR 124), some (pvI n1), some (pvI n2), some (pvI n3), some (pvI n4), some (pvI n5), some (pvI i6z398_)], [], Mz398_) (fun r X => (∃ x : Int32, r = some (pvI x) ∧ (-13) ≤ Int32.toInt x ∧ Int32.toInt x ≤ 60) ∧ pvOk X ∧ pvFr fp_X10_shift_124_x_x_x_x_x M X) := by
                                  intro nz398_
                                  induction nz398_ with
                                  | zero => intro i6z398_ Mz398_ oz398_ fz398_ h6z398_ hmz398_; exact absurd (zshow hmz398_) (Nat.not_lt_zero _)
                                  | succ nz398_ ihz398_ =>
                                    intro i6z398_ Mz398_ oz398_ fz398_ h6z398_ hmz398_
                                    refine pw_blk hT 2 (S' := (145, [some (pvR 124), some (pvI n1), some (pvI n2), some (pvI n3), some (pvI n4), some (pvI n5), some (pvI i6z398_)], [pvI n5, pvI i6z398_], Mz398_)) rfl ⟨trivial, trivial, trivial⟩ ?_
                                    refine pw_ic hT (c := n5 ≤ i6z398_) rfl rfl (fun c399_ => ?_) (fun c399_ => ?_)
                                    · have d400_ : Int32.toInt n5 ≤ Int32.toInt i6z398_ := (zi_le _ _).mp c399_
                                      refine pw_blk hT 1 (S' := (178, [some (pvR 124), some (pvI n1), some (pvI n2), some (pvI n3), some (pvI n4), some (pvI n5), some (pvI i6z398_)], [pvI n5], Mz398_)) rfl ⟨trivial, trivial⟩ ?_
                                      exact pw_ret hT rfl (r := some (pvI n5)) (M' := Mz398_) ⟨rfl, rfl⟩ ⟨⟨_, rfl, (zr_wide b62_ (by decide) (by decide))⟩, oz398_, fz398_⟩
                                    · have b401_ : 1 ≤ Int32.toInt n5 ∧ Int32.toInt n5 ≤ 60 := zr_nle_l 1 c399_ b62_ h6z398_ (by decide)
                                      have b402_ : 0 ≤ Int32.toInt i6z398_ ∧ Int32.toInt i6z398_ ≤ 59 := zr_nle_r 59 c399_ h6z398_ b401_ (by decide)
                                      have d403_ : Int32.toInt n5 > Int32.toInt i6z398_ := Int.not_le.mp ((not_congr (zi_le _ _)).mp c399_)
                                      have q404_ : Int32.toInt (60 * n3) = 60 * Int32.toInt n3 := by have u0 : Int32.toInt 60 = 60 := (by decide); have u1 := b27_; have u2 := zmul 60 n3 (by rw [u0]; omega) (by rw [u0]; omega); rw [u0] at u2; omega
                                      have b405_ : 0 ≤ Int32.toInt (60 * n3) ∧ Int32.toInt (60 * n3) ≤ 300 := (by have u1 := b27_; omega)
                                      obtain ⟨q407_, b406_⟩ : (Int32.toInt ((60 * n3) + n4) = Int32.toInt (60 * n3) + Int32.toInt n4) ∧ (0 ≤ Int32.toInt ((60 * n3) + n4) ∧ Int32.toInt ((60 * n3) + n4) ≤ 360) := zadd_r (60 * n3) n4 0 360 b405_ b59_ (by decide) (by decide) (by decide) (by decide)
                                      obtain ⟨q409_, b408_⟩ : (Int32.toInt (((60 * n3) + n4) + i6z398_) = Int32.toInt ((60 * n3) + n4) + Int32.toInt i6z398_) ∧ (0 ≤ Int32.toInt (((60 * n3) + n4) + i6z398_) ∧ Int32.toInt (((60 * n3) + n4) + i6z398_) ≤ 419) := zadd_r ((60 * n3) + n4) i6z398_ 0 419 b406_ b402_ (by decide) (by decide) (by decide) (by decide)
                                      refine pw_blkw hT 14 (pc := 170) (lo := [some (pvR 124), some (pvI n1), some (pvI n2), some (pvI n3), some (pvI n4), some (pvI n5), some (pvI i6z398_)]) (st := []) (M := pvw Mz398_ 166 (Int32.toNatClampNeg (((60 * n3) + n4) + i6z398_)) (Mz398_.2 167 (Int32.toNatClampNeg i6z398_))) rfl ⟨trivial, rfl, trivial, trivial, trivial, trivial, trivial, trivial, trivial, trivial, rfl, trivial, ⟨rfl, (zr_in (n := 60) b402_ (by decide) (by decide))⟩, ⟨rfl, (vp_in_iff.mpr (show 0 ≤ Int32.toInt (((60 * n3) + n4) + i6z398_) ∧ Int32.toInt (((60 * n3) + n4) + i6z398_) < ((360 : Nat) : Int) from (by have u0 := b408_; omega)))⟩, trivial⟩ (fun M410_ e411_ => ?_)
                                      have o412_ : pvOk M410_ := pvok_w e411_ oz398_
                                      have f413_ : pvFr fp_X10_shift_124_x_x_x_x_x M M410_ := pvfr_w e411_ fz398_
                                      obtain ⟨q415_, b414_⟩ : (Int32.toInt (i6z398_ + 1) = Int32.toInt i6z398_ + 1) ∧ (1 ≤ Int32.toInt (i6z398_ + 1) ∧ Int32.toInt (i6z398_ + 1) ≤ 60) := zadd_k i6z398_ 1 1 1 60 b402_ (by decide) (by decide) (by decide) (by decide) (by decide)
                                      refine pw_blk hT 2 (S' := (141, [some (pvR 124), some (pvI n1), some (pvI n2), some (pvI n3), some (pvI n4), some (pvI n5), some (pvI (i6z398_ + 1))], [], M410_)) rfl ⟨trivial, trivial, trivial⟩ ?_
                                      exact ihz398_ (i6z398_ + 1) M410_ o412_ f413_ (zr_wide b414_ (by decide) (by decide)) (zhid (pvms_up (zshow hmz398_) h6z398_ q415_ (by decide) (by decide)))
                                exact hlz398_ _ 0 Mz323_ oz323_ fz323_ (zr_wide (show 0 ≤ Int32.toInt 0 ∧ Int32.toInt 0 ≤ 0 from (by decide)) (by decide) (by decide)) (zhid (Nat.lt_succ_self _))
                              · have b416_ : 1 ≤ Int32.toInt n5 ∧ Int32.toInt n5 ≤ 60 := zr_nle_l 1 c324_ b62_ h6z323_ (by decide)
                                have b417_ : 0 ≤ Int32.toInt i6z323_ ∧ Int32.toInt i6z323_ ≤ 59 := zr_nle_r 59 c324_ h6z323_ b416_ (by decide)
                                have d418_ : Int32.toInt n5 > Int32.toInt i6z323_ := Int.not_le.mp ((not_congr (zi_le _ _)).mp c324_)
                                have q419_ : Int32.toInt (60 * n1) = 60 * Int32.toInt n1 := by have u0 : Int32.toInt 60 = 60 := (by decide); have u1 := b13_; have u2 := zmul 60 n1 (by rw [u0]; omega) (by rw [u0]; omega); rw [u0] at u2; omega
                                have b420_ : 0 ≤ Int32.toInt (60 * n1) ∧ Int32.toInt (60 * n1) ≤ 300 := (by have u1 := b13_; omega)
                                obtain ⟨q422_, b421_⟩ : (Int32.toInt ((60 * n1) + n2) = Int32.toInt (60 * n1) + Int32.toInt n2) ∧ (0 ≤ Int32.toInt ((60 * n1) + n2) ∧ Int32.toInt ((60 * n1) + n2) ≤ 360) := zadd_r (60 * n1) n2 0 360 b420_ b53_ (by decide) (by decide) (by decide) (by decide)
                                obtain ⟨q424_, b423_⟩ : (Int32.toInt (((60 * n1) + n2) + i6z323_) = Int32.toInt ((60 * n1) + n2) + Int32.toInt i6z323_) ∧ (0 ≤ Int32.toInt (((60 * n1) + n2) + i6z323_) ∧ Int32.toInt (((60 * n1) + n2) + i6z323_) ≤ 419) := zadd_r ((60 * n1) + n2) i6z323_ 0 419 b421_ b417_ (by decide) (by decide) (by decide) (by decide)
                                refine pw_blkw hT 14 (pc := 132) (lo := [some (pvR 124), some (pvI n1), some (pvI n2), some (pvI n3), some (pvI n4), some (pvI n5), some (pvI i6z323_)]) (st := []) (M := pvw Mz323_ 167 (Int32.toNatClampNeg i6z323_) (Mz323_.2 166 (Int32.toNatClampNeg (((60 * n1) + n2) + i6z323_)))) rfl ⟨trivial, rfl, trivial, trivial, rfl, trivial, trivial, trivial, trivial, trivial, trivial, trivial, ⟨rfl, (vp_in_iff.mpr (show 0 ≤ Int32.toInt (((60 * n1) + n2) + i6z323_) ∧ Int32.toInt (((60 * n1) + n2) + i6z323_) < ((360 : Nat) : Int) from (by have u0 := b423_; omega)))⟩, ⟨rfl, (zr_in (n := 60) b417_ (by decide) (by decide))⟩, trivial⟩ (fun M425_ e426_ => ?_)
                                have o427_ : pvOk M425_ := pvok_w e426_ oz323_
                                have f428_ : pvFr fp_X10_shift_124_x_x_x_x_x M M425_ := pvfr_w e426_ fz323_
                                obtain ⟨q430_, b429_⟩ : (Int32.toInt (i6z323_ + 1) = Int32.toInt i6z323_ + 1) ∧ (1 ≤ Int32.toInt (i6z323_ + 1) ∧ Int32.toInt (i6z323_ + 1) ≤ 60) := zadd_k i6z323_ 1 1 1 60 b417_ (by decide) (by decide) (by decide) (by decide) (by decide)
                                refine pw_blk hT 2 (S' := (104, [some (pvR 124), some (pvI n1), some (pvI n2), some (pvI n3), some (pvI n4), some (pvI n5), some (pvI (i6z323_ + 1))], [], M425_)) rfl ⟨trivial, trivial, trivial⟩ ?_
                                exact ihz323_ (i6z323_ + 1) M425_ o427_ f428_ (zr_wide b429_ (by decide) (by decide)) (zhid (pvms_up (zshow hmz323_) h6z323_ q430_ (by decide) (by decide)))
                          exact hlz323_ _ 0 M hok pvfr_0 (zr_wide (show 0 ≤ Int32.toInt 0 ∧ Int32.toInt 0 ≤ 0 from (by decide)) (by decide) (by decide)) (zhid (Nat.lt_succ_self _))
                        · have d431_ : Int32.toInt n4 > Int32.toInt ((M.1 165 (Int32.toNatClampNeg n3)) - n5) := Int.not_le.mp ((not_congr (zi_le _ _)).mp c58_)
                          refine pw_blk hT 1 (S' := (100, [some (pvR 124), some (pvI n1), some (pvI n2), some (pvI n3), some (pvI n4), some (pvI n5), none], [pvI (-13)], M)) rfl ⟨trivial, trivial⟩ ?_
                          exact pw_ret hT rfl (r := some (pvI (-13))) (M' := M) ⟨rfl, rfl⟩ ⟨⟨_, rfl, (zr_wide (show (-13) ≤ Int32.toInt (-13) ∧ Int32.toInt (-13) ≤ (-13) from (by decide)) (by decide) (by decide))⟩, hok, pvfr_0⟩
              · refine pw_blk hT 1 (S' := (56, [some (pvR 124), some (pvI n1), some (pvI n2), some (pvI n3), some (pvI n4), some (pvI n5), none], [pvI (-12)], M)) rfl ⟨trivial, trivial⟩ ?_
                exact pw_ret hT rfl (r := some (pvI (-12))) (M' := M) ⟨rfl, rfl⟩ ⟨⟨_, rfl, (zr_wide (show (-12) ≤ Int32.toInt (-12) ∧ Int32.toInt (-12) ≤ (-12) from (by decide)) (by decide) (by decide))⟩, hok, pvfr_0⟩
            · have b432_ : (-1) ≤ Int32.toInt (M.1 164 (Int32.toNatClampNeg n3)) ∧ Int32.toInt (M.1 164 (Int32.toNatClampNeg n3)) ≤ (-1) := zr_nle_r (-1) c34_ b33_ (show 0 ≤ Int32.toInt 0 ∧ Int32.toInt 0 ≤ 0 from (by decide)) (by decide)
              refine pw_blk hT 1 (S' := (38, [some (pvR 124), some (pvI n1), some (pvI n2), some (pvI n3), some (pvI n4), some (pvI n5), none], [pvI (-11)], M)) rfl ⟨trivial, trivial⟩ ?_
              exact pw_ret hT rfl (r := some (pvI (-11))) (M' := M) ⟨rfl, rfl⟩ ⟨⟨_, rfl, (zr_wide (show (-11) ≤ Int32.toInt (-11) ∧ Int32.toInt (-11) ≤ (-11) from (by decide)) (by decide) (by decide))⟩, hok, pvfr_0⟩
def fpL_X10_shut_124_x : List (Nat × Nat × Nat) := [(0, 124, 2), (0, 124, 3), (0, 124, 33), (0, 124, 6), (0, 124, 7), (0, 131, 0), (0, 141, 0), (0, 142, 0), (0, 143, 0)]
def fp_X10_shut_124_x (q k : Nat) : Bool := pvfp fpL_X10_shut_124_x q k
theorem fp_X10_shut_124_x_fp_X10_goMinutes_124_x (a b : Nat) (h : fp_X10_goMinutes_124_x a b = true) : fp_X10_shut_124_x a b = true := pvfp_sub (l1 := fpL_X10_goMinutes_124_x) (l2 := fpL_X10_shut_124_x) (by decide) a b h
set_option maxHeartbeats 4000000 in
set_option maxRecDepth 10000 in
theorem sf_X10_shut_124_x (M : pvM) (hok : pvOk M) (n1 : Int32) (hz : pvWF M) (d : Nat) : PW 74 d (0, [some (pvR 124), some (pvI n1), none, none], [], M) (fun r X => (∃ x : Int32, r = some (pvI x) ∧ (-3) ≤ Int32.toInt x ∧ Int32.toInt x ≤ 319) ∧ pvOk X ∧ pvFr fp_X10_shut_124_x M X) := by
  have hT : pvdom 74 = pvD_74 := rfl
  refine pw_blk hT 2 (S' := (2, [some (pvR 124), some (pvI n1), none, none], [pvI n1, pvR 124], M)) rfl ⟨trivial, trivial, trivial⟩ ?_
  refine pw_callT hT (as := [pvR 124, pvI n1]) (lo1 := [some (pvR 124), some (pvI n1)]) (d1 := d) (rest := []) rfl rfl rfl rfl rfl (fun _ => rfl) (Nat.zero_le _) rfl rfl rfl (sf_X10_isWindow_124_x M hok n1 d) ?_
  by_cases c6_ : n1 < 0
  · refine pw_eqI (if_pos c6_) ?_
    have b7_ : (-2147483648) ≤ Int32.toInt n1 ∧ Int32.toInt n1 ≤ (-1) := zr_lt_l (-1) c6_ (zbnd n1) (show 0 ≤ Int32.toInt 0 ∧ Int32.toInt 0 ≤ 0 from (by decide)) (by decide)
    show PW 74 d (5, [some (pvR 124), some (pvI n1), none, none], [pvI 0], M) _
    refine pw_ifn hT (c := 0 = 0) rfl rfl (fun c8_ => absurd (by decide) c8_) (fun c8_ => ?_)
    refine pw_blk hT 1 (S' := (9, [some (pvR 124), some (pvI n1), none, none], [pvI (-1)], M)) rfl ⟨trivial, trivial⟩ ?_
    exact pw_ret hT rfl (r := some (pvI (-1))) (M' := M) ⟨rfl, rfl⟩ ⟨⟨_, rfl, (zr_wide (show (-1) ≤ Int32.toInt (-1) ∧ Int32.toInt (-1) ≤ (-1) from (by decide)) (by decide) (by decide))⟩, hok, pvfr_0⟩
  · refine pw_eqI (if_neg c6_) ?_
    have b9_ : 0 ≤ Int32.toInt n1 ∧ Int32.toInt n1 ≤ 2147483647 := zr_nlt_l 0 c6_ (zbnd n1) (show 0 ≤ Int32.toInt 0 ∧ Int32.toInt 0 ≤ 0 from (by decide)) (by decide)
    have b10_ : 0 ≤ Int32.toInt (M.1 124 0) ∧ Int32.toInt (M.1 124 0) ≤ 7 := pvok_r hok 124 0 rfl
    obtain ⟨q12_, b11_⟩ : (Int32.toInt ((M.1 124 0) - 1) = Int32.toInt (M.1 124 0) - 1) ∧ ((-1) ≤ Int32.toInt ((M.1 124 0) - 1) ∧ Int32.toInt ((M.1 124 0) - 1) ≤ 6) := zsub_k (M.1 124 0) 1 1 (-1) 6 b10_ (by decide) (by decide) (by decide) (by decide) (by decide)
    by_cases c13_ : ((M.1 124 0) - 1) < n1
    · refine pw_eqI (if_pos c13_) ?_
      have d14_ : Int32.toInt ((M.1 124 0) - 1) < Int32.toInt n1 := (zi_lt _ _).mp c13_
      show PW 74 d (5, [some (pvR 124), some (pvI n1), none, none], [pvI 0], M) _
      refine pw_ifn hT (c := 0 = 0) rfl rfl (fun c15_ => absurd (by decide) c15_) (fun c15_ => ?_)
      refine pw_blk hT 1 (S' := (9, [some (pvR 124), some (pvI n1), none, none], [pvI (-1)], M)) rfl ⟨trivial, trivial⟩ ?_
      exact pw_ret hT rfl (r := some (pvI (-1))) (M' := M) ⟨rfl, rfl⟩ ⟨⟨_, rfl, (zr_wide (show (-1) ≤ Int32.toInt (-1) ∧ Int32.toInt (-1) ≤ (-1) from (by decide)) (by decide) (by decide))⟩, hok, pvfr_0⟩
    · refine pw_eqI (if_neg c13_) ?_
      have b16_ : 0 ≤ Int32.toInt ((M.1 124 0) - 1) ∧ Int32.toInt ((M.1 124 0) - 1) ≤ 6 := zr_nlt_l 0 c13_ b11_ b9_ (by decide)
      have b17_ : 0 ≤ Int32.toInt n1 ∧ Int32.toInt n1 ≤ 6 := zr_nlt_r 6 c13_ b9_ b16_ (by decide)
      have d18_ : Int32.toInt ((M.1 124 0) - 1) ≥ Int32.toInt n1 := Int.not_lt.mp ((not_congr (zi_lt _ _)).mp c13_)
      show PW 74 d (5, [some (pvR 124), some (pvI n1), none, none], [pvI 1], M) _
      refine pw_ifn hT (c := 1 = 0) rfl rfl (fun c19_ => ?_) (fun c19_ => absurd c19_ (by decide))
      have b20_ : 0 ≤ Int32.toInt (M.1 124 5) ∧ Int32.toInt (M.1 124 5) ≤ 3 := pvok_r hok 124 5 rfl
      have b21_ : 0 ≤ Int32.toInt (M.1 124 6) ∧ Int32.toInt (M.1 124 6) ≤ 4 := pvok_r hok 124 6 rfl
      refine pw_blk hT 6 (S' := (20, [some (pvR 124), some (pvI n1), none, none], [pvI n1, pvI (M.1 124 6), pvI (M.1 124 5), pvR 124], M)) rfl ⟨trivial, trivial, rfl, trivial, rfl, trivial, trivial⟩ ?_
      refine pw_callGp hT (as := [pvR 124, pvI (M.1 124 5), pvI (M.1 124 6), pvI n1]) (lo1 := [some (pvR 124), some (pvI (M.1 124 5)), some (pvI (M.1 124 6)), some (pvI n1)]) (d1 := d) (rest := []) rfl rfl rfl rfl rfl (fun _ => rfl) (Nat.zero_le _) rfl rfl rfl (sf_X10_way_124_x_x_x M hok (M.1 124 5) (M.1 124 6) n1 b20_ b21_ b17_ d) (fun x22_ b24_ => ?_)
      refine pw_blk hT 2 (S' := (25, [some (pvR 124), some (pvI n1), none, none], [pvI n1, pvR 124, pvI x22_], M)) rfl ⟨trivial, trivial, trivial⟩ ?_
      refine pw_callT hT (as := [pvR 124, pvI n1]) (lo1 := [some (pvR 124), some (pvI n1)]) (d1 := d) (rest := [pvI x22_]) rfl rfl rfl rfl rfl (fun _ => rfl) (Nat.zero_le _) rfl rfl rfl (sf_X10_shutting_124_x M hok n1 b17_ d) ?_
      have b32_ : 0 ≤ Int32.toInt (M.1 125 (Int32.toNatClampNeg n1)) ∧ Int32.toInt (M.1 125 (Int32.toNatClampNeg n1)) ≤ 6 := pvok_r hok 125 (Int32.toNatClampNeg n1) rfl
      by_cases c33_ : (M.1 125 (Int32.toNatClampNeg n1)) = 1
      · refine pw_eqI (if_pos c33_) ?_
        have b34_ : 1 ≤ Int32.toInt (M.1 125 (Int32.toNatClampNeg n1)) ∧ Int32.toInt (M.1 125 (Int32.toNatClampNeg n1)) ≤ 1 := (by have u0 := b32_; have u1 := (zi_eq _ _).mp c33_; have u2 := (show 1 ≤ Int32.toInt 1 ∧ Int32.toInt 1 ≤ 1 from (by decide)); omega)
        have b35_ : 0 ≤ Int32.toInt (M.1 129 (Int32.toNatClampNeg n1)) ∧ Int32.toInt (M.1 129 (Int32.toNatClampNeg n1)) ≤ 9 := pvok_r hok 129 (Int32.toNatClampNeg n1) rfl
        have q36_ : Int32.toInt (2 * (M.1 129 (Int32.toNatClampNeg n1))) = 2 * Int32.toInt (M.1 129 (Int32.toNatClampNeg n1)) := by have u0 : Int32.toInt 2 = 2 := (by decide); have u1 := b35_; have u2 := zmul 2 (M.1 129 (Int32.toNatClampNeg n1)) (by rw [u0]; omega) (by rw [u0]; omega); rw [u0] at u2; omega
        have b37_ : 0 ≤ Int32.toInt (2 * (M.1 129 (Int32.toNatClampNeg n1))) ∧ Int32.toInt (2 * (M.1 129 (Int32.toNatClampNeg n1))) ≤ 18 := (by have u1 := b35_; omega)
        show PW 74 d (28, [some (pvR 124), some (pvI n1), none, none], [pvI (2 * (M.1 129 (Int32.toNatClampNeg n1))), pvI x22_], M) _
        obtain ⟨q39_, b38_⟩ : (Int32.toInt (x22_ + (2 * (M.1 129 (Int32.toNatClampNeg n1)))) = Int32.toInt x22_ + Int32.toInt (2 * (M.1 129 (Int32.toNatClampNeg n1)))) ∧ (0 ≤ Int32.toInt (x22_ + (2 * (M.1 129 (Int32.toNatClampNeg n1)))) ∧ Int32.toInt (x22_ + (2 * (M.1 129 (Int32.toNatClampNeg n1)))) ≤ 319) := zadd_r x22_ (2 * (M.1 129 (Int32.toNatClampNeg n1))) 0 319 b24_ b37_ (by decide) (by decide) (by decide) (by decide)
        have b40_ : 0 ≤ Int32.toInt (M.1 131 (Int32.toNatClampNeg n1)) ∧ Int32.toInt (M.1 131 (Int32.toNatClampNeg n1)) ≤ 1 := pvok_r hok 131 (Int32.toNatClampNeg n1) rfl
        refine pw_blk hT 6 (S' := (36, [some (pvR 124), some (pvI n1), some (pvI (x22_ + (2 * (M.1 129 (Int32.toNatClampNeg n1))))), none], [pvI (M.1 131 (Int32.toNatClampNeg n1))], M)) rfl ⟨trivial, trivial, trivial, rfl, trivial, ⟨rfl, (zr_in (n := 7) b17_ (by decide) (by decide))⟩, trivial⟩ ?_
        refine pw_ifn hT (c := (M.1 131 (Int32.toNatClampNeg n1)) = 0) rfl rfl (fun c41_ => ?_) (fun c41_ => ?_)
        · have b42_ : 1 ≤ Int32.toInt (M.1 131 (Int32.toNatClampNeg n1)) ∧ Int32.toInt (M.1 131 (Int32.toNatClampNeg n1)) ≤ 1 := (by have u0 := b40_; have u1 := (not_congr (zi_eq _ _)).mp c41_; have u2 := (show 0 ≤ Int32.toInt 0 ∧ Int32.toInt 0 ≤ 0 from (by decide)); omega)
          refine pw_blk hT 1 (S' := (53, [some (pvR 124), some (pvI n1), some (pvI (x22_ + (2 * (M.1 129 (Int32.toNatClampNeg n1))))), none], [pvI (-3)], M)) rfl ⟨trivial, trivial⟩ ?_
          exact pw_ret hT rfl (r := some (pvI (-3))) (M' := M) ⟨rfl, rfl⟩ ⟨⟨_, rfl, (zr_wide (show (-3) ≤ Int32.toInt (-3) ∧ Int32.toInt (-3) ≤ (-3) from (by decide)) (by decide) (by decide))⟩, hok, pvfr_0⟩
        · have b43_ : 0 ≤ Int32.toInt (M.1 131 (Int32.toNatClampNeg n1)) ∧ Int32.toInt (M.1 131 (Int32.toNatClampNeg n1)) ≤ 0 := (by have u0 := b40_; have u1 := (zi_eq _ _).mp c41_; have u2 := (show 0 ≤ Int32.toInt 0 ∧ Int32.toInt 0 ≤ 0 from (by decide)); omega)
          have b44_ : 0 ≤ Int32.toInt (M.1 124 1) ∧ Int32.toInt (M.1 124 1) ≤ 9999 := pvok_r hok 124 1 rfl
          obtain ⟨q46_, b45_⟩ : (Int32.toInt ((M.1 124 1) + (x22_ + (2 * (M.1 129 (Int32.toNatClampNeg n1))))) = Int32.toInt (M.1 124 1) + Int32.toInt (x22_ + (2 * (M.1 129 (Int32.toNatClampNeg n1))))) ∧ (0 ≤ Int32.toInt ((M.1 124 1) + (x22_ + (2 * (M.1 129 (Int32.toNatClampNeg n1))))) ∧ Int32.toInt ((M.1 124 1) + (x22_ + (2 * (M.1 129 (Int32.toNatClampNeg n1))))) ≤ 10318) := zadd_r (M.1 124 1) (x22_ + (2 * (M.1 129 (Int32.toNatClampNeg n1)))) 0 10318 b44_ b38_ (by decide) (by decide) (by decide) (by decide)
          refine pw_blk hT 5 (S' := (48, [some (pvR 124), some (pvI n1), some (pvI (x22_ + (2 * (M.1 129 (Int32.toNatClampNeg n1))))), none], [pvI 9999, pvI ((M.1 124 1) + (x22_ + (2 * (M.1 129 (Int32.toNatClampNeg n1)))))], M)) rfl ⟨trivial, rfl, trivial, trivial, trivial, trivial⟩ ?_
          refine pw_ic hT (c := ((M.1 124 1) + (x22_ + (2 * (M.1 129 (Int32.toNatClampNeg n1))))) ≤ 9999) rfl rfl (fun c47_ => ?_) (fun c47_ => ?_)
          · have b48_ : 0 ≤ Int32.toInt ((M.1 124 1) + (x22_ + (2 * (M.1 129 (Int32.toNatClampNeg n1))))) ∧ Int32.toInt ((M.1 124 1) + (x22_ + (2 * (M.1 129 (Int32.toNatClampNeg n1))))) ≤ 9999 := zr_le_l 9999 c47_ b45_ (show 9999 ≤ Int32.toInt 9999 ∧ Int32.toInt 9999 ≤ 9999 from (by decide)) (by decide)
            refine pw_blk hT 2 (S' := (56, [some (pvR 124), some (pvI n1), some (pvI (x22_ + (2 * (M.1 129 (Int32.toNatClampNeg n1))))), none], [pvI (x22_ + (2 * (M.1 129 (Int32.toNatClampNeg n1)))), pvR 124], M)) rfl ⟨trivial, trivial, trivial⟩ ?_
            refine pw_callG hT (as := [pvR 124, pvI (x22_ + (2 * (M.1 129 (Int32.toNatClampNeg n1))))]) (lo1 := [some (pvR 124), some (pvI (x22_ + (2 * (M.1 129 (Int32.toNatClampNeg n1))))), none]) (d1 := d) (rest := []) rfl rfl rfl rfl rfl (fun _ => rfl) (Nat.zero_le _) rfl rfl rfl (sf_X10_goMinutes_124_x M hok (x22_ + (2 * (M.1 129 (Int32.toNatClampNeg n1)))) (zr_wide b38_ (by decide) (by decide)) hz (show Int32.toInt (M.1 124 1) + Int32.toInt (x22_ + (2 * (M.1 129 (Int32.toNatClampNeg n1)))) ≤ 9999 from (by omega)) d) (fun x49_ M50_ b51_ o52_ g53_ => ?_)
            have f54_ : pvFr fp_X10_shut_124_x M M50_ := pvfr_t g53_ pvfr_0 fp_X10_shut_124_x_fp_X10_goMinutes_124_x
            refine pw_blkw hT 6 (pc := 67) (lo := [some (pvR 124), some (pvI n1), some (pvI (x22_ + (2 * (M.1 129 (Int32.toNatClampNeg n1))))), some (pvI x49_)]) (st := []) (M := pvu M50_ 131 (Int32.toNatClampNeg n1) (vp_nar .boolean 1)) rfl ⟨trivial, trivial, rfl, trivial, trivial, ⟨rfl, (zr_in (n := 7) b17_ (by decide) (by decide))⟩, trivial⟩ (fun M55_ e56_ => ?_)
            have o57_ : pvOk M55_ := pvok_u2 e56_ o52_ rfl (zboolr 1)
            have f58_ : pvFr fp_X10_shut_124_x M M55_ := pvfr_u e56_ f54_ rfl
            have b59_ : 0 ≤ Int32.toInt (M55_.1 127 (Int32.toNatClampNeg n1)) ∧ Int32.toInt (M55_.1 127 (Int32.toNatClampNeg n1)) ≤ 3 := pvok_r o57_ 127 (Int32.toNatClampNeg n1) rfl
            refine pw_blkw hT 6 (pc := 77) (lo := [some (pvR 124), some (pvI n1), some (pvI (x22_ + (2 * (M.1 129 (Int32.toNatClampNeg n1))))), some (pvI x49_)]) (st := []) (M := pvu M55_ 124 5 (M55_.1 127 (Int32.toNatClampNeg n1))) rfl ⟨trivial, trivial, rfl, trivial, ⟨rfl, (zr_in (n := 7) b17_ (by decide) (by decide))⟩, rfl, trivial⟩ (fun M60_ e61_ => ?_)
            have o62_ : pvOk M60_ := pvok_u2 e61_ o57_ rfl b59_
            have f63_ : pvFr fp_X10_shut_124_x M M60_ := pvfr_u e61_ f58_ rfl
            have b64_ : 0 ≤ Int32.toInt (M60_.1 128 (Int32.toNatClampNeg n1)) ∧ Int32.toInt (M60_.1 128 (Int32.toNatClampNeg n1)) ≤ 4 := pvok_r o62_ 128 (Int32.toNatClampNeg n1) rfl
            refine pw_blkw hT 6 (pc := 87) (lo := [some (pvR 124), some (pvI n1), some (pvI (x22_ + (2 * (M.1 129 (Int32.toNatClampNeg n1))))), some (pvI x49_)]) (st := []) (M := pvu M60_ 124 6 (M60_.1 128 (Int32.toNatClampNeg n1))) rfl ⟨trivial, trivial, rfl, trivial, ⟨rfl, (zr_in (n := 7) b17_ (by decide) (by decide))⟩, rfl, trivial⟩ (fun M65_ e66_ => ?_)
            have o67_ : pvOk M65_ := pvok_u2 e66_ o62_ rfl b64_
            have f68_ : pvFr fp_X10_shut_124_x M M65_ := pvfr_u e66_ f63_ rfl
            refine pw_blk hT 1 (S' := (88, [some (pvR 124), some (pvI n1), some (pvI (x22_ + (2 * (M.1 129 (Int32.toNatClampNeg n1))))), some (pvI x49_)], [pvI (x22_ + (2 * (M.1 129 (Int32.toNatClampNeg n1))))], M65_)) rfl ⟨trivial, trivial⟩ ?_
            exact pw_ret hT rfl (r := some (pvI (x22_ + (2 * (M.1 129 (Int32.toNatClampNeg n1)))))) (M' := M65_) ⟨rfl, rfl⟩ ⟨⟨_, rfl, (zr_wide b38_ (by decide) (by decide))⟩, o67_, f68_⟩
          · have b69_ : 10000 ≤ Int32.toInt ((M.1 124 1) + (x22_ + (2 * (M.1 129 (Int32.toNatClampNeg n1))))) ∧ Int32.toInt ((M.1 124 1) + (x22_ + (2 * (M.1 129 (Int32.toNatClampNeg n1))))) ≤ 10318 := zr_nle_l 10000 c47_ b45_ (show 9999 ≤ Int32.toInt 9999 ∧ Int32.toInt 9999 ≤ 9999 from (by decide)) (by decide)
            refine pw_blk hT 1 (S' := (53, [some (pvR 124), some (pvI n1), some (pvI (x22_ + (2 * (M.1 129 (Int32.toNatClampNeg n1))))), none], [pvI (-3)], M)) rfl ⟨trivial, trivial⟩ ?_
            exact pw_ret hT rfl (r := some (pvI (-3))) (M' := M) ⟨rfl, rfl⟩ ⟨⟨_, rfl, (zr_wide (show (-3) ≤ Int32.toInt (-3) ∧ Int32.toInt (-3) ≤ (-3) from (by decide)) (by decide) (by decide))⟩, hok, pvfr_0⟩
      · refine pw_eqI (if_neg c33_) ?_
        by_cases c70_ : (M.1 125 (Int32.toNatClampNeg n1)) = 4
        · refine pw_eqI (if_pos c70_) ?_
          have b71_ : 4 ≤ Int32.toInt (M.1 125 (Int32.toNatClampNeg n1)) ∧ Int32.toInt (M.1 125 (Int32.toNatClampNeg n1)) ≤ 4 := (by have u0 := b32_; have u1 := (zi_eq _ _).mp c70_; have u2 := (show 4 ≤ Int32.toInt 4 ∧ Int32.toInt 4 ≤ 4 from (by decide)); omega)
          have b72_ : 0 ≤ Int32.toInt (M.1 129 (Int32.toNatClampNeg n1)) ∧ Int32.toInt (M.1 129 (Int32.toNatClampNeg n1)) ≤ 9 := pvok_r hok 129 (Int32.toNatClampNeg n1) rfl
          have q73_ : Int32.toInt (2 * (M.1 129 (Int32.toNatClampNeg n1))) = 2 * Int32.toInt (M.1 129 (Int32.toNatClampNeg n1)) := by have u0 : Int32.toInt 2 = 2 := (by decide); have u1 := b72_; have u2 := zmul 2 (M.1 129 (Int32.toNatClampNeg n1)) (by rw [u0]; omega) (by rw [u0]; omega); rw [u0] at u2; omega
          have b74_ : 0 ≤ Int32.toInt (2 * (M.1 129 (Int32.toNatClampNeg n1))) ∧ Int32.toInt (2 * (M.1 129 (Int32.toNatClampNeg n1))) ≤ 18 := (by have u1 := b72_; omega)
          show PW 74 d (28, [some (pvR 124), some (pvI n1), none, none], [pvI (2 * (M.1 129 (Int32.toNatClampNeg n1))), pvI x22_], M) _
          obtain ⟨q76_, b75_⟩ : (Int32.toInt (x22_ + (2 * (M.1 129 (Int32.toNatClampNeg n1)))) = Int32.toInt x22_ + Int32.toInt (2 * (M.1 129 (Int32.toNatClampNeg n1)))) ∧ (0 ≤ Int32.toInt (x22_ + (2 * (M.1 129 (Int32.toNatClampNeg n1)))) ∧ Int32.toInt (x22_ + (2 * (M.1 129 (Int32.toNatClampNeg n1)))) ≤ 319) := zadd_r x22_ (2 * (M.1 129 (Int32.toNatClampNeg n1))) 0 319 b24_ b74_ (by decide) (by decide) (by decide) (by decide)
          have b77_ : 0 ≤ Int32.toInt (M.1 131 (Int32.toNatClampNeg n1)) ∧ Int32.toInt (M.1 131 (Int32.toNatClampNeg n1)) ≤ 1 := pvok_r hok 131 (Int32.toNatClampNeg n1) rfl
          refine pw_blk hT 6 (S' := (36, [some (pvR 124), some (pvI n1), some (pvI (x22_ + (2 * (M.1 129 (Int32.toNatClampNeg n1))))), none], [pvI (M.1 131 (Int32.toNatClampNeg n1))], M)) rfl ⟨trivial, trivial, trivial, rfl, trivial, ⟨rfl, (zr_in (n := 7) b17_ (by decide) (by decide))⟩, trivial⟩ ?_
          refine pw_ifn hT (c := (M.1 131 (Int32.toNatClampNeg n1)) = 0) rfl rfl (fun c78_ => ?_) (fun c78_ => ?_)
          · have b79_ : 1 ≤ Int32.toInt (M.1 131 (Int32.toNatClampNeg n1)) ∧ Int32.toInt (M.1 131 (Int32.toNatClampNeg n1)) ≤ 1 := (by have u0 := b77_; have u1 := (not_congr (zi_eq _ _)).mp c78_; have u2 := (show 0 ≤ Int32.toInt 0 ∧ Int32.toInt 0 ≤ 0 from (by decide)); omega)
            refine pw_blk hT 1 (S' := (53, [some (pvR 124), some (pvI n1), some (pvI (x22_ + (2 * (M.1 129 (Int32.toNatClampNeg n1))))), none], [pvI (-3)], M)) rfl ⟨trivial, trivial⟩ ?_
            exact pw_ret hT rfl (r := some (pvI (-3))) (M' := M) ⟨rfl, rfl⟩ ⟨⟨_, rfl, (zr_wide (show (-3) ≤ Int32.toInt (-3) ∧ Int32.toInt (-3) ≤ (-3) from (by decide)) (by decide) (by decide))⟩, hok, pvfr_0⟩
          · have b80_ : 0 ≤ Int32.toInt (M.1 131 (Int32.toNatClampNeg n1)) ∧ Int32.toInt (M.1 131 (Int32.toNatClampNeg n1)) ≤ 0 := (by have u0 := b77_; have u1 := (zi_eq _ _).mp c78_; have u2 := (show 0 ≤ Int32.toInt 0 ∧ Int32.toInt 0 ≤ 0 from (by decide)); omega)
            have b81_ : 0 ≤ Int32.toInt (M.1 124 1) ∧ Int32.toInt (M.1 124 1) ≤ 9999 := pvok_r hok 124 1 rfl
            obtain ⟨q83_, b82_⟩ : (Int32.toInt ((M.1 124 1) + (x22_ + (2 * (M.1 129 (Int32.toNatClampNeg n1))))) = Int32.toInt (M.1 124 1) + Int32.toInt (x22_ + (2 * (M.1 129 (Int32.toNatClampNeg n1))))) ∧ (0 ≤ Int32.toInt ((M.1 124 1) + (x22_ + (2 * (M.1 129 (Int32.toNatClampNeg n1))))) ∧ Int32.toInt ((M.1 124 1) + (x22_ + (2 * (M.1 129 (Int32.toNatClampNeg n1))))) ≤ 10318) := zadd_r (M.1 124 1) (x22_ + (2 * (M.1 129 (Int32.toNatClampNeg n1)))) 0 10318 b81_ b75_ (by decide) (by decide) (by decide) (by decide)
            refine pw_blk hT 5 (S' := (48, [some (pvR 124), some (pvI n1), some (pvI (x22_ + (2 * (M.1 129 (Int32.toNatClampNeg n1))))), none], [pvI 9999, pvI ((M.1 124 1) + (x22_ + (2 * (M.1 129 (Int32.toNatClampNeg n1)))))], M)) rfl ⟨trivial, rfl, trivial, trivial, trivial, trivial⟩ ?_
            refine pw_ic hT (c := ((M.1 124 1) + (x22_ + (2 * (M.1 129 (Int32.toNatClampNeg n1))))) ≤ 9999) rfl rfl (fun c84_ => ?_) (fun c84_ => ?_)
            · have b85_ : 0 ≤ Int32.toInt ((M.1 124 1) + (x22_ + (2 * (M.1 129 (Int32.toNatClampNeg n1))))) ∧ Int32.toInt ((M.1 124 1) + (x22_ + (2 * (M.1 129 (Int32.toNatClampNeg n1))))) ≤ 9999 := zr_le_l 9999 c84_ b82_ (show 9999 ≤ Int32.toInt 9999 ∧ Int32.toInt 9999 ≤ 9999 from (by decide)) (by decide)
              refine pw_blk hT 2 (S' := (56, [some (pvR 124), some (pvI n1), some (pvI (x22_ + (2 * (M.1 129 (Int32.toNatClampNeg n1))))), none], [pvI (x22_ + (2 * (M.1 129 (Int32.toNatClampNeg n1)))), pvR 124], M)) rfl ⟨trivial, trivial, trivial⟩ ?_
              refine pw_callG hT (as := [pvR 124, pvI (x22_ + (2 * (M.1 129 (Int32.toNatClampNeg n1))))]) (lo1 := [some (pvR 124), some (pvI (x22_ + (2 * (M.1 129 (Int32.toNatClampNeg n1))))), none]) (d1 := d) (rest := []) rfl rfl rfl rfl rfl (fun _ => rfl) (Nat.zero_le _) rfl rfl rfl (sf_X10_goMinutes_124_x M hok (x22_ + (2 * (M.1 129 (Int32.toNatClampNeg n1)))) (zr_wide b75_ (by decide) (by decide)) hz (show Int32.toInt (M.1 124 1) + Int32.toInt (x22_ + (2 * (M.1 129 (Int32.toNatClampNeg n1)))) ≤ 9999 from (by omega)) d) (fun x86_ M87_ b88_ o89_ g90_ => ?_)
              have f91_ : pvFr fp_X10_shut_124_x M M87_ := pvfr_t g90_ pvfr_0 fp_X10_shut_124_x_fp_X10_goMinutes_124_x
              refine pw_blkw hT 6 (pc := 67) (lo := [some (pvR 124), some (pvI n1), some (pvI (x22_ + (2 * (M.1 129 (Int32.toNatClampNeg n1))))), some (pvI x86_)]) (st := []) (M := pvu M87_ 131 (Int32.toNatClampNeg n1) (vp_nar .boolean 1)) rfl ⟨trivial, trivial, rfl, trivial, trivial, ⟨rfl, (zr_in (n := 7) b17_ (by decide) (by decide))⟩, trivial⟩ (fun M92_ e93_ => ?_)
              have o94_ : pvOk M92_ := pvok_u2 e93_ o89_ rfl (zboolr 1)
              have f95_ : pvFr fp_X10_shut_124_x M M92_ := pvfr_u e93_ f91_ rfl
              have b96_ : 0 ≤ Int32.toInt (M92_.1 127 (Int32.toNatClampNeg n1)) ∧ Int32.toInt (M92_.1 127 (Int32.toNatClampNeg n1)) ≤ 3 := pvok_r o94_ 127 (Int32.toNatClampNeg n1) rfl
              refine pw_blkw hT 6 (pc := 77) (lo := [some (pvR 124), some (pvI n1), some (pvI (x22_ + (2 * (M.1 129 (Int32.toNatClampNeg n1))))), some (pvI x86_)]) (st := []) (M := pvu M92_ 124 5 (M92_.1 127 (Int32.toNatClampNeg n1))) rfl ⟨trivial, trivial, rfl, trivial, ⟨rfl, (zr_in (n := 7) b17_ (by decide) (by decide))⟩, rfl, trivial⟩ (fun M97_ e98_ => ?_)
              have o99_ : pvOk M97_ := pvok_u2 e98_ o94_ rfl b96_
              have f100_ : pvFr fp_X10_shut_124_x M M97_ := pvfr_u e98_ f95_ rfl
              have b101_ : 0 ≤ Int32.toInt (M97_.1 128 (Int32.toNatClampNeg n1)) ∧ Int32.toInt (M97_.1 128 (Int32.toNatClampNeg n1)) ≤ 4 := pvok_r o99_ 128 (Int32.toNatClampNeg n1) rfl
              refine pw_blkw hT 6 (pc := 87) (lo := [some (pvR 124), some (pvI n1), some (pvI (x22_ + (2 * (M.1 129 (Int32.toNatClampNeg n1))))), some (pvI x86_)]) (st := []) (M := pvu M97_ 124 6 (M97_.1 128 (Int32.toNatClampNeg n1))) rfl ⟨trivial, trivial, rfl, trivial, ⟨rfl, (zr_in (n := 7) b17_ (by decide) (by decide))⟩, rfl, trivial⟩ (fun M102_ e103_ => ?_)
              have o104_ : pvOk M102_ := pvok_u2 e103_ o99_ rfl b101_
              have f105_ : pvFr fp_X10_shut_124_x M M102_ := pvfr_u e103_ f100_ rfl
              refine pw_blk hT 1 (S' := (88, [some (pvR 124), some (pvI n1), some (pvI (x22_ + (2 * (M.1 129 (Int32.toNatClampNeg n1))))), some (pvI x86_)], [pvI (x22_ + (2 * (M.1 129 (Int32.toNatClampNeg n1))))], M102_)) rfl ⟨trivial, trivial⟩ ?_
              exact pw_ret hT rfl (r := some (pvI (x22_ + (2 * (M.1 129 (Int32.toNatClampNeg n1)))))) (M' := M102_) ⟨rfl, rfl⟩ ⟨⟨_, rfl, (zr_wide b75_ (by decide) (by decide))⟩, o104_, f105_⟩
            · have b106_ : 10000 ≤ Int32.toInt ((M.1 124 1) + (x22_ + (2 * (M.1 129 (Int32.toNatClampNeg n1))))) ∧ Int32.toInt ((M.1 124 1) + (x22_ + (2 * (M.1 129 (Int32.toNatClampNeg n1))))) ≤ 10318 := zr_nle_l 10000 c84_ b82_ (show 9999 ≤ Int32.toInt 9999 ∧ Int32.toInt 9999 ≤ 9999 from (by decide)) (by decide)
              refine pw_blk hT 1 (S' := (53, [some (pvR 124), some (pvI n1), some (pvI (x22_ + (2 * (M.1 129 (Int32.toNatClampNeg n1))))), none], [pvI (-3)], M)) rfl ⟨trivial, trivial⟩ ?_
              exact pw_ret hT rfl (r := some (pvI (-3))) (M' := M) ⟨rfl, rfl⟩ ⟨⟨_, rfl, (zr_wide (show (-3) ≤ Int32.toInt (-3) ∧ Int32.toInt (-3) ≤ (-3) from (by decide)) (by decide) (by decide))⟩, hok, pvfr_0⟩
        · refine pw_eqI (if_neg c70_) ?_
          have b107_ : 0 ≤ Int32.toInt (M.1 129 (Int32.toNatClampNeg n1)) ∧ Int32.toInt (M.1 129 (Int32.toNatClampNeg n1)) ≤ 9 := pvok_r hok 129 (Int32.toNatClampNeg n1) rfl
          show PW 74 d (28, [some (pvR 124), some (pvI n1), none, none], [pvI (M.1 129 (Int32.toNatClampNeg n1)), pvI x22_], M) _
          obtain ⟨q109_, b108_⟩ : (Int32.toInt (x22_ + (M.1 129 (Int32.toNatClampNeg n1))) = Int32.toInt x22_ + Int32.toInt (M.1 129 (Int32.toNatClampNeg n1))) ∧ (0 ≤ Int32.toInt (x22_ + (M.1 129 (Int32.toNatClampNeg n1))) ∧ Int32.toInt (x22_ + (M.1 129 (Int32.toNatClampNeg n1))) ≤ 310) := zadd_r x22_ (M.1 129 (Int32.toNatClampNeg n1)) 0 310 b24_ b107_ (by decide) (by decide) (by decide) (by decide)
          have b110_ : 0 ≤ Int32.toInt (M.1 131 (Int32.toNatClampNeg n1)) ∧ Int32.toInt (M.1 131 (Int32.toNatClampNeg n1)) ≤ 1 := pvok_r hok 131 (Int32.toNatClampNeg n1) rfl
          refine pw_blk hT 6 (S' := (36, [some (pvR 124), some (pvI n1), some (pvI (x22_ + (M.1 129 (Int32.toNatClampNeg n1)))), none], [pvI (M.1 131 (Int32.toNatClampNeg n1))], M)) rfl ⟨trivial, trivial, trivial, rfl, trivial, ⟨rfl, (zr_in (n := 7) b17_ (by decide) (by decide))⟩, trivial⟩ ?_
          refine pw_ifn hT (c := (M.1 131 (Int32.toNatClampNeg n1)) = 0) rfl rfl (fun c111_ => ?_) (fun c111_ => ?_)
          · have b112_ : 1 ≤ Int32.toInt (M.1 131 (Int32.toNatClampNeg n1)) ∧ Int32.toInt (M.1 131 (Int32.toNatClampNeg n1)) ≤ 1 := (by have u0 := b110_; have u1 := (not_congr (zi_eq _ _)).mp c111_; have u2 := (show 0 ≤ Int32.toInt 0 ∧ Int32.toInt 0 ≤ 0 from (by decide)); omega)
            refine pw_blk hT 1 (S' := (53, [some (pvR 124), some (pvI n1), some (pvI (x22_ + (M.1 129 (Int32.toNatClampNeg n1)))), none], [pvI (-3)], M)) rfl ⟨trivial, trivial⟩ ?_
            exact pw_ret hT rfl (r := some (pvI (-3))) (M' := M) ⟨rfl, rfl⟩ ⟨⟨_, rfl, (zr_wide (show (-3) ≤ Int32.toInt (-3) ∧ Int32.toInt (-3) ≤ (-3) from (by decide)) (by decide) (by decide))⟩, hok, pvfr_0⟩
          · have b113_ : 0 ≤ Int32.toInt (M.1 131 (Int32.toNatClampNeg n1)) ∧ Int32.toInt (M.1 131 (Int32.toNatClampNeg n1)) ≤ 0 := (by have u0 := b110_; have u1 := (zi_eq _ _).mp c111_; have u2 := (show 0 ≤ Int32.toInt 0 ∧ Int32.toInt 0 ≤ 0 from (by decide)); omega)
            have b114_ : 0 ≤ Int32.toInt (M.1 124 1) ∧ Int32.toInt (M.1 124 1) ≤ 9999 := pvok_r hok 124 1 rfl
            obtain ⟨q116_, b115_⟩ : (Int32.toInt ((M.1 124 1) + (x22_ + (M.1 129 (Int32.toNatClampNeg n1)))) = Int32.toInt (M.1 124 1) + Int32.toInt (x22_ + (M.1 129 (Int32.toNatClampNeg n1)))) ∧ (0 ≤ Int32.toInt ((M.1 124 1) + (x22_ + (M.1 129 (Int32.toNatClampNeg n1)))) ∧ Int32.toInt ((M.1 124 1) + (x22_ + (M.1 129 (Int32.toNatClampNeg n1)))) ≤ 10309) := zadd_r (M.1 124 1) (x22_ + (M.1 129 (Int32.toNatClampNeg n1))) 0 10309 b114_ b108_ (by decide) (by decide) (by decide) (by decide)
            refine pw_blk hT 5 (S' := (48, [some (pvR 124), some (pvI n1), some (pvI (x22_ + (M.1 129 (Int32.toNatClampNeg n1)))), none], [pvI 9999, pvI ((M.1 124 1) + (x22_ + (M.1 129 (Int32.toNatClampNeg n1))))], M)) rfl ⟨trivial, rfl, trivial, trivial, trivial, trivial⟩ ?_
            refine pw_ic hT (c := ((M.1 124 1) + (x22_ + (M.1 129 (Int32.toNatClampNeg n1)))) ≤ 9999) rfl rfl (fun c117_ => ?_) (fun c117_ => ?_)
            · have b118_ : 0 ≤ Int32.toInt ((M.1 124 1) + (x22_ + (M.1 129 (Int32.toNatClampNeg n1)))) ∧ Int32.toInt ((M.1 124 1) + (x22_ + (M.1 129 (Int32.toNatClampNeg n1)))) ≤ 9999 := zr_le_l 9999 c117_ b115_ (show 9999 ≤ Int32.toInt 9999 ∧ Int32.toInt 9999 ≤ 9999 from (by decide)) (by decide)
              refine pw_blk hT 2 (S' := (56, [some (pvR 124), some (pvI n1), some (pvI (x22_ + (M.1 129 (Int32.toNatClampNeg n1)))), none], [pvI (x22_ + (M.1 129 (Int32.toNatClampNeg n1))), pvR 124], M)) rfl ⟨trivial, trivial, trivial⟩ ?_
              refine pw_callG hT (as := [pvR 124, pvI (x22_ + (M.1 129 (Int32.toNatClampNeg n1)))]) (lo1 := [some (pvR 124), some (pvI (x22_ + (M.1 129 (Int32.toNatClampNeg n1)))), none]) (d1 := d) (rest := []) rfl rfl rfl rfl rfl (fun _ => rfl) (Nat.zero_le _) rfl rfl rfl (sf_X10_goMinutes_124_x M hok (x22_ + (M.1 129 (Int32.toNatClampNeg n1))) (zr_wide b108_ (by decide) (by decide)) hz (show Int32.toInt (M.1 124 1) + Int32.toInt (x22_ + (M.1 129 (Int32.toNatClampNeg n1))) ≤ 9999 from (by omega)) d) (fun x119_ M120_ b121_ o122_ g123_ => ?_)
              have f124_ : pvFr fp_X10_shut_124_x M M120_ := pvfr_t g123_ pvfr_0 fp_X10_shut_124_x_fp_X10_goMinutes_124_x
              refine pw_blkw hT 6 (pc := 67) (lo := [some (pvR 124), some (pvI n1), some (pvI (x22_ + (M.1 129 (Int32.toNatClampNeg n1)))), some (pvI x119_)]) (st := []) (M := pvu M120_ 131 (Int32.toNatClampNeg n1) (vp_nar .boolean 1)) rfl ⟨trivial, trivial, rfl, trivial, trivial, ⟨rfl, (zr_in (n := 7) b17_ (by decide) (by decide))⟩, trivial⟩ (fun M125_ e126_ => ?_)
              have o127_ : pvOk M125_ := pvok_u2 e126_ o122_ rfl (zboolr 1)
              have f128_ : pvFr fp_X10_shut_124_x M M125_ := pvfr_u e126_ f124_ rfl
              have b129_ : 0 ≤ Int32.toInt (M125_.1 127 (Int32.toNatClampNeg n1)) ∧ Int32.toInt (M125_.1 127 (Int32.toNatClampNeg n1)) ≤ 3 := pvok_r o127_ 127 (Int32.toNatClampNeg n1) rfl
              refine pw_blkw hT 6 (pc := 77) (lo := [some (pvR 124), some (pvI n1), some (pvI (x22_ + (M.1 129 (Int32.toNatClampNeg n1)))), some (pvI x119_)]) (st := []) (M := pvu M125_ 124 5 (M125_.1 127 (Int32.toNatClampNeg n1))) rfl ⟨trivial, trivial, rfl, trivial, ⟨rfl, (zr_in (n := 7) b17_ (by decide) (by decide))⟩, rfl, trivial⟩ (fun M130_ e131_ => ?_)
              have o132_ : pvOk M130_ := pvok_u2 e131_ o127_ rfl b129_
              have f133_ : pvFr fp_X10_shut_124_x M M130_ := pvfr_u e131_ f128_ rfl
              have b134_ : 0 ≤ Int32.toInt (M130_.1 128 (Int32.toNatClampNeg n1)) ∧ Int32.toInt (M130_.1 128 (Int32.toNatClampNeg n1)) ≤ 4 := pvok_r o132_ 128 (Int32.toNatClampNeg n1) rfl
              refine pw_blkw hT 6 (pc := 87) (lo := [some (pvR 124), some (pvI n1), some (pvI (x22_ + (M.1 129 (Int32.toNatClampNeg n1)))), some (pvI x119_)]) (st := []) (M := pvu M130_ 124 6 (M130_.1 128 (Int32.toNatClampNeg n1))) rfl ⟨trivial, trivial, rfl, trivial, ⟨rfl, (zr_in (n := 7) b17_ (by decide) (by decide))⟩, rfl, trivial⟩ (fun M135_ e136_ => ?_)
              have o137_ : pvOk M135_ := pvok_u2 e136_ o132_ rfl b134_
              have f138_ : pvFr fp_X10_shut_124_x M M135_ := pvfr_u e136_ f133_ rfl
              refine pw_blk hT 1 (S' := (88, [some (pvR 124), some (pvI n1), some (pvI (x22_ + (M.1 129 (Int32.toNatClampNeg n1)))), some (pvI x119_)], [pvI (x22_ + (M.1 129 (Int32.toNatClampNeg n1)))], M135_)) rfl ⟨trivial, trivial⟩ ?_
              exact pw_ret hT rfl (r := some (pvI (x22_ + (M.1 129 (Int32.toNatClampNeg n1))))) (M' := M135_) ⟨rfl, rfl⟩ ⟨⟨_, rfl, (zr_wide b108_ (by decide) (by decide))⟩, o137_, f138_⟩
            · have b139_ : 10000 ≤ Int32.toInt ((M.1 124 1) + (x22_ + (M.1 129 (Int32.toNatClampNeg n1)))) ∧ Int32.toInt ((M.1 124 1) + (x22_ + (M.1 129 (Int32.toNatClampNeg n1)))) ≤ 10309 := zr_nle_l 10000 c117_ b115_ (show 9999 ≤ Int32.toInt 9999 ∧ Int32.toInt 9999 ≤ 9999 from (by decide)) (by decide)
              refine pw_blk hT 1 (S' := (53, [some (pvR 124), some (pvI n1), some (pvI (x22_ + (M.1 129 (Int32.toNatClampNeg n1)))), none], [pvI (-3)], M)) rfl ⟨trivial, trivial⟩ ?_
              exact pw_ret hT rfl (r := some (pvI (-3))) (M' := M) ⟨rfl, rfl⟩ ⟨⟨_, rfl, (zr_wide (show (-3) ≤ Int32.toInt (-3) ∧ Int32.toInt (-3) ≤ (-3) from (by decide)) (by decide) (by decide))⟩, hok, pvfr_0⟩
