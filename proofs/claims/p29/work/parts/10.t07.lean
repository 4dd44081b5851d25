set_option maxHeartbeats 4000000 in
set_option maxRecDepth 10000 in
theorem sf_X9_wetMore_0_x (M : pvM) (hok : pvOk M) (n1 : Int32) (hn1 : 0 ≤ Int32.toInt n1 ∧ Int32.toInt n1 ≤ 9999) (d : Nat) : PW 209 d (0, [some (pvR 0), some (pvI n1), none], [], M) (fun r X => (∃ x : Int32, r = some (pvI x) ∧ True) ∧ X = M) := by
  have hT : pvdom 209 = pvD_209 := rfl
  have b1_ : 0 ≤ Int32.toInt (M.1 8 4) ∧ Int32.toInt (M.1 8 4) ≤ 9999 := pvok_r hok 8 4 rfl
  obtain ⟨q3_, b2_⟩ : (Int32.toInt ((M.1 8 4) + n1) = Int32.toInt (M.1 8 4) + Int32.toInt n1) ∧ (0 ≤ Int32.toInt ((M.1 8 4) + n1) ∧ Int32.toInt ((M.1 8 4) + n1) ≤ 19998) := zadd_r (M.1 8 4) n1 0 19998 b1_ hn1 (by decide) (by decide) (by decide) (by decide)
  refine pw_blk hT 10 (S' := (20, [some (pvR 0), some (pvI n1), none], [pvI ((M.1 8 4) + n1), pvI (M.1 8 4), pvR 5], M)) rfl ⟨trivial, rfl, trivial, rfl, rfl, trivial, rfl, rfl, trivial, trivial, trivial⟩ ?_
  refine pw_callGp hT (as := [pvR 5, pvI (M.1 8 4), pvI ((M.1 8 4) + n1)]) (lo1 := [some (pvR 5), some (pvI (M.1 8 4)), some (pvI ((M.1 8 4) + n1)), none, none]) (d1 := d) (rest := []) rfl rfl rfl rfl rfl (fun _ => rfl) (Nat.zero_le _) rfl rfl rfl (sf_X1_harmOfAll_5_x_x M hok (M.1 8 4) ((M.1 8 4) + n1) (zr_wide b1_ (by decide) (by decide)) (zr_wide b2_ (by decide) (by decide)) d) (fun x4_ b6_ => ?_)
  have q9_ : Int32.toInt (if (999999 - (M.1 8 5)) < x4_ then (999999 - (M.1 8 5)) else x4_) = min (Int32.toInt x4_) (Int32.toInt (999999 - (M.1 8 5))) := pvmin x4_ (999999 - (M.1 8 5))
  have b10_ : (-2147483648) ≤ Int32.toInt (if (999999 - (M.1 8 5)) < x4_ then (999999 - (M.1 8 5)) else x4_) ∧ Int32.toInt (if (999999 - (M.1 8 5)) < x4_ then (999999 - (M.1 8 5)) else x4_) ≤ 2147483647 := (by have u0 := (zbnd x4_); have u1 := (zbnd (999999 - (M.1 8 5))); omega)
  refine pw_blk hT 8 (S' := (39, [some (pvR 0), some (pvI n1), some (pvI x4_)], [pvI (if (999999 - (M.1 8 5)) < x4_ then (999999 - (M.1 8 5)) else x4_)], M)) rfl ⟨trivial, trivial, trivial, trivial, rfl, rfl, trivial, (Nat.le_of_ble_eq_true rfl), trivial⟩ ?_
  exact pw_ret hT rfl (r := some (pvI (if (999999 - (M.1 8 5)) < x4_ then (999999 - (M.1 8 5)) else x4_))) (M' := M) ⟨rfl, rfl⟩ ⟨⟨_, rfl, trivial⟩, rfl⟩
def fpL_X9_on_0_x : List (Nat × Nat × Nat) := [(0, 12, 0), (0, 13, 0), (0, 14, 0), (0, 5, 2), (0, 5, 3), (1, 112, 0)]
def fp_X9_on_0_x (q k : Nat) : Bool := pvfp fpL_X9_on_0_x q k
theorem fp_X9_on_0_x_fp_X1_beginFromNow_5 (a b : Nat) (h : fp_X1_beginFromNow_5 a b = true) : fp_X9_on_0_x a b = true := pvfp_sub (l1 := fpL_X1_beginFromNow_5) (l2 := fpL_X9_on_0_x) (by decide) a b h
set_option maxHeartbeats 4000000 in
set_option maxRecDepth 10000 in
theorem sf_X9_on_0_x (M : pvM) (hok : pvOk M) (n1 : Int32) (d : Nat) : PW 190 d (0, [some (pvR 0), some (pvI n1)], [], M) (fun r X => (∃ x : Int32, r = some (pvI x) ∧ True) ∧ pvOk X ∧ pvFr fp_X9_on_0_x M X) := by
  have hT : pvdom 190 = pvD_190 := rfl
  refine pw_blk hT 3 (S' := (4, [some (pvR 0), some (pvI n1)], [pvI 99, pvI 0, pvI n1], M)) rfl ⟨trivial, trivial, trivial, trivial⟩ ?_
  refine pw_callT hT (as := [pvI n1, pvI 0, pvI 99]) (lo1 := [some (pvI n1), some (pvI 0), some (pvI 99)]) (d1 := d) (rest := []) rfl rfl rfl rfl rfl (fun h => absurd h (by decide)) (Nat.zero_le _) rfl rfl rfl (sf_X9_within_x_x_x M hok n1 0 99 d) ?_
  by_cases c6_ : n1 < 0
  · refine pw_eqI (if_pos c6_) ?_
    have b7_ : (-2147483648) ≤ Int32.toInt n1 ∧ Int32.toInt n1 ≤ (-1) := zr_lt_l (-1) c6_ (zbnd n1) (show 0 ≤ Int32.toInt 0 ∧ Int32.toInt 0 ≤ 0 from (by decide)) (by decide)
    show PW 190 d (7, [some (pvR 0), some (pvI n1)], [pvI 0], M) _
    refine pw_ifn hT (c := 0 = 0) rfl rfl (fun c8_ => absurd (by decide) c8_) (fun c8_ => ?_)
    refine pw_blk hT 1 (S' := (12, [some (pvR 0), some (pvI n1)], [pvI (-2)], M)) rfl ⟨trivial, trivial⟩ ?_
    exact pw_ret hT rfl (r := some (pvI (-2))) (M' := M) ⟨rfl, rfl⟩ ⟨⟨_, rfl, trivial⟩, hok, pvfr_0⟩
  · refine pw_eqI (if_neg c6_) ?_
    have b9_ : 0 ≤ Int32.toInt n1 ∧ Int32.toInt n1 ≤ 2147483647 := zr_nlt_l 0 c6_ (zbnd n1) (show 0 ≤ Int32.toInt 0 ∧ Int32.toInt 0 ≤ 0 from (by decide)) (by decide)
    by_cases c10_ : 99 < n1
    · refine pw_eqI (if_pos c10_) ?_
      have b11_ : 100 ≤ Int32.toInt n1 ∧ Int32.toInt n1 ≤ 2147483647 := zr_lt_r 100 c10_ b9_ (show 99 ≤ Int32.toInt 99 ∧ Int32.toInt 99 ≤ 99 from (by decide)) (by decide)
      show PW 190 d (7, [some (pvR 0), some (pvI n1)], [pvI 0], M) _
      refine pw_ifn hT (c := 0 = 0) rfl rfl (fun c12_ => absurd (by decide) c12_) (fun c12_ => ?_)
      refine pw_blk hT 1 (S' := (12, [some (pvR 0), some (pvI n1)], [pvI (-2)], M)) rfl ⟨trivial, trivial⟩ ?_
      exact pw_ret hT rfl (r := some (pvI (-2))) (M' := M) ⟨rfl, rfl⟩ ⟨⟨_, rfl, trivial⟩, hok, pvfr_0⟩
    · refine pw_eqI (if_neg c10_) ?_
      have b13_ : 0 ≤ Int32.toInt n1 ∧ Int32.toInt n1 ≤ 99 := zr_nlt_r 99 c10_ b9_ (show 99 ≤ Int32.toInt 99 ∧ Int32.toInt 99 ≤ 99 from (by decide)) (by decide)
      show PW 190 d (7, [some (pvR 0), some (pvI n1)], [pvI 1], M) _
      refine pw_ifn hT (c := 1 = 0) rfl rfl (fun c14_ => ?_) (fun c14_ => absurd c14_ (by decide))
      refine pw_blk hT 2 (S' := (17, [some (pvR 0), some (pvI n1)], [pvR 5], M)) rfl ⟨trivial, rfl, trivial⟩ ?_
      refine pw_callV hT (as := [pvR 5]) (lo1 := [some (pvR 5)]) (d1 := d) (rest := []) rfl rfl rfl rfl rfl (fun _ => rfl) (Nat.zero_le _) rfl rfl rfl (sf_X1_beginFromNow_5 M hok d) (fun M16_ o18_ g19_ => ?_)
      have f20_ : pvFr fp_X9_on_0_x M M16_ := pvfr_t g19_ pvfr_0 fp_X9_on_0_x_fp_X1_beginFromNow_5
      refine pw_blk hT 2 (S' := (22, [some (pvR 0), some (pvI n1)], [pvI n1, pvR 0], M16_)) rfl ⟨trivial, trivial, trivial⟩ ?_
      refine pw_callGp hT (as := [pvR 0, pvI n1]) (lo1 := [some (pvR 0), some (pvI n1), none]) (d1 := d) (rest := []) rfl rfl rfl rfl rfl (fun _ => rfl) (Nat.zero_le _) rfl rfl rfl (sf_X9_wetMore_0_x M16_ o18_ n1 (zr_wide b13_ (by decide) (by decide)) d) (fun x21_ b23_ => ?_)
      exact pw_ret hT rfl (r := some (pvI x21_)) (M' := M16_) ⟨rfl, rfl⟩ ⟨⟨_, rfl, trivial⟩, o18_, f20_⟩
set_option maxHeartbeats 4000000 in
set_option maxRecDepth 10000 in
theorem sf_X9_read_0_x_x (M : pvM) (hok : pvOk M) (n1 : Int32) (n2 : Int32) (d : Nat) : PW 194 d (0, [some (pvR 0), some (pvI n1), some (pvI n2)], [], M) (fun r X => (∃ x : Int64, r = some (pvJ x)) ∧ X = M) := by
  have hT : pvdom 194 = pvD_194 := rfl
  refine pw_blk hT 1 (S' := (1, [some (pvR 0), some (pvI n1), some (pvI n2)], [pvI n1], M)) rfl ⟨trivial, trivial⟩ ?_
  refine pw_callT hT (as := [pvI n1]) (lo1 := [some (pvI n1)]) (d1 := d) (rest := []) rfl rfl rfl rfl rfl (fun h => absurd h (by decide)) (Nat.zero_le _) rfl rfl rfl (sf_X9_isTape_x M hok n1 d) ?_
  by_cases c6_ : n1 < 0
  · refine pw_eqI (if_pos c6_) ?_
    have b7_ : (-2147483648) ≤ Int32.toInt n1 ∧ Int32.toInt n1 ≤ (-1) := zr_lt_l (-1) c6_ (zbnd n1) (show 0 ≤ Int32.toInt 0 ∧ Int32.toInt 0 ≤ 0 from (by decide)) (by decide)
    show PW 194 d (4, [some (pvR 0), some (pvI n1), some (pvI n2)], [pvI 0], M) _
    refine pw_if hT (c := 0 = 0) rfl rfl (fun c8_ => ?_) (fun c8_ => absurd (by decide) c8_)
    refine pw_blk hT 1 (S' := (23, [some (pvR 0), some (pvI n1), some (pvI n2)], [pvJ (-9223372036854775808)], M)) rfl ⟨trivial, trivial⟩ ?_
    exact pw_ret hT rfl (r := some (pvJ (-9223372036854775808))) (M' := M) ⟨rfl, rfl⟩ ⟨⟨_, rfl⟩, rfl⟩
  · refine pw_eqI (if_neg c6_) ?_
    have b9_ : 0 ≤ Int32.toInt n1 ∧ Int32.toInt n1 ≤ 2147483647 := zr_nlt_l 0 c6_ (zbnd n1) (show 0 ≤ Int32.toInt 0 ∧ Int32.toInt 0 ≤ 0 from (by decide)) (by decide)
    by_cases c10_ : 5 < n1
    · refine pw_eqI (if_pos c10_) ?_
      have b11_ : 6 ≤ Int32.toInt n1 ∧ Int32.toInt n1 ≤ 2147483647 := zr_lt_r 6 c10_ b9_ (show 5 ≤ Int32.toInt 5 ∧ Int32.toInt 5 ≤ 5 from (by decide)) (by decide)
      show PW 194 d (4, [some (pvR 0), some (pvI n1), some (pvI n2)], [pvI 0], M) _
      refine pw_if hT (c := 0 = 0) rfl rfl (fun c12_ => ?_) (fun c12_ => absurd (by decide) c12_)
      refine pw_blk hT 1 (S' := (23, [some (pvR 0), some (pvI n1), some (pvI n2)], [pvJ (-9223372036854775808)], M)) rfl ⟨trivial, trivial⟩ ?_
      exact pw_ret hT rfl (r := some (pvJ (-9223372036854775808))) (M' := M) ⟨rfl, rfl⟩ ⟨⟨_, rfl⟩, rfl⟩
    · refine pw_eqI (if_neg c10_) ?_
      have b13_ : 0 ≤ Int32.toInt n1 ∧ Int32.toInt n1 ≤ 5 := zr_nlt_r 5 c10_ b9_ (show 5 ≤ Int32.toInt 5 ∧ Int32.toInt 5 ≤ 5 from (by decide)) (by decide)
      show PW 194 d (4, [some (pvR 0), some (pvI n1), some (pvI n2)], [pvI 1], M) _
      refine pw_if hT (c := 1 = 0) rfl rfl (fun c14_ => absurd c14_ (by decide)) (fun c14_ => ?_)
      refine pw_blkr hT 4 (pc := 13) (lo := [some (pvR 0), some (pvI n1), some (pvI n2)]) (st := []) (M := M) (z := (pvbs 2 + Int32.toNatClampNeg n1)) rfl ⟨trivial, rfl, trivial, ⟨rfl, (zr_in (n := 6) b13_ (by decide) (by decide))⟩, trivial⟩ (fun q15_ e17_ => ?_)
      have k16_ : pvkl q15_ = 7 := pvel_2 (zr_in (n := 6) b13_ (by decide) (by decide)) e17_
      refine pw_blk hT 1 (S' := (14, [some (pvR 0), some (pvI n1), some (pvI n2)], [pvI n2, pvR q15_], M)) rfl ⟨trivial, trivial⟩ ?_
      refine pw_callT hT (as := [pvR q15_, pvI n2]) (lo1 := [some (pvR q15_), some (pvI n2)]) (d1 := d) (rest := []) rfl rfl rfl rfl rfl (fun _ => k16_) (Nat.zero_le _) rfl rfl rfl (sf_X8_hasPlace_x_x M hok q15_ n2 k16_ d) ?_
      by_cases c23_ : n2 < 0
      · refine pw_eqI (if_pos c23_) ?_
        have b24_ : (-2147483648) ≤ Int32.toInt n2 ∧ Int32.toInt n2 ≤ (-1) := zr_lt_l (-1) c23_ (zbnd n2) (show 0 ≤ Int32.toInt 0 ∧ Int32.toInt 0 ≤ 0 from (by decide)) (by decide)
        show PW 194 d (17, [some (pvR 0), some (pvI n1), some (pvI n2)], [pvI 0], M) _
        refine pw_ifn hT (c := 0 = 0) rfl rfl (fun c25_ => absurd (by decide) c25_) (fun c25_ => ?_)
        refine pw_blk hT 1 (S' := (23, [some (pvR 0), some (pvI n1), some (pvI n2)], [pvJ (-9223372036854775808)], M)) rfl ⟨trivial, trivial⟩ ?_
        exact pw_ret hT rfl (r := some (pvJ (-9223372036854775808))) (M' := M) ⟨rfl, rfl⟩ ⟨⟨_, rfl⟩, rfl⟩
      · refine pw_eqI (if_neg c23_) ?_
        have b26_ : 0 ≤ Int32.toInt n2 ∧ Int32.toInt n2 ≤ 2147483647 := zr_nlt_l 0 c23_ (zbnd n2) (show 0 ≤ Int32.toInt 0 ∧ Int32.toInt 0 ≤ 0 from (by decide)) (by decide)
        have b27_ : 0 ≤ Int32.toInt (M.1 q15_ 1) ∧ Int32.toInt (M.1 q15_ 1) ≤ 60 := pvok_r hok q15_ 1 ((pvrg_o 1 k16_ (by decide) (by decide)).trans rfl)
        by_cases c28_ : (M.1 q15_ 1) ≤ n2
        · refine pw_eqI (if_pos c28_) ?_
          have d29_ : Int32.toInt (M.1 q15_ 1) ≤ Int32.toInt n2 := (zi_le _ _).mp c28_
          show PW 194 d (17, [some (pvR 0), some (pvI n1), some (pvI n2)], [pvI 0], M) _
          refine pw_ifn hT (c := 0 = 0) rfl rfl (fun c30_ => absurd (by decide) c30_) (fun c30_ => ?_)
          refine pw_blk hT 1 (S' := (23, [some (pvR 0), some (pvI n1), some (pvI n2)], [pvJ (-9223372036854775808)], M)) rfl ⟨trivial, trivial⟩ ?_
          exact pw_ret hT rfl (r := some (pvJ (-9223372036854775808))) (M' := M) ⟨rfl, rfl⟩ ⟨⟨_, rfl⟩, rfl⟩
        · refine pw_eqI (if_neg c28_) ?_
          have b31_ : 1 ≤ Int32.toInt (M.1 q15_ 1) ∧ Int32.toInt (M.1 q15_ 1) ≤ 60 := zr_nle_l 1 c28_ b27_ b26_ (by decide)
          have b32_ : 0 ≤ Int32.toInt n2 ∧ Int32.toInt n2 ≤ 59 := zr_nle_r 59 c28_ b26_ b31_ (by decide)
          have d33_ : Int32.toInt (M.1 q15_ 1) > Int32.toInt n2 := Int.not_le.mp ((not_congr (zi_le _ _)).mp c28_)
          show PW 194 d (17, [some (pvR 0), some (pvI n1), some (pvI n2)], [pvI 1], M) _
          refine pw_ifn hT (c := 1 = 0) rfl rfl (fun c34_ => ?_) (fun c34_ => absurd c34_ (by decide))
          refine pw_blkr hT 4 (pc := 30) (lo := [some (pvR 0), some (pvI n1), some (pvI n2)]) (st := []) (M := M) (z := (pvbs 2 + Int32.toNatClampNeg n1)) rfl ⟨trivial, rfl, trivial, ⟨rfl, (zr_in (n := 6) b13_ (by decide) (by decide))⟩, trivial⟩ (fun q35_ e37_ => ?_)
          have k36_ : pvkl q35_ = 7 := pvel_2 (zr_in (n := 6) b13_ (by decide) (by decide)) e37_
          refine pw_blk hT 3 (S' := (35, [some (pvR 0), some (pvI n1), some (pvI n2)], [pvJ (M.2 (q35_ + 6) (Int32.toNatClampNeg n2))], M)) rfl ⟨k36_, trivial, ⟨(pvow_7_6 k36_).1, (by rw [(pvow_7_6 k36_).2.1]; exact (zr_in (n := 60) b32_ (by decide) (by decide)))⟩, trivial⟩ ?_
          exact pw_ret hT rfl (r := some (pvJ (M.2 (q35_ + 6) (Int32.toNatClampNeg n2)))) (M' := M) ⟨rfl, rfl⟩ ⟨⟨_, rfl⟩, rfl⟩
set_option maxHeartbeats 4000000 in
set_option maxRecDepth 10000 in
theorem sf_X1_shutInTime_5 (M : pvM) (hok : pvOk M) (d : Nat) : PW 118 d (0, [some (pvR 5), none, none], [], M) (fun r X => (∃ x : Int32, r = some (pvI x) ∧ True) ∧ X = M) := by
  have hT : pvdom 118 = pvD_118 := rfl
  refine pw_blk hT 4 (S' := (4, [some (pvR 5), some (pvI 0), some (pvI 0)], [], M)) rfl ⟨trivial, trivial, trivial, trivial, trivial⟩ ?_
  have hlz60_ : ∀ (nz60_ : Nat) (i1z60_ : Int32) (i2z60_ : Int32), (0 ≤ Int32.toInt i2z60_ ∧ Int32.toInt i2z60_ ≤ 7) → (zhide ((8 - Int32.toInt i2z60_).toNat < nz60_)) → PW 118 d (4, [some (pvR 5), some (pvI i1z60_), some (pvI i2z60_)], [], M) (fun r X => (∃ x : Int32, r = some (pvI x) ∧ True) ∧ X = M) := by
    intro nz60_
    induction nz60_ with
    | zero => intro i1z60_ i2z60_ h2z60_ hmz60_; exact absurd (zshow hmz60_) (Nat.not_lt_zero _)
    | succ nz60_ ihz60_ =>
      intro i1z60_ i2z60_ h2z60_ hmz60_
      have b61_ : 0 ≤ Int32.toInt (M.1 100 0) ∧ Int32.toInt (M.1 100 0) ≤ 7 := pvok_r hok 100 0 rfl
      refine pw_blk hT 5 (S' := (15, [some (pvR 5), some (pvI i1z60_), some (pvI i2z60_)], [pvI (M.1 100 0), pvI i2z60_], M)) rfl ⟨trivial, trivial, rfl, rfl, rfl, trivial⟩ ?_
      refine pw_ic hT (c := (M.1 100 0) ≤ i2z60_) rfl rfl (fun c62_ => ?_) (fun c62_ => ?_)
      · have d63_ : Int32.toInt (M.1 100 0) ≤ Int32.toInt i2z60_ := (zi_le _ _).mp c62_
        refine pw_blk hT 1 (S' := (52, [some (pvR 5), some (pvI i1z60_), some (pvI i2z60_)], [pvI i1z60_], M)) rfl ⟨trivial, trivial⟩ ?_
        exact pw_ret hT rfl (r := some (pvI i1z60_)) (M' := M) ⟨rfl, rfl⟩ ⟨⟨_, rfl, trivial⟩, rfl⟩
      · have b64_ : 1 ≤ Int32.toInt (M.1 100 0) ∧ Int32.toInt (M.1 100 0) ≤ 7 := zr_nle_l 1 c62_ b61_ h2z60_ (by decide)
        have b65_ : 0 ≤ Int32.toInt i2z60_ ∧ Int32.toInt i2z60_ ≤ 6 := zr_nle_r 6 c62_ h2z60_ b64_ (by decide)
        have d66_ : Int32.toInt (M.1 100 0) > Int32.toInt i2z60_ := Int.not_le.mp ((not_congr (zi_le _ _)).mp c62_)
        have b67_ : 0 ≤ Int32.toInt (M.1 108 (Int32.toNatClampNeg i2z60_)) ∧ Int32.toInt (M.1 108 (Int32.toNatClampNeg i2z60_)) ≤ 6 := pvok_r hok 108 (Int32.toNatClampNeg i2z60_) rfl
        have b68_ : 0 ≤ Int32.toInt (M.1 12 (Int32.toNatClampNeg (M.1 108 (Int32.toNatClampNeg i2z60_)))) ∧ Int32.toInt (M.1 12 (Int32.toNatClampNeg (M.1 108 (Int32.toNatClampNeg i2z60_)))) ≤ 1000000 := pvok_r hok 12 (Int32.toNatClampNeg (M.1 108 (Int32.toNatClampNeg i2z60_))) rfl
        have b69_ : 0 ≤ Int32.toInt (M.1 5 2) ∧ Int32.toInt (M.1 5 2) ≤ 108 := pvok_r hok 5 2 rfl
        refine pw_blk hT 11 (S' := (39, [some (pvR 5), some (pvI i1z60_), some (pvI i2z60_)], [pvI (M.1 5 2), pvI (M.1 12 (Int32.toNatClampNeg (M.1 108 (Int32.toNatClampNeg i2z60_))))], M)) rfl ⟨trivial, rfl, trivial, rfl, rfl, rfl, trivial, ⟨rfl, (zr_in (n := 7) b65_ (by decide) (by decide))⟩, ⟨rfl, (zr_in (n := 7) b67_ (by decide) (by decide))⟩, trivial, rfl, trivial⟩ ?_
        refine pw_ic hT (c := (M.1 5 2) < (M.1 12 (Int32.toNatClampNeg (M.1 108 (Int32.toNatClampNeg i2z60_))))) rfl rfl (fun c70_ => ?_) (fun c70_ => ?_)
        · have b71_ : 1 ≤ Int32.toInt (M.1 12 (Int32.toNatClampNeg (M.1 108 (Int32.toNatClampNeg i2z60_)))) ∧ Int32.toInt (M.1 12 (Int32.toNatClampNeg (M.1 108 (Int32.toNatClampNeg i2z60_)))) ≤ 1000000 := zr_lt_r 1 c70_ b68_ b69_ (by decide)
          have d72_ : Int32.toInt (M.1 5 2) < Int32.toInt (M.1 12 (Int32.toNatClampNeg (M.1 108 (Int32.toNatClampNeg i2z60_)))) := (zi_lt _ _).mp c70_
          obtain ⟨q74_, b73_⟩ : (Int32.toInt (i2z60_ + 1) = Int32.toInt i2z60_ + 1) ∧ (1 ≤ Int32.toInt (i2z60_ + 1) ∧ Int32.toInt (i2z60_ + 1) ≤ 7) := zadd_k i2z60_ 1 1 1 7 b65_ (by decide) (by decide) (by decide) (by decide) (by decide)
          refine pw_blk hT 2 (S' := (4, [some (pvR 5), some (pvI i1z60_), some (pvI (i2z60_ + 1))], [], M)) rfl ⟨trivial, trivial, trivial⟩ ?_
          exact ihz60_ i1z60_ (i2z60_ + 1) (zr_wide b73_ (by decide) (by decide)) (zhid (pvms_up (zshow hmz60_) h2z60_ q74_ (by decide) (by decide)))
        · have b75_ : 0 ≤ Int32.toInt (M.1 12 (Int32.toNatClampNeg (M.1 108 (Int32.toNatClampNeg i2z60_)))) ∧ Int32.toInt (M.1 12 (Int32.toNatClampNeg (M.1 108 (Int32.toNatClampNeg i2z60_)))) ≤ 108 := zr_nlt_r 108 c70_ b68_ b69_ (by decide)
          have d76_ : Int32.toInt (M.1 5 2) ≥ Int32.toInt (M.1 12 (Int32.toNatClampNeg (M.1 108 (Int32.toNatClampNeg i2z60_)))) := Int.not_lt.mp ((not_congr (zi_lt _ _)).mp c70_)
          obtain ⟨q78_, b77_⟩ : (Int32.toInt (i2z60_ + 1) = Int32.toInt i2z60_ + 1) ∧ (1 ≤ Int32.toInt (i2z60_ + 1) ∧ Int32.toInt (i2z60_ + 1) ≤ 7) := zadd_k i2z60_ 1 1 1 7 b65_ (by decide) (by decide) (by decide) (by decide) (by decide)
          refine pw_blk hT 3 (S' := (4, [some (pvR 5), some (pvI (i1z60_ + 1)), some (pvI (i2z60_ + 1))], [], M)) rfl ⟨trivial, trivial, trivial, trivial⟩ ?_
          exact ihz60_ (i1z60_ + 1) (i2z60_ + 1) (zr_wide b77_ (by decide) (by decide)) (zhid (pvms_up (zshow hmz60_) h2z60_ q78_ (by decide) (by decide)))
  exact hlz60_ _ 0 0 (zr_wide (show 0 ≤ Int32.toInt 0 ∧ Int32.toInt 0 ≤ 0 from (by decide)) (by decide) (by decide)) (zhid (Nat.lt_succ_self _))
def fpL_X9_round_0_x : List (Nat × Nat × Nat) := [(0, 12, 0), (0, 13, 0), (0, 14, 0), (0, 5, 2), (0, 5, 3), (1, 112, 0)]
def fp_X9_round_0_x (q k : Nat) : Bool := pvfp fpL_X9_round_0_x q k
theorem fp_X9_round_0_x_fp_X1_beginFromNow_5 (a b : Nat) (h : fp_X1_beginFromNow_5 a b = true) : fp_X9_round_0_x a b = true := pvfp_sub (l1 := fpL_X1_beginFromNow_5) (l2 := fpL_X9_round_0_x) (by decide) a b h
theorem fp_X9_round_0_x_fp_X1_goRound_5_x (a b : Nat) (h : fp_X1_goRound_5_x a b = true) : fp_X9_round_0_x a b = true := pvfp_sub (l1 := fpL_X1_goRound_5_x) (l2 := fpL_X9_round_0_x) (by decide) a b h
set_option maxHeartbeats 4000000 in
set_option maxRecDepth 10000 in
theorem sf_X9_round_0_x (M : pvM) (hok : pvOk M) (n1 : Int32) (d : Nat) : PW 195 d (0, [some (pvR 0), some (pvI n1), none], [], M) (fun r X => (∃ x : Int32, r = some (pvI x) ∧ True) ∧ pvOk X ∧ pvFr fp_X9_round_0_x M X) := by
  have hT : pvdom 195 = pvD_195 := rfl
  refine pw_blk hT 3 (S' := (3, [some (pvR 0), some (pvI n1), none], [pvI 2, pvI 0, pvI n1], M)) rfl ⟨trivial, trivial, trivial, trivial⟩ ?_
  refine pw_callT hT (as := [pvI n1, pvI 0, pvI 2]) (lo1 := [some (pvI n1), some (pvI 0), some (pvI 2)]) (d1 := d) (rest := []) rfl rfl rfl rfl rfl (fun h => absurd h (by decide)) (Nat.zero_le _) rfl rfl rfl (sf_X9_within_x_x_x M hok n1 0 2 d) ?_
  by_cases c6_ : n1 < 0
  · refine pw_eqI (if_pos c6_) ?_
    have b7_ : (-2147483648) ≤ Int32.toInt n1 ∧ Int32.toInt n1 ≤ (-1) := zr_lt_l (-1) c6_ (zbnd n1) (show 0 ≤ Int32.toInt 0 ∧ Int32.toInt 0 ≤ 0 from (by decide)) (by decide)
    show PW 195 d (6, [some (pvR 0), some (pvI n1), none], [pvI 0], M) _
    refine pw_ifn hT (c := 0 = 0) rfl rfl (fun c8_ => absurd (by decide) c8_) (fun c8_ => ?_)
    refine pw_blk hT 1 (S' := (10, [some (pvR 0), some (pvI n1), none], [pvI (-1)], M)) rfl ⟨trivial, trivial⟩ ?_
    exact pw_ret hT rfl (r := some (pvI (-1))) (M' := M) ⟨rfl, rfl⟩ ⟨⟨_, rfl, trivial⟩, hok, pvfr_0⟩
  · refine pw_eqI (if_neg c6_) ?_
    have b9_ : 0 ≤ Int32.toInt n1 ∧ Int32.toInt n1 ≤ 2147483647 := zr_nlt_l 0 c6_ (zbnd n1) (show 0 ≤ Int32.toInt 0 ∧ Int32.toInt 0 ≤ 0 from (by decide)) (by decide)
    by_cases c10_ : 2 < n1
    · refine pw_eqI (if_pos c10_) ?_
      have b11_ : 3 ≤ Int32.toInt n1 ∧ Int32.toInt n1 ≤ 2147483647 := zr_lt_r 3 c10_ b9_ (show 2 ≤ Int32.toInt 2 ∧ Int32.toInt 2 ≤ 2 from (by decide)) (by decide)
      show PW 195 d (6, [some (pvR 0), some (pvI n1), none], [pvI 0], M) _
      refine pw_ifn hT (c := 0 = 0) rfl rfl (fun c12_ => absurd (by decide) c12_) (fun c12_ => ?_)
      refine pw_blk hT 1 (S' := (10, [some (pvR 0), some (pvI n1), none], [pvI (-1)], M)) rfl ⟨trivial, trivial⟩ ?_
      exact pw_ret hT rfl (r := some (pvI (-1))) (M' := M) ⟨rfl, rfl⟩ ⟨⟨_, rfl, trivial⟩, hok, pvfr_0⟩
    · refine pw_eqI (if_neg c10_) ?_
      have b13_ : 0 ≤ Int32.toInt n1 ∧ Int32.toInt n1 ≤ 2 := zr_nlt_r 2 c10_ b9_ (show 2 ≤ Int32.toInt 2 ∧ Int32.toInt 2 ≤ 2 from (by decide)) (by decide)
      show PW 195 d (6, [some (pvR 0), some (pvI n1), none], [pvI 1], M) _
      refine pw_ifn hT (c := 1 = 0) rfl rfl (fun c14_ => ?_) (fun c14_ => absurd c14_ (by decide))
      refine pw_blk hT 2 (S' := (15, [some (pvR 0), some (pvI n1), none], [pvR 5], M)) rfl ⟨trivial, rfl, trivial⟩ ?_
      refine pw_callV hT (as := [pvR 5]) (lo1 := [some (pvR 5)]) (d1 := d) (rest := []) rfl rfl rfl rfl rfl (fun _ => rfl) (Nat.zero_le _) rfl rfl rfl (sf_X1_beginFromNow_5 M hok d) (fun M16_ o18_ g19_ => ?_)
      have f20_ : pvFr fp_X9_round_0_x M M16_ := pvfr_t g19_ pvfr_0 fp_X9_round_0_x_fp_X1_beginFromNow_5
      refine pw_blk hT 3 (S' := (23, [some (pvR 0), some (pvI n1), none], [pvI 0, pvR 5], M16_)) rfl ⟨trivial, rfl, trivial, trivial⟩ ?_
      refine pw_callG hT (as := [pvR 5, pvI 0]) (lo1 := [some (pvR 5), some (pvI 0)]) (d1 := d) (rest := []) rfl rfl rfl rfl rfl (fun _ => rfl) (Nat.zero_le _) rfl rfl rfl (sf_X1_goRound_5_x M16_ o18_ 0 (zr_wide (show 0 ≤ Int32.toInt 0 ∧ Int32.toInt 0 ≤ 0 from (by decide)) (by decide) (by decide)) d) (fun x21_ M22_ b23_ o24_ g25_ => ?_)
      have f26_ : pvFr fp_X9_round_0_x M M22_ := pvfr_t g25_ f20_ fp_X9_round_0_x_fp_X1_goRound_5_x
      refine pw_blk hT 2 (S' := (28, [some (pvR 0), some (pvI n1), some (pvI x21_)], [pvI n1], M22_)) rfl ⟨trivial, trivial, trivial⟩ ?_
      refine pw_ifn hT (c := n1 = 0) rfl rfl (fun c27_ => ?_) (fun c27_ => ?_)
      · have b28_ : 1 ≤ Int32.toInt n1 ∧ Int32.toInt n1 ≤ 2 := (by have u0 := b13_; have u1 := (not_congr (zi_eq _ _)).mp c27_; have u2 := (show 0 ≤ Int32.toInt 0 ∧ Int32.toInt 0 ≤ 0 from (by decide)); omega)
        refine pw_blk hT 2 (S' := (41, [some (pvR 0), some (pvI n1), some (pvI x21_)], [pvI 1, pvI n1], M22_)) rfl ⟨trivial, trivial, trivial⟩ ?_
        refine pw_icn hT (c := n1 = 1) rfl rfl (fun c29_ => ?_) (fun c29_ => ?_)
        · have b30_ : 2 ≤ Int32.toInt n1 ∧ Int32.toInt n1 ≤ 2 := (by have u0 := b28_; have u1 := (not_congr (zi_eq _ _)).mp c29_; have u2 := (show 1 ≤ Int32.toInt 1 ∧ Int32.toInt 1 ≤ 1 from (by decide)); omega)
          refine pw_blk hT 2 (S' := (52, [some (pvR 0), some (pvI n1), some (pvI x21_)], [pvR 5], M22_)) rfl ⟨trivial, rfl, trivial⟩ ?_
          refine pw_callGp hT (as := [pvR 5]) (lo1 := [some (pvR 5), none, none]) (d1 := d) (rest := []) rfl rfl rfl rfl rfl (fun _ => rfl) (Nat.zero_le _) rfl rfl rfl (sf_X1_shutInTime_5 M22_ o24_ d) (fun x31_ b33_ => ?_)
          exact pw_ret hT rfl (r := some (pvI x31_)) (M' := M22_) ⟨rfl, rfl⟩ ⟨⟨_, rfl, trivial⟩, o24_, f26_⟩
        · have b36_ : 1 ≤ Int32.toInt n1 ∧ Int32.toInt n1 ≤ 1 := (by have u0 := b28_; have u1 := (zi_eq _ _).mp c29_; have u2 := (show 1 ≤ Int32.toInt 1 ∧ Int32.toInt 1 ≤ 1 from (by decide)); omega)
          refine pw_blk hT 2 (S' := (55, [some (pvR 0), some (pvI n1), some (pvI x21_)], [pvI x21_], M22_)) rfl ⟨trivial, trivial, trivial⟩ ?_
          exact pw_ret hT rfl (r := some (pvI x21_)) (M' := M22_) ⟨rfl, rfl⟩ ⟨⟨_, rfl, trivial⟩, o24_, f26_⟩
      · have b37_ : 0 ≤ Int32.toInt n1 ∧ Int32.toInt n1 ≤ 0 := (by have u0 := b13_; have u1 := (zi_eq _ _).mp c27_; have u2 := (show 0 ≤ Int32.toInt 0 ∧ Int32.toInt 0 ≤ 0 from (by decide)); omega)
        refine pw_blk hT 2 (S' := (35, [some (pvR 0), some (pvI n1), some (pvI x21_)], [pvR 5], M22_)) rfl ⟨trivial, rfl, trivial⟩ ?_
        refine pw_callGp hT (as := [pvR 5]) (lo1 := [some (pvR 5)]) (d1 := d) (rest := []) rfl rfl rfl rfl rfl (fun _ => rfl) (Nat.zero_le _) rfl rfl rfl (sf_X1_cost_5 M22_ o24_ d) (fun x38_ b40_ => ?_)
        exact pw_ret hT rfl (r := some (pvI x38_)) (M' := M22_) ⟨rfl, rfl⟩ ⟨⟨_, rfl, trivial⟩, o24_, f26_⟩
set_option maxHeartbeats 4000000 in
set_option maxRecDepth 10000 in
theorem sf_X6_isFull_102 (M : pvM) (hok : pvOk M) (d : Nat) : PW 154 d (0, [some (pvR 102)], [], M) (fun r X => r = some (pvI ((if (M.1 102 0) < (Int32.ofNat 6) then 0 else 1))) ∧ X = M) := by
  have hT : pvdom 154 = pvD_154 := rfl
  have b1_ : 0 ≤ Int32.toInt (M.1 102 0) ∧ Int32.toInt (M.1 102 0) ≤ 6 := pvok_r hok 102 0 rfl
  refine pw_blk hT 5 (S' := (9, [some (pvR 102)], [pvI (Int32.ofNat 6), pvI (M.1 102 0)], M)) rfl ⟨trivial, rfl, trivial, rfl, rfl, trivial⟩ ?_
  refine pw_ic hT (c := (M.1 102 0) < (Int32.ofNat 6)) rfl rfl (fun c2_ => ?_) (fun c2_ => ?_)
  · have b3_ : 0 ≤ Int32.toInt (M.1 102 0) ∧ Int32.toInt (M.1 102 0) ≤ 5 := zr_lt_l 5 c2_ b1_ (show 6 ≤ Int32.toInt (Int32.ofNat 6) ∧ Int32.toInt (Int32.ofNat 6) ≤ 6 from (by decide)) (by decide)
    refine pw_blk hT 1 (S' := (17, [some (pvR 102)], [pvI 0], M)) rfl ⟨trivial, trivial⟩ ?_
    exact pw_ret hT rfl (r := some (pvI 0)) (M' := M) ⟨Or.inl rfl, rfl, rfl⟩ ⟨(by rw [if_pos c2_]), rfl⟩
  · have b4_ : 6 ≤ Int32.toInt (M.1 102 0) ∧ Int32.toInt (M.1 102 0) ≤ 6 := zr_nlt_l 6 c2_ b1_ (show 6 ≤ Int32.toInt (Int32.ofNat 6) ∧ Int32.toInt (Int32.ofNat 6) ≤ 6 from (by decide)) (by decide)
    refine pw_blk hT 2 (S' := (17, [some (pvR 102)], [pvI 1], M)) rfl ⟨trivial, trivial, trivial⟩ ?_
    exact pw_ret hT rfl (r := some (pvI 1)) (M' := M) ⟨Or.inr rfl, rfl, rfl⟩ ⟨(by rw [if_neg c2_]), rfl⟩
set_option maxHeartbeats 4000000 in
set_option maxRecDepth 10000 in
theorem sf_X8_hasSpan_x_x_x (M : pvM) (hok : pvOk M) (q0 : Nat) (n1 : Int32) (n2 : Int32) (hq0 : pvkl q0 = 7) (d : Nat) : PW 164 d (0, [some (pvR q0), some (pvI n1), some (pvI n2)], [], M) (fun r X => r = some (pvI ((if n2 < 0 then 0 else (if n1 < 0 then 0 else (if ((M.1 q0 1) - n2) < n1 then 0 else 1))))) ∧ X = M) := by
  have hT : pvdom 164 = pvD_164 := rfl
  refine pw_blk hT 1 (S' := (1, [some (pvR q0), some (pvI n1), some (pvI n2)], [pvI n2], M)) rfl ⟨trivial, trivial⟩ ?_
  refine pw_if hT (c := n2 < 0) rfl rfl (fun c1_ => ?_) (fun c1_ => ?_)
  · have b2_ : (-2147483648) ≤ Int32.toInt n2 ∧ Int32.toInt n2 ≤ (-1) := zr_lt_l (-1) c1_ (zbnd n2) (show 0 ≤ Int32.toInt 0 ∧ Int32.toInt 0 ≤ 0 from (by decide)) (by decide)
    refine pw_blk hT 1 (S' := (23, [some (pvR q0), some (pvI n1), some (pvI n2)], [pvI 0], M)) rfl ⟨trivial, trivial⟩ ?_
    exact pw_ret hT rfl (r := some (pvI 0)) (M' := M) ⟨Or.inl rfl, rfl, rfl⟩ ⟨(by rw [if_pos c1_]), rfl⟩
  · have b3_ : 0 ≤ Int32.toInt n2 ∧ Int32.toInt n2 ≤ 2147483647 := zr_nlt_l 0 c1_ (zbnd n2) (show 0 ≤ Int32.toInt 0 ∧ Int32.toInt 0 ≤ 0 from (by decide)) (by decide)
    refine pw_blk hT 1 (S' := (5, [some (pvR q0), some (pvI n1), some (pvI n2)], [pvI n1], M)) rfl ⟨trivial, trivial⟩ ?_
    refine pw_if hT (c := n1 < 0) rfl rfl (fun c4_ => ?_) (fun c4_ => ?_)
    · have b5_ : (-2147483648) ≤ Int32.toInt n1 ∧ Int32.toInt n1 ≤ (-1) := zr_lt_l (-1) c4_ (zbnd n1) (show 0 ≤ Int32.toInt 0 ∧ Int32.toInt 0 ≤ 0 from (by decide)) (by decide)
      refine pw_blk hT 1 (S' := (23, [some (pvR q0), some (pvI n1), some (pvI n2)], [pvI 0], M)) rfl ⟨trivial, trivial⟩ ?_
      exact pw_ret hT rfl (r := some (pvI 0)) (M' := M) ⟨Or.inl rfl, rfl, rfl⟩ ⟨(by rw [if_neg c1_, if_pos c4_]), rfl⟩
    · have b6_ : 0 ≤ Int32.toInt n1 ∧ Int32.toInt n1 ≤ 2147483647 := zr_nlt_l 0 c4_ (zbnd n1) (show 0 ≤ Int32.toInt 0 ∧ Int32.toInt 0 ≤ 0 from (by decide)) (by decide)
      have b7_ : 0 ≤ Int32.toInt (M.1 q0 1) ∧ Int32.toInt (M.1 q0 1) ≤ 60 := pvok_r hok q0 1 ((pvrg_o 1 hq0 (by decide) (by decide)).trans rfl)
      obtain ⟨q9_, b8_⟩ : (Int32.toInt ((M.1 q0 1) - n2) = Int32.toInt (M.1 q0 1) - Int32.toInt n2) ∧ ((-2147483647) ≤ Int32.toInt ((M.1 q0 1) - n2) ∧ Int32.toInt ((M.1 q0 1) - n2) ≤ 60) := zsub_r (M.1 q0 1) n2 (-2147483647) 60 b7_ b3_ (by decide) (by decide) (by decide) (by decide)
      refine pw_blk hT 5 (S' := (15, [some (pvR q0), some (pvI n1), some (pvI n2)], [pvI ((M.1 q0 1) - n2), pvI n1], M)) rfl ⟨trivial, trivial, hq0, trivial, trivial, trivial⟩ ?_
      refine pw_ic hT (c := ((M.1 q0 1) - n2) < n1) rfl rfl (fun c10_ => ?_) (fun c10_ => ?_)
      · have d11_ : Int32.toInt ((M.1 q0 1) - n2) < Int32.toInt n1 := (zi_lt _ _).mp c10_
        refine pw_blk hT 1 (S' := (23, [some (pvR q0), some (pvI n1), some (pvI n2)], [pvI 0], M)) rfl ⟨trivial, trivial⟩ ?_
        exact pw_ret hT rfl (r := some (pvI 0)) (M' := M) ⟨Or.inl rfl, rfl, rfl⟩ ⟨(by rw [if_neg c1_, if_neg c4_, if_pos c10_]), rfl⟩
      · have b12_ : 0 ≤ Int32.toInt ((M.1 q0 1) - n2) ∧ Int32.toInt ((M.1 q0 1) - n2) ≤ 60 := zr_nlt_l 0 c10_ b8_ b6_ (by decide)
        have b13_ : 0 ≤ Int32.toInt n1 ∧ Int32.toInt n1 ≤ 60 := zr_nlt_r 60 c10_ b6_ b12_ (by decide)
        have d14_ : Int32.toInt ((M.1 q0 1) - n2) ≥ Int32.toInt n1 := Int.not_lt.mp ((not_congr (zi_lt _ _)).mp c10_)
        refine pw_blk hT 2 (S' := (23, [some (pvR q0), some (pvI n1), some (pvI n2)], [pvI 1], M)) rfl ⟨trivial, trivial, trivial⟩ ?_
        exact pw_ret hT rfl (r := some (pvI 1)) (M' := M) ⟨Or.inr rfl, rfl, rfl⟩ ⟨(by rw [if_neg c1_, if_neg c4_, if_neg c10_]), rfl⟩
def fpL_X9_shift_0_x_x_x_x_x : List (Nat × Nat × Nat) := []
def fp_X9_shift_0_x_x_x_x_x (q k : Nat) : Bool := pvfp fpL_X9_shift_0_x_x_x_x_x q k
set_option maxHeartbeats 4000000 in
set_option maxRecDepth 10000 in
theorem sf_X9_shift_0_x_x_x_x_x (M : pvM) (hok : pvOk M) (n1 : Int32) (n2 : Int32) (n3 : Int32) (n4 : Int32) (n5 : Int32) (d : Nat) : PW 198 d (0, [some (pvR 0), some (pvI n1), some (pvI n2), some (pvI n3), some (pvI n4), some (pvI n5), none, none], [], M) (fun r X => (∃ x : Int32, r = some (pvI x) ∧ (-13) ≤ Int32.toInt x ∧ Int32.toInt x ≤ 2147483647) ∧ pvOk X ∧ pvFr fp_X9_shift_0_x_x_x_x_x M X) := by
  have hT : pvdom 198 = pvD_198 := rfl
  refine pw_blk hT 1 (S' := (1, [some (pvR 0), some (pvI n1), some (pvI n2), some (pvI n3), some (pvI n4), some (pvI n5), none, none], [pvI n1], M)) rfl ⟨trivial, trivial⟩ ?_
  refine pw_callT hT (as := [pvI n1]) (lo1 := [some (pvI n1)]) (d1 := d) (rest := []) rfl rfl rfl rfl rfl (fun h => absurd h (by decide)) (Nat.zero_le _) rfl rfl rfl (sf_X9_isTape_x M hok n1 d) ?_
  by_cases c6_ : n1 < 0
  · refine pw_eqI (if_pos c6_) ?_
    have b7_ : (-2147483648) ≤ Int32.toInt n1 ∧ Int32.toInt n1 ≤ (-1) := zr_lt_l (-1) c6_ (zbnd n1) (show 0 ≤ Int32.toInt 0 ∧ Int32.toInt 0 ≤ 0 from (by decide)) (by decide)
    show PW 198 d (4, [some (pvR 0), some (pvI n1), some (pvI n2), some (pvI n3), some (pvI n4), some (pvI n5), none, none], [pvI 0], M) _
    refine pw_if hT (c := 0 = 0) rfl rfl (fun c8_ => ?_) (fun c8_ => absurd (by decide) c8_)
    refine pw_blk hT 1 (S' := (15, [some (pvR 0), some (pvI n1), some (pvI n2), some (pvI n3), some (pvI n4), some (pvI n5), none, none], [pvI (-1)], M)) rfl ⟨trivial, trivial⟩ ?_
    exact pw_ret hT rfl (r := some (pvI (-1))) (M' := M) ⟨rfl, rfl⟩ ⟨⟨_, rfl, (zr_wide (show (-1) ≤ Int32.toInt (-1) ∧ Int32.toInt (-1) ≤ (-1) from (by decide)) (by decide) (by decide))⟩, hok, pvfr_0⟩
  · refine pw_eqI (if_neg c6_) ?_
    have b9_ : 0 ≤ Int32.toInt n1 ∧ Int32.toInt n1 ≤ 2147483647 := zr_nlt_l 0 c6_ (zbnd n1) (show 0 ≤ Int32.toInt 0 ∧ Int32.toInt 0 ≤ 0 from (by decide)) (by decide)
    by_cases c10_ : 5 < n1
    · refine pw_eqI (if_pos c10_) ?_
      have b11_ : 6 ≤ Int32.toInt n1 ∧ Int32.toInt n1 ≤ 2147483647 := zr_lt_r 6 c10_ b9_ (show 5 ≤ Int32.toInt 5 ∧ Int32.toInt 5 ≤ 5 from (by decide)) (by decide)
      show PW 198 d (4, [some (pvR 0), some (pvI n1), some (pvI n2), some (pvI n3), some (pvI n4), some (pvI n5), none, none], [pvI 0], M) _
      refine pw_if hT (c := 0 = 0) rfl rfl (fun c12_ => ?_) (fun c12_ => absurd (by decide) c12_)
      refine pw_blk hT 1 (S' := (15, [some (pvR 0), some (pvI n1), some (pvI n2), some (pvI n3), some (pvI n4), some (pvI n5), none, none], [pvI (-1)], M)) rfl ⟨trivial, trivial⟩ ?_
      exact pw_ret hT rfl (r := some (pvI (-1))) (M' := M) ⟨rfl, rfl⟩ ⟨⟨_, rfl, (zr_wide (show (-1) ≤ Int32.toInt (-1) ∧ Int32.toInt (-1) ≤ (-1) from (by decide)) (by decide) (by decide))⟩, hok, pvfr_0⟩
    · refine pw_eqI (if_neg c10_) ?_
      have b13_ : 0 ≤ Int32.toInt n1 ∧ Int32.toInt n1 ≤ 5 := zr_nlt_r 5 c10_ b9_ (show 5 ≤ Int32.toInt 5 ∧ Int32.toInt 5 ≤ 5 from (by decide)) (by decide)
      show PW 198 d (4, [some (pvR 0), some (pvI n1), some (pvI n2), some (pvI n3), some (pvI n4), some (pvI n5), none, none], [pvI 1], M) _
      refine pw_if hT (c := 1 = 0) rfl rfl (fun c14_ => absurd c14_ (by decide)) (fun c14_ => ?_)
      refine pw_blk hT 1 (S' := (8, [some (pvR 0), some (pvI n1), some (pvI n2), some (pvI n3), some (pvI n4), some (pvI n5), none, none], [pvI n3], M)) rfl ⟨trivial, trivial⟩ ?_
      refine pw_callT hT (as := [pvI n3]) (lo1 := [some (pvI n3)]) (d1 := d) (rest := []) rfl rfl rfl rfl rfl (fun h => absurd h (by decide)) (Nat.zero_le _) rfl rfl rfl (sf_X9_isTape_x M hok n3 d) ?_
      by_cases c20_ : n3 < 0
      · refine pw_eqI (if_pos c20_) ?_
        have b21_ : (-2147483648) ≤ Int32.toInt n3 ∧ Int32.toInt n3 ≤ (-1) := zr_lt_l (-1) c20_ (zbnd n3) (show 0 ≤ Int32.toInt 0 ∧ Int32.toInt 0 ≤ 0 from (by decide)) (by decide)
        show PW 198 d (11, [some (pvR 0), some (pvI n1), some (pvI n2), some (pvI n3), some (pvI n4), some (pvI n5), none, none], [pvI 0], M) _
        refine pw_ifn hT (c := 0 = 0) rfl rfl (fun c22_ => absurd (by decide) c22_) (fun c22_ => ?_)
        refine pw_blk hT 1 (S' := (15, [some (pvR 0), some (pvI n1), some (pvI n2), some (pvI n3), some (pvI n4), some (pvI n5), none, none], [pvI (-1)], M)) rfl ⟨trivial, trivial⟩ ?_
        exact pw_ret hT rfl (r := some (pvI (-1))) (M' := M) ⟨rfl, rfl⟩ ⟨⟨_, rfl, (zr_wide (show (-1) ≤ Int32.toInt (-1) ∧ Int32.toInt (-1) ≤ (-1) from (by decide)) (by decide) (by decide))⟩, hok, pvfr_0⟩
      · refine pw_eqI (if_neg c20_) ?_
        have b23_ : 0 ≤ Int32.toInt n3 ∧ Int32.toInt n3 ≤ 2147483647 := zr_nlt_l 0 c20_ (zbnd n3) (show 0 ≤ Int32.toInt 0 ∧ Int32.toInt 0 ≤ 0 from (by decide)) (by decide)
        by_cases c24_ : 5 < n3
        · refine pw_eqI (if_pos c24_) ?_
          have b25_ : 6 ≤ Int32.toInt n3 ∧ Int32.toInt n3 ≤ 2147483647 := zr_lt_r 6 c24_ b23_ (show 5 ≤ Int32.toInt 5 ∧ Int32.toInt 5 ≤ 5 from (by decide)) (by decide)
          show PW 198 d (11, [some (pvR 0), some (pvI n1), some (pvI n2), some (pvI n3), some (pvI n4), some (pvI n5), none, none], [pvI 0], M) _
          refine pw_ifn hT (c := 0 = 0) rfl rfl (fun c26_ => absurd (by decide) c26_) (fun c26_ => ?_)
          refine pw_blk hT 1 (S' := (15, [some (pvR 0), some (pvI n1), some (pvI n2), some (pvI n3), some (pvI n4), some (pvI n5), none, none], [pvI (-1)], M)) rfl ⟨trivial, trivial⟩ ?_
          exact pw_ret hT rfl (r := some (pvI (-1))) (M' := M) ⟨rfl, rfl⟩ ⟨⟨_, rfl, (zr_wide (show (-1) ≤ Int32.toInt (-1) ∧ Int32.toInt (-1) ≤ (-1) from (by decide)) (by decide) (by decide))⟩, hok, pvfr_0⟩
        · refine pw_eqI (if_neg c24_) ?_
          have b27_ : 0 ≤ Int32.toInt n3 ∧ Int32.toInt n3 ≤ 5 := zr_nlt_r 5 c24_ b23_ (show 5 ≤ Int32.toInt 5 ∧ Int32.toInt 5 ≤ 5 from (by decide)) (by decide)
          show PW 198 d (11, [some (pvR 0), some (pvI n1), some (pvI n2), some (pvI n3), some (pvI n4), some (pvI n5), none, none], [pvI 1], M) _
          refine pw_ifn hT (c := 1 = 0) rfl rfl (fun c28_ => ?_) (fun c28_ => absurd c28_ (by decide))
          refine pw_blkr hT 4 (pc := 22) (lo := [some (pvR 0), some (pvI n1), some (pvI n2), some (pvI n3), some (pvI n4), some (pvI n5), none, none]) (st := []) (M := M) (z := (pvbs 2 + Int32.toNatClampNeg n1)) rfl ⟨trivial, rfl, trivial, ⟨rfl, (zr_in (n := 6) b13_ (by decide) (by decide))⟩, trivial⟩ (fun q29_ e31_ => ?_)
          have k30_ : pvkl q29_ = 7 := pvel_2 (zr_in (n := 6) b13_ (by decide) (by decide)) e31_
          refine pw_blkr hT 5 (pc := 30) (lo := [some (pvR 0), some (pvI n1), some (pvI n2), some (pvI n3), some (pvI n4), some (pvI n5), some (pvR q29_), none]) (st := []) (M := M) (z := (pvbs 2 + Int32.toNatClampNeg n3)) rfl ⟨trivial, trivial, rfl, trivial, ⟨rfl, (zr_in (n := 6) b27_ (by decide) (by decide))⟩, trivial⟩ (fun q32_ e34_ => ?_)
          have k33_ : pvkl q32_ = 7 := pvel_2 (zr_in (n := 6) b27_ (by decide) (by decide)) e34_
          refine pw_blk hT 2 (S' := (34, [some (pvR 0), some (pvI n1), some (pvI n2), some (pvI n3), some (pvI n4), some (pvI n5), some (pvR q29_), some (pvR q32_)], [pvR q29_], M)) rfl ⟨trivial, trivial, trivial⟩ ?_
          refine pw_callT hT (as := [pvR q29_]) (lo1 := [some (pvR q29_)]) (d1 := d) (rest := []) rfl rfl rfl rfl rfl (fun _ => k30_) (Nat.zero_le _) rfl rfl rfl (sf_X8_isNothing_x M hok q29_ k30_ d) ?_
          have b40_ : (-1) ≤ Int32.toInt (M.1 q29_ 0) ∧ Int32.toInt (M.1 q29_ 0) ≤ 4 := pvok_r hok q29_ 0 ((pvrg_o 0 k30_ (by decide) (by decide)).trans rfl)
          by_cases c41_ : (M.1 q29_ 0) = (-1)
          · refine pw_eqI (if_pos c41_) ?_
            have b42_ : (-1) ≤ Int32.toInt (M.1 q29_ 0) ∧ Int32.toInt (M.1 q29_ 0) ≤ (-1) := (by have u0 := b40_; have u1 := (zi_eq _ _).mp c41_; have u2 := (show (-1) ≤ Int32.toInt (-1) ∧ Int32.toInt (-1) ≤ (-1) from (by decide)); omega)
            show PW 198 d (37, [some (pvR 0), some (pvI n1), some (pvI n2), some (pvI n3), some (pvI n4), some (pvI n5), some (pvR q29_), some (pvR q32_)], [pvI 1], M) _
            refine pw_ifn hT (c := 1 = 0) rfl rfl (fun c43_ => ?_) (fun c43_ => absurd c43_ (by decide))
            refine pw_blk hT 1 (S' := (50, [some (pvR 0), some (pvI n1), some (pvI n2), some (pvI n3), some (pvI n4), some (pvI n5), some (pvR q29_), some (pvR q32_)], [pvI (-11)], M)) rfl ⟨trivial, trivial⟩ ?_
            exact pw_ret hT rfl (r := some (pvI (-11))) (M' := M) ⟨rfl, rfl⟩ ⟨⟨_, rfl, (zr_wide (show (-11) ≤ Int32.toInt (-11) ∧ Int32.toInt (-11) ≤ (-11) from (by decide)) (by decide) (by decide))⟩, hok, pvfr_0⟩
          · refine pw_eqI (if_neg c41_) ?_
            have b44_ : 0 ≤ Int32.toInt (M.1 q29_ 0) ∧ Int32.toInt (M.1 q29_ 0) ≤ 4 := (by have u0 := b40_; have u1 := (not_congr (zi_eq _ _)).mp c41_; have u2 := (show (-1) ≤ Int32.toInt (-1) ∧ Int32.toInt (-1) ≤ (-1) from (by decide)); omega)
            show PW 198 d (37, [some (pvR 0), some (pvI n1), some (pvI n2), some (pvI n3), some (pvI n4), some (pvI n5), some (pvR q29_), some (pvR q32_)], [pvI 0], M) _
            refine pw_ifn hT (c := 0 = 0) rfl rfl (fun c45_ => absurd (by decide) c45_) (fun c45_ => ?_)
            refine pw_blk hT 1 (S' := (42, [some (pvR 0), some (pvI n1), some (pvI n2), some (pvI n3), some (pvI n4), some (pvI n5), some (pvR q29_), some (pvR q32_)], [pvR q32_], M)) rfl ⟨trivial, trivial⟩ ?_
            refine pw_callT hT (as := [pvR q32_]) (lo1 := [some (pvR q32_)]) (d1 := d) (rest := []) rfl rfl rfl rfl rfl (fun _ => k33_) (Nat.zero_le _) rfl rfl rfl (sf_X8_isNothing_x M hok q32_ k33_ d) ?_
            have b51_ : (-1) ≤ Int32.toInt (M.1 q32_ 0) ∧ Int32.toInt (M.1 q32_ 0) ≤ 4 := pvok_r hok q32_ 0 ((pvrg_o 0 k33_ (by decide) (by decide)).trans rfl)
            by_cases c52_ : (M.1 q32_ 0) = (-1)
            · refine pw_eqI (if_pos c52_) ?_
              have b53_ : (-1) ≤ Int32.toInt (M.1 q32_ 0) ∧ Int32.toInt (M.1 q32_ 0) ≤ (-1) := (by have u0 := b51_; have u1 := (zi_eq _ _).mp c52_; have u2 := (show (-1) ≤ Int32.toInt (-1) ∧ Int32.toInt (-1) ≤ (-1) from (by decide)); omega)
              show PW 198 d (45, [some (pvR 0), some (pvI n1), some (pvI n2), some (pvI n3), some (pvI n4), some (pvI n5), some (pvR q29_), some (pvR q32_)], [pvI 1], M) _
              refine pw_if hT (c := 1 = 0) rfl rfl (fun c54_ => absurd c54_ (by decide)) (fun c54_ => ?_)
              refine pw_blk hT 1 (S' := (50, [some (pvR 0), some (pvI n1), some (pvI n2), some (pvI n3), some (pvI n4), some (pvI n5), some (pvR q29_), some (pvR q32_)], [pvI (-11)], M)) rfl ⟨trivial, trivial⟩ ?_
              exact pw_ret hT rfl (r := some (pvI (-11))) (M' := M) ⟨rfl, rfl⟩ ⟨⟨_, rfl, (zr_wide (show (-11) ≤ Int32.toInt (-11) ∧ Int32.toInt (-11) ≤ (-11) from (by decide)) (by decide) (by decide))⟩, hok, pvfr_0⟩
            · refine pw_eqI (if_neg c52_) ?_
              have b55_ : 0 ≤ Int32.toInt (M.1 q32_ 0) ∧ Int32.toInt (M.1 q32_ 0) ≤ 4 := (by have u0 := b51_; have u1 := (not_congr (zi_eq _ _)).mp c52_; have u2 := (show (-1) ≤ Int32.toInt (-1) ∧ Int32.toInt (-1) ≤ (-1) from (by decide)); omega)
              show PW 198 d (45, [some (pvR 0), some (pvI n1), some (pvI n2), some (pvI n3), some (pvI n4), some (pvI n5), some (pvR q29_), some (pvR q32_)], [pvI 0], M) _
              refine pw_if hT (c := 0 = 0) rfl rfl (fun c56_ => ?_) (fun c56_ => absurd (by decide) c56_)
              refine pw_blk hT 4 (S' := (61, [some (pvR 0), some (pvI n1), some (pvI n2), some (pvI n3), some (pvI n4), some (pvI n5), some (pvR q29_), some (pvR q32_)], [pvI (M.1 q32_ 0), pvI (M.1 q29_ 0)], M)) rfl ⟨trivial, k30_, trivial, k33_, trivial⟩ ?_
              refine pw_ic hT (c := (M.1 q29_ 0) = (M.1 q32_ 0)) rfl rfl (fun c57_ => ?_) (fun c57_ => ?_)
              · have d58_ : Int32.toInt (M.1 q29_ 0) = Int32.toInt (M.1 q32_ 0) := (zi_eq _ _).mp c57_
                refine pw_blk hT 3 (S' := (72, [some (pvR 0), some (pvI n1), some (pvI n2), some (pvI n3), some (pvI n4), some (pvI n5), some (pvR q29_), some (pvR q32_)], [pvI n5, pvI n2, pvR q29_], M)) rfl ⟨trivial, trivial, trivial, trivial⟩ ?_
                refine pw_callT hT (as := [pvR q29_, pvI n2, pvI n5]) (lo1 := [some (pvR q29_), some (pvI n2), some (pvI n5)]) (d1 := d) (rest := []) rfl rfl rfl rfl rfl (fun _ => k30_) (Nat.zero_le _) rfl rfl rfl (sf_X8_hasSpan_x_x_x M hok q29_ n2 n5 k30_ d) ?_
                by_cases c64_ : n5 < 0
                · refine pw_eqI (if_pos c64_) ?_
                  have b65_ : (-2147483648) ≤ Int32.toInt n5 ∧ Int32.toInt n5 ≤ (-1) := zr_lt_l (-1) c64_ (zbnd n5) (show 0 ≤ Int32.toInt 0 ∧ Int32.toInt 0 ≤ 0 from (by decide)) (by decide)
                  show PW 198 d (75, [some (pvR 0), some (pvI n1), some (pvI n2), some (pvI n3), some (pvI n4), some (pvI n5), some (pvR q29_), some (pvR q32_)], [pvI 0], M) _
                  refine pw_if hT (c := 0 = 0) rfl rfl (fun c66_ => ?_) (fun c66_ => absurd (by decide) c66_)
                  refine pw_blk hT 1 (S' := (92, [some (pvR 0), some (pvI n1), some (pvI n2), some (pvI n3), some (pvI n4), some (pvI n5), some (pvR q29_), some (pvR q32_)], [pvI (-13)], M)) rfl ⟨trivial, trivial⟩ ?_
                  exact pw_ret hT rfl (r := some (pvI (-13))) (M' := M) ⟨rfl, rfl⟩ ⟨⟨_, rfl, (zr_wide (show (-13) ≤ Int32.toInt (-13) ∧ Int32.toInt (-13) ≤ (-13) from (by decide)) (by decide) (by decide))⟩, hok, pvfr_0⟩
                · refine pw_eqI (if_neg c64_) ?_
                  have b67_ : 0 ≤ Int32.toInt n5 ∧ Int32.toInt n5 ≤ 2147483647 := zr_nlt_l 0 c64_ (zbnd n5) (show 0 ≤ Int32.toInt 0 ∧ Int32.toInt 0 ≤ 0 from (by decide)) (by decide)
                  by_cases c68_ : n2 < 0
                  · refine pw_eqI (if_pos c68_) ?_
                    have b69_ : (-2147483648) ≤ Int32.toInt n2 ∧ Int32.toInt n2 ≤ (-1) := zr_lt_l (-1) c68_ (zbnd n2) (show 0 ≤ Int32.toInt 0 ∧ Int32.toInt 0 ≤ 0 from (by decide)) (by decide)
                    show PW 198 d (75, [some (pvR 0), some (pvI n1), some (pvI n2), some (pvI n3), some (pvI n4), some (pvI n5), some (pvR q29_), some (pvR q32_)], [pvI 0], M) _
                    refine pw_if hT (c := 0 = 0) rfl rfl (fun c70_ => ?_) (fun c70_ => absurd (by decide) c70_)
                    refine pw_blk hT 1 (S' := (92, [some (pvR 0), some (pvI n1), some (pvI n2), some (pvI n3), some (pvI n4), some (pvI n5), some (pvR q29_), some (pvR q32_)], [pvI (-13)], M)) rfl ⟨trivial, trivial⟩ ?_
                    exact pw_ret hT rfl (r := some (pvI (-13))) (M' := M) ⟨rfl, rfl⟩ ⟨⟨_, rfl, (zr_wide (show (-13) ≤ Int32.toInt (-13) ∧ Int32.toInt (-13) ≤ (-13) from (by decide)) (by decide) (by decide))⟩, hok, pvfr_0⟩
                  · refine pw_eqI (if_neg c68_) ?_
                    have b71_ : 0 ≤ Int32.toInt n2 ∧ Int32.toInt n2 ≤ 2147483647 := zr_nlt_l 0 c68_ (zbnd n2) (show 0 ≤ Int32.toInt 0 ∧ Int32.toInt 0 ≤ 0 from (by decide)) (by decide)
                    have b72_ : 0 ≤ Int32.toInt (M.1 q29_ 1) ∧ Int32.toInt (M.1 q29_ 1) ≤ 60 := pvok_r hok q29_ 1 ((pvrg_o 1 k30_ (by decide) (by decide)).trans rfl)
                    obtain ⟨q74_, b73_⟩ : (Int32.toInt ((M.1 q29_ 1) - n5) = Int32.toInt (M.1 q29_ 1) - Int32.toInt n5) ∧ ((-2147483647) ≤ Int32.toInt ((M.1 q29_ 1) - n5) ∧ Int32.toInt ((M.1 q29_ 1) - n5) ≤ 60) := zsub_r (M.1 q29_ 1) n5 (-2147483647) 60 b72_ b67_ (by decide) (by decide) (by decide) (by decide)
                    by_cases c75_ : ((M.1 q29_ 1) - n5) < n2
                    · refine pw_eqI (if_pos c75_) ?_
                      have d76_ : Int32.toInt ((M.1 q29_ 1) - n5) < Int32.toInt n2 := (zi_lt _ _).mp c75_
                      show PW 198 d (75, [some (pvR 0), some (pvI n1), some (pvI n2), some (pvI n3), some (pvI n4), some (pvI n5), some (pvR q29_), some (pvR q32_)], [pvI 0], M) _
                      refine pw_if hT (c := 0 = 0) rfl rfl (fun c77_ => ?_) (fun c77_ => absurd (by decide) c77_)
                      refine pw_blk hT 1 (S' := (92, [some (pvR 0), some (pvI n1), some (pvI n2), some (pvI n3), some (pvI n4), some (pvI n5), some (pvR q29_), some (pvR q32_)], [pvI (-13)], M)) rfl ⟨trivial, trivial⟩ ?_
                      exact pw_ret hT rfl (r := some (pvI (-13))) (M' := M) ⟨rfl, rfl⟩ ⟨⟨_, rfl, (zr_wide (show (-13) ≤ Int32.toInt (-13) ∧ Int32.toInt (-13) ≤ (-13) from (by decide)) (by decide) (by decide))⟩, hok, pvfr_0⟩
                    · refine pw_eqI (if_neg c75_) ?_
                      have b78_ : 0 ≤ Int32.toInt ((M.1 q29_ 1) - n5) ∧ Int32.toInt ((M.1 q29_ 1) - n5) ≤ 60 := zr_nlt_l 0 c75_ b73_ b71_ (by decide)
                      have b79_ : 0 ≤ Int32.toInt n2 ∧ Int32.toInt n2 ≤ 60 := zr_nlt_r 60 c75_ b71_ b78_ (by decide)
                      have d80_ : Int32.toInt ((M.1 q29_ 1) - n5) ≥ Int32.toInt n2 := Int.not_lt.mp ((not_congr (zi_lt _ _)).mp c75_)
                      show PW 198 d (75, [some (pvR 0), some (pvI n1), some (pvI n2), some (pvI n3), some (pvI n4), some (pvI n5), some (pvR q29_), some (pvR q32_)], [pvI 1], M) _
                      refine pw_if hT (c := 1 = 0) rfl rfl (fun c81_ => absurd c81_ (by decide)) (fun c81_ => ?_)
                      refine pw_blk hT 3 (S' := (84, [some (pvR 0), some (pvI n1), some (pvI n2), some (pvI n3), some (pvI n4), some (pvI n5), some (pvR q29_), some (pvR q32_)], [pvI n5, pvI n4, pvR q32_], M)) rfl ⟨trivial, trivial, trivial, trivial⟩ ?_
                      refine pw_callT hT (as := [pvR q32_, pvI n4, pvI n5]) (lo1 := [some (pvR q32_), some (pvI n4), some (pvI n5)]) (d1 := d) (rest := []) rfl rfl rfl rfl rfl (fun _ => k33_) (Nat.zero_le _) rfl rfl rfl (sf_X8_hasSpan_x_x_x M hok q32_ n4 n5 k33_ d) ?_
                      refine pw_eqI (if_neg c64_) ?_
                      by_cases c87_ : n4 < 0
                      · refine pw_eqI (if_pos c87_) ?_
                        have b88_ : (-2147483648) ≤ Int32.toInt n4 ∧ Int32.toInt n4 ≤ (-1) := zr_lt_l (-1) c87_ (zbnd n4) (show 0 ≤ Int32.toInt 0 ∧ Int32.toInt 0 ≤ 0 from (by decide)) (by decide)
                        show PW 198 d (87, [some (pvR 0), some (pvI n1), some (pvI n2), some (pvI n3), some (pvI n4), some (pvI n5), some (pvR q29_), some (pvR q32_)], [pvI 0], M) _
                        refine pw_ifn hT (c := 0 = 0) rfl rfl (fun c89_ => absurd (by decide) c89_) (fun c89_ => ?_)
                        refine pw_blk hT 1 (S' := (92, [some (pvR 0), some (pvI n1), some (pvI n2), some (pvI n3), some (pvI n4), some (pvI n5), some (pvR q29_), some (pvR q32_)], [pvI (-13)], M)) rfl ⟨trivial, trivial⟩ ?_
                        exact pw_ret hT rfl (r := some (pvI (-13))) (M' := M) ⟨rfl, rfl⟩ ⟨⟨_, rfl, (zr_wide (show (-13) ≤ Int32.toInt (-13) ∧ Int32.toInt (-13) ≤ (-13) from (by decide)) (by decide) (by decide))⟩, hok, pvfr_0⟩
                      · refine pw_eqI (if_neg c87_) ?_
                        have b90_ : 0 ≤ Int32.toInt n4 ∧ Int32.toInt n4 ≤ 2147483647 := zr_nlt_l 0 c87_ (zbnd n4) (show 0 ≤ Int32.toInt 0 ∧ Int32.toInt 0 ≤ 0 from (by decide)) (by decide)
                        have b91_ : 0 ≤ Int32.toInt (M.1 q32_ 1) ∧ Int32.toInt (M.1 q32_ 1) ≤ 60 := pvok_r hok q32_ 1 ((pvrg_o 1 k33_ (by decide) (by decide)).trans rfl)
                        obtain ⟨q93_, b92_⟩ : (Int32.toInt ((M.1 q32_ 1) - n5) = Int32.toInt (M.1 q32_ 1) - Int32.toInt n5) ∧ ((-2147483647) ≤ Int32.toInt ((M.1 q32_ 1) - n5) ∧ Int32.toInt ((M.1 q32_ 1) - n5) ≤ 60) := zsub_r (M.1 q32_ 1) n5 (-2147483647) 60 b91_ b67_ (by decide) (by decide) (by decide) (by decide)
                        by_cases c94_ : ((M.1 q32_ 1) - n5) < n4
                        · refine pw_eqI (if_pos c94_) ?_
                          have d95_ : Int32.toInt ((M.1 q32_ 1) - n5) < Int32.toInt n4 := (zi_lt _ _).mp c94_
                          show PW 198 d (87, [some (pvR 0), some (pvI n1), some (pvI n2), some (pvI n3), some (pvI n4), some (pvI n5), some (pvR q29_), some (pvR q32_)], [pvI 0], M) _
                          refine pw_ifn hT (c := 0 = 0) rfl rfl (fun c96_ => absurd (by decide) c96_) (fun c96_ => ?_)
                          refine pw_blk hT 1 (S' := (92, [some (pvR 0), some (pvI n1), some (pvI n2), some (pvI n3), some (pvI n4), some (pvI n5), some (pvR q29_), some (pvR q32_)], [pvI (-13)], M)) rfl ⟨trivial, trivial⟩ ?_
                          exact pw_ret hT rfl (r := some (pvI (-13))) (M' := M) ⟨rfl, rfl⟩ ⟨⟨_, rfl, (zr_wide (show (-13) ≤ Int32.toInt (-13) ∧ Int32.toInt (-13) ≤ (-13) from (by decide)) (by decide) (by decide))⟩, hok, pvfr_0⟩
                        · refine pw_eqI (if_neg c94_) ?_
                          have b97_ : 0 ≤ Int32.toInt ((M.1 q32_ 1) - n5) ∧ Int32.toInt ((M.1 q32_ 1) - n5) ≤ 60 := zr_nlt_l 0 c94_ b92_ b90_ (by decide)
                          have b98_ : 0 ≤ Int32.toInt n4 ∧ Int32.toInt n4 ≤ 60 := zr_nlt_r 60 c94_ b90_ b97_ (by decide)
                          have d99_ : Int32.toInt ((M.1 q32_ 1) - n5) ≥ Int32.toInt n4 := Int.not_lt.mp ((not_congr (zi_lt _ _)).mp c94_)
                          show PW 198 d (87, [some (pvR 0), some (pvI n1), some (pvI n2), some (pvI n3), some (pvI n4), some (pvI n5), some (pvR q29_), some (pvR q32_)], [pvI 1], M) _
                          refine pw_ifn hT (c := 1 = 0) rfl rfl (fun c100_ => ?_) (fun c100_ => absurd c100_ (by decide))
                          refine pw_blkw hT 8 (pc := 111) (lo := [some (pvR 0), some (pvI n1), some (pvI n2), some (pvI n3), some (pvI n4), some (pvI n5), some (pvR q29_), some (pvR q32_)]) (st := []) (M := pvrL M (q32_ + 6) (va_cpy (M.2 (q29_ + 6)) (M.2 (q32_ + 6)) (Int32.toNatClampNeg n2) (Int32.toNatClampNeg n4) (Int32.toNatClampNeg n5))) rfl ⟨trivial, k30_, trivial, trivial, k33_, trivial, trivial, ⟨(pvow_7_6 k30_).1, (pvow_7_6 k33_).1, (pvnneg (b := 60) b79_), (pvnneg (b := 60) b98_), (pvnneg (b := 2147483647) b67_), (by have u0 := b79_; have u1 := b67_; have u2 := ztn n2 (by omega); have u3 := ztn n5 (by omega); rw [(pvow_7_6 k30_).2.1]; omega), (by have u0 := b98_; have u1 := b67_; have u2 := ztn n4 (by omega); have u3 := ztn n5 (by omega); rw [(pvow_7_6 k33_).2.1]; omega), Nat.le_of_ble_eq_true rfl⟩, trivial⟩ (fun M101_ e102_ => ?_)
                          have o103_ : pvOk M101_ := pvok_rL e102_ hok
                          have f104_ : pvFr fp_X9_shift_0_x_x_x_x_x M M101_ := pvfr_rL e102_ pvfr_0
                          refine pw_blk hT 1 (S' := (113, [some (pvR 0), some (pvI n1), some (pvI n2), some (pvI n3), some (pvI n4), some (pvI n5), some (pvR q29_), some (pvR q32_)], [pvI n5], M101_)) rfl ⟨trivial, trivial⟩ ?_
                          exact pw_ret hT rfl (r := some (pvI n5)) (M' := M101_) ⟨rfl, rfl⟩ ⟨⟨_, rfl, (zr_wide b67_ (by decide) (by decide))⟩, o103_, f104_⟩
              · refine pw_blk hT 1 (S' := (66, [some (pvR 0), some (pvI n1), some (pvI n2), some (pvI n3), some (pvI n4), some (pvI n5), some (pvR q29_), some (pvR q32_)], [pvI (-12)], M)) rfl ⟨trivial, trivial⟩ ?_
                exact pw_ret hT rfl (r := some (pvI (-12))) (M' := M) ⟨rfl, rfl⟩ ⟨⟨_, rfl, (zr_wide (show (-12) ≤ Int32.toInt (-12) ∧ Int32.toInt (-12) ≤ (-12) from (by decide)) (by decide) (by decide))⟩, hok, pvfr_0⟩
def fpL_X9_sides_0_x : List (Nat × Nat × Nat) := [(0, 12, 0), (0, 13, 0), (0, 14, 0), (0, 5, 2), (0, 5, 3), (1, 112, 0)]
def fp_X9_sides_0_x (q k : Nat) : Bool := pvfp fpL_X9_sides_0_x q k
theorem fp_X9_sides_0_x_fp_X1_beginFromNow_5 (a b : Nat) (h : fp_X1_beginFromNow_5 a b = true) : fp_X9_sides_0_x a b = true := pvfp_sub (l1 := fpL_X1_beginFromNow_5) (l2 := fpL_X9_sides_0_x) (by decide) a b h
theorem fp_X9_sides_0_x_fp_X1_turnTo_5_x (a b : Nat) (h : fp_X1_turnTo_5_x a b = true) : fp_X9_sides_0_x a b = true := pvfp_sub (l1 := fpL_X1_turnTo_5_x) (l2 := fpL_X9_sides_0_x) (by decide) a b h
set_option maxHeartbeats 4000000 in
set_option maxRecDepth 10000 in
theorem sf_X9_sides_0_x (M : pvM) (hok : pvOk M) (n1 : Int32) (d : Nat) : PW 200 d (0, [some (pvR 0), some (pvI n1), none, none, none, none], [], M) (fun r X => (∃ x : Int32, r = some (pvI x) ∧ (-1) ≤ Int32.toInt x ∧ Int32.toInt x ≤ 2147483647) ∧ pvOk X ∧ pvFr fp_X9_sides_0_x M X) := by
  have hT : pvdom 200 = pvD_200 := rfl
  refine pw_blk hT 3 (S' := (3, [some (pvR 0), some (pvI n1), none, none, none, none], [pvI 1, pvI 0, pvI n1], M)) rfl ⟨trivial, trivial, trivial, trivial⟩ ?_
  refine pw_callT hT (as := [pvI n1, pvI 0, pvI 1]) (lo1 := [some (pvI n1), some (pvI 0), some (pvI 1)]) (d1 := d) (rest := []) rfl rfl rfl rfl rfl (fun h => absurd h (by decide)) (Nat.zero_le _) rfl rfl rfl (sf_X9_within_x_x_x M hok n1 0 1 d) ?_
  by_cases c6_ : n1 < 0
  · refine pw_eqI (if_pos c6_) ?_
    have b7_ : (-2147483648) ≤ Int32.toInt n1 ∧ Int32.toInt n1 ≤ (-1) := zr_lt_l (-1) c6_ (zbnd n1) (show 0 ≤ Int32.toInt 0 ∧ Int32.toInt 0 ≤ 0 from (by decide)) (by decide)
    show PW 200 d (6, [some (pvR 0), some (pvI n1), none, none, none, none], [pvI 0], M) _
    refine pw_ifn hT (c := 0 = 0) rfl rfl (fun c8_ => absurd (by decide) c8_) (fun c8_ => ?_)
    refine pw_blk hT 1 (S' := (10, [some (pvR 0), some (pvI n1), none, none, none, none], [pvI (-1)], M)) rfl ⟨trivial, trivial⟩ ?_
    exact pw_ret hT rfl (r := some (pvI (-1))) (M' := M) ⟨rfl, rfl⟩ ⟨⟨_, rfl, (zr_wide (show (-1) ≤ Int32.toInt (-1) ∧ Int32.toInt (-1) ≤ (-1) from (by decide)) (by decide) (by decide))⟩, hok, pvfr_0⟩
  · refine pw_eqI (if_neg c6_) ?_
    have b9_ : 0 ≤ Int32.toInt n1 ∧ Int32.toInt n1 ≤ 2147483647 := zr_nlt_l 0 c6_ (zbnd n1) (show 0 ≤ Int32.toInt 0 ∧ Int32.toInt 0 ≤ 0 from (by decide)) (by decide)
    by_cases c10_ : 1 < n1
    · refine pw_eqI (if_pos c10_) ?_
      have b11_ : 2 ≤ Int32.toInt n1 ∧ Int32.toInt n1 ≤ 2147483647 := zr_lt_r 2 c10_ b9_ (show 1 ≤ Int32.toInt 1 ∧ Int32.toInt 1 ≤ 1 from (by decide)) (by decide)
      show PW 200 d (6, [some (pvR 0), some (pvI n1), none, none, none, none], [pvI 0], M) _
      refine pw_ifn hT (c := 0 = 0) rfl rfl (fun c12_ => absurd (by decide) c12_) (fun c12_ => ?_)
      refine pw_blk hT 1 (S' := (10, [some (pvR 0), some (pvI n1), none, none, none, none], [pvI (-1)], M)) rfl ⟨trivial, trivial⟩ ?_
      exact pw_ret hT rfl (r := some (pvI (-1))) (M' := M) ⟨rfl, rfl⟩ ⟨⟨_, rfl, (zr_wide (show (-1) ≤ Int32.toInt (-1) ∧ Int32.toInt (-1) ≤ (-1) from (by decide)) (by decide) (by decide))⟩, hok, pvfr_0⟩
    · refine pw_eqI (if_neg c10_) ?_
      have b13_ : 0 ≤ Int32.toInt n1 ∧ Int32.toInt n1 ≤ 1 := zr_nlt_r 1 c10_ b9_ (show 1 ≤ Int32.toInt 1 ∧ Int32.toInt 1 ≤ 1 from (by decide)) (by decide)
      show PW 200 d (6, [some (pvR 0), some (pvI n1), none, none, none, none], [pvI 1], M) _
      refine pw_ifn hT (c := 1 = 0) rfl rfl (fun c14_ => ?_) (fun c14_ => absurd c14_ (by decide))
      refine pw_blk hT 2 (S' := (15, [some (pvR 0), some (pvI n1), none, none, none, none], [pvR 5], M)) rfl ⟨trivial, rfl, trivial⟩ ?_
      refine pw_callV hT (as := [pvR 5]) (lo1 := [some (pvR 5)]) (d1 := d) (rest := []) rfl rfl rfl rfl rfl (fun _ => rfl) (Nat.zero_le _) rfl rfl rfl (sf_X1_beginFromNow_5 M hok d) (fun M16_ o18_ g19_ => ?_)
      have f20_ : pvFr fp_X9_sides_0_x M M16_ := pvfr_t g19_ pvfr_0 fp_X9_sides_0_x_fp_X1_beginFromNow_5
      refine pw_blk hT 6 (S' := (25, [some (pvR 0), some (pvI n1), some (pvI 0), some (pvI (-1)), some (pvI 0), none], [], M16_)) rfl ⟨trivial, trivial, trivial, trivial, trivial, trivial, trivial⟩ ?_
      have hlz124_ : ∀ (nz124_ : Nat) (i2z124_ : Int32) (i3z124_ : Int32) (i4z124_ : Int32) (v5z124_ : Option pvV) (Mz124_ : pvM), (pvOk Mz124_) → (pvFr fp_X9_sides_0_x M Mz124_) → (0 ≤ Int32.toInt i2z124_ ∧ Int32.toInt i2z124_ ≤ 2147483647) → ((-1) ≤ Int32.toInt i3z124_ ∧ Int32.toInt i3z124_ ≤ 2147483647) → (0 ≤ Int32.toInt i4z124_ ∧ Int32.toInt i4z124_ ≤ 4) → (zhide ((5 - Int32.toInt i4z124_).toNat < nz124_)) → PW 200 d (25, [some (pvR 0), some (pvI n1), some (pvI i2z124_), some (pvI i3z124_), some (pvI i4z124_), v5z124_], [], Mz124_) (fun r X => (∃ x : Int32, r = some (pvI x) ∧ (-1) ≤ Int32.toInt x ∧ Int32.toInt x ≤ 2147483647) ∧ pvOk X ∧ pvFr fp_X9_sides_0_x M X) := by
        intro nz124_
        induction nz124_ with
        | zero => intro i2z124_ i3z124_ i4z124_ v5z124_ Mz124_ oz124_ fz124_ h2z124_ h3z124_ h4z124_ hmz124_; exact absurd (zshow hmz124_) (Nat.not_lt_zero _)
        | succ nz124_ ihz124_ =>
          intro i2z124_ i3z124_ i4z124_ v5z124_ Mz124_ oz124_ fz124_ h2z124_ h3z124_ h4z124_ hmz124_
          refine pw_blk hT 2 (S' := (28, [some (pvR 0), some (pvI n1), some (pvI i2z124_), some (pvI i3z124_), some (pvI i4z124_), v5z124_], [pvI 4, pvI i4z124_], Mz124_)) rfl ⟨trivial, trivial, trivial⟩ ?_
          refine pw_ic hT (c := 4 ≤ i4z124_) rfl rfl (fun c125_ => ?_) (fun c125_ => ?_)
          · have b126_ : 4 ≤ Int32.toInt i4z124_ ∧ Int32.toInt i4z124_ ≤ 4 := zr_le_r 4 c125_ h4z124_ (show 4 ≤ Int32.toInt 4 ∧ Int32.toInt 4 ≤ 4 from (by decide)) (by decide)
            refine pw_blk hT 1 (S' := (68, [some (pvR 0), some (pvI n1), some (pvI i2z124_), some (pvI i3z124_), some (pvI i4z124_), v5z124_], [pvI n1], Mz124_)) rfl ⟨trivial, trivial⟩ ?_
            refine pw_ifn hT (c := n1 = 0) rfl rfl (fun c127_ => ?_) (fun c127_ => ?_)
            · have b128_ : 1 ≤ Int32.toInt n1 ∧ Int32.toInt n1 ≤ 1 := (by have u0 := b13_; have u1 := (not_congr (zi_eq _ _)).mp c127_; have u2 := (show 0 ≤ Int32.toInt 0 ∧ Int32.toInt 0 ≤ 0 from (by decide)); omega)
              refine pw_blk hT 1 (S' := (76, [some (pvR 0), some (pvI n1), some (pvI i2z124_), some (pvI i3z124_), some (pvI i4z124_), v5z124_], [pvI i3z124_], Mz124_)) rfl ⟨trivial, trivial⟩ ?_
              exact pw_ret hT rfl (r := some (pvI i3z124_)) (M' := Mz124_) ⟨rfl, rfl⟩ ⟨⟨_, rfl, h3z124_⟩, oz124_, fz124_⟩
            · have b129_ : 0 ≤ Int32.toInt n1 ∧ Int32.toInt n1 ≤ 0 := (by have u0 := b13_; have u1 := (zi_eq _ _).mp c127_; have u2 := (show 0 ≤ Int32.toInt 0 ∧ Int32.toInt 0 ≤ 0 from (by decide)); omega)
              refine pw_blk hT 2 (S' := (76, [some (pvR 0), some (pvI n1), some (pvI i2z124_), some (pvI i3z124_), some (pvI i4z124_), v5z124_], [pvI i2z124_], Mz124_)) rfl ⟨trivial, trivial, trivial⟩ ?_
              exact pw_ret hT rfl (r := some (pvI i2z124_)) (M' := Mz124_) ⟨rfl, rfl⟩ ⟨⟨_, rfl, (zr_wide h2z124_ (by decide) (by decide))⟩, oz124_, fz124_⟩
          · have b130_ : 0 ≤ Int32.toInt i4z124_ ∧ Int32.toInt i4z124_ ≤ 3 := zr_nle_r 3 c125_ h4z124_ (show 4 ≤ Int32.toInt 4 ∧ Int32.toInt 4 ≤ 4 from (by decide)) (by decide)
            refine pw_blk hT 3 (S' := (37, [some (pvR 0), some (pvI n1), some (pvI i2z124_), some (pvI i3z124_), some (pvI i4z124_), v5z124_], [pvI i4z124_, pvR 5], Mz124_)) rfl ⟨trivial, rfl, trivial, trivial⟩ ?_
            refine pw_callV hT (as := [pvR 5, pvI i4z124_]) (lo1 := [some (pvR 5), some (pvI i4z124_), none]) (d1 := d) (rest := []) rfl rfl rfl rfl rfl (fun _ => rfl) (Nat.zero_le _) rfl rfl rfl (sf_X1_turnTo_5_x Mz124_ oz124_ i4z124_ d) (fun M132_ o134_ g135_ => ?_)
            have f136_ : pvFr fp_X9_sides_0_x M M132_ := pvfr_t g135_ fz124_ fp_X9_sides_0_x_fp_X1_turnTo_5_x
            refine pw_blk hT 2 (S' := (44, [some (pvR 0), some (pvI n1), some (pvI i2z124_), some (pvI i3z124_), some (pvI i4z124_), v5z124_], [pvR 5], M132_)) rfl ⟨trivial, rfl, trivial⟩ ?_
            refine pw_callGp hT (as := [pvR 5]) (lo1 := [some (pvR 5)]) (d1 := d) (rest := []) rfl rfl rfl rfl rfl (fun _ => rfl) (Nat.zero_le _) rfl rfl rfl (sf_X1_cost_5 M132_ o134_ d) (fun x137_ b139_ => ?_)
            refine pw_blk hT 3 (S' := (52, [some (pvR 0), some (pvI n1), some (pvI i2z124_), some (pvI i3z124_), some (pvI i4z124_), some (pvI x137_)], [pvI i3z124_, pvI x137_], M132_)) rfl ⟨trivial, trivial, trivial, trivial⟩ ?_
            refine pw_ic hT (c := x137_ ≤ i3z124_) rfl rfl (fun c142_ => ?_) (fun c142_ => ?_)
            · have d143_ : Int32.toInt x137_ ≤ Int32.toInt i3z124_ := (zi_le _ _).mp c142_
              obtain ⟨q145_, b144_⟩ : (Int32.toInt (i4z124_ + 1) = Int32.toInt i4z124_ + 1) ∧ (1 ≤ Int32.toInt (i4z124_ + 1) ∧ Int32.toInt (i4z124_ + 1) ≤ 4) := zadd_k i4z124_ 1 1 1 4 b130_ (by decide) (by decide) (by decide) (by decide) (by decide)
              refine pw_blk hT 2 (S' := (25, [some (pvR 0), some (pvI n1), some (pvI i2z124_), some (pvI i3z124_), some (pvI (i4z124_ + 1)), some (pvI x137_)], [], M132_)) rfl ⟨trivial, trivial, trivial⟩ ?_
              exact ihz124_ i2z124_ i3z124_ (i4z124_ + 1) (some (pvI x137_)) M132_ o134_ f136_ h2z124_ h3z124_ (zr_wide b144_ (by decide) (by decide)) (zhid (pvms_up (zshow hmz124_) h4z124_ q145_ (by decide) (by decide)))
            · have b146_ : 0 ≤ Int32.toInt x137_ ∧ Int32.toInt x137_ ≤ 2147483647 := zr_nle_l 0 c142_ (zbnd x137_) h3z124_ (by decide)
              have b147_ : (-1) ≤ Int32.toInt i3z124_ ∧ Int32.toInt i3z124_ ≤ 2147483646 := zr_nle_r 2147483646 c142_ h3z124_ b146_ (by decide)
              have d148_ : Int32.toInt x137_ > Int32.toInt i3z124_ := Int.not_le.mp ((not_congr (zi_le _ _)).mp c142_)
              obtain ⟨q150_, b149_⟩ : (Int32.toInt (i4z124_ + 1) = Int32.toInt i4z124_ + 1) ∧ (1 ≤ Int32.toInt (i4z124_ + 1) ∧ Int32.toInt (i4z124_ + 1) ≤ 4) := zadd_k i4z124_ 1 1 1 4 b130_ (by decide) (by decide) (by decide) (by decide) (by decide)
              refine pw_blk hT 6 (S' := (25, [some (pvR 0), some (pvI n1), some (pvI i4z124_), some (pvI x137_), some (pvI (i4z124_ + 1)), some (pvI x137_)], [], M132_)) rfl ⟨trivial, trivial, trivial, trivial, trivial, trivial, trivial⟩ ?_
              exact ihz124_ i4z124_ x137_ (i4z124_ + 1) (some (pvI x137_)) M132_ o134_ f136_ (zr_wide b130_ (by decide) (by decide)) (zr_wide b146_ (by decide) (by decide)) (zr_wide b149_ (by decide) (by decide)) (zhid (pvms_up (zshow hmz124_) h4z124_ q150_ (by decide) (by decide)))
      exact hlz124_ _ 0 (-1) 0 none M16_ o18_ f20_ (zr_wide (show 0 ≤ Int32.toInt 0 ∧ Int32.toInt 0 ≤ 0 from (by decide)) (by decide) (by decide)) (zr_wide (show (-1) ≤ Int32.toInt (-1) ∧ Int32.toInt (-1) ≤ (-1) from (by decide)) (by decide) (by decide)) (zr_wide (show 0 ≤ Int32.toInt 0 ∧ Int32.toInt 0 ≤ 0 from (by decide)) (by decide) (by decide)) (zhid (Nat.lt_succ_self _))
def fpL_X8_become_x_x_x : List (Nat × Nat × Nat) := [(1, 7, 1), (1, 7, 2)]
def fp_X8_become_x_x_x (q k : Nat) : Bool := pvfp fpL_X8_become_x_x_x q k
set_option maxHeartbeats 4000000 in
set_option maxRecDepth 10000 in
theorem sf_X8_become_x_x_x (M : pvM) (hok : pvOk M) (q0 : Nat) (n1 : Int32) (n2 : Int32) (hq0 : pvkl q0 = 7) (hn1 : (-1) ≤ Int32.toInt n1 ∧ Int32.toInt n1 ≤ 4) (d : Nat) : PW 162 d (0, [some (pvR q0), some (pvI n1), some (pvI n2), none], [], M) (fun r X => r = none ∧ pvOk X ∧ pvFr fp_X8_become_x_x_x M X) := by
  have hT : pvdom 162 = pvD_162 := rfl
  refine pw_blkw hT 3 (pc := 5) (lo := [some (pvR q0), some (pvI n1), some (pvI n2), none]) (st := []) (M := pvu M q0 0 n1) rfl ⟨trivial, trivial, hq0, trivial⟩ (fun M1_ e2_ => ?_)
  have o3_ : pvOk M1_ := pvok_u2 e2_ hok ((pvrg_o 0 hq0 (by decide) (by decide)).trans rfl) hn1
  have f4_ : pvFr fp_X8_become_x_x_x M M1_ := pvfr_u e2_ pvfr_0 (pvfp_r (l := fpL_X8_become_x_x_x) (pvowr_7 hq0) (kk := 1) (by decide) (Or.inr rfl))
  have q5_ : Int32.toInt (if 60 < n2 then 60 else n2) = min (Int32.toInt n2) (Int32.toInt 60) := pvmin n2 60
  have b6_ : (-2147483648) ≤ Int32.toInt (if 60 < n2 then 60 else n2) ∧ Int32.toInt (if 60 < n2 then 60 else n2) ≤ 60 := (by have u0 := (zbnd n2); have u1 := (show 60 ≤ Int32.toInt 60 ∧ Int32.toInt 60 ≤ 60 from (by decide)); omega)
  have q7_ : Int32.toInt (if 0 < (if 60 < n2 then 60 else n2) then (if 60 < n2 then 60 else n2) else 0) = max (Int32.toInt 0) (Int32.toInt (if 60 < n2 then 60 else n2)) := pvmax 0 (if 60 < n2 then 60 else n2)
  have b8_ : 0 ≤ Int32.toInt (if 0 < (if 60 < n2 then 60 else n2) then (if 60 < n2 then 60 else n2) else 0) ∧ Int32.toInt (if 0 < (if 60 < n2 then 60 else n2) then (if 60 < n2 then 60 else n2) else 0) ≤ 60 := (by have u0 := (show 0 ≤ Int32.toInt 0 ∧ Int32.toInt 0 ≤ 0 from (by decide)); have u1 := b6_; omega)
  refine pw_blkw hT 7 (pc := 19) (lo := [some (pvR q0), some (pvI n1), some (pvI n2), none]) (st := []) (M := pvu M1_ q0 1 (if 0 < (if 60 < n2 then 60 else n2) then (if 60 < n2 then 60 else n2) else 0)) rfl ⟨trivial, trivial, trivial, trivial, (Nat.le_of_ble_eq_true rfl), (Nat.le_of_ble_eq_true rfl), hq0, trivial⟩ (fun M9_ e10_ => ?_)
  have o11_ : pvOk M9_ := pvok_u2 e10_ o3_ ((pvrg_o 1 hq0 (by decide) (by decide)).trans rfl) b8_
  have f12_ : pvFr fp_X8_become_x_x_x M M9_ := pvfr_u e10_ f4_ (pvfp_r (l := fpL_X8_become_x_x_x) (pvowr_7 hq0) (kk := 2) (by decide) (Or.inr rfl))
  refine pw_blk hT 2 (S' := (21, [some (pvR q0), some (pvI n1), some (pvI n2), some (pvI 0)], [], M9_)) rfl ⟨trivial, trivial, trivial⟩ ?_
  have hlz65_ : ∀ (nz65_ : Nat) (i3z65_ : Int32) (Mz65_ : pvM), (pvOk Mz65_) → (pvFr fp_X8_become_x_x_x M Mz65_) → (0 ≤ Int32.toInt i3z65_ ∧ Int32.toInt i3z65_ ≤ 60) → (zhide ((61 - Int32.toInt i3z65_).toNat < nz65_)) → PW 162 d (21, [some (pvR q0), some (pvI n1), some (pvI n2), some (pvI i3z65_)], [], Mz65_) (fun r X => r = none ∧ pvOk X ∧ pvFr fp_X8_become_x_x_x M X) := by
    intro nz65_
    induction nz65_ with
    | zero => intro i3z65_ Mz65_ oz65_ fz65_ h3z65_ hmz65_; exact absurd (zshow hmz65_) (Nat.not_lt_zero _)
    | succ nz65_ ihz65_ =>
      intro i3z65_ Mz65_ oz65_ fz65_ h3z65_ hmz65_
      have b66_ : 0 ≤ Int32.toInt (Mz65_.1 q0 1) ∧ Int32.toInt (Mz65_.1 q0 1) ≤ 60 := pvok_r oz65_ q0 1 ((pvrg_o 1 hq0 (by decide) (by decide)).trans rfl)
      refine pw_blk hT 3 (S' := (26, [some (pvR q0), some (pvI n1), some (pvI n2), some (pvI i3z65_)], [pvI (Mz65_.1 q0 1), pvI i3z65_], Mz65_)) rfl ⟨trivial, trivial, hq0, trivial⟩ ?_
      refine pw_ic hT (c := (Mz65_.1 q0 1) ≤ i3z65_) rfl rfl (fun c67_ => ?_) (fun c67_ => ?_)
      · have d68_ : Int32.toInt (Mz65_.1 q0 1) ≤ Int32.toInt i3z65_ := (zi_le _ _).mp c67_
        exact pw_ret hT rfl (r := none) (M' := Mz65_) ⟨rfl, rfl⟩ ⟨rfl, oz65_, fz65_⟩
      · have b69_ : 1 ≤ Int32.toInt (Mz65_.1 q0 1) ∧ Int32.toInt (Mz65_.1 q0 1) ≤ 60 := zr_nle_l 1 c67_ b66_ h3z65_ (by decide)
        have b70_ : 0 ≤ Int32.toInt i3z65_ ∧ Int32.toInt i3z65_ ≤ 59 := zr_nle_r 59 c67_ h3z65_ b69_ (by decide)
        have d71_ : Int32.toInt (Mz65_.1 q0 1) > Int32.toInt i3z65_ := Int.not_le.mp ((not_congr (zi_le _ _)).mp c67_)
        refine pw_blkw hT 5 (pc := 36) (lo := [some (pvR q0), some (pvI n1), some (pvI n2), some (pvI i3z65_)]) (st := []) (M := pvw Mz65_ (q0 + 6) (Int32.toNatClampNeg i3z65_) 0) rfl ⟨trivial, hq0, trivial, trivial, ⟨(pvow_7_6 hq0).1, (by rw [(pvow_7_6 hq0).2.1]; exact (zr_in (n := 60) b70_ (by decide) (by decide)))⟩, trivial⟩ (fun M72_ e73_ => ?_)
        have o74_ : pvOk M72_ := pvok_w e73_ oz65_
        have f75_ : pvFr fp_X8_become_x_x_x M M72_ := pvfr_w e73_ fz65_
        obtain ⟨q77_, b76_⟩ : (Int32.toInt (i3z65_ + 1) = Int32.toInt i3z65_ + 1) ∧ (1 ≤ Int32.toInt (i3z65_ + 1) ∧ Int32.toInt (i3z65_ + 1) ≤ 60) := zadd_k i3z65_ 1 1 1 60 b70_ (by decide) (by decide) (by decide) (by decide) (by decide)
        refine pw_blk hT 2 (S' := (21, [some (pvR q0), some (pvI n1), some (pvI n2), some (pvI (i3z65_ + 1))], [], M72_)) rfl ⟨trivial, trivial, trivial⟩ ?_
        exact ihz65_ (i3z65_ + 1) M72_ o74_ f75_ (zr_wide b76_ (by decide) (by decide)) (zhid (pvms_up (zshow hmz65_) h3z65_ q77_ (by decide) (by decide)))
  exact hlz65_ _ 0 M9_ o11_ f12_ (zr_wide (show 0 ≤ Int32.toInt 0 ∧ Int32.toInt 0 ≤ 0 from (by decide)) (by decide) (by decide)) (zhid (Nat.lt_succ_self _))
set_option maxHeartbeats 4000000 in
set_option maxRecDepth 10000 in
theorem sf_X9_told_0_x (M : pvM) (hok : pvOk M) (n1 : Int32) (d : Nat) : PW 205 d (0, [some (pvR 0), some (pvI n1)], [], M) (fun r X => (∃ x : Int32, r = some (pvI x) ∧ True) ∧ X = M) := by
  have hT : pvdom 205 = pvD_205 := rfl
  refine pw_blk hT 1 (S' := (1, [some (pvR 0), some (pvI n1)], [pvI n1], M)) rfl ⟨trivial, trivial⟩ ?_
  refine pw_sw hT rfl rfl ?_
  refine And.intro (fun c1_ => ?_) (fun c1_ => ?_)
  · show PW 205 d (52, [some (pvR 0), some (pvI n1)], [], M) _
    have b2_ : 0 ≤ Int32.toInt n1 ∧ Int32.toInt n1 ≤ 0 := (by have u0 := (zbnd n1); have u1 := (zi_eq _ _).mp c1_; have u2 := (show 0 ≤ Int32.toInt 0 ∧ Int32.toInt 0 ≤ 0 from (by decide)); omega)
    have b3_ : 0 ≤ Int32.toInt (M.1 8 4) ∧ Int32.toInt (M.1 8 4) ≤ 9999 := pvok_r hok 8 4 rfl
    refine pw_blk hT 3 (S' := (59, [some (pvR 0), some (pvI n1)], [pvI (M.1 8 4)], M)) rfl ⟨trivial, rfl, rfl, trivial⟩ ?_
    exact pw_ret hT rfl (r := some (pvI (M.1 8 4))) (M' := M) ⟨rfl, rfl⟩ ⟨⟨_, rfl, trivial⟩, rfl⟩
  · refine And.intro (fun c4_ => ?_) (fun c4_ => ?_)
    · show PW 205 d (60, [some (pvR 0), some (pvI n1)], [], M) _
      have b5_ : 1 ≤ Int32.toInt n1 ∧ Int32.toInt n1 ≤ 1 := (by have u0 := (zbnd n1); have u1 := (zi_eq _ _).mp c4_; have u2 := (show 1 ≤ Int32.toInt 1 ∧ Int32.toInt 1 ≤ 1 from (by decide)); omega)
      refine pw_blk hT 3 (S' := (67, [some (pvR 0), some (pvI n1)], [pvI (M.1 8 5)], M)) rfl ⟨trivial, rfl, rfl, trivial⟩ ?_
      exact pw_ret hT rfl (r := some (pvI (M.1 8 5))) (M' := M) ⟨rfl, rfl⟩ ⟨⟨_, rfl, trivial⟩, rfl⟩
    · refine And.intro (fun c6_ => ?_) (fun c6_ => ?_)
      · show PW 205 d (68, [some (pvR 0), some (pvI n1)], [], M) _
        have b7_ : 2 ≤ Int32.toInt n1 ∧ Int32.toInt n1 ≤ 2 := (by have u0 := (zbnd n1); have u1 := (zi_eq _ _).mp c6_; have u2 := (show 2 ≤ Int32.toInt 2 ∧ Int32.toInt 2 ≤ 2 from (by decide)); omega)
        have b8_ : 0 ≤ Int32.toInt (M.1 8 2) ∧ Int32.toInt (M.1 8 2) ≤ 99 := pvok_r hok 8 2 rfl
        refine pw_blk hT 3 (S' := (75, [some (pvR 0), some (pvI n1)], [pvI (M.1 8 2)], M)) rfl ⟨trivial, rfl, rfl, trivial⟩ ?_
        exact pw_ret hT rfl (r := some (pvI (M.1 8 2))) (M' := M) ⟨rfl, rfl⟩ ⟨⟨_, rfl, trivial⟩, rfl⟩
      · refine And.intro (fun c9_ => ?_) (fun c9_ => ?_)
        · show PW 205 d (76, [some (pvR 0), some (pvI n1)], [], M) _
          have b10_ : 3 ≤ Int32.toInt n1 ∧ Int32.toInt n1 ≤ 3 := (by have u0 := (zbnd n1); have u1 := (zi_eq _ _).mp c9_; have u2 := (show 3 ≤ Int32.toInt 3 ∧ Int32.toInt 3 ≤ 3 from (by decide)); omega)
          have b11_ : 0 ≤ Int32.toInt (M.1 8 3) ∧ Int32.toInt (M.1 8 3) ≤ 3 := pvok_r hok 8 3 rfl
          refine pw_blk hT 3 (S' := (83, [some (pvR 0), some (pvI n1)], [pvI (M.1 8 3)], M)) rfl ⟨trivial, rfl, rfl, trivial⟩ ?_
          exact pw_ret hT rfl (r := some (pvI (M.1 8 3))) (M' := M) ⟨rfl, rfl⟩ ⟨⟨_, rfl, trivial⟩, rfl⟩
        · refine And.intro (fun c12_ => ?_) (fun c12_ => ?_)
          · show PW 205 d (84, [some (pvR 0), some (pvI n1)], [], M) _
            have b13_ : 4 ≤ Int32.toInt n1 ∧ Int32.toInt n1 ≤ 4 := (by have u0 := (zbnd n1); have u1 := (zi_eq _ _).mp c12_; have u2 := (show 4 ≤ Int32.toInt 4 ∧ Int32.toInt 4 ≤ 4 from (by decide)); omega)
            have b14_ : 15 ≤ Int32.toInt (M.1 8 8) ∧ Int32.toInt (M.1 8 8) ≤ 23 := pvok_r hok 8 8 rfl
            refine pw_blkr hT 3 (pc := 91) (lo := [some (pvR 0), some (pvI n1)]) (st := []) (M := M) (z := (pvhp (M.1 8 8))) rfl ⟨trivial, rfl, rfl, trivial⟩ (fun q15_ e17_ => ?_)
            have k16_ : pvkl q15_ = 2 := pvhp_k b14_ e17_
            have b18_ : 0 ≤ Int32.toInt (M.1 q15_ 0) ∧ Int32.toInt (M.1 q15_ 0) ≤ 99 := pvok_r hok q15_ 0 ((pvrg_o 0 k16_ (by decide) (by decide)).trans rfl)
            refine pw_blk hT 1 (S' := (94, [some (pvR 0), some (pvI n1)], [pvI (M.1 q15_ 0)], M)) rfl ⟨k16_, trivial⟩ ?_
            exact pw_ret hT rfl (r := some (pvI (M.1 q15_ 0))) (M' := M) ⟨rfl, rfl⟩ ⟨⟨_, rfl, trivial⟩, rfl⟩
          · refine And.intro (fun c19_ => ?_) (fun c19_ => ?_)
            · show PW 205 d (95, [some (pvR 0), some (pvI n1)], [], M) _
              have b20_ : 5 ≤ Int32.toInt n1 ∧ Int32.toInt n1 ≤ 5 := (by have u0 := (zbnd n1); have u1 := (zi_eq _ _).mp c19_; have u2 := (show 5 ≤ Int32.toInt 5 ∧ Int32.toInt 5 ≤ 5 from (by decide)); omega)
              have b21_ : 15 ≤ Int32.toInt (M.1 8 8) ∧ Int32.toInt (M.1 8 8) ≤ 23 := pvok_r hok 8 8 rfl
              refine pw_blkr hT 3 (pc := 102) (lo := [some (pvR 0), some (pvI n1)]) (st := []) (M := M) (z := (pvhp (M.1 8 8))) rfl ⟨trivial, rfl, rfl, trivial⟩ (fun q22_ e24_ => ?_)
              have k23_ : pvkl q22_ = 2 := pvhp_k b21_ e24_
              have b25_ : 0 ≤ Int32.toInt (M.1 q22_ 1) ∧ Int32.toInt (M.1 q22_ 1) ≤ 99 := pvok_r hok q22_ 1 ((pvrg_o 1 k23_ (by decide) (by decide)).trans rfl)
              refine pw_blk hT 1 (S' := (105, [some (pvR 0), some (pvI n1)], [pvI (M.1 q22_ 1)], M)) rfl ⟨k23_, trivial⟩ ?_
              exact pw_ret hT rfl (r := some (pvI (M.1 q22_ 1))) (M' := M) ⟨rfl, rfl⟩ ⟨⟨_, rfl, trivial⟩, rfl⟩
            · refine And.intro (fun c26_ => ?_) (fun c26_ => ?_)
              · show PW 205 d (106, [some (pvR 0), some (pvI n1)], [], M) _
                have b27_ : 6 ≤ Int32.toInt n1 ∧ Int32.toInt n1 ≤ 6 := (by have u0 := (zbnd n1); have u1 := (zi_eq _ _).mp c26_; have u2 := (show 6 ≤ Int32.toInt 6 ∧ Int32.toInt 6 ≤ 6 from (by decide)); omega)
                have b28_ : 0 ≤ Int32.toInt (M.1 8 6) ∧ Int32.toInt (M.1 8 6) ≤ 3 := pvok_r hok 8 6 rfl
                refine pw_blk hT 3 (S' := (113, [some (pvR 0), some (pvI n1)], [pvI (M.1 8 6)], M)) rfl ⟨trivial, rfl, rfl, trivial⟩ ?_
                exact pw_ret hT rfl (r := some (pvI (M.1 8 6))) (M' := M) ⟨rfl, rfl⟩ ⟨⟨_, rfl, trivial⟩, rfl⟩
              · refine And.intro (fun c29_ => ?_) (fun c29_ => ?_)
                · show PW 205 d (114, [some (pvR 0), some (pvI n1)], [], M) _
                  have b30_ : 7 ≤ Int32.toInt n1 ∧ Int32.toInt n1 ≤ 7 := (by have u0 := (zbnd n1); have u1 := (zi_eq _ _).mp c29_; have u2 := (show 7 ≤ Int32.toInt 7 ∧ Int32.toInt 7 ≤ 7 from (by decide)); omega)
                  have b31_ : 0 ≤ Int32.toInt (M.1 8 7) ∧ Int32.toInt (M.1 8 7) ≤ 4 := pvok_r hok 8 7 rfl
                  refine pw_blk hT 3 (S' := (121, [some (pvR 0), some (pvI n1)], [pvI (M.1 8 7)], M)) rfl ⟨trivial, rfl, rfl, trivial⟩ ?_
                  exact pw_ret hT rfl (r := some (pvI (M.1 8 7))) (M' := M) ⟨rfl, rfl⟩ ⟨⟨_, rfl, trivial⟩, rfl⟩
                · refine And.intro (fun c32_ => ?_) (fun c32_ => ?_)
                  · show PW 205 d (122, [some (pvR 0), some (pvI n1)], [], M) _
                    have b33_ : 8 ≤ Int32.toInt n1 ∧ Int32.toInt n1 ≤ 8 := (by have u0 := (zbnd n1); have u1 := (zi_eq _ _).mp c32_; have u2 := (show 8 ≤ Int32.toInt 8 ∧ Int32.toInt 8 ≤ 8 from (by decide)); omega)
                    refine pw_blk hT 2 (S' := (126, [some (pvR 0), some (pvI n1)], [pvR 8], M)) rfl ⟨trivial, rfl, trivial⟩ ?_
                    refine pw_callGp hT (as := [pvR 8]) (lo1 := [some (pvR 8), none, none]) (d1 := d) (rest := []) rfl rfl rfl rfl rfl (fun _ => rfl) (Nat.zero_le _) rfl rfl rfl (sf_X7_openBits_8 M hok d) (fun x34_ b36_ => ?_)
                    exact pw_ret hT rfl (r := some (pvI x34_)) (M' := M) ⟨rfl, rfl⟩ ⟨⟨_, rfl, trivial⟩, rfl⟩
                  · show PW 205 d (130, [some (pvR 0), some (pvI n1)], [], M) _
                    refine pw_blk hT 1 (S' := (131, [some (pvR 0), some (pvI n1)], [pvI (-1)], M)) rfl ⟨trivial, trivial⟩ ?_
                    exact pw_ret hT rfl (r := some (pvI (-1))) (M' := M) ⟨rfl, rfl⟩ ⟨⟨_, rfl, trivial⟩, rfl⟩
def fpL_X1_goAsTwo_5 : List (Nat × Nat × Nat) := [(0, 12, 0)]
def fp_X1_goAsTwo_5 (q k : Nat) : Bool := pvfp fpL_X1_goAsTwo_5 q k
theorem fp_X1_goAsTwo_5_fp_X1_goAlong_5_100_x_x_x (a b : Nat) (h : fp_X1_goAlong_5_100_x_x_x a b = true) : fp_X1_goAsTwo_5 a b = true := pvfp_sub (l1 := fpL_X1_goAlong_5_100_x_x_x) (l2 := fpL_X1_goAsTwo_5) (by decide) a b h
set_option maxHeartbeats 4000000 in
set_option maxRecDepth 10000 in
theorem sf_X1_goAsTwo_5 (M : pvM) (hok : pvOk M) (d : Nat) : PW 110 d (0, [some (pvR 5), none, none, none], [], M) (fun r X => (∃ x : Int32, r = some (pvI x) ∧ 0 ≤ Int32.toInt x ∧ Int32.toInt x ≤ 64000) ∧ pvOk X ∧ pvFr fp_X1_goAsTwo_5 M X) := by
  have hT : pvdom 110 = pvD_110 := rfl
  have b1_ : 0 ≤ Int32.toInt (M.1 100 0) ∧ Int32.toInt (M.1 100 0) ≤ 7 := pvok_r hok 100 0 rfl
  have q2_ : Int32.toInt ((M.1 100 0) / 2) = Int32.toInt (M.1 100 0) / 2 := by have u0 := b1_; have u := zdiv_p (M.1 100 0) 2 (by omega) (by decide) (by decide); have e0 : nI 2 = (2 : Int32) := rfl; rw [e0] at u; omega
  have b3_ : 0 ≤ Int32.toInt ((M.1 100 0) / 2) ∧ Int32.toInt ((M.1 100 0) / 2) ≤ 3 := (by have u0 := b1_; omega)
  obtain ⟨q5_, b4_⟩ : (Int32.toInt ((M.1 100 0) - ((M.1 100 0) / 2)) = Int32.toInt (M.1 100 0) - Int32.toInt ((M.1 100 0) / 2)) ∧ ((-3) ≤ Int32.toInt ((M.1 100 0) - ((M.1 100 0) / 2)) ∧ Int32.toInt ((M.1 100 0) - ((M.1 100 0) / 2)) ≤ 7) := zsub_r (M.1 100 0) ((M.1 100 0) / 2) (-3) 7 b1_ b3_ (by decide) (by decide) (by decide) (by decide)
  have b6_ : 0 ≤ Int32.toInt (M.1 8 4) ∧ Int32.toInt (M.1 8 4) ≤ 9999 := pvok_r hok 8 4 rfl
  refine pw_blk hT 20 (S' := (34, [some (pvR 5), some (pvI (M.1 100 0)), some (pvI ((M.1 100 0) - ((M.1 100 0) / 2))), none], [pvI (M.1 8 4), pvI ((M.1 100 0) - ((M.1 100 0) / 2)), pvI 0, pvR 100, pvR 5], M)) rfl ⟨trivial, rfl, rfl, rfl, trivial, trivial, trivial, trivial, (by decide), trivial, trivial, trivial, trivial, rfl, rfl, trivial, trivial, trivial, rfl, rfl, trivial⟩ ?_
  refine pw_callG hT (as := [pvR 5, pvR 100, pvI 0, pvI ((M.1 100 0) - ((M.1 100 0) / 2)), pvI (M.1 8 4)]) (lo1 := [some (pvR 5), some (pvR 100), some (pvI 0), some (pvI ((M.1 100 0) - ((M.1 100 0) / 2))), some (pvI (M.1 8 4)), none, none, none, none, none]) (d1 := d) (rest := []) rfl rfl rfl rfl rfl (fun _ => rfl) (Nat.zero_le _) rfl rfl rfl (sf_X1_goAlong_5_100_x_x_x M hok 0 ((M.1 100 0) - ((M.1 100 0) / 2)) (M.1 8 4) (zr_wide (show 0 ≤ Int32.toInt 0 ∧ Int32.toInt 0 ≤ 0 from (by decide)) (by decide) (by decide)) (by have u0 := b4_; omega) (zr_wide b6_ (by decide) (by decide)) d) (fun x7_ M8_ b9_ o10_ g11_ => ?_)
  have f12_ : pvFr fp_X1_goAsTwo_5 M M8_ := pvfr_t g11_ pvfr_0 fp_X1_goAsTwo_5_fp_X1_goAlong_5_100_x_x_x
  have b13_ : 0 ≤ Int32.toInt (M8_.1 8 4) ∧ Int32.toInt (M8_.1 8 4) ≤ 9999 := pvok_r o10_ 8 4 rfl
  refine pw_blk hT 11 (S' := (56, [some (pvR 5), some (pvI (M.1 100 0)), some (pvI ((M.1 100 0) - ((M.1 100 0) / 2))), some (pvI x7_)], [pvI (M8_.1 8 4), pvI (M.1 100 0), pvI ((M.1 100 0) - ((M.1 100 0) / 2)), pvR 100, pvR 5, pvI x7_], M8_)) rfl ⟨trivial, trivial, trivial, trivial, rfl, rfl, trivial, trivial, trivial, rfl, rfl, trivial⟩ ?_
  refine pw_callG hT (as := [pvR 5, pvR 100, pvI ((M.1 100 0) - ((M.1 100 0) / 2)), pvI (M.1 100 0), pvI (M8_.1 8 4)]) (lo1 := [some (pvR 5), some (pvR 100), some (pvI ((M.1 100 0) - ((M.1 100 0) / 2))), some (pvI (M.1 100 0)), some (pvI (M8_.1 8 4)), none, none, none, none, none]) (d1 := d) (rest := [pvI x7_]) rfl rfl rfl rfl rfl (fun _ => rfl) (Nat.zero_le _) rfl rfl rfl (sf_X1_goAlong_5_100_x_x_x M8_ o10_ ((M.1 100 0) - ((M.1 100 0) / 2)) (M.1 100 0) (M8_.1 8 4) (by have u0 := b4_; omega) b1_ (zr_wide b13_ (by decide) (by decide)) d) (fun x14_ M15_ b16_ o17_ g18_ => ?_)
  have f19_ : pvFr fp_X1_goAsTwo_5 M M15_ := pvfr_t g18_ f12_ fp_X1_goAsTwo_5_fp_X1_goAlong_5_100_x_x_x
  have q20_ : Int32.toInt (if x7_ < x14_ then x14_ else x7_) = max (Int32.toInt x7_) (Int32.toInt x14_) := pvmax x7_ x14_
  have b21_ : 0 ≤ Int32.toInt (if x7_ < x14_ then x14_ else x7_) ∧ Int32.toInt (if x7_ < x14_ then x14_ else x7_) ≤ 64000 := (by have u0 := b9_; have u1 := b16_; omega)
  refine pw_blk hT 1 (S' := (62, [some (pvR 5), some (pvI (M.1 100 0)), some (pvI ((M.1 100 0) - ((M.1 100 0) / 2))), some (pvI x7_)], [pvI (if x7_ < x14_ then x14_ else x7_)], M15_)) rfl ⟨(Nat.le_of_ble_eq_true rfl), trivial⟩ ?_
  exact pw_ret hT rfl (r := some (pvI (if x7_ < x14_ then x14_ else x7_))) (M' := M15_) ⟨rfl, rfl⟩ ⟨⟨_, rfl, b21_⟩, o17_, f19_⟩
def fpL_X9_two_0_x : List (Nat × Nat × Nat) := [(0, 12, 0), (0, 13, 0), (0, 14, 0), (0, 5, 2), (0, 5, 3), (1, 112, 0)]
def fp_X9_two_0_x (q k : Nat) : Bool := pvfp fpL_X9_two_0_x q k
theorem fp_X9_two_0_x_fp_X1_beginFromNow_5 (a b : Nat) (h : fp_X1_beginFromNow_5 a b = true) : fp_X9_two_0_x a b = true := pvfp_sub (l1 := fpL_X1_beginFromNow_5) (l2 := fpL_X9_two_0_x) (by decide) a b h
theorem fp_X9_two_0_x_fp_X1_goAsTwo_5 (a b : Nat) (h : fp_X1_goAsTwo_5 a b = true) : fp_X9_two_0_x a b = true := pvfp_sub (l1 := fpL_X1_goAsTwo_5) (l2 := fpL_X9_two_0_x) (by decide) a b h
set_option maxHeartbeats 4000000 in
set_option maxRecDepth 10000 in
theorem sf_X9_two_0_x (M : pvM) (hok : pvOk M) (n1 : Int32) (d : Nat) : PW 207 d (0, [some (pvR 0), some (pvI n1), none], [], M) (fun r X => (∃ x : Int32, r = some (pvI x) ∧ True) ∧ pvOk X ∧ pvFr fp_X9_two_0_x M X) := by
  have hT : pvdom 207 = pvD_207 := rfl
  refine pw_blk hT 3 (S' := (3, [some (pvR 0), some (pvI n1), none], [pvI 1, pvI 0, pvI n1], M)) rfl ⟨trivial, trivial, trivial, trivial⟩ ?_
  refine pw_callT hT (as := [pvI n1, pvI 0, pvI 1]) (lo1 := [some (pvI n1), some (pvI 0), some (pvI 1)]) (d1 := d) (rest := []) rfl rfl rfl rfl rfl (fun h => absurd h (by decide)) (Nat.zero_le _) rfl rfl rfl (sf_X9_within_x_x_x M hok n1 0 1 d) ?_
  by_cases c6_ : n1 < 0
  · refine pw_eqI (if_pos c6_) ?_
    have b7_ : (-2147483648) ≤ Int32.toInt n1 ∧ Int32.toInt n1 ≤ (-1) := zr_lt_l (-1) c6_ (zbnd n1) (show 0 ≤ Int32.toInt 0 ∧ Int32.toInt 0 ≤ 0 from (by decide)) (by decide)
    show PW 207 d (6, [some (pvR 0), some (pvI n1), none], [pvI 0], M) _
    refine pw_ifn hT (c := 0 = 0) rfl rfl (fun c8_ => absurd (by decide) c8_) (fun c8_ => ?_)
    refine pw_blk hT 1 (S' := (10, [some (pvR 0), some (pvI n1), none], [pvI (-1)], M)) rfl ⟨trivial, trivial⟩ ?_
    exact pw_ret hT rfl (r := some (pvI (-1))) (M' := M) ⟨rfl, rfl⟩ ⟨⟨_, rfl, trivial⟩, hok, pvfr_0⟩
  · refine pw_eqI (if_neg c6_) ?_
    have b9_ : 0 ≤ Int32.toInt n1 ∧ Int32.toInt n1 ≤ 2147483647 := zr_nlt_l 0 c6_ (zbnd n1) (show 0 ≤ Int32.toInt 0 ∧ Int32.toInt 0 ≤ 0 from (by decide)) (by decide)
    by_cases c10_ : 1 < n1
    · refine pw_eqI (if_pos c10_) ?_
      have b11_ : 2 ≤ Int32.toInt n1 ∧ Int32.toInt n1 ≤ 2147483647 := zr_lt_r 2 c10_ b9_ (show 1 ≤ Int32.toInt 1 ∧ Int32.toInt 1 ≤ 1 from (by decide)) (by decide)
      show PW 207 d (6, [some (pvR 0), some (pvI n1), none], [pvI 0], M) _
      refine pw_ifn hT (c := 0 = 0) rfl rfl (fun c12_ => absurd (by decide) c12_) (fun c12_ => ?_)
      refine pw_blk hT 1 (S' := (10, [some (pvR 0), some (pvI n1), none], [pvI (-1)], M)) rfl ⟨trivial, trivial⟩ ?_
      exact pw_ret hT rfl (r := some (pvI (-1))) (M' := M) ⟨rfl, rfl⟩ ⟨⟨_, rfl, trivial⟩, hok, pvfr_0⟩
    · refine pw_eqI (if_neg c10_) ?_
      have b13_ : 0 ≤ Int32.toInt n1 ∧ Int32.toInt n1 ≤ 1 := zr_nlt_r 1 c10_ b9_ (show 1 ≤ Int32.toInt 1 ∧ Int32.toInt 1 ≤ 1 from (by decide)) (by decide)
      show PW 207 d (6, [some (pvR 0), some (pvI n1), none], [pvI 1], M) _
      refine pw_ifn hT (c := 1 = 0) rfl rfl (fun c14_ => ?_) (fun c14_ => absurd c14_ (by decide))
      refine pw_blk hT 2 (S' := (15, [some (pvR 0), some (pvI n1), none], [pvR 5], M)) rfl ⟨trivial, rfl, trivial⟩ ?_
      refine pw_callV hT (as := [pvR 5]) (lo1 := [some (pvR 5)]) (d1 := d) (rest := []) rfl rfl rfl rfl rfl (fun _ => rfl) (Nat.zero_le _) rfl rfl rfl (sf_X1_beginFromNow_5 M hok d) (fun M16_ o18_ g19_ => ?_)
      have f20_ : pvFr fp_X9_two_0_x M M16_ := pvfr_t g19_ pvfr_0 fp_X9_two_0_x_fp_X1_beginFromNow_5
      refine pw_blk hT 2 (S' := (22, [some (pvR 0), some (pvI n1), none], [pvR 5], M16_)) rfl ⟨trivial, rfl, trivial⟩ ?_
      refine pw_callG hT (as := [pvR 5]) (lo1 := [some (pvR 5), none, none, none]) (d1 := d) (rest := []) rfl rfl rfl rfl rfl (fun _ => rfl) (Nat.zero_le _) rfl rfl rfl (sf_X1_goAsTwo_5 M16_ o18_ d) (fun x21_ M22_ b23_ o24_ g25_ => ?_)
      have f26_ : pvFr fp_X9_two_0_x M M22_ := pvfr_t g25_ f20_ fp_X9_two_0_x_fp_X1_goAsTwo_5
      refine pw_blk hT 2 (S' := (27, [some (pvR 0), some (pvI n1), some (pvI x21_)], [pvI n1], M22_)) rfl ⟨trivial, trivial, trivial⟩ ?_
      refine pw_ifn hT (c := n1 = 0) rfl rfl (fun c27_ => ?_) (fun c27_ => ?_)
      · have b28_ : 1 ≤ Int32.toInt n1 ∧ Int32.toInt n1 ≤ 1 := (by have u0 := b13_; have u1 := (not_congr (zi_eq _ _)).mp c27_; have u2 := (show 0 ≤ Int32.toInt 0 ∧ Int32.toInt 0 ≤ 0 from (by decide)); omega)
        refine pw_blk hT 1 (S' := (41, [some (pvR 0), some (pvI n1), some (pvI x21_)], [pvI x21_], M22_)) rfl ⟨trivial, trivial⟩ ?_
        exact pw_ret hT rfl (r := some (pvI x21_)) (M' := M22_) ⟨rfl, rfl⟩ ⟨⟨_, rfl, trivial⟩, o24_, f26_⟩
      · have b29_ : 0 ≤ Int32.toInt n1 ∧ Int32.toInt n1 ≤ 0 := (by have u0 := b13_; have u1 := (zi_eq _ _).mp c27_; have u2 := (show 0 ≤ Int32.toInt 0 ∧ Int32.toInt 0 ≤ 0 from (by decide)); omega)
        refine pw_blk hT 2 (S' := (34, [some (pvR 0), some (pvI n1), some (pvI x21_)], [pvR 5], M22_)) rfl ⟨trivial, rfl, trivial⟩ ?_
        refine pw_callGp hT (as := [pvR 5]) (lo1 := [some (pvR 5)]) (d1 := d) (rest := []) rfl rfl rfl rfl rfl (fun _ => rfl) (Nat.zero_le _) rfl rfl rfl (sf_X1_cost_5 M22_ o24_ d) (fun x30_ b32_ => ?_)
        refine pw_blk hT 1 (S' := (41, [some (pvR 0), some (pvI n1), some (pvI x21_)], [pvI x30_], M22_)) rfl ⟨trivial, trivial⟩ ?_
        exact pw_ret hT rfl (r := some (pvI x30_)) (M' := M22_) ⟨rfl, rfl⟩ ⟨⟨_, rfl, trivial⟩, o24_, f26_⟩
def fpL_X9_worth_0_x : List (Nat × Nat × Nat) := [(0, 12, 0), (0, 13, 0), (0, 14, 0), (0, 5, 2), (0, 5, 3), (1, 112, 0)]
def fp_X9_worth_0_x (q k : Nat) : Bool := pvfp fpL_X9_worth_0_x q k
theorem fp_X9_worth_0_x_fp_X1_beginFromNow_5 (a b : Nat) (h : fp_X1_beginFromNow_5 a b = true) : fp_X9_worth_0_x a b = true := pvfp_sub (l1 := fpL_X1_beginFromNow_5) (l2 := fpL_X9_worth_0_x) (by decide) a b h
set_option maxHeartbeats 4000000 in
set_option maxRecDepth 10000 in
theorem sf_X9_worth_0_x (M : pvM) (hok : pvOk M) (n1 : Int32) (d : Nat) : PW 212 d (0, [some (pvR 0), some (pvI n1), none], [], M) (fun r X => (∃ x : Int32, r = some (pvI x) ∧ True) ∧ pvOk X ∧ pvFr fp_X9_worth_0_x M X) := by
  have hT : pvdom 212 = pvD_212 := rfl
  refine pw_blk hT 3 (S' := (5, [some (pvR 0), some (pvI n1), none], [pvI n1, pvR 8], M)) rfl ⟨trivial, rfl, trivial, trivial⟩ ?_
  refine pw_callT hT (as := [pvR 8, pvI n1]) (lo1 := [some (pvR 8), some (pvI n1)]) (d1 := d) (rest := []) rfl rfl rfl rfl rfl (fun _ => rfl) (Nat.zero_le _) rfl rfl rfl (sf_X7_has_8_x M hok n1 d) ?_
  by_cases c6_ : n1 < 0
  · refine pw_eqI (if_pos c6_) ?_
    have b7_ : (-2147483648) ≤ Int32.toInt n1 ∧ Int32.toInt n1 ≤ (-1) := zr_lt_l (-1) c6_ (zbnd n1) (show 0 ≤ Int32.toInt 0 ∧ Int32.toInt 0 ≤ 0 from (by decide)) (by decide)
    show PW 212 d (8, [some (pvR 0), some (pvI n1), none], [pvI 0], M) _
    refine pw_ifn hT (c := 0 = 0) rfl rfl (fun c8_ => absurd (by decide) c8_) (fun c8_ => ?_)
    refine pw_blk hT 1 (S' := (12, [some (pvR 0), some (pvI n1), none], [pvI (-1)], M)) rfl ⟨trivial, trivial⟩ ?_
    exact pw_ret hT rfl (r := some (pvI (-1))) (M' := M) ⟨rfl, rfl⟩ ⟨⟨_, rfl, trivial⟩, hok, pvfr_0⟩
  · refine pw_eqI (if_neg c6_) ?_
    have b9_ : 0 ≤ Int32.toInt n1 ∧ Int32.toInt n1 ≤ 2147483647 := zr_nlt_l 0 c6_ (zbnd n1) (show 0 ≤ Int32.toInt 0 ∧ Int32.toInt 0 ≤ 0 from (by decide)) (by decide)
    have b10_ : 0 ≤ Int32.toInt (M.1 8 1) ∧ Int32.toInt (M.1 8 1) ≤ 7 := pvok_r hok 8 1 rfl
    by_cases c11_ : (M.1 8 1) ≤ n1
    · refine pw_eqI (if_pos c11_) ?_
      have d12_ : Int32.toInt (M.1 8 1) ≤ Int32.toInt n1 := (zi_le _ _).mp c11_
      show PW 212 d (8, [some (pvR 0), some (pvI n1), none], [pvI 0], M) _
      refine pw_ifn hT (c := 0 = 0) rfl rfl (fun c13_ => absurd (by decide) c13_) (fun c13_ => ?_)
      refine pw_blk hT 1 (S' := (12, [some (pvR 0), some (pvI n1), none], [pvI (-1)], M)) rfl ⟨trivial, trivial⟩ ?_
      exact pw_ret hT rfl (r := some (pvI (-1))) (M' := M) ⟨rfl, rfl⟩ ⟨⟨_, rfl, trivial⟩, hok, pvfr_0⟩
    · refine pw_eqI (if_neg c11_) ?_
      have b14_ : 1 ≤ Int32.toInt (M.1 8 1) ∧ Int32.toInt (M.1 8 1) ≤ 7 := zr_nle_l 1 c11_ b10_ b9_ (by decide)
      have b15_ : 0 ≤ Int32.toInt n1 ∧ Int32.toInt n1 ≤ 6 := zr_nle_r 6 c11_ b9_ b14_ (by decide)
      have d16_ : Int32.toInt (M.1 8 1) > Int32.toInt n1 := Int.not_le.mp ((not_congr (zi_le _ _)).mp c11_)
      show PW 212 d (8, [some (pvR 0), some (pvI n1), none], [pvI 1], M) _
      refine pw_ifn hT (c := 1 = 0) rfl rfl (fun c17_ => ?_) (fun c17_ => absurd c17_ (by decide))
      refine pw_blk hT 2 (S' := (17, [some (pvR 0), some (pvI n1), none], [pvR 5], M)) rfl ⟨trivial, rfl, trivial⟩ ?_
      refine pw_callV hT (as := [pvR 5]) (lo1 := [some (pvR 5)]) (d1 := d) (rest := []) rfl rfl rfl rfl rfl (fun _ => rfl) (Nat.zero_le _) rfl rfl rfl (sf_X1_beginFromNow_5 M hok d) (fun M19_ o21_ g22_ => ?_)
      have f23_ : pvFr fp_X9_worth_0_x M M19_ := pvfr_t g22_ pvfr_0 fp_X9_worth_0_x_fp_X1_beginFromNow_5
      refine pw_blk hT 2 (S' := (24, [some (pvR 0), some (pvI n1), none], [pvR 5], M19_)) rfl ⟨trivial, rfl, trivial⟩ ?_
      refine pw_callGp hT (as := [pvR 5]) (lo1 := [some (pvR 5)]) (d1 := d) (rest := []) rfl rfl rfl rfl rfl (fun _ => rfl) (Nat.zero_le _) rfl rfl rfl (sf_X1_cost_5 M19_ o21_ d) (fun x24_ b26_ => ?_)
      refine pw_blkw hT 7 (pc := 38) (lo := [some (pvR 0), some (pvI n1), some (pvI x24_)]) (st := []) (M := pvu M19_ 12 (Int32.toNatClampNeg n1) 0) rfl ⟨trivial, trivial, rfl, rfl, trivial, trivial, ⟨rfl, (zr_in (n := 7) b15_ (by decide) (by decide))⟩, trivial⟩ (fun M29_ e30_ => ?_)
      have o31_ : pvOk M29_ := pvok_u2 e30_ o21_ rfl (zr_wide (show 0 ≤ Int32.toInt 0 ∧ Int32.toInt 0 ≤ 0 from (by decide)) (by decide) (by decide))
      have f32_ : pvFr fp_X9_worth_0_x M M29_ := pvfr_u e30_ f23_ rfl
      refine pw_blk hT 3 (S' := (43, [some (pvR 0), some (pvI n1), some (pvI x24_)], [pvR 5, pvI x24_], M29_)) rfl ⟨trivial, trivial, rfl, trivial⟩ ?_
      refine pw_callGp hT (as := [pvR 5]) (lo1 := [some (pvR 5)]) (d1 := d) (rest := [pvI x24_]) rfl rfl rfl rfl rfl (fun _ => rfl) (Nat.zero_le _) rfl rfl rfl (sf_X1_cost_5 M29_ o31_ d) (fun x33_ b35_ => ?_)
      refine pw_blk hT 1 (S' := (47, [some (pvR 0), some (pvI n1), some (pvI x24_)], [pvI (x24_ - x33_)], M29_)) rfl ⟨trivial, trivial⟩ ?_
      exact pw_ret hT rfl (r := some (pvI (x24_ - x33_))) (M' := M29_) ⟨rfl, rfl⟩ ⟨⟨_, rfl, trivial⟩, o31_, f32_⟩
