set_option maxHeartbeats 4000000 in
set_option maxRecDepth 10000 in
theorem sf_X10_told_124_x (M : pvM) (hok : pvOk M) (n1 : Int32) (d : Nat) : PW 91 d (0, [some (pvR 124), some (pvI n1)], [], M) (fun r X => (∃ x : Int32, r = some (pvI x) ∧ True) ∧ X = M) := by
  have hT : pvdom 91 = pvD_91 := rfl
  refine pw_blk hT 1 (S' := (1, [some (pvR 124), some (pvI n1)], [pvI n1], M)) rfl ⟨trivial, trivial⟩ ?_
  refine pw_sw hT rfl rfl ?_
  refine And.intro (fun c1_ => ?_) (fun c1_ => ?_)
  · show PW 91 d (52, [some (pvR 124), some (pvI n1)], [], M) _
    have b2_ : 0 ≤ Int32.toInt n1 ∧ Int32.toInt n1 ≤ 0 := (by have u0 := (zbnd n1); have u1 := (zi_eq _ _).mp c1_; have u2 := (show 0 ≤ Int32.toInt 0 ∧ Int32.toInt 0 ≤ 0 from (by decide)); omega)
    have b3_ : 0 ≤ Int32.toInt (M.1 124 1) ∧ Int32.toInt (M.1 124 1) ≤ 9999 := pvok_r hok 124 1 rfl
    refine pw_blk hT 2 (S' := (56, [some (pvR 124), some (pvI n1)], [pvI (M.1 124 1)], M)) rfl ⟨trivial, rfl, trivial⟩ ?_
    exact pw_ret hT rfl (r := some (pvI (M.1 124 1))) (M' := M) ⟨rfl, rfl⟩ ⟨⟨_, rfl, trivial⟩, rfl⟩
  · refine And.intro (fun c4_ => ?_) (fun c4_ => ?_)
    · show PW 91 d (57, [some (pvR 124), some (pvI n1)], [], M) _
      have b5_ : 1 ≤ Int32.toInt n1 ∧ Int32.toInt n1 ≤ 1 := (by have u0 := (zbnd n1); have u1 := (zi_eq _ _).mp c4_; have u2 := (show 1 ≤ Int32.toInt 1 ∧ Int32.toInt 1 ≤ 1 from (by decide)); omega)
      have b6_ : 0 ≤ Int32.toInt (M.1 124 2) ∧ Int32.toInt (M.1 124 2) ≤ 999999 := pvok_r hok 124 2 rfl
      refine pw_blk hT 2 (S' := (61, [some (pvR 124), some (pvI n1)], [pvI (M.1 124 2)], M)) rfl ⟨trivial, rfl, trivial⟩ ?_
      exact pw_ret hT rfl (r := some (pvI (M.1 124 2))) (M' := M) ⟨rfl, rfl⟩ ⟨⟨_, rfl, trivial⟩, rfl⟩
    · refine And.intro (fun c7_ => ?_) (fun c7_ => ?_)
      · show PW 91 d (62, [some (pvR 124), some (pvI n1)], [], M) _
        have b8_ : 2 ≤ Int32.toInt n1 ∧ Int32.toInt n1 ≤ 2 := (by have u0 := (zbnd n1); have u1 := (zi_eq _ _).mp c7_; have u2 := (show 2 ≤ Int32.toInt 2 ∧ Int32.toInt 2 ≤ 2 from (by decide)); omega)
        have b9_ : 0 ≤ Int32.toInt (M.1 124 3) ∧ Int32.toInt (M.1 124 3) ≤ 108 := pvok_r hok 124 3 rfl
        refine pw_blk hT 2 (S' := (66, [some (pvR 124), some (pvI n1)], [pvI (M.1 124 3)], M)) rfl ⟨trivial, rfl, trivial⟩ ?_
        exact pw_ret hT rfl (r := some (pvI (M.1 124 3))) (M' := M) ⟨rfl, rfl⟩ ⟨⟨_, rfl, trivial⟩, rfl⟩
      · refine And.intro (fun c10_ => ?_) (fun c10_ => ?_)
        · show PW 91 d (67, [some (pvR 124), some (pvI n1)], [], M) _
          have b11_ : 3 ≤ Int32.toInt n1 ∧ Int32.toInt n1 ≤ 3 := (by have u0 := (zbnd n1); have u1 := (zi_eq _ _).mp c10_; have u2 := (show 3 ≤ Int32.toInt 3 ∧ Int32.toInt 3 ≤ 3 from (by decide)); omega)
          have b12_ : 0 ≤ Int32.toInt (M.1 124 4) ∧ Int32.toInt (M.1 124 4) ≤ 4 := pvok_r hok 124 4 rfl
          refine pw_blk hT 2 (S' := (71, [some (pvR 124), some (pvI n1)], [pvI (M.1 124 4)], M)) rfl ⟨trivial, rfl, trivial⟩ ?_
          exact pw_ret hT rfl (r := some (pvI (M.1 124 4))) (M' := M) ⟨rfl, rfl⟩ ⟨⟨_, rfl, trivial⟩, rfl⟩
        · refine And.intro (fun c13_ => ?_) (fun c13_ => ?_)
          · show PW 91 d (72, [some (pvR 124), some (pvI n1)], [], M) _
            have b14_ : 4 ≤ Int32.toInt n1 ∧ Int32.toInt n1 ≤ 4 := (by have u0 := (zbnd n1); have u1 := (zi_eq _ _).mp c13_; have u2 := (show 4 ≤ Int32.toInt 4 ∧ Int32.toInt 4 ≤ 4 from (by decide)); omega)
            refine pw_blk hT 3 (S' := (75, [some (pvR 124), some (pvI n1)], [pvI 2, pvI 2, pvR 124], M)) rfl ⟨trivial, trivial, trivial, trivial⟩ ?_
            refine pw_callGp hT (as := [pvR 124, pvI 2, pvI 2]) (lo1 := [some (pvR 124), some (pvI 2), some (pvI 2), none, none]) (d1 := d) (rest := []) rfl rfl rfl rfl rfl (fun _ => rfl) (Nat.zero_le _) rfl rfl rfl (sf_X10_lastOf_124_x_x M hok 2 2 (zr_wide (show 2 ≤ Int32.toInt 2 ∧ Int32.toInt 2 ≤ 2 from (by decide)) (by decide) (by decide)) (zr_wide (show 2 ≤ Int32.toInt 2 ∧ Int32.toInt 2 ≤ 2 from (by decide)) (by decide) (by decide)) d) (fun x15_ b17_ => ?_)
            exact pw_ret hT rfl (r := some (pvI x15_)) (M' := M) ⟨rfl, rfl⟩ ⟨⟨_, rfl, trivial⟩, rfl⟩
          · refine And.intro (fun c20_ => ?_) (fun c20_ => ?_)
            · show PW 91 d (79, [some (pvR 124), some (pvI n1)], [], M) _
              have b21_ : 5 ≤ Int32.toInt n1 ∧ Int32.toInt n1 ≤ 5 := (by have u0 := (zbnd n1); have u1 := (zi_eq _ _).mp c20_; have u2 := (show 5 ≤ Int32.toInt 5 ∧ Int32.toInt 5 ≤ 5 from (by decide)); omega)
              refine pw_blk hT 1 (S' := (80, [some (pvR 124), some (pvI n1)], [pvR 124], M)) rfl ⟨trivial, trivial⟩ ?_
              refine pw_callGp hT (as := [pvR 124]) (lo1 := [some (pvR 124)]) (d1 := d) (rest := []) rfl rfl rfl rfl rfl (fun _ => rfl) (Nat.zero_le _) rfl rfl rfl (sf_X10_lastNow_124 M hok d) (fun x22_ b24_ => ?_)
              exact pw_ret hT rfl (r := some (pvI x22_)) (M' := M) ⟨rfl, rfl⟩ ⟨⟨_, rfl, trivial⟩, rfl⟩
            · refine And.intro (fun c27_ => ?_) (fun c27_ => ?_)
              · show PW 91 d (84, [some (pvR 124), some (pvI n1)], [], M) _
                have b28_ : 6 ≤ Int32.toInt n1 ∧ Int32.toInt n1 ≤ 6 := (by have u0 := (zbnd n1); have u1 := (zi_eq _ _).mp c27_; have u2 := (show 6 ≤ Int32.toInt 6 ∧ Int32.toInt 6 ≤ 6 from (by decide)); omega)
                have b29_ : 0 ≤ Int32.toInt (M.1 124 5) ∧ Int32.toInt (M.1 124 5) ≤ 3 := pvok_r hok 124 5 rfl
                refine pw_blk hT 2 (S' := (88, [some (pvR 124), some (pvI n1)], [pvI (M.1 124 5)], M)) rfl ⟨trivial, rfl, trivial⟩ ?_
                exact pw_ret hT rfl (r := some (pvI (M.1 124 5))) (M' := M) ⟨rfl, rfl⟩ ⟨⟨_, rfl, trivial⟩, rfl⟩
              · refine And.intro (fun c30_ => ?_) (fun c30_ => ?_)
                · show PW 91 d (89, [some (pvR 124), some (pvI n1)], [], M) _
                  have b31_ : 7 ≤ Int32.toInt n1 ∧ Int32.toInt n1 ≤ 7 := (by have u0 := (zbnd n1); have u1 := (zi_eq _ _).mp c30_; have u2 := (show 7 ≤ Int32.toInt 7 ∧ Int32.toInt 7 ≤ 7 from (by decide)); omega)
                  have b32_ : 0 ≤ Int32.toInt (M.1 124 6) ∧ Int32.toInt (M.1 124 6) ≤ 4 := pvok_r hok 124 6 rfl
                  refine pw_blk hT 2 (S' := (93, [some (pvR 124), some (pvI n1)], [pvI (M.1 124 6)], M)) rfl ⟨trivial, rfl, trivial⟩ ?_
                  exact pw_ret hT rfl (r := some (pvI (M.1 124 6))) (M' := M) ⟨rfl, rfl⟩ ⟨⟨_, rfl, trivial⟩, rfl⟩
                · refine And.intro (fun c33_ => ?_) (fun c33_ => ?_)
                  · show PW 91 d (94, [some (pvR 124), some (pvI n1)], [], M) _
                    have b34_ : 8 ≤ Int32.toInt n1 ∧ Int32.toInt n1 ≤ 8 := (by have u0 := (zbnd n1); have u1 := (zi_eq _ _).mp c33_; have u2 := (show 8 ≤ Int32.toInt 8 ∧ Int32.toInt 8 ≤ 8 from (by decide)); omega)
                    refine pw_blk hT 1 (S' := (95, [some (pvR 124), some (pvI n1)], [pvR 124], M)) rfl ⟨trivial, trivial⟩ ?_
                    refine pw_callGp hT (as := [pvR 124]) (lo1 := [some (pvR 124), none, none]) (d1 := d) (rest := []) rfl rfl rfl rfl rfl (fun _ => rfl) (Nat.zero_le _) rfl rfl rfl (sf_X10_openSet_124 M hok d) (fun x35_ b37_ => ?_)
                    exact pw_ret hT rfl (r := some (pvI x35_)) (M' := M) ⟨rfl, rfl⟩ ⟨⟨_, rfl, trivial⟩, rfl⟩
                  · show PW 91 d (99, [some (pvR 124), some (pvI n1)], [], M) _
                    refine pw_blk hT 1 (S' := (100, [some (pvR 124), some (pvI n1)], [pvI (-1)], M)) rfl ⟨trivial, trivial⟩ ?_
                    exact pw_ret hT rfl (r := some (pvI (-1))) (M' := M) ⟨rfl, rfl⟩ ⟨⟨_, rfl, trivial⟩, rfl⟩
set_option maxHeartbeats 4000000 in
set_option maxRecDepth 10000 in
theorem sf_X10_trace_124_x (M : pvM) (hok : pvOk M) (n1 : Int32) (d : Nat) : PW 92 d (0, [some (pvR 124), some (pvI n1)], [], M) (fun r X => r = some (pvI ((if n1 < 0 then (-1) else (if 19 < n1 then (-1) else (if (M.1 124 70) ≤ n1 then (-1) else (M.1 163 (Int32.toNatClampNeg n1))))))) ∧ X = M) := by
  have hT : pvdom 92 = pvD_92 := rfl
  refine pw_blk hT 4 (S' := (5, [some (pvR 124), some (pvI n1)], [pvI 19, pvI 0, pvI n1, pvR 124], M)) rfl ⟨trivial, trivial, trivial, trivial, trivial⟩ ?_
  refine pw_callT hT (as := [pvR 124, pvI n1, pvI 0, pvI 19]) (lo1 := [some (pvR 124), some (pvI n1), some (pvI 0), some (pvI 19)]) (d1 := d) (rest := []) rfl rfl rfl rfl rfl (fun _ => rfl) (Nat.zero_le _) rfl rfl rfl (sf_X10_in_124_x_x_x M hok n1 0 19 d) ?_
  by_cases c6_ : n1 < 0
  · refine pw_eqI (if_pos c6_) ?_
    have b7_ : (-2147483648) ≤ Int32.toInt n1 ∧ Int32.toInt n1 ≤ (-1) := zr_lt_l (-1) c6_ (zbnd n1) (show 0 ≤ Int32.toInt 0 ∧ Int32.toInt 0 ≤ 0 from (by decide)) (by decide)
    show PW 92 d (8, [some (pvR 124), some (pvI n1)], [pvI 0], M) _
    refine pw_if hT (c := 0 = 0) rfl rfl (fun c8_ => ?_) (fun c8_ => absurd (by decide) c8_)
    refine pw_blk hT 1 (S' := (29, [some (pvR 124), some (pvI n1)], [pvI (-1)], M)) rfl ⟨trivial, trivial⟩ ?_
    exact pw_ret hT rfl (r := some (pvI (-1))) (M' := M) ⟨rfl, rfl⟩ ⟨(by rw [if_pos c6_]), rfl⟩
  · refine pw_eqI (if_neg c6_) ?_
    have b9_ : 0 ≤ Int32.toInt n1 ∧ Int32.toInt n1 ≤ 2147483647 := zr_nlt_l 0 c6_ (zbnd n1) (show 0 ≤ Int32.toInt 0 ∧ Int32.toInt 0 ≤ 0 from (by decide)) (by decide)
    by_cases c10_ : 19 < n1
    · refine pw_eqI (if_pos c10_) ?_
      have b11_ : 20 ≤ Int32.toInt n1 ∧ Int32.toInt n1 ≤ 2147483647 := zr_lt_r 20 c10_ b9_ (show 19 ≤ Int32.toInt 19 ∧ Int32.toInt 19 ≤ 19 from (by decide)) (by decide)
      show PW 92 d (8, [some (pvR 124), some (pvI n1)], [pvI 0], M) _
      refine pw_if hT (c := 0 = 0) rfl rfl (fun c12_ => ?_) (fun c12_ => absurd (by decide) c12_)
      refine pw_blk hT 1 (S' := (29, [some (pvR 124), some (pvI n1)], [pvI (-1)], M)) rfl ⟨trivial, trivial⟩ ?_
      exact pw_ret hT rfl (r := some (pvI (-1))) (M' := M) ⟨rfl, rfl⟩ ⟨(by rw [if_neg c6_, if_pos c10_]), rfl⟩
    · refine pw_eqI (if_neg c10_) ?_
      have b13_ : 0 ≤ Int32.toInt n1 ∧ Int32.toInt n1 ≤ 19 := zr_nlt_r 19 c10_ b9_ (show 19 ≤ Int32.toInt 19 ∧ Int32.toInt 19 ≤ 19 from (by decide)) (by decide)
      show PW 92 d (8, [some (pvR 124), some (pvI n1)], [pvI 1], M) _
      refine pw_if hT (c := 1 = 0) rfl rfl (fun c14_ => absurd c14_ (by decide)) (fun c14_ => ?_)
      have b15_ : 0 ≤ Int32.toInt (M.1 124 70) ∧ Int32.toInt (M.1 124 70) ≤ 1000000 := pvok_r hok 124 70 rfl
      refine pw_blk hT 3 (S' := (16, [some (pvR 124), some (pvI n1)], [pvI (M.1 124 70), pvI n1], M)) rfl ⟨trivial, trivial, rfl, trivial⟩ ?_
      refine pw_ic hT (c := (M.1 124 70) ≤ n1) rfl rfl (fun c16_ => ?_) (fun c16_ => ?_)
      · have b17_ : 0 ≤ Int32.toInt (M.1 124 70) ∧ Int32.toInt (M.1 124 70) ≤ 19 := zr_le_l 19 c16_ b15_ b13_ (by decide)
        have d18_ : Int32.toInt (M.1 124 70) ≤ Int32.toInt n1 := (zi_le _ _).mp c16_
        refine pw_blk hT 1 (S' := (29, [some (pvR 124), some (pvI n1)], [pvI (-1)], M)) rfl ⟨trivial, trivial⟩ ?_
        exact pw_ret hT rfl (r := some (pvI (-1))) (M' := M) ⟨rfl, rfl⟩ ⟨(by rw [if_neg c6_, if_neg c10_, if_pos c16_]), rfl⟩
      · have b19_ : 1 ≤ Int32.toInt (M.1 124 70) ∧ Int32.toInt (M.1 124 70) ≤ 1000000 := zr_nle_l 1 c16_ b15_ b13_ (by decide)
        have d20_ : Int32.toInt (M.1 124 70) > Int32.toInt n1 := Int.not_le.mp ((not_congr (zi_le _ _)).mp c16_)
        refine pw_blk hT 5 (S' := (29, [some (pvR 124), some (pvI n1)], [pvI (M.1 163 (Int32.toNatClampNeg n1))], M)) rfl ⟨trivial, rfl, trivial, ⟨rfl, (zr_in (n := 20) b13_ (by decide) (by decide))⟩, trivial, trivial⟩ ?_
        exact pw_ret hT rfl (r := some (pvI (M.1 163 (Int32.toNatClampNeg n1)))) (M' := M) ⟨rfl, rfl⟩ ⟨(by rw [if_neg c6_, if_neg c10_, if_neg c16_]), rfl⟩
def fpL_X10_two_124_x : List (Nat × Nat × Nat) := [(0, 124, 33), (0, 124, 36), (0, 141, 0), (0, 142, 0), (0, 143, 0), (0, 144, 0)]
def fp_X10_two_124_x (q k : Nat) : Bool := pvfp fpL_X10_two_124_x q k
theorem fp_X10_two_124_x_fp_X10_goes_124_x_x_x (a b : Nat) (h : fp_X10_goes_124_x_x_x a b = true) : fp_X10_two_124_x a b = true := pvfp_sub (l1 := fpL_X10_goes_124_x_x_x) (l2 := fpL_X10_two_124_x) (by decide) a b h
theorem fp_X10_two_124_x_fp_X10_layOpen_124 (a b : Nat) (h : fp_X10_layOpen_124 a b = true) : fp_X10_two_124_x a b = true := pvfp_sub (l1 := fpL_X10_layOpen_124) (l2 := fpL_X10_two_124_x) (by decide) a b h
theorem fp_X10_two_124_x_fp_X10_layRain_124 (a b : Nat) (h : fp_X10_layRain_124 a b = true) : fp_X10_two_124_x a b = true := pvfp_sub (l1 := fpL_X10_layRain_124) (l2 := fpL_X10_two_124_x) (by decide) a b h
theorem fp_X10_two_124_x_fp_X10_layRound_124 (a b : Nat) (h : fp_X10_layRound_124 a b = true) : fp_X10_two_124_x a b = true := pvfp_sub (l1 := fpL_X10_layRound_124) (l2 := fpL_X10_two_124_x) (by decide) a b h
set_option maxHeartbeats 4000000 in
set_option maxRecDepth 10000 in
theorem sf_X10_two_124_x (M : pvM) (hok : pvOk M) (n1 : Int32) (d : Nat) : PW 93 d (0, [some (pvR 124), some (pvI n1), none, none, none], [], M) (fun r X => (∃ x : Int32, r = some (pvI x) ∧ (-1) ≤ Int32.toInt x ∧ Int32.toInt x ≤ 9000000) ∧ pvOk X ∧ pvFr fp_X10_two_124_x M X) := by
  have hT : pvdom 93 = pvD_93 := rfl
  refine pw_blk hT 4 (S' := (4, [some (pvR 124), some (pvI n1), none, none, none], [pvI 1, pvI 0, pvI n1, pvR 124], M)) rfl ⟨trivial, trivial, trivial, trivial, trivial⟩ ?_
  refine pw_callT hT (as := [pvR 124, pvI n1, pvI 0, pvI 1]) (lo1 := [some (pvR 124), some (pvI n1), some (pvI 0), some (pvI 1)]) (d1 := d) (rest := []) rfl rfl rfl rfl rfl (fun _ => rfl) (Nat.zero_le _) rfl rfl rfl (sf_X10_in_124_x_x_x M hok n1 0 1 d) ?_
  by_cases c6_ : n1 < 0
  · refine pw_eqI (if_pos c6_) ?_
    have b7_ : (-2147483648) ≤ Int32.toInt n1 ∧ Int32.toInt n1 ≤ (-1) := zr_lt_l (-1) c6_ (zbnd n1) (show 0 ≤ Int32.toInt 0 ∧ Int32.toInt 0 ≤ 0 from (by decide)) (by decide)
    show PW 93 d (7, [some (pvR 124), some (pvI n1), none, none, none], [pvI 0], M) _
    refine pw_ifn hT (c := 0 = 0) rfl rfl (fun c8_ => absurd (by decide) c8_) (fun c8_ => ?_)
    refine pw_blk hT 1 (S' := (11, [some (pvR 124), some (pvI n1), none, none, none], [pvI (-1)], M)) rfl ⟨trivial, trivial⟩ ?_
    exact pw_ret hT rfl (r := some (pvI (-1))) (M' := M) ⟨rfl, rfl⟩ ⟨⟨_, rfl, (zr_wide (show (-1) ≤ Int32.toInt (-1) ∧ Int32.toInt (-1) ≤ (-1) from (by decide)) (by decide) (by decide))⟩, hok, pvfr_0⟩
  · refine pw_eqI (if_neg c6_) ?_
    have b9_ : 0 ≤ Int32.toInt n1 ∧ Int32.toInt n1 ≤ 2147483647 := zr_nlt_l 0 c6_ (zbnd n1) (show 0 ≤ Int32.toInt 0 ∧ Int32.toInt 0 ≤ 0 from (by decide)) (by decide)
    by_cases c10_ : 1 < n1
    · refine pw_eqI (if_pos c10_) ?_
      have b11_ : 2 ≤ Int32.toInt n1 ∧ Int32.toInt n1 ≤ 2147483647 := zr_lt_r 2 c10_ b9_ (show 1 ≤ Int32.toInt 1 ∧ Int32.toInt 1 ≤ 1 from (by decide)) (by decide)
      show PW 93 d (7, [some (pvR 124), some (pvI n1), none, none, none], [pvI 0], M) _
      refine pw_ifn hT (c := 0 = 0) rfl rfl (fun c12_ => absurd (by decide) c12_) (fun c12_ => ?_)
      refine pw_blk hT 1 (S' := (11, [some (pvR 124), some (pvI n1), none, none, none], [pvI (-1)], M)) rfl ⟨trivial, trivial⟩ ?_
      exact pw_ret hT rfl (r := some (pvI (-1))) (M' := M) ⟨rfl, rfl⟩ ⟨⟨_, rfl, (zr_wide (show (-1) ≤ Int32.toInt (-1) ∧ Int32.toInt (-1) ≤ (-1) from (by decide)) (by decide) (by decide))⟩, hok, pvfr_0⟩
    · refine pw_eqI (if_neg c10_) ?_
      have b13_ : 0 ≤ Int32.toInt n1 ∧ Int32.toInt n1 ≤ 1 := zr_nlt_r 1 c10_ b9_ (show 1 ≤ Int32.toInt 1 ∧ Int32.toInt 1 ≤ 1 from (by decide)) (by decide)
      show PW 93 d (7, [some (pvR 124), some (pvI n1), none, none, none], [pvI 1], M) _
      refine pw_ifn hT (c := 1 = 0) rfl rfl (fun c14_ => ?_) (fun c14_ => absurd c14_ (by decide))
      refine pw_blk hT 1 (S' := (13, [some (pvR 124), some (pvI n1), none, none, none], [pvR 124], M)) rfl ⟨trivial, trivial⟩ ?_
      refine pw_callV hT (as := [pvR 124]) (lo1 := [some (pvR 124), none, none]) (d1 := d) (rest := []) rfl rfl rfl rfl rfl (fun _ => rfl) (Nat.zero_le _) rfl rfl rfl (sf_X10_layRain_124 M hok d) (fun M16_ o18_ g19_ => ?_)
      have f20_ : pvFr fp_X10_two_124_x M M16_ := pvfr_t g19_ pvfr_0 fp_X10_two_124_x_fp_X10_layRain_124
      refine pw_blk hT 1 (S' := (17, [some (pvR 124), some (pvI n1), none, none, none], [pvR 124], M16_)) rfl ⟨trivial, trivial⟩ ?_
      refine pw_callV hT (as := [pvR 124]) (lo1 := [some (pvR 124), none]) (d1 := d) (rest := []) rfl rfl rfl rfl rfl (fun _ => rfl) (Nat.zero_le _) rfl rfl rfl (sf_X10_layRound_124 M16_ o18_ d) (fun M22_ o24_ g25_ => ?_)
      have f26_ : pvFr fp_X10_two_124_x M M22_ := pvfr_t g25_ f20_ fp_X10_two_124_x_fp_X10_layRound_124
      refine pw_blk hT 1 (S' := (21, [some (pvR 124), some (pvI n1), none, none, none], [pvR 124], M22_)) rfl ⟨trivial, trivial⟩ ?_
      refine pw_callV hT (as := [pvR 124]) (lo1 := [some (pvR 124), none]) (d1 := d) (rest := []) rfl rfl rfl rfl rfl (fun _ => rfl) (Nat.zero_le _) rfl rfl rfl (sf_X10_layOpen_124 M22_ o24_ d) (fun M28_ o30_ g31_ => ?_)
      have f32_ : pvFr fp_X10_two_124_x M M28_ := pvfr_t g31_ f26_ fp_X10_two_124_x_fp_X10_layOpen_124
      have b33_ : 0 ≤ Int32.toInt (M28_.1 124 37) ∧ Int32.toInt (M28_.1 124 37) ≤ 7 := pvok_r o30_ 124 37 rfl
      have q34_ : Int32.toInt ((M28_.1 124 37) / 2) = Int32.toInt (M28_.1 124 37) / 2 := by have u0 := b33_; have u := zdiv_p (M28_.1 124 37) 2 (by omega) (by decide) (by decide); have e0 : nI 2 = (2 : Int32) := rfl; rw [e0] at u; omega
      have b35_ : 0 ≤ Int32.toInt ((M28_.1 124 37) / 2) ∧ Int32.toInt ((M28_.1 124 37) / 2) ≤ 3 := (by have u0 := b33_; omega)
      obtain ⟨q37_, b36_⟩ : (Int32.toInt ((M28_.1 124 37) - ((M28_.1 124 37) / 2)) = Int32.toInt (M28_.1 124 37) - Int32.toInt ((M28_.1 124 37) / 2)) ∧ ((-3) ≤ Int32.toInt ((M28_.1 124 37) - ((M28_.1 124 37) / 2)) ∧ Int32.toInt ((M28_.1 124 37) - ((M28_.1 124 37) / 2)) ≤ 7) := zsub_r (M28_.1 124 37) ((M28_.1 124 37) / 2) (-3) 7 b33_ b35_ (by decide) (by decide) (by decide) (by decide)
      have b38_ : 0 ≤ Int32.toInt (M28_.1 124 1) ∧ Int32.toInt (M28_.1 124 1) ≤ 9999 := pvok_r o30_ 124 1 rfl
      refine pw_blk hT 13 (S' := (43, [some (pvR 124), some (pvI n1), some (pvI ((M28_.1 124 37) - ((M28_.1 124 37) / 2))), none, none], [pvI (M28_.1 124 1), pvI ((M28_.1 124 37) - ((M28_.1 124 37) / 2)), pvI 0, pvR 124], M28_)) rfl ⟨trivial, rfl, trivial, rfl, trivial, (by decide), trivial, trivial, trivial, trivial, trivial, trivial, rfl, trivial⟩ ?_
      refine pw_callG hT (as := [pvR 124, pvI 0, pvI ((M28_.1 124 37) - ((M28_.1 124 37) / 2)), pvI (M28_.1 124 1)]) (lo1 := [some (pvR 124), some (pvI 0), some (pvI ((M28_.1 124 37) - ((M28_.1 124 37) / 2))), some (pvI (M28_.1 124 1)), none, none, none, none, none]) (d1 := d) (rest := []) rfl rfl rfl rfl rfl (fun _ => rfl) (Nat.zero_le _) rfl rfl rfl (sf_X10_goes_124_x_x_x M28_ o30_ 0 ((M28_.1 124 37) - ((M28_.1 124 37) / 2)) (M28_.1 124 1) (zr_wide (show 0 ≤ Int32.toInt 0 ∧ Int32.toInt 0 ≤ 0 from (by decide)) (by decide) (by decide)) (by have u0 := b36_; omega) (zr_wide b38_ (by decide) (by decide)) d) (fun x39_ M40_ b41_ o42_ g43_ => ?_)
      have f44_ : pvFr fp_X10_two_124_x M M40_ := pvfr_t g43_ f32_ fp_X10_two_124_x_fp_X10_goes_124_x_x_x
      have b45_ : 0 ≤ Int32.toInt (M40_.1 124 37) ∧ Int32.toInt (M40_.1 124 37) ≤ 7 := pvok_r o42_ 124 37 rfl
      have b46_ : 0 ≤ Int32.toInt (M40_.1 124 1) ∧ Int32.toInt (M40_.1 124 1) ≤ 9999 := pvok_r o42_ 124 1 rfl
      refine pw_blk hT 7 (S' := (57, [some (pvR 124), some (pvI n1), some (pvI ((M28_.1 124 37) - ((M28_.1 124 37) / 2))), some (pvI x39_), none], [pvI (M40_.1 124 1), pvI (M40_.1 124 37), pvI ((M28_.1 124 37) - ((M28_.1 124 37) / 2)), pvR 124], M40_)) rfl ⟨trivial, trivial, trivial, trivial, rfl, trivial, rfl, trivial⟩ ?_
      refine pw_callG hT (as := [pvR 124, pvI ((M28_.1 124 37) - ((M28_.1 124 37) / 2)), pvI (M40_.1 124 37), pvI (M40_.1 124 1)]) (lo1 := [some (pvR 124), some (pvI ((M28_.1 124 37) - ((M28_.1 124 37) / 2))), some (pvI (M40_.1 124 37)), some (pvI (M40_.1 124 1)), none, none, none, none, none]) (d1 := d) (rest := []) rfl rfl rfl rfl rfl (fun _ => rfl) (Nat.zero_le _) rfl rfl rfl (sf_X10_goes_124_x_x_x M40_ o42_ ((M28_.1 124 37) - ((M28_.1 124 37) / 2)) (M40_.1 124 37) (M40_.1 124 1) (by have u0 := b36_; omega) b45_ (zr_wide b46_ (by decide) (by decide)) d) (fun x47_ M48_ b49_ o50_ g51_ => ?_)
      have f52_ : pvFr fp_X10_two_124_x M M48_ := pvfr_t g51_ f44_ fp_X10_two_124_x_fp_X10_goes_124_x_x_x
      refine pw_blk hT 2 (S' := (63, [some (pvR 124), some (pvI n1), some (pvI ((M28_.1 124 37) - ((M28_.1 124 37) / 2))), some (pvI x39_), some (pvI x47_)], [pvI n1], M48_)) rfl ⟨trivial, trivial, trivial⟩ ?_
      refine pw_ifn hT (c := n1 = 0) rfl rfl (fun c53_ => ?_) (fun c53_ => ?_)
      · have b54_ : 1 ≤ Int32.toInt n1 ∧ Int32.toInt n1 ≤ 1 := (by have u0 := b13_; have u1 := (not_congr (zi_eq _ _)).mp c53_; have u2 := (show 0 ≤ Int32.toInt 0 ∧ Int32.toInt 0 ≤ 0 from (by decide)); omega)
        refine pw_blk hT 2 (S' := (76, [some (pvR 124), some (pvI n1), some (pvI ((M28_.1 124 37) - ((M28_.1 124 37) / 2))), some (pvI x39_), some (pvI x47_)], [pvI x47_, pvI x39_], M48_)) rfl ⟨trivial, trivial, trivial⟩ ?_
        refine pw_ic hT (c := x39_ ≤ x47_) rfl rfl (fun c55_ => ?_) (fun c55_ => ?_)
        · have d56_ : Int32.toInt x39_ ≤ Int32.toInt x47_ := (zi_le _ _).mp c55_
          refine pw_blk hT 1 (S' := (85, [some (pvR 124), some (pvI n1), some (pvI ((M28_.1 124 37) - ((M28_.1 124 37) / 2))), some (pvI x39_), some (pvI x47_)], [pvI x47_], M48_)) rfl ⟨trivial, trivial⟩ ?_
          exact pw_ret hT rfl (r := some (pvI x47_)) (M' := M48_) ⟨rfl, rfl⟩ ⟨⟨_, rfl, (zr_wide b49_ (by decide) (by decide))⟩, o50_, f52_⟩
        · have b57_ : 1 ≤ Int32.toInt x39_ ∧ Int32.toInt x39_ ≤ 64000 := zr_nle_l 1 c55_ b41_ b49_ (by decide)
          have b58_ : 0 ≤ Int32.toInt x47_ ∧ Int32.toInt x47_ ≤ 63999 := zr_nle_r 63999 c55_ b49_ b57_ (by decide)
          have d59_ : Int32.toInt x39_ > Int32.toInt x47_ := Int.not_le.mp ((not_congr (zi_le _ _)).mp c55_)
          refine pw_blk hT 2 (S' := (85, [some (pvR 124), some (pvI n1), some (pvI ((M28_.1 124 37) - ((M28_.1 124 37) / 2))), some (pvI x39_), some (pvI x47_)], [pvI x39_], M48_)) rfl ⟨trivial, trivial, trivial⟩ ?_
          exact pw_ret hT rfl (r := some (pvI x39_)) (M' := M48_) ⟨rfl, rfl⟩ ⟨⟨_, rfl, (zr_wide b57_ (by decide) (by decide))⟩, o50_, f52_⟩
      · have b60_ : 0 ≤ Int32.toInt n1 ∧ Int32.toInt n1 ≤ 0 := (by have u0 := b13_; have u1 := (zi_eq _ _).mp c53_; have u2 := (show 0 ≤ Int32.toInt 0 ∧ Int32.toInt 0 ≤ 0 from (by decide)); omega)
        refine pw_blk hT 1 (S' := (67, [some (pvR 124), some (pvI n1), some (pvI ((M28_.1 124 37) - ((M28_.1 124 37) / 2))), some (pvI x39_), some (pvI x47_)], [pvR 124], M48_)) rfl ⟨trivial, trivial⟩ ?_
        refine pw_callGp hT (as := [pvR 124]) (lo1 := [some (pvR 124)]) (d1 := d) (rest := []) rfl rfl rfl rfl rfl (fun _ => rfl) (Nat.zero_le _) rfl rfl rfl (sf_X10_harmTillEnd_124 M48_ o50_ d) (fun x61_ b63_ => ?_)
        refine pw_blk hT 1 (S' := (85, [some (pvR 124), some (pvI n1), some (pvI ((M28_.1 124 37) - ((M28_.1 124 37) / 2))), some (pvI x39_), some (pvI x47_)], [pvI x61_], M48_)) rfl ⟨trivial, trivial⟩ ?_
        exact pw_ret hT rfl (r := some (pvI x61_)) (M' := M48_) ⟨rfl, rfl⟩ ⟨⟨_, rfl, (zr_wide b63_ (by decide) (by decide))⟩, o50_, f52_⟩
def fpL_X10_undo_124 : List (Nat × Nat × Nat) := [(0, 124, 1), (0, 124, 2), (0, 124, 16), (0, 124, 3), (0, 124, 4), (0, 124, 38), (0, 124, 5), (0, 124, 41), (0, 124, 44), (0, 124, 6), (0, 124, 7), (0, 125, 0), (0, 126, 0), (0, 127, 0), (0, 128, 0), (0, 129, 0), (0, 130, 0), (0, 131, 0), (0, 145, 0), (0, 147, 0), (0, 148, 0), (0, 149, 0), (0, 150, 0)]
def fp_X10_undo_124 (q k : Nat) : Bool := pvfp fpL_X10_undo_124 q k
set_option maxHeartbeats 4000000 in
set_option maxRecDepth 10000 in
theorem sf_X10_undo_124 (M : pvM) (hok : pvOk M) (d : Nat) : PW 94 d (0, [some (pvR 124), none], [], M) (fun r X => (∃ x : Int32, r = some (pvI x) ∧ (-3) ≤ Int32.toInt x ∧ Int32.toInt x ≤ 7) ∧ pvOk X ∧ pvFr fp_X10_undo_124 M X) := by
  have hT : pvdom 94 = pvD_94 := rfl
  have b1_ : 0 ≤ Int32.toInt (M.1 124 46) ∧ Int32.toInt (M.1 124 46) ≤ 1 := pvok_r hok 124 46 rfl
  refine pw_blk hT 2 (S' := (4, [some (pvR 124), none], [pvI (M.1 124 46)], M)) rfl ⟨trivial, rfl, trivial⟩ ?_
  refine pw_ifn hT (c := (M.1 124 46) = 0) rfl rfl (fun c2_ => ?_) (fun c2_ => ?_)
  · have b3_ : 1 ≤ Int32.toInt (M.1 124 46) ∧ Int32.toInt (M.1 124 46) ≤ 1 := (by have u0 := b1_; have u1 := (not_congr (zi_eq _ _)).mp c2_; have u2 := (show 0 ≤ Int32.toInt 0 ∧ Int32.toInt 0 ≤ 0 from (by decide)); omega)
    have b4_ : (-1) ≤ Int32.toInt (M.1 124 47) ∧ Int32.toInt (M.1 124 47) ≤ 5 := pvok_r hok 124 47 rfl
    refine pw_blkw hT 4 (pc := 18) (lo := [some (pvR 124), none]) (st := []) (M := pvu M 124 15 (M.1 124 47)) rfl ⟨trivial, trivial, rfl, rfl, trivial⟩ (fun M5_ e6_ => ?_)
    have o7_ : pvOk M5_ := pvok_u2 e6_ hok rfl b4_
    have f8_ : pvFr fp_X10_undo_124 M M5_ := pvfr_u e6_ pvfr_0 rfl
    have b9_ : 0 ≤ Int32.toInt (M5_.1 124 48) ∧ Int32.toInt (M5_.1 124 48) ≤ 7 := pvok_r o7_ 124 48 rfl
    refine pw_blkw hT 4 (pc := 26) (lo := [some (pvR 124), none]) (st := []) (M := pvu M5_ 124 0 (M5_.1 124 48)) rfl ⟨trivial, trivial, rfl, rfl, trivial⟩ (fun M10_ e11_ => ?_)
    have o12_ : pvOk M10_ := pvok_u2 e11_ o7_ rfl b9_
    have f13_ : pvFr fp_X10_undo_124 M M10_ := pvfr_u e11_ f8_ rfl
    have b14_ : 0 ≤ Int32.toInt (M10_.1 124 49) ∧ Int32.toInt (M10_.1 124 49) ≤ 9999 := pvok_r o12_ 124 49 rfl
    refine pw_blkw hT 4 (pc := 34) (lo := [some (pvR 124), none]) (st := []) (M := pvu M10_ 124 1 (M10_.1 124 49)) rfl ⟨trivial, trivial, rfl, rfl, trivial⟩ (fun M15_ e16_ => ?_)
    have o17_ : pvOk M15_ := pvok_u2 e16_ o12_ rfl b14_
    have f18_ : pvFr fp_X10_undo_124 M M15_ := pvfr_u e16_ f13_ rfl
    have b19_ : 0 ≤ Int32.toInt (M15_.1 124 50) ∧ Int32.toInt (M15_.1 124 50) ≤ 999999 := pvok_r o17_ 124 50 rfl
    refine pw_blkw hT 4 (pc := 42) (lo := [some (pvR 124), none]) (st := []) (M := pvu M15_ 124 2 (M15_.1 124 50)) rfl ⟨trivial, trivial, rfl, rfl, trivial⟩ (fun M20_ e21_ => ?_)
    have o22_ : pvOk M20_ := pvok_u2 e21_ o17_ rfl b19_
    have f23_ : pvFr fp_X10_undo_124 M M20_ := pvfr_u e21_ f18_ rfl
    have b24_ : 0 ≤ Int32.toInt (M20_.1 124 51) ∧ Int32.toInt (M20_.1 124 51) ≤ 108 := pvok_r o22_ 124 51 rfl
    refine pw_blkw hT 4 (pc := 50) (lo := [some (pvR 124), none]) (st := []) (M := pvu M20_ 124 3 (M20_.1 124 51)) rfl ⟨trivial, trivial, rfl, rfl, trivial⟩ (fun M25_ e26_ => ?_)
    have o27_ : pvOk M25_ := pvok_u2 e26_ o22_ rfl b24_
    have f28_ : pvFr fp_X10_undo_124 M M25_ := pvfr_u e26_ f23_ rfl
    have b29_ : 0 ≤ Int32.toInt (M25_.1 124 52) ∧ Int32.toInt (M25_.1 124 52) ≤ 4 := pvok_r o27_ 124 52 rfl
    refine pw_blkw hT 4 (pc := 58) (lo := [some (pvR 124), none]) (st := []) (M := pvu M25_ 124 4 (M25_.1 124 52)) rfl ⟨trivial, trivial, rfl, rfl, trivial⟩ (fun M30_ e31_ => ?_)
    have o32_ : pvOk M30_ := pvok_u2 e31_ o27_ rfl b29_
    have f33_ : pvFr fp_X10_undo_124 M M30_ := pvfr_u e31_ f28_ rfl
    have b34_ : 0 ≤ Int32.toInt (M30_.1 124 53) ∧ Int32.toInt (M30_.1 124 53) ≤ 3 := pvok_r o32_ 124 53 rfl
    refine pw_blkw hT 4 (pc := 66) (lo := [some (pvR 124), none]) (st := []) (M := pvu M30_ 124 5 (M30_.1 124 53)) rfl ⟨trivial, trivial, rfl, rfl, trivial⟩ (fun M35_ e36_ => ?_)
    have o37_ : pvOk M35_ := pvok_u2 e36_ o32_ rfl b34_
    have f38_ : pvFr fp_X10_undo_124 M M35_ := pvfr_u e36_ f33_ rfl
    have b39_ : 0 ≤ Int32.toInt (M35_.1 124 54) ∧ Int32.toInt (M35_.1 124 54) ≤ 4 := pvok_r o37_ 124 54 rfl
    refine pw_blkw hT 4 (pc := 74) (lo := [some (pvR 124), none]) (st := []) (M := pvu M35_ 124 6 (M35_.1 124 54)) rfl ⟨trivial, trivial, rfl, rfl, trivial⟩ (fun M40_ e41_ => ?_)
    have o42_ : pvOk M40_ := pvok_u2 e41_ o37_ rfl b39_
    have f43_ : pvFr fp_X10_undo_124 M M40_ := pvfr_u e41_ f38_ rfl
    have b44_ : 0 ≤ Int32.toInt (M40_.1 124 55) ∧ Int32.toInt (M40_.1 124 55) ≤ 7 := pvok_r o42_ 124 55 rfl
    refine pw_blkw hT 4 (pc := 82) (lo := [some (pvR 124), none]) (st := []) (M := pvu M40_ 124 37 (M40_.1 124 55)) rfl ⟨trivial, trivial, rfl, rfl, trivial⟩ (fun M45_ e46_ => ?_)
    have o47_ : pvOk M45_ := pvok_u2 e46_ o42_ rfl b44_
    have f48_ : pvFr fp_X10_undo_124 M M45_ := pvfr_u e46_ f43_ rfl
    have b49_ : 0 ≤ Int32.toInt (M45_.1 124 56) ∧ Int32.toInt (M45_.1 124 56) ≤ 6 := pvok_r o47_ 124 56 rfl
    refine pw_blkw hT 4 (pc := 90) (lo := [some (pvR 124), none]) (st := []) (M := pvu M45_ 124 40 (M45_.1 124 56)) rfl ⟨trivial, trivial, rfl, rfl, trivial⟩ (fun M50_ e51_ => ?_)
    have o52_ : pvOk M50_ := pvok_u2 e51_ o47_ rfl b49_
    have f53_ : pvFr fp_X10_undo_124 M M50_ := pvfr_u e51_ f48_ rfl
    have b54_ : 0 ≤ Int32.toInt (M50_.1 124 57) ∧ Int32.toInt (M50_.1 124 57) ≤ 8 := pvok_r o52_ 124 57 rfl
    refine pw_blkw hT 4 (pc := 98) (lo := [some (pvR 124), none]) (st := []) (M := pvu M50_ 124 43 (M50_.1 124 57)) rfl ⟨trivial, trivial, rfl, rfl, trivial⟩ (fun M55_ e56_ => ?_)
    have o57_ : pvOk M55_ := pvok_u2 e56_ o52_ rfl b54_
    have f58_ : pvFr fp_X10_undo_124 M M55_ := pvfr_u e56_ f53_ rfl
    refine pw_blk hT 2 (S' := (100, [some (pvR 124), some (pvI 0)], [], M55_)) rfl ⟨trivial, trivial, trivial⟩ ?_
    have e59_ : (M55_.1 124 46) = (M.1 124 46) := (((((((((((pvu_n e56_ 124 46 (Or.inr (by decide))).trans (pvu_n e51_ 124 46 (Or.inr (by decide)))).trans (pvu_n e46_ 124 46 (Or.inr (by decide)))).trans (pvu_n e41_ 124 46 (Or.inr (by decide)))).trans (pvu_n e36_ 124 46 (Or.inr (by decide)))).trans (pvu_n e31_ 124 46 (Or.inr (by decide)))).trans (pvu_n e26_ 124 46 (Or.inr (by decide)))).trans (pvu_n e21_ 124 46 (Or.inr (by decide)))).trans (pvu_n e16_ 124 46 (Or.inr (by decide)))).trans (pvu_n e11_ 124 46 (Or.inr (by decide)))).trans (pvu_n e6_ 124 46 (Or.inr (by decide))))
    have b60_ : 1 ≤ Int32.toInt (M55_.1 124 46) ∧ Int32.toInt (M55_.1 124 46) ≤ 1 := (by rw [e59_]; exact b3_)
    have hlz5667_ : ∀ (nz5667_ : Nat) (i1z5667_ : Int32) (Mz5667_ : pvM), (pvOk Mz5667_) → (pvFr fp_X10_undo_124 M Mz5667_) → (Mz5667_.1 124 46 = M55_.1 124 46) → (0 ≤ Int32.toInt i1z5667_ ∧ Int32.toInt i1z5667_ ≤ 7) → ((8 - Int32.toInt i1z5667_).toNat < nz5667_) → PW 94 d (100, [some (pvR 124), some (pvI i1z5667_)], [], Mz5667_) (fun r X => (∃ x : Int32, r = some (pvI x) ∧ (-3) ≤ Int32.toInt x ∧ Int32.toInt x ≤ 7) ∧ pvOk X ∧ pvFr fp_X10_undo_124 M X) := by
      intro nz5667_
      induction nz5667_ with
      | zero => intro i1z5667_ Mz5667_ oz5667_ fz5667_ k124_46z5667_ h1z5667_ hmz5667_; exact absurd hmz5667_ (Nat.not_lt_zero _)
      | succ nz5667_ ihz5667_ =>
        intro i1z5667_ Mz5667_ oz5667_ fz5667_ k124_46z5667_ h1z5667_ hmz5667_
        refine pw_blk hT 2 (S' := (103, [some (pvR 124), some (pvI i1z5667_)], [pvI 7, pvI i1z5667_], Mz5667_)) rfl ⟨trivial, trivial, trivial⟩ ?_
        refine pw_ic hT (c := 7 ≤ i1z5667_) rfl rfl (fun c5668_ => ?_) (fun c5668_ => ?_)
        · have b5669_ : 7 ≤ Int32.toInt i1z5667_ ∧ Int32.toInt i1z5667_ ≤ 7 := zr_le_r 7 c5668_ h1z5667_ (show 7 ≤ Int32.toInt 7 ∧ Int32.toInt 7 ≤ 7 from (by decide)) (by decide)
          refine pw_blk hT 2 (S' := (198, [some (pvR 124), some (pvI 0)], [], Mz5667_)) rfl ⟨trivial, trivial, trivial⟩ ?_
          have e5670_ : (Mz5667_.1 124 46) = (M55_.1 124 46) := (k124_46z5667_)
          have b5671_ : 1 ≤ Int32.toInt (Mz5667_.1 124 46) ∧ Int32.toInt (Mz5667_.1 124 46) ≤ 1 := (by rw [e5670_]; exact b60_)
          have hlz7033_ : ∀ (nz7033_ : Nat) (i1z7033_ : Int32) (Mz7033_ : pvM), (pvOk Mz7033_) → (pvFr fp_X10_undo_124 M Mz7033_) → (Mz7033_.1 124 46 = Mz5667_.1 124 46) → (0 ≤ Int32.toInt i1z7033_ ∧ Int32.toInt i1z7033_ ≤ 28) → ((29 - Int32.toInt i1z7033_).toNat < nz7033_) → PW 94 d (198, [some (pvR 124), some (pvI i1z7033_)], [], Mz7033_) (fun r X => (∃ x : Int32, r = some (pvI x) ∧ (-3) ≤ Int32.toInt x ∧ Int32.toInt x ≤ 7) ∧ pvOk X ∧ pvFr fp_X10_undo_124 M X) := by
            intro nz7033_
            induction nz7033_ with
            | zero => intro i1z7033_ Mz7033_ oz7033_ fz7033_ k124_46z7033_ h1z7033_ hmz7033_; exact absurd hmz7033_ (Nat.not_lt_zero _)
            | succ nz7033_ ihz7033_ =>
              intro i1z7033_ Mz7033_ oz7033_ fz7033_ k124_46z7033_ h1z7033_ hmz7033_
              refine pw_blk hT 2 (S' := (201, [some (pvR 124), some (pvI i1z7033_)], [pvI 28, pvI i1z7033_], Mz7033_)) rfl ⟨trivial, trivial, trivial⟩ ?_
              refine pw_ic hT (c := 28 ≤ i1z7033_) rfl rfl (fun c7034_ => ?_) (fun c7034_ => ?_)
              · have b7035_ : 28 ≤ Int32.toInt i1z7033_ ∧ Int32.toInt i1z7033_ ≤ 28 := zr_le_r 28 c7034_ h1z7033_ (show 28 ≤ Int32.toInt 28 ∧ Int32.toInt 28 ≤ 28 from (by decide)) (by decide)
                refine pw_blk hT 2 (S' := (224, [some (pvR 124), some (pvI 0)], [], Mz7033_)) rfl ⟨trivial, trivial, trivial⟩ ?_
                have e7036_ : (Mz7033_.1 124 46) = (Mz5667_.1 124 46) := (k124_46z7033_)
                have b7037_ : 1 ≤ Int32.toInt (Mz7033_.1 124 46) ∧ Int32.toInt (Mz7033_.1 124 46) ≤ 1 := (by rw [e7036_]; exact b5671_)
                have hlz7369_ : ∀ (nz7369_ : Nat) (i1z7369_ : Int32) (Mz7369_ : pvM), (pvOk Mz7369_) → (pvFr fp_X10_undo_124 M Mz7369_) → (Mz7369_.1 124 46 = Mz7033_.1 124 46) → (0 ≤ Int32.toInt i1z7369_ ∧ Int32.toInt i1z7369_ ≤ 6) → ((7 - Int32.toInt i1z7369_).toNat < nz7369_) → PW 94 d (224, [some (pvR 124), some (pvI i1z7369_)], [], Mz7369_) (fun r X => (∃ x : Int32, r = some (pvI x) ∧ (-3) ≤ Int32.toInt x ∧ Int32.toInt x ≤ 7) ∧ pvOk X ∧ pvFr fp_X10_undo_124 M X) := by
                  intro nz7369_
                  induction nz7369_ with
                  | zero => intro i1z7369_ Mz7369_ oz7369_ fz7369_ k124_46z7369_ h1z7369_ hmz7369_; exact absurd hmz7369_ (Nat.not_lt_zero _)
                  | succ nz7369_ ihz7369_ =>
                    intro i1z7369_ Mz7369_ oz7369_ fz7369_ k124_46z7369_ h1z7369_ hmz7369_
                    refine pw_blk hT 2 (S' := (227, [some (pvR 124), some (pvI i1z7369_)], [pvI 6, pvI i1z7369_], Mz7369_)) rfl ⟨trivial, trivial, trivial⟩ ?_
                    refine pw_ic hT (c := 6 ≤ i1z7369_) rfl rfl (fun c7370_ => ?_) (fun c7370_ => ?_)
                    · have b7371_ : 6 ≤ Int32.toInt i1z7369_ ∧ Int32.toInt i1z7369_ ≤ 6 := zr_le_r 6 c7370_ h1z7369_ (show 6 ≤ Int32.toInt 6 ∧ Int32.toInt 6 ≤ 6 from (by decide)) (by decide)
                      refine pw_blk hT 2 (S' := (262, [some (pvR 124), some (pvI 0)], [], Mz7369_)) rfl ⟨trivial, trivial, trivial⟩ ?_
                      have e7372_ : (Mz7369_.1 124 46) = (Mz7033_.1 124 46) := (k124_46z7369_)
                      have b7373_ : 1 ≤ Int32.toInt (Mz7369_.1 124 46) ∧ Int32.toInt (Mz7369_.1 124 46) ≤ 1 := (by rw [e7372_]; exact b7037_)
                      have hlz7443_ : ∀ (nz7443_ : Nat) (i1z7443_ : Int32) (Mz7443_ : pvM), (pvOk Mz7443_) → (pvFr fp_X10_undo_124 M Mz7443_) → (Mz7443_.1 124 46 = Mz7369_.1 124 46) → (0 ≤ Int32.toInt i1z7443_ ∧ Int32.toInt i1z7443_ ≤ 8) → ((9 - Int32.toInt i1z7443_).toNat < nz7443_) → PW 94 d (262, [some (pvR 124), some (pvI i1z7443_)], [], Mz7443_) (fun r X => (∃ x : Int32, r = some (pvI x) ∧ (-3) ≤ Int32.toInt x ∧ Int32.toInt x ≤ 7) ∧ pvOk X ∧ pvFr fp_X10_undo_124 M X) := by
                        intro nz7443_
                        induction nz7443_ with
                        | zero => intro i1z7443_ Mz7443_ oz7443_ fz7443_ k124_46z7443_ h1z7443_ hmz7443_; exact absurd hmz7443_ (Nat.not_lt_zero _)
                        | succ nz7443_ ihz7443_ =>
                          intro i1z7443_ Mz7443_ oz7443_ fz7443_ k124_46z7443_ h1z7443_ hmz7443_
                          refine pw_blk hT 2 (S' := (265, [some (pvR 124), some (pvI i1z7443_)], [pvI 8, pvI i1z7443_], Mz7443_)) rfl ⟨trivial, trivial, trivial⟩ ?_
                          refine pw_ic hT (c := 8 ≤ i1z7443_) rfl rfl (fun c7444_ => ?_) (fun c7444_ => ?_)
                          · have b7445_ : 8 ≤ Int32.toInt i1z7443_ ∧ Int32.toInt i1z7443_ ≤ 8 := zr_le_r 8 c7444_ h1z7443_ (show 8 ≤ Int32.toInt 8 ∧ Int32.toInt 8 ≤ 8 from (by decide)) (by decide)
                            have b7446_ : 0 ≤ Int32.toInt (Mz7443_.1 124 0) ∧ Int32.toInt (Mz7443_.1 124 0) ≤ 7 := pvok_r oz7443_ 124 0 rfl
                            refine pw_blk hT 2 (S' := (302, [some (pvR 124), some (pvI i1z7443_)], [pvI (Mz7443_.1 124 0)], Mz7443_)) rfl ⟨trivial, rfl, trivial⟩ ?_
                            exact pw_ret hT rfl (r := some (pvI (Mz7443_.1 124 0))) (M' := Mz7443_) ⟨rfl, rfl⟩ ⟨⟨_, rfl, (zr_wide b7446_ (by decide) (by decide))⟩, oz7443_, fz7443_⟩
                          · have b7447_ : 0 ≤ Int32.toInt i1z7443_ ∧ Int32.toInt i1z7443_ ≤ 7 := zr_nle_r 7 c7444_ h1z7443_ (show 8 ≤ Int32.toInt 8 ∧ Int32.toInt 8 ≤ 8 from (by decide)) (by decide)
                            have b7448_ : 0 ≤ Int32.toInt (Mz7443_.1 160 (Int32.toNatClampNeg i1z7443_)) ∧ Int32.toInt (Mz7443_.1 160 (Int32.toNatClampNeg i1z7443_)) ≤ 6 := pvok_r oz7443_ 160 (Int32.toNatClampNeg i1z7443_) rfl
                            refine pw_blkw hT 8 (pc := 280) (lo := [some (pvR 124), some (pvI i1z7443_)]) (st := []) (M := pvu Mz7443_ 149 (Int32.toNatClampNeg i1z7443_) (Mz7443_.1 160 (Int32.toNatClampNeg i1z7443_))) rfl ⟨trivial, rfl, trivial, trivial, rfl, trivial, ⟨rfl, (zr_in (n := 8) b7447_ (by decide) (by decide))⟩, ⟨rfl, (zr_in (n := 8) b7447_ (by decide) (by decide))⟩, trivial⟩ (fun M7449_ e7450_ => ?_)
                            have o7451_ : pvOk M7449_ := pvok_u2 e7450_ oz7443_ rfl b7448_
                            have f7452_ : pvFr fp_X10_undo_124 M M7449_ := pvfr_u e7450_ fz7443_ rfl
                            have b7453_ : 0 ≤ Int32.toInt (M7449_.1 161 (Int32.toNatClampNeg i1z7443_)) ∧ Int32.toInt (M7449_.1 161 (Int32.toNatClampNeg i1z7443_)) ≤ 9999 := pvok_r o7451_ 161 (Int32.toNatClampNeg i1z7443_) rfl
                            refine pw_blkw hT 8 (pc := 292) (lo := [some (pvR 124), some (pvI i1z7443_)]) (st := []) (M := pvu M7449_ 150 (Int32.toNatClampNeg i1z7443_) (M7449_.1 161 (Int32.toNatClampNeg i1z7443_))) rfl ⟨trivial, rfl, trivial, trivial, rfl, trivial, ⟨rfl, (zr_in (n := 8) b7447_ (by decide) (by decide))⟩, ⟨rfl, (zr_in (n := 8) b7447_ (by decide) (by decide))⟩, trivial⟩ (fun M7454_ e7455_ => ?_)
                            have o7456_ : pvOk M7454_ := pvok_u2 e7455_ o7451_ rfl b7453_
                            have f7457_ : pvFr fp_X10_undo_124 M M7454_ := pvfr_u e7455_ f7452_ rfl
                            obtain ⟨q7459_, b7458_⟩ : (Int32.toInt (i1z7443_ + 1) = Int32.toInt i1z7443_ + Int32.toInt 1) ∧ (1 ≤ Int32.toInt (i1z7443_ + 1) ∧ Int32.toInt (i1z7443_ + 1) ≤ 8) := zadd_r i1z7443_ 1 1 8 b7447_ (show 1 ≤ Int32.toInt 1 ∧ Int32.toInt 1 ≤ 1 from (by decide)) (by decide) (by decide) (by decide) (by decide)
                            have u7460_ : Int32.toInt 1 = 1 := by decide
                            refine pw_blk hT 2 (S' := (262, [some (pvR 124), some (pvI (i1z7443_ + 1))], [], M7454_)) rfl ⟨trivial, trivial, trivial⟩ ?_
                            exact ihz7443_ (i1z7443_ + 1) M7454_ o7456_ f7457_ (((pvu_n e7455_ 124 46 (Or.inl (by decide))).trans (pvu_n e7450_ 124 46 (Or.inl (by decide)))).trans (k124_46z7443_)) (zr_wide b7458_ (by decide) (by decide)) (by omega)
                      exact hlz7443_ _ 0 Mz7369_ oz7369_ fz7369_ rfl (zr_wide (show 0 ≤ Int32.toInt 0 ∧ Int32.toInt 0 ≤ 0 from (by decide)) (by decide) (by decide)) (Nat.lt_succ_self _)
                    · have b7461_ : 0 ≤ Int32.toInt i1z7369_ ∧ Int32.toInt i1z7369_ ≤ 5 := zr_nle_r 5 c7370_ h1z7369_ (show 6 ≤ Int32.toInt 6 ∧ Int32.toInt 6 ≤ 6 from (by decide)) (by decide)
                      have b7462_ : 0 ≤ Int32.toInt (Mz7369_.1 158 (Int32.toNatClampNeg i1z7369_)) ∧ Int32.toInt (Mz7369_.1 158 (Int32.toNatClampNeg i1z7369_)) ≤ 6 := pvok_r oz7369_ 158 (Int32.toNatClampNeg i1z7369_) rfl
                      refine pw_blkw hT 8 (pc := 242) (lo := [some (pvR 124), some (pvI i1z7369_)]) (st := []) (M := pvu Mz7369_ 147 (Int32.toNatClampNeg i1z7369_) (Mz7369_.1 158 (Int32.toNatClampNeg i1z7369_))) rfl ⟨trivial, rfl, trivial, trivial, rfl, trivial, ⟨rfl, (zr_in (n := 6) b7461_ (by decide) (by decide))⟩, ⟨rfl, (zr_in (n := 6) b7461_ (by decide) (by decide))⟩, trivial⟩ (fun M7463_ e7464_ => ?_)
                      have o7465_ : pvOk M7463_ := pvok_u2 e7464_ oz7369_ rfl b7462_
                      have f7466_ : pvFr fp_X10_undo_124 M M7463_ := pvfr_u e7464_ fz7369_ rfl
                      have b7467_ : 0 ≤ Int32.toInt (M7463_.1 159 (Int32.toNatClampNeg i1z7369_)) ∧ Int32.toInt (M7463_.1 159 (Int32.toNatClampNeg i1z7369_)) ≤ 9999 := pvok_r o7465_ 159 (Int32.toNatClampNeg i1z7369_) rfl
                      refine pw_blkw hT 8 (pc := 254) (lo := [some (pvR 124), some (pvI i1z7369_)]) (st := []) (M := pvu M7463_ 148 (Int32.toNatClampNeg i1z7369_) (M7463_.1 159 (Int32.toNatClampNeg i1z7369_))) rfl ⟨trivial, rfl, trivial, trivial, rfl, trivial, ⟨rfl, (zr_in (n := 6) b7461_ (by decide) (by decide))⟩, ⟨rfl, (zr_in (n := 6) b7461_ (by decide) (by decide))⟩, trivial⟩ (fun M7468_ e7469_ => ?_)
                      have o7470_ : pvOk M7468_ := pvok_u2 e7469_ o7465_ rfl b7467_
                      have f7471_ : pvFr fp_X10_undo_124 M M7468_ := pvfr_u e7469_ f7466_ rfl
                      obtain ⟨q7473_, b7472_⟩ : (Int32.toInt (i1z7369_ + 1) = Int32.toInt i1z7369_ + Int32.toInt 1) ∧ (1 ≤ Int32.toInt (i1z7369_ + 1) ∧ Int32.toInt (i1z7369_ + 1) ≤ 6) := zadd_r i1z7369_ 1 1 6 b7461_ (show 1 ≤ Int32.toInt 1 ∧ Int32.toInt 1 ≤ 1 from (by decide)) (by decide) (by decide) (by decide) (by decide)
                      have u7474_ : Int32.toInt 1 = 1 := by decide
                      refine pw_blk hT 2 (S' := (224, [some (pvR 124), some (pvI (i1z7369_ + 1))], [], M7468_)) rfl ⟨trivial, trivial, trivial⟩ ?_
                      exact ihz7369_ (i1z7369_ + 1) M7468_ o7470_ f7471_ (((pvu_n e7469_ 124 46 (Or.inl (by decide))).trans (pvu_n e7464_ 124 46 (Or.inl (by decide)))).trans (k124_46z7369_)) (zr_wide b7472_ (by decide) (by decide)) (by omega)
                exact hlz7369_ _ 0 Mz7033_ oz7033_ fz7033_ rfl (zr_wide (show 0 ≤ Int32.toInt 0 ∧ Int32.toInt 0 ≤ 0 from (by decide)) (by decide) (by decide)) (Nat.lt_succ_self _)
              · have b7475_ : 0 ≤ Int32.toInt i1z7033_ ∧ Int32.toInt i1z7033_ ≤ 27 := zr_nle_r 27 c7034_ h1z7033_ (show 28 ≤ Int32.toInt 28 ∧ Int32.toInt 28 ≤ 28 from (by decide)) (by decide)
                have b7476_ : 0 ≤ Int32.toInt (Mz7033_.1 156 (Int32.toNatClampNeg i1z7033_)) ∧ Int32.toInt (Mz7033_.1 156 (Int32.toNatClampNeg i1z7033_)) ≤ 9 := pvok_r oz7033_ 156 (Int32.toNatClampNeg i1z7033_) rfl
                refine pw_blkw hT 8 (pc := 216) (lo := [some (pvR 124), some (pvI i1z7033_)]) (st := []) (M := pvu Mz7033_ 130 (Int32.toNatClampNeg i1z7033_) (Mz7033_.1 156 (Int32.toNatClampNeg i1z7033_))) rfl ⟨trivial, rfl, trivial, trivial, rfl, trivial, ⟨rfl, (zr_in (n := 28) b7475_ (by decide) (by decide))⟩, ⟨rfl, (zr_in (n := 28) b7475_ (by decide) (by decide))⟩, trivial⟩ (fun M7477_ e7478_ => ?_)
                have o7479_ : pvOk M7477_ := pvok_u2 e7478_ oz7033_ rfl b7476_
                have f7480_ : pvFr fp_X10_undo_124 M M7477_ := pvfr_u e7478_ fz7033_ rfl
                obtain ⟨q7482_, b7481_⟩ : (Int32.toInt (i1z7033_ + 1) = Int32.toInt i1z7033_ + Int32.toInt 1) ∧ (1 ≤ Int32.toInt (i1z7033_ + 1) ∧ Int32.toInt (i1z7033_ + 1) ≤ 28) := zadd_r i1z7033_ 1 1 28 b7475_ (show 1 ≤ Int32.toInt 1 ∧ Int32.toInt 1 ≤ 1 from (by decide)) (by decide) (by decide) (by decide) (by decide)
                have u7483_ : Int32.toInt 1 = 1 := by decide
                refine pw_blk hT 2 (S' := (198, [some (pvR 124), some (pvI (i1z7033_ + 1))], [], M7477_)) rfl ⟨trivial, trivial, trivial⟩ ?_
                exact ihz7033_ (i1z7033_ + 1) M7477_ o7479_ f7480_ ((pvu_n e7478_ 124 46 (Or.inl (by decide))).trans (k124_46z7033_)) (zr_wide b7481_ (by decide) (by decide)) (by omega)
          exact hlz7033_ _ 0 Mz5667_ oz5667_ fz5667_ rfl (zr_wide (show 0 ≤ Int32.toInt 0 ∧ Int32.toInt 0 ≤ 0 from (by decide)) (by decide) (by decide)) (Nat.lt_succ_self _)
        · have b7484_ : 0 ≤ Int32.toInt i1z5667_ ∧ Int32.toInt i1z5667_ ≤ 6 := zr_nle_r 6 c5668_ h1z5667_ (show 7 ≤ Int32.toInt 7 ∧ Int32.toInt 7 ≤ 7 from (by decide)) (by decide)
          have b7485_ : 0 ≤ Int32.toInt (Mz5667_.1 151 (Int32.toNatClampNeg i1z5667_)) ∧ Int32.toInt (Mz5667_.1 151 (Int32.toNatClampNeg i1z5667_)) ≤ 6 := pvok_r oz5667_ 151 (Int32.toNatClampNeg i1z5667_) rfl
          refine pw_blkw hT 8 (pc := 118) (lo := [some (pvR 124), some (pvI i1z5667_)]) (st := []) (M := pvu Mz5667_ 125 (Int32.toNatClampNeg i1z5667_) (Mz5667_.1 151 (Int32.toNatClampNeg i1z5667_))) rfl ⟨trivial, rfl, trivial, trivial, rfl, trivial, ⟨rfl, (zr_in (n := 7) b7484_ (by decide) (by decide))⟩, ⟨rfl, (zr_in (n := 7) b7484_ (by decide) (by decide))⟩, trivial⟩ (fun M7486_ e7487_ => ?_)
          have o7488_ : pvOk M7486_ := pvok_u2 e7487_ oz5667_ rfl b7485_
          have f7489_ : pvFr fp_X10_undo_124 M M7486_ := pvfr_u e7487_ fz5667_ rfl
          have b7490_ : 0 ≤ Int32.toInt (M7486_.1 152 (Int32.toNatClampNeg i1z5667_)) ∧ Int32.toInt (M7486_.1 152 (Int32.toNatClampNeg i1z5667_)) ≤ 9 := pvok_r o7488_ 152 (Int32.toNatClampNeg i1z5667_) rfl
          refine pw_blkw hT 8 (pc := 130) (lo := [some (pvR 124), some (pvI i1z5667_)]) (st := []) (M := pvu M7486_ 126 (Int32.toNatClampNeg i1z5667_) (M7486_.1 152 (Int32.toNatClampNeg i1z5667_))) rfl ⟨trivial, rfl, trivial, trivial, rfl, trivial, ⟨rfl, (zr_in (n := 7) b7484_ (by decide) (by decide))⟩, ⟨rfl, (zr_in (n := 7) b7484_ (by decide) (by decide))⟩, trivial⟩ (fun M7491_ e7492_ => ?_)
          have o7493_ : pvOk M7491_ := pvok_u2 e7492_ o7488_ rfl b7490_
          have f7494_ : pvFr fp_X10_undo_124 M M7491_ := pvfr_u e7492_ f7489_ rfl
          have b7495_ : 0 ≤ Int32.toInt (M7491_.1 153 (Int32.toNatClampNeg i1z5667_)) ∧ Int32.toInt (M7491_.1 153 (Int32.toNatClampNeg i1z5667_)) ≤ 3 := pvok_r o7493_ 153 (Int32.toNatClampNeg i1z5667_) rfl
          refine pw_blkw hT 8 (pc := 142) (lo := [some (pvR 124), some (pvI i1z5667_)]) (st := []) (M := pvu M7491_ 127 (Int32.toNatClampNeg i1z5667_) (M7491_.1 153 (Int32.toNatClampNeg i1z5667_))) rfl ⟨trivial, rfl, trivial, trivial, rfl, trivial, ⟨rfl, (zr_in (n := 7) b7484_ (by decide) (by decide))⟩, ⟨rfl, (zr_in (n := 7) b7484_ (by decide) (by decide))⟩, trivial⟩ (fun M7496_ e7497_ => ?_)
          have o7498_ : pvOk M7496_ := pvok_u2 e7497_ o7493_ rfl b7495_
          have f7499_ : pvFr fp_X10_undo_124 M M7496_ := pvfr_u e7497_ f7494_ rfl
          have b7500_ : 0 ≤ Int32.toInt (M7496_.1 154 (Int32.toNatClampNeg i1z5667_)) ∧ Int32.toInt (M7496_.1 154 (Int32.toNatClampNeg i1z5667_)) ≤ 4 := pvok_r o7498_ 154 (Int32.toNatClampNeg i1z5667_) rfl
          refine pw_blkw hT 8 (pc := 154) (lo := [some (pvR 124), some (pvI i1z5667_)]) (st := []) (M := pvu M7496_ 128 (Int32.toNatClampNeg i1z5667_) (M7496_.1 154 (Int32.toNatClampNeg i1z5667_))) rfl ⟨trivial, rfl, trivial, trivial, rfl, trivial, ⟨rfl, (zr_in (n := 7) b7484_ (by decide) (by decide))⟩, ⟨rfl, (zr_in (n := 7) b7484_ (by decide) (by decide))⟩, trivial⟩ (fun M7501_ e7502_ => ?_)
          have o7503_ : pvOk M7501_ := pvok_u2 e7502_ o7498_ rfl b7500_
          have f7504_ : pvFr fp_X10_undo_124 M M7501_ := pvfr_u e7502_ f7499_ rfl
          have b7505_ : 0 ≤ Int32.toInt (M7501_.1 155 (Int32.toNatClampNeg i1z5667_)) ∧ Int32.toInt (M7501_.1 155 (Int32.toNatClampNeg i1z5667_)) ≤ 9 := pvok_r o7503_ 155 (Int32.toNatClampNeg i1z5667_) rfl
          refine pw_blkw hT 8 (pc := 166) (lo := [some (pvR 124), some (pvI i1z5667_)]) (st := []) (M := pvu M7501_ 129 (Int32.toNatClampNeg i1z5667_) (M7501_.1 155 (Int32.toNatClampNeg i1z5667_))) rfl ⟨trivial, rfl, trivial, trivial, rfl, trivial, ⟨rfl, (zr_in (n := 7) b7484_ (by decide) (by decide))⟩, ⟨rfl, (zr_in (n := 7) b7484_ (by decide) (by decide))⟩, trivial⟩ (fun M7506_ e7507_ => ?_)
          have o7508_ : pvOk M7506_ := pvok_u2 e7507_ o7503_ rfl b7505_
          have f7509_ : pvFr fp_X10_undo_124 M M7506_ := pvfr_u e7507_ f7504_ rfl
          have b7510_ : 0 ≤ Int32.toInt (M7506_.1 162 (Int32.toNatClampNeg i1z5667_)) ∧ Int32.toInt (M7506_.1 162 (Int32.toNatClampNeg i1z5667_)) ≤ 1 := pvok_r o7508_ 162 (Int32.toNatClampNeg i1z5667_) rfl
          refine pw_blkw hT 8 (pc := 178) (lo := [some (pvR 124), some (pvI i1z5667_)]) (st := []) (M := pvu M7506_ 131 (Int32.toNatClampNeg i1z5667_) (vp_nar .boolean (M7506_.1 162 (Int32.toNatClampNeg i1z5667_)))) rfl ⟨trivial, rfl, trivial, trivial, rfl, trivial, ⟨rfl, (zr_in (n := 7) b7484_ (by decide) (by decide))⟩, ⟨rfl, (zr_in (n := 7) b7484_ (by decide) (by decide))⟩, trivial⟩ (fun M7511_ e7512_ => ?_)
          have o7513_ : pvOk M7511_ := pvok_u2 e7512_ o7508_ rfl (zboolr (M7506_.1 162 (Int32.toNatClampNeg i1z5667_)))
          have f7514_ : pvFr fp_X10_undo_124 M M7511_ := pvfr_u e7512_ f7509_ rfl
          have b7515_ : 0 ≤ Int32.toInt (M7511_.1 157 (Int32.toNatClampNeg i1z5667_)) ∧ Int32.toInt (M7511_.1 157 (Int32.toNatClampNeg i1z5667_)) ≤ 6 := pvok_r o7513_ 157 (Int32.toNatClampNeg i1z5667_) rfl
          refine pw_blkw hT 8 (pc := 190) (lo := [some (pvR 124), some (pvI i1z5667_)]) (st := []) (M := pvu M7511_ 145 (Int32.toNatClampNeg i1z5667_) (M7511_.1 157 (Int32.toNatClampNeg i1z5667_))) rfl ⟨trivial, rfl, trivial, trivial, rfl, trivial, ⟨rfl, (zr_in (n := 7) b7484_ (by decide) (by decide))⟩, ⟨rfl, (zr_in (n := 7) b7484_ (by decide) (by decide))⟩, trivial⟩ (fun M7516_ e7517_ => ?_)
          have o7518_ : pvOk M7516_ := pvok_u2 e7517_ o7513_ rfl b7515_
          have f7519_ : pvFr fp_X10_undo_124 M M7516_ := pvfr_u e7517_ f7514_ rfl
          obtain ⟨q7521_, b7520_⟩ : (Int32.toInt (i1z5667_ + 1) = Int32.toInt i1z5667_ + Int32.toInt 1) ∧ (1 ≤ Int32.toInt (i1z5667_ + 1) ∧ Int32.toInt (i1z5667_ + 1) ≤ 7) := zadd_r i1z5667_ 1 1 7 b7484_ (show 1 ≤ Int32.toInt 1 ∧ Int32.toInt 1 ≤ 1 from (by decide)) (by decide) (by decide) (by decide) (by decide)
          have u7522_ : Int32.toInt 1 = 1 := by decide
          refine pw_blk hT 2 (S' := (100, [some (pvR 124), some (pvI (i1z5667_ + 1))], [], M7516_)) rfl ⟨trivial, trivial, trivial⟩ ?_
          exact ihz5667_ (i1z5667_ + 1) M7516_ o7518_ f7519_ ((((((((pvu_n e7517_ 124 46 (Or.inl (by decide))).trans (pvu_n e7512_ 124 46 (Or.inl (by decide)))).trans (pvu_n e7507_ 124 46 (Or.inl (by decide)))).trans (pvu_n e7502_ 124 46 (Or.inl (by decide)))).trans (pvu_n e7497_ 124 46 (Or.inl (by decide)))).trans (pvu_n e7492_ 124 46 (Or.inl (by decide)))).trans (pvu_n e7487_ 124 46 (Or.inl (by decide)))).trans (k124_46z5667_)) (zr_wide b7520_ (by decide) (by decide)) (by omega)
    exact hlz5667_ _ 0 M55_ o57_ f58_ rfl (zr_wide (show 0 ≤ Int32.toInt 0 ∧ Int32.toInt 0 ≤ 0 from (by decide)) (by decide) (by decide)) (Nat.lt_succ_self _)
  · have b7523_ : 0 ≤ Int32.toInt (M.1 124 46) ∧ Int32.toInt (M.1 124 46) ≤ 0 := (by have u0 := b1_; have u1 := (zi_eq _ _).mp c2_; have u2 := (show 0 ≤ Int32.toInt 0 ∧ Int32.toInt 0 ≤ 0 from (by decide)); omega)
    refine pw_blk hT 1 (S' := (9, [some (pvR 124), none], [pvI (-3)], M)) rfl ⟨trivial, trivial⟩ ?_
    exact pw_ret hT rfl (r := some (pvI (-3))) (M' := M) ⟨rfl, rfl⟩ ⟨⟨_, rfl, (zr_wide (show (-3) ≤ Int32.toInt (-3) ∧ Int32.toInt (-3) ≤ (-3) from (by decide)) (by decide) (by decide))⟩, hok, pvfr_0⟩
def fpL_X10_window_124_x_x_x_x_x : List (Nat × Nat × Nat) := [(0, 124, 1), (0, 125, 0), (0, 126, 0), (0, 127, 0), (0, 128, 0), (0, 129, 0), (0, 130, 0), (0, 131, 0)]
def fp_X10_window_124_x_x_x_x_x (q k : Nat) : Bool := pvfp fpL_X10_window_124_x_x_x_x_x q k
set_option maxHeartbeats 4000000 in
set_option maxRecDepth 10000 in
theorem sf_X10_window_124_x_x_x_x_x (M : pvM) (hok : pvOk M) (n1 : Int32) (n2 : Int32) (n3 : Int32) (n4 : Int32) (n5 : Int32) (d : Nat) : PW 97 d (0, [some (pvR 124), some (pvI n1), some (pvI n2), some (pvI n3), some (pvI n4), some (pvI n5), none], [], M) (fun r X => (∃ x : Int32, r = some (pvI x) ∧ (-4) ≤ Int32.toInt x ∧ Int32.toInt x ≤ 6) ∧ pvOk X ∧ pvFr fp_X10_window_124_x_x_x_x_x M X) := by
  have hT : pvdom 97 = pvD_97 := rfl
  refine pw_blk hT 4 (S' := (5, [some (pvR 124), some (pvI n1), some (pvI n2), some (pvI n3), some (pvI n4), some (pvI n5), none], [pvI 6, pvI 0, pvI n1, pvR 124], M)) rfl ⟨trivial, trivial, trivial, trivial, trivial⟩ ?_
  refine pw_callT hT (as := [pvR 124, pvI n1, pvI 0, pvI 6]) (lo1 := [some (pvR 124), some (pvI n1), some (pvI 0), some (pvI 6)]) (d1 := d) (rest := []) rfl rfl rfl rfl rfl (fun _ => rfl) (Nat.zero_le _) rfl rfl rfl (sf_X10_in_124_x_x_x M hok n1 0 6 d) ?_
  by_cases c6_ : n1 < 0
  · refine pw_eqI (if_pos c6_) ?_
    have b7_ : (-2147483648) ≤ Int32.toInt n1 ∧ Int32.toInt n1 ≤ (-1) := zr_lt_l (-1) c6_ (zbnd n1) (show 0 ≤ Int32.toInt 0 ∧ Int32.toInt 0 ≤ 0 from (by decide)) (by decide)
    show PW 97 d (8, [some (pvR 124), some (pvI n1), some (pvI n2), some (pvI n3), some (pvI n4), some (pvI n5), none], [pvI 0], M) _
    refine pw_ifn hT (c := 0 = 0) rfl rfl (fun c8_ => absurd (by decide) c8_) (fun c8_ => ?_)
    refine pw_blk hT 1 (S' := (12, [some (pvR 124), some (pvI n1), some (pvI n2), some (pvI n3), some (pvI n4), some (pvI n5), none], [pvI (-1)], M)) rfl ⟨trivial, trivial⟩ ?_
    exact pw_ret hT rfl (r := some (pvI (-1))) (M' := M) ⟨rfl, rfl⟩ ⟨⟨_, rfl, (zr_wide (show (-1) ≤ Int32.toInt (-1) ∧ Int32.toInt (-1) ≤ (-1) from (by decide)) (by decide) (by decide))⟩, hok, pvfr_0⟩
  · refine pw_eqI (if_neg c6_) ?_
    have b9_ : 0 ≤ Int32.toInt n1 ∧ Int32.toInt n1 ≤ 2147483647 := zr_nlt_l 0 c6_ (zbnd n1) (show 0 ≤ Int32.toInt 0 ∧ Int32.toInt 0 ≤ 0 from (by decide)) (by decide)
    by_cases c10_ : 6 < n1
    · refine pw_eqI (if_pos c10_) ?_
      have b11_ : 7 ≤ Int32.toInt n1 ∧ Int32.toInt n1 ≤ 2147483647 := zr_lt_r 7 c10_ b9_ (show 6 ≤ Int32.toInt 6 ∧ Int32.toInt 6 ≤ 6 from (by decide)) (by decide)
      show PW 97 d (8, [some (pvR 124), some (pvI n1), some (pvI n2), some (pvI n3), some (pvI n4), some (pvI n5), none], [pvI 0], M) _
      refine pw_ifn hT (c := 0 = 0) rfl rfl (fun c12_ => absurd (by decide) c12_) (fun c12_ => ?_)
      refine pw_blk hT 1 (S' := (12, [some (pvR 124), some (pvI n1), some (pvI n2), some (pvI n3), some (pvI n4), some (pvI n5), none], [pvI (-1)], M)) rfl ⟨trivial, trivial⟩ ?_
      exact pw_ret hT rfl (r := some (pvI (-1))) (M' := M) ⟨rfl, rfl⟩ ⟨⟨_, rfl, (zr_wide (show (-1) ≤ Int32.toInt (-1) ∧ Int32.toInt (-1) ≤ (-1) from (by decide)) (by decide) (by decide))⟩, hok, pvfr_0⟩
    · refine pw_eqI (if_neg c10_) ?_
      have b13_ : 0 ≤ Int32.toInt n1 ∧ Int32.toInt n1 ≤ 6 := zr_nlt_r 6 c10_ b9_ (show 6 ≤ Int32.toInt 6 ∧ Int32.toInt 6 ≤ 6 from (by decide)) (by decide)
      show PW 97 d (8, [some (pvR 124), some (pvI n1), some (pvI n2), some (pvI n3), some (pvI n4), some (pvI n5), none], [pvI 1], M) _
      refine pw_ifn hT (c := 1 = 0) rfl rfl (fun c14_ => ?_) (fun c14_ => absurd c14_ (by decide))
      refine pw_blk hT 4 (S' := (18, [some (pvR 124), some (pvI n1), some (pvI n2), some (pvI n3), some (pvI n4), some (pvI n5), none], [pvI 9, pvI 0, pvI n2, pvR 124], M)) rfl ⟨trivial, trivial, trivial, trivial, trivial⟩ ?_
      refine pw_callT hT (as := [pvR 124, pvI n2, pvI 0, pvI 9]) (lo1 := [some (pvR 124), some (pvI n2), some (pvI 0), some (pvI 9)]) (d1 := d) (rest := []) rfl rfl rfl rfl rfl (fun _ => rfl) (Nat.zero_le _) rfl rfl rfl (sf_X10_in_124_x_x_x M hok n2 0 9 d) ?_
      by_cases c20_ : n2 < 0
      · refine pw_eqI (if_pos c20_) ?_
        have b21_ : (-2147483648) ≤ Int32.toInt n2 ∧ Int32.toInt n2 ≤ (-1) := zr_lt_l (-1) c20_ (zbnd n2) (show 0 ≤ Int32.toInt 0 ∧ Int32.toInt 0 ≤ 0 from (by decide)) (by decide)
        show PW 97 d (21, [some (pvR 124), some (pvI n1), some (pvI n2), some (pvI n3), some (pvI n4), some (pvI n5), none], [pvI 0], M) _
        refine pw_if hT (c := 0 = 0) rfl rfl (fun c22_ => ?_) (fun c22_ => absurd (by decide) c22_)
        refine pw_blk hT 1 (S' := (48, [some (pvR 124), some (pvI n1), some (pvI n2), some (pvI n3), some (pvI n4), some (pvI n5), none], [pvI (-2)], M)) rfl ⟨trivial, trivial⟩ ?_
        exact pw_ret hT rfl (r := some (pvI (-2))) (M' := M) ⟨rfl, rfl⟩ ⟨⟨_, rfl, (zr_wide (show (-2) ≤ Int32.toInt (-2) ∧ Int32.toInt (-2) ≤ (-2) from (by decide)) (by decide) (by decide))⟩, hok, pvfr_0⟩
      · refine pw_eqI (if_neg c20_) ?_
        have b23_ : 0 ≤ Int32.toInt n2 ∧ Int32.toInt n2 ≤ 2147483647 := zr_nlt_l 0 c20_ (zbnd n2) (show 0 ≤ Int32.toInt 0 ∧ Int32.toInt 0 ≤ 0 from (by decide)) (by decide)
        by_cases c24_ : 9 < n2
        · refine pw_eqI (if_pos c24_) ?_
          have b25_ : 10 ≤ Int32.toInt n2 ∧ Int32.toInt n2 ≤ 2147483647 := zr_lt_r 10 c24_ b23_ (show 9 ≤ Int32.toInt 9 ∧ Int32.toInt 9 ≤ 9 from (by decide)) (by decide)
          show PW 97 d (21, [some (pvR 124), some (pvI n1), some (pvI n2), some (pvI n3), some (pvI n4), some (pvI n5), none], [pvI 0], M) _
          refine pw_if hT (c := 0 = 0) rfl rfl (fun c26_ => ?_) (fun c26_ => absurd (by decide) c26_)
          refine pw_blk hT 1 (S' := (48, [some (pvR 124), some (pvI n1), some (pvI n2), some (pvI n3), some (pvI n4), some (pvI n5), none], [pvI (-2)], M)) rfl ⟨trivial, trivial⟩ ?_
          exact pw_ret hT rfl (r := some (pvI (-2))) (M' := M) ⟨rfl, rfl⟩ ⟨⟨_, rfl, (zr_wide (show (-2) ≤ Int32.toInt (-2) ∧ Int32.toInt (-2) ≤ (-2) from (by decide)) (by decide) (by decide))⟩, hok, pvfr_0⟩
        · refine pw_eqI (if_neg c24_) ?_
          have b27_ : 0 ≤ Int32.toInt n2 ∧ Int32.toInt n2 ≤ 9 := zr_nlt_r 9 c24_ b23_ (show 9 ≤ Int32.toInt 9 ∧ Int32.toInt 9 ≤ 9 from (by decide)) (by decide)
          show PW 97 d (21, [some (pvR 124), some (pvI n1), some (pvI n2), some (pvI n3), some (pvI n4), some (pvI n5), none], [pvI 1], M) _
          refine pw_if hT (c := 1 = 0) rfl rfl (fun c28_ => absurd c28_ (by decide)) (fun c28_ => ?_)
          refine pw_blk hT 3 (S' := (28, [some (pvR 124), some (pvI n1), some (pvI n2), some (pvI n3), some (pvI n4), some (pvI n5), none], [pvI n4, pvI n3, pvR 124], M)) rfl ⟨trivial, trivial, trivial, trivial⟩ ?_
          refine pw_callT hT (as := [pvR 124, pvI n3, pvI n4]) (lo1 := [some (pvR 124), some (pvI n3), some (pvI n4)]) (d1 := d) (rest := []) rfl rfl rfl rfl rfl (fun _ => rfl) (Nat.zero_le _) rfl rfl rfl (sf_X10_isPlace_124_x_x M hok n3 n4 d) ?_
          by_cases c34_ : n3 < 0
          · refine pw_eqI (if_pos c34_) ?_
            have b35_ : (-2147483648) ≤ Int32.toInt n3 ∧ Int32.toInt n3 ≤ (-1) := zr_lt_l (-1) c34_ (zbnd n3) (show 0 ≤ Int32.toInt 0 ∧ Int32.toInt 0 ≤ 0 from (by decide)) (by decide)
            show PW 97 d (31, [some (pvR 124), some (pvI n1), some (pvI n2), some (pvI n3), some (pvI n4), some (pvI n5), none], [pvI 0], M) _
            refine pw_if hT (c := 0 = 0) rfl rfl (fun c36_ => ?_) (fun c36_ => absurd (by decide) c36_)
            refine pw_blk hT 1 (S' := (48, [some (pvR 124), some (pvI n1), some (pvI n2), some (pvI n3), some (pvI n4), some (pvI n5), none], [pvI (-2)], M)) rfl ⟨trivial, trivial⟩ ?_
            exact pw_ret hT rfl (r := some (pvI (-2))) (M' := M) ⟨rfl, rfl⟩ ⟨⟨_, rfl, (zr_wide (show (-2) ≤ Int32.toInt (-2) ∧ Int32.toInt (-2) ≤ (-2) from (by decide)) (by decide) (by decide))⟩, hok, pvfr_0⟩
          · refine pw_eqI (if_neg c34_) ?_
            have b37_ : 0 ≤ Int32.toInt n3 ∧ Int32.toInt n3 ≤ 2147483647 := zr_nlt_l 0 c34_ (zbnd n3) (show 0 ≤ Int32.toInt 0 ∧ Int32.toInt 0 ≤ 0 from (by decide)) (by decide)
            by_cases c38_ : 3 < n3
            · refine pw_eqI (if_pos c38_) ?_
              have b39_ : 4 ≤ Int32.toInt n3 ∧ Int32.toInt n3 ≤ 2147483647 := zr_lt_r 4 c38_ b37_ (show 3 ≤ Int32.toInt 3 ∧ Int32.toInt 3 ≤ 3 from (by decide)) (by decide)
              show PW 97 d (31, [some (pvR 124), some (pvI n1), some (pvI n2), some (pvI n3), some (pvI n4), some (pvI n5), none], [pvI 0], M) _
              refine pw_if hT (c := 0 = 0) rfl rfl (fun c40_ => ?_) (fun c40_ => absurd (by decide) c40_)
              refine pw_blk hT 1 (S' := (48, [some (pvR 124), some (pvI n1), some (pvI n2), some (pvI n3), some (pvI n4), some (pvI n5), none], [pvI (-2)], M)) rfl ⟨trivial, trivial⟩ ?_
              exact pw_ret hT rfl (r := some (pvI (-2))) (M' := M) ⟨rfl, rfl⟩ ⟨⟨_, rfl, (zr_wide (show (-2) ≤ Int32.toInt (-2) ∧ Int32.toInt (-2) ≤ (-2) from (by decide)) (by decide) (by decide))⟩, hok, pvfr_0⟩
            · refine pw_eqI (if_neg c38_) ?_
              have b41_ : 0 ≤ Int32.toInt n3 ∧ Int32.toInt n3 ≤ 3 := zr_nlt_r 3 c38_ b37_ (show 3 ≤ Int32.toInt 3 ∧ Int32.toInt 3 ≤ 3 from (by decide)) (by decide)
              by_cases c42_ : n4 < 0
              · refine pw_eqI (if_pos c42_) ?_
                have b43_ : (-2147483648) ≤ Int32.toInt n4 ∧ Int32.toInt n4 ≤ (-1) := zr_lt_l (-1) c42_ (zbnd n4) (show 0 ≤ Int32.toInt 0 ∧ Int32.toInt 0 ≤ 0 from (by decide)) (by decide)
                show PW 97 d (31, [some (pvR 124), some (pvI n1), some (pvI n2), some (pvI n3), some (pvI n4), some (pvI n5), none], [pvI 0], M) _
                refine pw_if hT (c := 0 = 0) rfl rfl (fun c44_ => ?_) (fun c44_ => absurd (by decide) c44_)
                refine pw_blk hT 1 (S' := (48, [some (pvR 124), some (pvI n1), some (pvI n2), some (pvI n3), some (pvI n4), some (pvI n5), none], [pvI (-2)], M)) rfl ⟨trivial, trivial⟩ ?_
                exact pw_ret hT rfl (r := some (pvI (-2))) (M' := M) ⟨rfl, rfl⟩ ⟨⟨_, rfl, (zr_wide (show (-2) ≤ Int32.toInt (-2) ∧ Int32.toInt (-2) ≤ (-2) from (by decide)) (by decide) (by decide))⟩, hok, pvfr_0⟩
              · refine pw_eqI (if_neg c42_) ?_
                have b45_ : 0 ≤ Int32.toInt n4 ∧ Int32.toInt n4 ≤ 2147483647 := zr_nlt_l 0 c42_ (zbnd n4) (show 0 ≤ Int32.toInt 0 ∧ Int32.toInt 0 ≤ 0 from (by decide)) (by decide)
                by_cases c46_ : 4 < n4
                · refine pw_eqI (if_pos c46_) ?_
                  have b47_ : 5 ≤ Int32.toInt n4 ∧ Int32.toInt n4 ≤ 2147483647 := zr_lt_r 5 c46_ b45_ (show 4 ≤ Int32.toInt 4 ∧ Int32.toInt 4 ≤ 4 from (by decide)) (by decide)
                  show PW 97 d (31, [some (pvR 124), some (pvI n1), some (pvI n2), some (pvI n3), some (pvI n4), some (pvI n5), none], [pvI 0], M) _
                  refine pw_if hT (c := 0 = 0) rfl rfl (fun c48_ => ?_) (fun c48_ => absurd (by decide) c48_)
                  refine pw_blk hT 1 (S' := (48, [some (pvR 124), some (pvI n1), some (pvI n2), some (pvI n3), some (pvI n4), some (pvI n5), none], [pvI (-2)], M)) rfl ⟨trivial, trivial⟩ ?_
                  exact pw_ret hT rfl (r := some (pvI (-2))) (M' := M) ⟨rfl, rfl⟩ ⟨⟨_, rfl, (zr_wide (show (-2) ≤ Int32.toInt (-2) ∧ Int32.toInt (-2) ≤ (-2) from (by decide)) (by decide) (by decide))⟩, hok, pvfr_0⟩
                · refine pw_eqI (if_neg c46_) ?_
                  have b49_ : 0 ≤ Int32.toInt n4 ∧ Int32.toInt n4 ≤ 4 := zr_nlt_r 4 c46_ b45_ (show 4 ≤ Int32.toInt 4 ∧ Int32.toInt 4 ≤ 4 from (by decide)) (by decide)
                  show PW 97 d (31, [some (pvR 124), some (pvI n1), some (pvI n2), some (pvI n3), some (pvI n4), some (pvI n5), none], [pvI 1], M) _
                  refine pw_if hT (c := 1 = 0) rfl rfl (fun c50_ => absurd c50_ (by decide)) (fun c50_ => ?_)
                  refine pw_blk hT 4 (S' := (40, [some (pvR 124), some (pvI n1), some (pvI n2), some (pvI n3), some (pvI n4), some (pvI n5), none], [pvI 9, pvI 1, pvI n5, pvR 124], M)) rfl ⟨trivial, trivial, trivial, trivial, trivial⟩ ?_
                  refine pw_callT hT (as := [pvR 124, pvI n5, pvI 1, pvI 9]) (lo1 := [some (pvR 124), some (pvI n5), some (pvI 1), some (pvI 9)]) (d1 := d) (rest := []) rfl rfl rfl rfl rfl (fun _ => rfl) (Nat.zero_le _) rfl rfl rfl (sf_X10_in_124_x_x_x M hok n5 1 9 d) ?_
                  by_cases c56_ : n5 < 1
                  · refine pw_eqI (if_pos c56_) ?_
                    have b57_ : (-2147483648) ≤ Int32.toInt n5 ∧ Int32.toInt n5 ≤ 0 := zr_lt_l 0 c56_ (zbnd n5) (show 1 ≤ Int32.toInt 1 ∧ Int32.toInt 1 ≤ 1 from (by decide)) (by decide)
                    show PW 97 d (43, [some (pvR 124), some (pvI n1), some (pvI n2), some (pvI n3), some (pvI n4), some (pvI n5), none], [pvI 0], M) _
                    refine pw_ifn hT (c := 0 = 0) rfl rfl (fun c58_ => absurd (by decide) c58_) (fun c58_ => ?_)
                    refine pw_blk hT 1 (S' := (48, [some (pvR 124), some (pvI n1), some (pvI n2), some (pvI n3), some (pvI n4), some (pvI n5), none], [pvI (-2)], M)) rfl ⟨trivial, trivial⟩ ?_
                    exact pw_ret hT rfl (r := some (pvI (-2))) (M' := M) ⟨rfl, rfl⟩ ⟨⟨_, rfl, (zr_wide (show (-2) ≤ Int32.toInt (-2) ∧ Int32.toInt (-2) ≤ (-2) from (by decide)) (by decide) (by decide))⟩, hok, pvfr_0⟩
                  · refine pw_eqI (if_neg c56_) ?_
                    have b59_ : 1 ≤ Int32.toInt n5 ∧ Int32.toInt n5 ≤ 2147483647 := zr_nlt_l 1 c56_ (zbnd n5) (show 1 ≤ Int32.toInt 1 ∧ Int32.toInt 1 ≤ 1 from (by decide)) (by decide)
                    by_cases c60_ : 9 < n5
                    · refine pw_eqI (if_pos c60_) ?_
                      have b61_ : 10 ≤ Int32.toInt n5 ∧ Int32.toInt n5 ≤ 2147483647 := zr_lt_r 10 c60_ b59_ (show 9 ≤ Int32.toInt 9 ∧ Int32.toInt 9 ≤ 9 from (by decide)) (by decide)
                      show PW 97 d (43, [some (pvR 124), some (pvI n1), some (pvI n2), some (pvI n3), some (pvI n4), some (pvI n5), none], [pvI 0], M) _
                      refine pw_ifn hT (c := 0 = 0) rfl rfl (fun c62_ => absurd (by decide) c62_) (fun c62_ => ?_)
                      refine pw_blk hT 1 (S' := (48, [some (pvR 124), some (pvI n1), some (pvI n2), some (pvI n3), some (pvI n4), some (pvI n5), none], [pvI (-2)], M)) rfl ⟨trivial, trivial⟩ ?_
                      exact pw_ret hT rfl (r := some (pvI (-2))) (M' := M) ⟨rfl, rfl⟩ ⟨⟨_, rfl, (zr_wide (show (-2) ≤ Int32.toInt (-2) ∧ Int32.toInt (-2) ≤ (-2) from (by decide)) (by decide) (by decide))⟩, hok, pvfr_0⟩
                    · refine pw_eqI (if_neg c60_) ?_
                      have b63_ : 1 ≤ Int32.toInt n5 ∧ Int32.toInt n5 ≤ 9 := zr_nlt_r 9 c60_ b59_ (show 9 ≤ Int32.toInt 9 ∧ Int32.toInt 9 ≤ 9 from (by decide)) (by decide)
                      show PW 97 d (43, [some (pvR 124), some (pvI n1), some (pvI n2), some (pvI n3), some (pvI n4), some (pvI n5), none], [pvI 1], M) _
                      refine pw_ifn hT (c := 1 = 0) rfl rfl (fun c64_ => ?_) (fun c64_ => absurd c64_ (by decide))
                      have b65_ : 0 ≤ Int32.toInt (M.1 124 0) ∧ Int32.toInt (M.1 124 0) ≤ 7 := pvok_r hok 124 0 rfl
                      refine pw_blk hT 3 (S' := (55, [some (pvR 124), some (pvI n1), some (pvI n2), some (pvI n3), some (pvI n4), some (pvI n5), none], [pvI 7, pvI (M.1 124 0)], M)) rfl ⟨trivial, rfl, trivial, trivial⟩ ?_
                      refine pw_icn hT (c := (M.1 124 0) = 7) rfl rfl (fun c66_ => ?_) (fun c66_ => ?_)
                      · have b67_ : 0 ≤ Int32.toInt (M.1 124 0) ∧ Int32.toInt (M.1 124 0) ≤ 6 := (by have u0 := b65_; have u1 := (not_congr (zi_eq _ _)).mp c66_; have u2 := (show 7 ≤ Int32.toInt 7 ∧ Int32.toInt 7 ≤ 7 from (by decide)); omega)
                        refine pw_blkw hT 6 (pc := 71) (lo := [some (pvR 124), some (pvI n1), some (pvI n2), some (pvI n3), some (pvI n4), some (pvI n5), none]) (st := []) (M := pvu M 125 (Int32.toNatClampNeg (M.1 124 0)) n1) rfl ⟨trivial, rfl, trivial, rfl, trivial, ⟨rfl, (zr_in (n := 7) b67_ (by decide) (by decide))⟩, trivial⟩ (fun M68_ e69_ => ?_)
                        have o70_ : pvOk M68_ := pvok_u2 e69_ hok rfl b13_
                        have f71_ : pvFr fp_X10_window_124_x_x_x_x_x M M68_ := pvfr_u e69_ pvfr_0 rfl
                        have e72_ : (M68_.1 124 0) = (M.1 124 0) := (pvu_n e69_ 124 0 (Or.inl (by decide)))
                        have b73_ : 0 ≤ Int32.toInt (M68_.1 124 0) ∧ Int32.toInt (M68_.1 124 0) ≤ 6 := (by rw [e72_]; exact b67_)
                        refine pw_blkw hT 6 (pc := 81) (lo := [some (pvR 124), some (pvI n1), some (pvI n2), some (pvI n3), some (pvI n4), some (pvI n5), none]) (st := []) (M := pvu M68_ 126 (Int32.toNatClampNeg (M68_.1 124 0)) n2) rfl ⟨trivial, rfl, trivial, rfl, trivial, ⟨rfl, (zr_in (n := 7) b73_ (by decide) (by decide))⟩, trivial⟩ (fun M74_ e75_ => ?_)
                        have o76_ : pvOk M74_ := pvok_u2 e75_ o70_ rfl b27_
                        have f77_ : pvFr fp_X10_window_124_x_x_x_x_x M M74_ := pvfr_u e75_ f71_ rfl
                        have e78_ : (M74_.1 124 0) = (M68_.1 124 0) := (pvu_n e75_ 124 0 (Or.inl (by decide)))
                        have b79_ : 0 ≤ Int32.toInt (M74_.1 124 0) ∧ Int32.toInt (M74_.1 124 0) ≤ 6 := (by rw [e78_]; exact b73_)
                        refine pw_blkw hT 6 (pc := 91) (lo := [some (pvR 124), some (pvI n1), some (pvI n2), some (pvI n3), some (pvI n4), some (pvI n5), none]) (st := []) (M := pvu M74_ 127 (Int32.toNatClampNeg (M74_.1 124 0)) n3) rfl ⟨trivial, rfl, trivial, rfl, trivial, ⟨rfl, (zr_in (n := 7) b79_ (by decide) (by decide))⟩, trivial⟩ (fun M80_ e81_ => ?_)
                        have o82_ : pvOk M80_ := pvok_u2 e81_ o76_ rfl b41_
                        have f83_ : pvFr fp_X10_window_124_x_x_x_x_x M M80_ := pvfr_u e81_ f77_ rfl
                        have e84_ : (M80_.1 124 0) = (M74_.1 124 0) := (pvu_n e81_ 124 0 (Or.inl (by decide)))
                        have b85_ : 0 ≤ Int32.toInt (M80_.1 124 0) ∧ Int32.toInt (M80_.1 124 0) ≤ 6 := (by rw [e84_]; exact b79_)
                        refine pw_blkw hT 6 (pc := 102) (lo := [some (pvR 124), some (pvI n1), some (pvI n2), some (pvI n3), some (pvI n4), some (pvI n5), none]) (st := []) (M := pvu M80_ 128 (Int32.toNatClampNeg (M80_.1 124 0)) n4) rfl ⟨trivial, rfl, trivial, rfl, trivial, ⟨rfl, (zr_in (n := 7) b85_ (by decide) (by decide))⟩, trivial⟩ (fun M86_ e87_ => ?_)
                        have o88_ : pvOk M86_ := pvok_u2 e87_ o82_ rfl b49_
                        have f89_ : pvFr fp_X10_window_124_x_x_x_x_x M M86_ := pvfr_u e87_ f83_ rfl
                        have e90_ : (M86_.1 124 0) = (M80_.1 124 0) := (pvu_n e87_ 124 0 (Or.inl (by decide)))
                        have b91_ : 0 ≤ Int32.toInt (M86_.1 124 0) ∧ Int32.toInt (M86_.1 124 0) ≤ 6 := (by rw [e90_]; exact b85_)
                        refine pw_blkw hT 6 (pc := 113) (lo := [some (pvR 124), some (pvI n1), some (pvI n2), some (pvI n3), some (pvI n4), some (pvI n5), none]) (st := []) (M := pvu M86_ 129 (Int32.toNatClampNeg (M86_.1 124 0)) n5) rfl ⟨trivial, rfl, trivial, rfl, trivial, ⟨rfl, (zr_in (n := 7) b91_ (by decide) (by decide))⟩, trivial⟩ (fun M92_ e93_ => ?_)
                        have o94_ : pvOk M92_ := pvok_u2 e93_ o88_ rfl (zr_wide b63_ (by decide) (by decide))
                        have f95_ : pvFr fp_X10_window_124_x_x_x_x_x M M92_ := pvfr_u e93_ f89_ rfl
                        have e96_ : (M92_.1 124 0) = (M86_.1 124 0) := (pvu_n e93_ 124 0 (Or.inl (by decide)))
                        have b97_ : 0 ≤ Int32.toInt (M92_.1 124 0) ∧ Int32.toInt (M92_.1 124 0) ≤ 6 := (by rw [e96_]; exact b91_)
                        refine pw_blkw hT 6 (pc := 123) (lo := [some (pvR 124), some (pvI n1), some (pvI n2), some (pvI n3), some (pvI n4), some (pvI n5), none]) (st := []) (M := pvu M92_ 131 (Int32.toNatClampNeg (M92_.1 124 0)) (vp_nar .boolean 0)) rfl ⟨trivial, rfl, trivial, rfl, trivial, ⟨rfl, (zr_in (n := 7) b97_ (by decide) (by decide))⟩, trivial⟩ (fun M98_ e99_ => ?_)
                        have o100_ : pvOk M98_ := pvok_u2 e99_ o94_ rfl (zboolr 0)
                        have f101_ : pvFr fp_X10_window_124_x_x_x_x_x M M98_ := pvfr_u e99_ f95_ rfl
                        refine pw_blk hT 2 (S' := (126, [some (pvR 124), some (pvI n1), some (pvI n2), some (pvI n3), some (pvI n4), some (pvI n5), some (pvI 0)], [], M98_)) rfl ⟨trivial, trivial, trivial⟩ ?_
                        have e102_ : (M98_.1 124 0) = (M92_.1 124 0) := (pvu_n e99_ 124 0 (Or.inl (by decide)))
                        have b103_ : 0 ≤ Int32.toInt (M98_.1 124 0) ∧ Int32.toInt (M98_.1 124 0) ≤ 6 := (by rw [e102_]; exact b97_)
                        have hlz203_ : ∀ (nz203_ : Nat) (i6z203_ : Int32) (Mz203_ : pvM), (pvOk Mz203_) → (pvFr fp_X10_window_124_x_x_x_x_x M Mz203_) → (Mz203_.1 124 0 = M98_.1 124 0) → (0 ≤ Int32.toInt i6z203_ ∧ Int32.toInt i6z203_ ≤ 4) → ((5 - Int32.toInt i6z203_).toNat < nz203_) → PW 97 d (126, [some (pvR 124), some (pvI n1), some (pvI n2), some (pvI n3), some (pvI n4), some (pvI n5), some (pvI i6z203_)], [], Mz203_) (fun r X => (∃ x : Int32, r = some (pvI x) ∧ (-4) ≤ Int32.toInt x ∧ Int32.toInt x ≤ 6) ∧ pvOk X ∧ pvFr fp_X10_window_124_x_x_x_x_x M X) := by
                          intro nz203_
                          induction nz203_ with
                          | zero => intro i6z203_ Mz203_ oz203_ fz203_ k124_0z203_ h6z203_ hmz203_; exact absurd hmz203_ (Nat.not_lt_zero _)
                          | succ nz203_ ihz203_ =>
                            intro i6z203_ Mz203_ oz203_ fz203_ k124_0z203_ h6z203_ hmz203_
                            refine pw_blk hT 2 (S' := (129, [some (pvR 124), some (pvI n1), some (pvI n2), some (pvI n3), some (pvI n4), some (pvI n5), some (pvI i6z203_)], [pvI 4, pvI i6z203_], Mz203_)) rfl ⟨trivial, trivial, trivial⟩ ?_
                            refine pw_ic hT (c := 4 ≤ i6z203_) rfl rfl (fun c204_ => ?_) (fun c204_ => ?_)
                            · have b205_ : 4 ≤ Int32.toInt i6z203_ ∧ Int32.toInt i6z203_ ≤ 4 := zr_le_r 4 c204_ h6z203_ (show 4 ≤ Int32.toInt 4 ∧ Int32.toInt 4 ≤ 4 from (by decide)) (by decide)
                              have e206_ : (Mz203_.1 124 0) = (M98_.1 124 0) := (k124_0z203_)
                              have b207_ : 0 ≤ Int32.toInt (Mz203_.1 124 0) ∧ Int32.toInt (Mz203_.1 124 0) ≤ 6 := (by rw [e206_]; exact b103_)
                              obtain ⟨q209_, b208_⟩ : (Int32.toInt ((Mz203_.1 124 0) + 1) = Int32.toInt (Mz203_.1 124 0) + Int32.toInt 1) ∧ (1 ≤ Int32.toInt ((Mz203_.1 124 0) + 1) ∧ Int32.toInt ((Mz203_.1 124 0) + 1) ≤ 7) := zadd_r (Mz203_.1 124 0) 1 1 7 b207_ (show 1 ≤ Int32.toInt 1 ∧ Int32.toInt 1 ≤ 1 from (by decide)) (by decide) (by decide) (by decide) (by decide)
                              have u210_ : Int32.toInt 1 = 1 := by decide
                              refine pw_blkw hT 6 (pc := 163) (lo := [some (pvR 124), some (pvI n1), some (pvI n2), some (pvI n3), some (pvI n4), some (pvI n5), some (pvI i6z203_)]) (st := []) (M := pvu Mz203_ 124 0 ((Mz203_.1 124 0) + 1)) rfl ⟨trivial, trivial, rfl, trivial, trivial, rfl, trivial⟩ (fun M211_ e212_ => ?_)
                              have o213_ : pvOk M211_ := pvok_u2 e212_ oz203_ rfl (zr_wide b208_ (by decide) (by decide))
                              have f214_ : pvFr fp_X10_window_124_x_x_x_x_x M M211_ := pvfr_u e212_ fz203_ rfl
                              have e215_ : (M211_.1 124 0) = ((Mz203_.1 124 0) + 1) := (pvu_s e212_)
                              have b216_ : 1 ≤ Int32.toInt (M211_.1 124 0) ∧ Int32.toInt (M211_.1 124 0) ≤ 7 := (by rw [e215_]; exact b208_)
                              obtain ⟨q218_, b217_⟩ : (Int32.toInt ((M211_.1 124 0) - 1) = Int32.toInt (M211_.1 124 0) - Int32.toInt 1) ∧ (0 ≤ Int32.toInt ((M211_.1 124 0) - 1) ∧ Int32.toInt ((M211_.1 124 0) - 1) ≤ 6) := zsub_r (M211_.1 124 0) 1 0 6 b216_ (show 1 ≤ Int32.toInt 1 ∧ Int32.toInt 1 ≤ 1 from (by decide)) (by decide) (by decide) (by decide) (by decide)
                              refine pw_blk hT 4 (S' := (169, [some (pvR 124), some (pvI n1), some (pvI n2), some (pvI n3), some (pvI n4), some (pvI n5), some (pvI i6z203_)], [pvI ((M211_.1 124 0) - 1)], M211_)) rfl ⟨trivial, rfl, trivial, trivial, trivial⟩ ?_
                              exact pw_ret hT rfl (r := some (pvI ((M211_.1 124 0) - 1))) (M' := M211_) ⟨rfl, rfl⟩ ⟨⟨_, rfl, (zr_wide b217_ (by decide) (by decide))⟩, o213_, f214_⟩
                            · have b219_ : 0 ≤ Int32.toInt i6z203_ ∧ Int32.toInt i6z203_ ≤ 3 := zr_nle_r 3 c204_ h6z203_ (show 4 ≤ Int32.toInt 4 ∧ Int32.toInt 4 ≤ 4 from (by decide)) (by decide)
                              have e220_ : (Mz203_.1 124 0) = (M98_.1 124 0) := (k124_0z203_)
                              have b221_ : 0 ≤ Int32.toInt (Mz203_.1 124 0) ∧ Int32.toInt (Mz203_.1 124 0) ≤ 6 := (by rw [e220_]; exact b103_)
                              have q222_ : Int32.toInt (4 * (Mz203_.1 124 0)) = 4 * Int32.toInt (Mz203_.1 124 0) := by have u0 : Int32.toInt 4 = 4 := (by decide); have u1 := b221_; have u2 := zmul 4 (Mz203_.1 124 0) (by rw [u0]; omega) (by rw [u0]; omega); rw [u0] at u2; omega
                              have b223_ : 0 ≤ Int32.toInt (4 * (Mz203_.1 124 0)) ∧ Int32.toInt (4 * (Mz203_.1 124 0)) ≤ 24 := (by have u1 := b221_; omega)
                              obtain ⟨q225_, b224_⟩ : (Int32.toInt ((4 * (Mz203_.1 124 0)) + i6z203_) = Int32.toInt (4 * (Mz203_.1 124 0)) + Int32.toInt i6z203_) ∧ (0 ≤ Int32.toInt ((4 * (Mz203_.1 124 0)) + i6z203_) ∧ Int32.toInt ((4 * (Mz203_.1 124 0)) + i6z203_) ≤ 27) := zadd_r (4 * (Mz203_.1 124 0)) i6z203_ 0 27 b223_ b219_ (by decide) (by decide) (by decide) (by decide)
                              refine pw_blkw hT 10 (pc := 147) (lo := [some (pvR 124), some (pvI n1), some (pvI n2), some (pvI n3), some (pvI n4), some (pvI n5), some (pvI i6z203_)]) (st := []) (M := pvu Mz203_ 130 (Int32.toNatClampNeg ((4 * (Mz203_.1 124 0)) + i6z203_)) 0) rfl ⟨trivial, rfl, trivial, trivial, rfl, trivial, trivial, trivial, trivial, ⟨rfl, (zr_in (n := 28) b224_ (by decide) (by decide))⟩, trivial⟩ (fun M226_ e227_ => ?_)
                              have o228_ : pvOk M226_ := pvok_u2 e227_ oz203_ rfl (zr_wide (show 0 ≤ Int32.toInt 0 ∧ Int32.toInt 0 ≤ 0 from (by decide)) (by decide) (by decide))
                              have f229_ : pvFr fp_X10_window_124_x_x_x_x_x M M226_ := pvfr_u e227_ fz203_ rfl
                              obtain ⟨q231_, b230_⟩ : (Int32.toInt (i6z203_ + 1) = Int32.toInt i6z203_ + Int32.toInt 1) ∧ (1 ≤ Int32.toInt (i6z203_ + 1) ∧ Int32.toInt (i6z203_ + 1) ≤ 4) := zadd_r i6z203_ 1 1 4 b219_ (show 1 ≤ Int32.toInt 1 ∧ Int32.toInt 1 ≤ 1 from (by decide)) (by decide) (by decide) (by decide) (by decide)
                              have u232_ : Int32.toInt 1 = 1 := by decide
                              refine pw_blk hT 2 (S' := (126, [some (pvR 124), some (pvI n1), some (pvI n2), some (pvI n3), some (pvI n4), some (pvI n5), some (pvI (i6z203_ + 1))], [], M226_)) rfl ⟨trivial, trivial, trivial⟩ ?_
                              exact ihz203_ (i6z203_ + 1) M226_ o228_ f229_ ((pvu_n e227_ 124 0 (Or.inl (by decide))).trans (k124_0z203_)) (zr_wide b230_ (by decide) (by decide)) (by omega)
                        exact hlz203_ _ 0 M98_ o100_ f101_ rfl (zr_wide (show 0 ≤ Int32.toInt 0 ∧ Int32.toInt 0 ≤ 0 from (by decide)) (by decide) (by decide)) (Nat.lt_succ_self _)
                      · have b233_ : 7 ≤ Int32.toInt (M.1 124 0) ∧ Int32.toInt (M.1 124 0) ≤ 7 := (by have u0 := b65_; have u1 := (zi_eq _ _).mp c66_; have u2 := (show 7 ≤ Int32.toInt 7 ∧ Int32.toInt 7 ≤ 7 from (by decide)); omega)
                        refine pw_blk hT 1 (S' := (60, [some (pvR 124), some (pvI n1), some (pvI n2), some (pvI n3), some (pvI n4), some (pvI n5), none], [pvI (-4)], M)) rfl ⟨trivial, trivial⟩ ?_
                        exact pw_ret hT rfl (r := some (pvI (-4))) (M' := M) ⟨rfl, rfl⟩ ⟨⟨_, rfl, (zr_wide (show (-4) ≤ Int32.toInt (-4) ∧ Int32.toInt (-4) ≤ (-4) from (by decide)) (by decide) (by decide))⟩, hok, pvfr_0⟩
def fpL_X10_worth_124_x : List (Nat × Nat × Nat) := [(0, 124, 33), (0, 131, 0), (0, 141, 0), (0, 142, 0), (0, 143, 0)]
def fp_X10_worth_124_x (q k : Nat) : Bool := pvfp fpL_X10_worth_124_x q k
theorem fp_X10_worth_124_x_fp_X10_costOfNone_124 (a b : Nat) (h : fp_X10_costOfNone_124 a b = true) : fp_X10_worth_124_x a b = true := pvfp_sub (l1 := fpL_X10_costOfNone_124) (l2 := fpL_X10_worth_124_x) (by decide) a b h
theorem fp_X10_worth_124_x_fp_X10_layRain_124 (a b : Nat) (h : fp_X10_layRain_124 a b = true) : fp_X10_worth_124_x a b = true := pvfp_sub (l1 := fpL_X10_layRain_124) (l2 := fpL_X10_worth_124_x) (by decide) a b h
set_option maxHeartbeats 4000000 in
set_option maxRecDepth 10000 in
theorem sf_X10_worth_124_x (M : pvM) (hok : pvOk M) (n1 : Int32) (d : Nat) : PW 101 d (0, [some (pvR 124), some (pvI n1), none, none], [], M) (fun r X => (∃ x : Int32, r = some (pvI x) ∧ (-9000000) ≤ Int32.toInt x ∧ Int32.toInt x ≤ 9000000) ∧ pvOk X ∧ pvFr fp_X10_worth_124_x M X) := by
  have hT : pvdom 101 = pvD_101 := rfl
  refine pw_blk hT 2 (S' := (2, [some (pvR 124), some (pvI n1), none, none], [pvI n1, pvR 124], M)) rfl ⟨trivial, trivial, trivial⟩ ?_
  refine pw_callT hT (as := [pvR 124, pvI n1]) (lo1 := [some (pvR 124), some (pvI n1)]) (d1 := d) (rest := []) rfl rfl rfl rfl rfl (fun _ => rfl) (Nat.zero_le _) rfl rfl rfl (sf_X10_isWindow_124_x M hok n1 d) ?_
  by_cases c6_ : n1 < 0
  · refine pw_eqI (if_pos c6_) ?_
    have b7_ : (-2147483648) ≤ Int32.toInt n1 ∧ Int32.toInt n1 ≤ (-1) := zr_lt_l (-1) c6_ (zbnd n1) (show 0 ≤ Int32.toInt 0 ∧ Int32.toInt 0 ≤ 0 from (by decide)) (by decide)
    show PW 101 d (5, [some (pvR 124), some (pvI n1), none, none], [pvI 0], M) _
    refine pw_ifn hT (c := 0 = 0) rfl rfl (fun c8_ => absurd (by decide) c8_) (fun c8_ => ?_)
    refine pw_blk hT 1 (S' := (9, [some (pvR 124), some (pvI n1), none, none], [pvI (-1)], M)) rfl ⟨trivial, trivial⟩ ?_
    exact pw_ret hT rfl (r := some (pvI (-1))) (M' := M) ⟨rfl, rfl⟩ ⟨⟨_, rfl, (zr_wide (show (-1) ≤ Int32.toInt (-1) ∧ Int32.toInt (-1) ≤ (-1) from (by decide)) (by decide) (by decide))⟩, hok, pvfr_0⟩
  · refine pw_eqI (if_neg c6_) ?_
    have b9_ : 0 ≤ Int32.toInt n1 ∧ Int32.toInt n1 ≤ 2147483647 := zr_nlt_l 0 c6_ (zbnd n1) (show 0 ≤ Int32.toInt 0 ∧ Int32.toInt 0 ≤ 0 from (by decide)) (by decide)
    have b10_ : 0 ≤ Int32.toInt (M.1 124 0) ∧ Int32.toInt (M.1 124 0) ≤ 7 := pvok_r hok 124 0 rfl
    obtain ⟨q12_, b11_⟩ : (Int32.toInt ((M.1 124 0) - 1) = Int32.toInt (M.1 124 0) - Int32.toInt 1) ∧ ((-1) ≤ Int32.toInt ((M.1 124 0) - 1) ∧ Int32.toInt ((M.1 124 0) - 1) ≤ 6) := zsub_r (M.1 124 0) 1 (-1) 6 b10_ (show 1 ≤ Int32.toInt 1 ∧ Int32.toInt 1 ≤ 1 from (by decide)) (by decide) (by decide) (by decide) (by decide)
    have u13_ : Int32.toInt 1 = 1 := by decide
    by_cases c14_ : ((M.1 124 0) - 1) < n1
    · refine pw_eqI (if_pos c14_) ?_
      have d15_ : Int32.toInt ((M.1 124 0) - 1) < Int32.toInt n1 := (zi_lt _ _).mp c14_
      show PW 101 d (5, [some (pvR 124), some (pvI n1), none, none], [pvI 0], M) _
      refine pw_ifn hT (c := 0 = 0) rfl rfl (fun c16_ => absurd (by decide) c16_) (fun c16_ => ?_)
      refine pw_blk hT 1 (S' := (9, [some (pvR 124), some (pvI n1), none, none], [pvI (-1)], M)) rfl ⟨trivial, trivial⟩ ?_
      exact pw_ret hT rfl (r := some (pvI (-1))) (M' := M) ⟨rfl, rfl⟩ ⟨⟨_, rfl, (zr_wide (show (-1) ≤ Int32.toInt (-1) ∧ Int32.toInt (-1) ≤ (-1) from (by decide)) (by decide) (by decide))⟩, hok, pvfr_0⟩
    · refine pw_eqI (if_neg c14_) ?_
      have b17_ : 0 ≤ Int32.toInt ((M.1 124 0) - 1) ∧ Int32.toInt ((M.1 124 0) - 1) ≤ 6 := zr_nlt_l 0 c14_ b11_ b9_ (by decide)
      have b18_ : 0 ≤ Int32.toInt n1 ∧ Int32.toInt n1 ≤ 6 := zr_nlt_r 6 c14_ b9_ b17_ (by decide)
      have d19_ : Int32.toInt ((M.1 124 0) - 1) ≥ Int32.toInt n1 := Int.not_lt.mp ((not_congr (zi_lt _ _)).mp c14_)
      show PW 101 d (5, [some (pvR 124), some (pvI n1), none, none], [pvI 1], M) _
      refine pw_ifn hT (c := 1 = 0) rfl rfl (fun c20_ => ?_) (fun c20_ => absurd c20_ (by decide))
      refine pw_blk hT 1 (S' := (11, [some (pvR 124), some (pvI n1), none, none], [pvR 124], M)) rfl ⟨trivial, trivial⟩ ?_
      refine pw_callV hT (as := [pvR 124]) (lo1 := [some (pvR 124), none, none]) (d1 := d) (rest := []) rfl rfl rfl rfl rfl (fun _ => rfl) (Nat.zero_le _) rfl rfl rfl (sf_X10_layRain_124 M hok d) (fun M22_ o24_ g25_ => ?_)
      have f26_ : pvFr fp_X10_worth_124_x M M22_ := pvfr_t g25_ pvfr_0 fp_X10_worth_124_x_fp_X10_layRain_124
      refine pw_blk hT 1 (S' := (15, [some (pvR 124), some (pvI n1), none, none], [pvR 124], M22_)) rfl ⟨trivial, trivial⟩ ?_
      refine pw_callG hT (as := [pvR 124]) (lo1 := [some (pvR 124)]) (d1 := d) (rest := []) rfl rfl rfl rfl rfl (fun _ => rfl) (Nat.zero_le _) rfl rfl rfl (sf_X10_costOfNone_124 M22_ o24_ d) (fun x27_ M28_ b29_ o30_ g31_ => ?_)
      have f32_ : pvFr fp_X10_worth_124_x M M28_ := pvfr_t g31_ f26_ fp_X10_worth_124_x_fp_X10_costOfNone_124
      have b33_ : 0 ≤ Int32.toInt (M28_.1 131 (Int32.toNatClampNeg n1)) ∧ Int32.toInt (M28_.1 131 (Int32.toNatClampNeg n1)) ≤ 1 := pvok_r o30_ 131 (Int32.toNatClampNeg n1) rfl
      refine pw_blkw hT 11 (pc := 33) (lo := [some (pvR 124), some (pvI n1), some (pvI x27_), some (pvI (M28_.1 131 (Int32.toNatClampNeg n1)))]) (st := []) (M := pvu M28_ 131 (Int32.toNatClampNeg n1) (vp_nar .boolean 1)) rfl ⟨trivial, trivial, rfl, trivial, ⟨rfl, (zr_in (n := 7) b18_ (by decide) (by decide))⟩, trivial, trivial, rfl, trivial, trivial, ⟨rfl, (zr_in (n := 7) b18_ (by decide) (by decide))⟩, trivial⟩ (fun M34_ e35_ => ?_)
      have o36_ : pvOk M34_ := pvok_u2 e35_ o30_ rfl (zboolr 1)
      have f37_ : pvFr fp_X10_worth_124_x M M34_ := pvfr_u e35_ f32_ rfl
      refine pw_blk hT 2 (S' := (35, [some (pvR 124), some (pvI n1), some (pvI x27_), some (pvI (M28_.1 131 (Int32.toNatClampNeg n1)))], [pvR 124, pvI x27_], M34_)) rfl ⟨trivial, trivial, trivial⟩ ?_
      refine pw_callG hT (as := [pvR 124]) (lo1 := [some (pvR 124)]) (d1 := d) (rest := [pvI x27_]) rfl rfl rfl rfl rfl (fun _ => rfl) (Nat.zero_le _) rfl rfl rfl (sf_X10_costOfNone_124 M34_ o36_ d) (fun x38_ M39_ b40_ o41_ g42_ => ?_)
      have f43_ : pvFr fp_X10_worth_124_x M M39_ := pvfr_t g42_ f37_ fp_X10_worth_124_x_fp_X10_costOfNone_124
      obtain ⟨q45_, b44_⟩ : (Int32.toInt (x27_ - x38_) = Int32.toInt x27_ - Int32.toInt x38_) ∧ ((-9000000) ≤ Int32.toInt (x27_ - x38_) ∧ Int32.toInt (x27_ - x38_) ≤ 9000000) := zsub_r x27_ x38_ (-9000000) 9000000 b29_ b40_ (by decide) (by decide) (by decide) (by decide)
      refine pw_blkw hT 7 (pc := 47) (lo := [some (pvR 124), some (pvI n1), some (pvI (x27_ - x38_)), some (pvI (M28_.1 131 (Int32.toNatClampNeg n1)))]) (st := []) (M := pvu M39_ 131 (Int32.toNatClampNeg n1) (vp_nar .boolean (M28_.1 131 (Int32.toNatClampNeg n1)))) rfl ⟨trivial, trivial, trivial, rfl, trivial, trivial, ⟨rfl, (zr_in (n := 7) b18_ (by decide) (by decide))⟩, trivial⟩ (fun M46_ e47_ => ?_)
      have o48_ : pvOk M46_ := pvok_u2 e47_ o41_ rfl (zboolr (M28_.1 131 (Int32.toNatClampNeg n1)))
      have f49_ : pvFr fp_X10_worth_124_x M M46_ := pvfr_u e47_ f43_ rfl
      refine pw_blk hT 1 (S' := (48, [some (pvR 124), some (pvI n1), some (pvI (x27_ - x38_)), some (pvI (M28_.1 131 (Int32.toNatClampNeg n1)))], [pvI (x27_ - x38_)], M46_)) rfl ⟨trivial, trivial⟩ ?_
      exact pw_ret hT rfl (r := some (pvI (x27_ - x38_))) (M' := M46_) ⟨rfl, rfl⟩ ⟨⟨_, rfl, b44_⟩, o48_, f49_⟩
